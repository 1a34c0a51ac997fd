/-! free subcubes: all nodes live, none of more dimensions is free -/
theorem fb_sm_one {f : Nat → Nat} {i : Nat} : ∀ {n : Nat}, i < n → (∀ k, k < n → k ≠ i → f k = 0) → fb_sm f n = f i
  | 0, h, _ => absurd h (Nat.not_lt_zero i)
  | n + 1, h, hz => by
    rw [fb_sm_succ]
    by_cases e : i = n
    · subst e
      have : fb_sm f i = 0 := by
        have := fb_sm_cong (f := f) (g := fun _ => 0) (n := i) (fun k hk => hz k (by omega) (by omega))
        rw [this, fb_sm_const, Nat.mul_zero]
      omega
    · rw [fb_sm_one (by omega) (fun k hk hn => hz k (by omega) hn), hz n (by omega) (fun q => e q.symm)]
      omega
theorem fb_sm_0 {f : Nat → Nat} {n : Nat} (h : ∀ k, k < n → f k = 0) : fb_sm f n = 0 := by
  have := fb_sm_cong (f := f) (g := fun _ => 0) (n := n) h
  rw [this, fb_sm_const, Nat.mul_zero]
theorem pc_full : ∀ d, d < 7 → ∀ m, m < 2 ^ d → (pc m = d ↔ m = 2 ^ d - 1) := by decide +kernel
theorem pc_led : ∀ d, d < 7 → ∀ m, m < 2 ^ d → pc m ≤ d := by decide +kernel
theorem full_bit : ∀ d, d < 7 → ∀ i, i < 6 → (2 ^ d - 1).testBit i = decide (i < d) := by decide +kernel
section
variable {d : Nat} {a : Int64}
theorem fbs_0 (hd : d ≤ 6) {v : Nat} (hv : v < 64) : zt (fbs a 0 d) v = zt a v := by
  have h := fbs_FP a 0 d hd v hv
  have h2 : FP (zt a) 0 d v ↔ zt a v = true := by
    constructor
    · intro q; exact q.2 v hv (fun _ _ _ => rfl)
    · intro q
      refine ⟨fun i _ hi => (Bool.noConfusion ((Nat.zero_testBit i).symm.trans hi) : v.testBit i = false), fun u hu hb => ?_⟩
      have : u = v := bit6_ext hu hv (fun i hi => hb i hi (fun z => Bool.noConfusion ((Nat.zero_testBit i).symm.trans z.2)))
      rw [this]; exact q
  cases e : zt a v with
  | true => exact h.mpr (h2.mpr e)
  | false =>
    cases e2 : zt (fbs a 0 d) v with
    | false => rfl
    | true => have := h2.mp (h.mp e2); rw [e] at this; cases this
theorem fsn_0 (hd : d ≤ 6) : fsn a d 0 (2 ^ d) = fb_ct (zt a) (2 ^ d) := by
  have h6 := p2_le hd
  have hp := p2_pos d
  have h := fb_sm_one (f := fun m => if pc m = 0 then fb_ct (zt (fbs a m d)) (2 ^ d) else 0) (i := 0) (n := 2 ^ d) hp (fun k hk hn => if_neg (fun z => hn ((pc_0 k (by omega)).mp z)))
  refine h.trans ((if_pos (by decide)).trans ?_)
  exact fb_ct_cong (fun v hv => fbs_0 hd (by omega))
theorem fbs_full (hd : d ≤ 6) {v : Nat} (hv : v < 2 ^ d) : zt (fbs a (2 ^ d - 1) d) v = true ↔ v = 0 ∧ ∀ u, u < 2 ^ d → zt a u = true := by
  have h6 := p2_le hd
  rw [fbs_FP a _ d hd v (by omega)]
  constructor
  · intro ⟨q1, q2⟩
    have h0 : v = 0 := bit6_ext (by omega) (by omega) (fun i hi => by
      rw [Nat.zero_testBit]
      rcases Nat.lt_or_ge i d with z | z
      · exact q1 i z (by rw [full_bit d (by omega) i hi, decide_eq_true z])
      · exact Nat.testBit_lt_two_pow (Nat.lt_of_lt_of_le hv (Nat.pow_le_pow_right (by decide) z)))
    refine ⟨h0, fun u hu => q2 u (by omega) (fun i hi hn => ?_)⟩
    have hid : d ≤ i := by
      rcases Nat.lt_or_ge i d with z | z
      · exact absurd ⟨z, by rw [full_bit d (by omega) i hi, decide_eq_true z]⟩ hn
      · exact z
    rw [h0, Nat.zero_testBit]
    exact Nat.testBit_lt_two_pow (Nat.lt_of_lt_of_le hu (Nat.pow_le_pow_right (by decide) hid))
  · intro ⟨h0, hall⟩
    subst h0
    refine ⟨fun i _ _ => Nat.zero_testBit i, fun u hu hb => hall u ?_⟩
    rcases Nat.lt_or_ge u (2 ^ d) with z | z
    · exact z
    · obtain ⟨i, hi, hb2⟩ := Nat.exists_ge_and_testBit_of_ge_two_pow z
      have hi6 : i < 6 := by
        rcases Nat.lt_or_ge i 6 with y | y
        · exact y
        · have : u.testBit i = false := Nat.testBit_lt_two_pow (Nat.lt_of_lt_of_le hu (Nat.pow_le_pow_right (n := 2) (i := 6) (by decide) y))
          rw [this] at hb2; cases hb2
      have := hb i hi6 (fun q => by have := q.1; omega)
      rw [hb2, Nat.zero_testBit] at this
      cases this
theorem fsn_d (hd1 : 1 ≤ d) (hd : d ≤ 6) : fsn a d d (2 ^ d) = if fb_ct (zt a) (2 ^ d) = 2 ^ d then 1 else 0 := by
  have h6 := p2_le hd
  have hp := p2_pos d
  have h := fb_sm_one (f := fun m => if pc m = d then fb_ct (zt (fbs a m d)) (2 ^ d) else 0) (i := 2 ^ d - 1) (n := 2 ^ d) (by omega) (fun k hk hn => if_neg (fun z => hn ((pc_full d (by omega) k hk).mp z)))
  refine h.trans ((if_pos ((pc_full d (by omega) _ (by omega)).mpr rfl)).trans ?_)
  by_cases q : fb_ct (zt a) (2 ^ d) = 2 ^ d
  · rw [if_pos q]
    have hall := fb_ct_all.mp q
    have hc := fb_ct_upd (fun _ => false) true (i := 0) (n := 2 ^ d) hp
    have h0 : fb_ct (fun _ => false) (2 ^ d) = 0 := fb_ct_zero.mpr (fun _ _ => rfl)
    rw [h0] at hc
    have e : fb_ct (zt (fbs a (2 ^ d - 1) d)) (2 ^ d) = fb_ct (fun k => if k = 0 then true else false) (2 ^ d) := fb_ct_cong (fun v hv => by
      by_cases e0 : v = 0
      · rw [if_pos e0]; exact (fbs_full hd hv).mpr ⟨e0, hall⟩
      · rw [if_neg e0]
        cases z : zt (fbs a (2 ^ d - 1) d) v with
        | false => rfl
        | true => exact absurd ((fbs_full hd hv).mp z).1 e0)
    rw [e]
    simpa using hc
  · rw [if_neg q]
    refine fb_ct_zero.mpr (fun v hv => ?_)
    cases z : zt (fbs a (2 ^ d - 1) d) v with
    | false => rfl
    | true => exact absurd (fb_ct_all.mpr ((fbs_full hd hv).mp z).2) q
/-- what is found among the first n masks -/
def LGI (a : Int64) (d n : Nat) (x : Int32 × Nat) : Prop := (x = (-1, 0) ∧ ∀ m, m < n → ¬ fbb a d m < 2 ^ d) ∨ ∃ m, m < n ∧ fbb a d m < 2 ^ d ∧ x = (nI (64 * m + fbb a d m), pc m + 1) ∧ ∀ k, k < n → fbb a d k < 2 ^ d → pc k ≤ pc m
theorem lgs_I : ∀ n, LGI a d n (lgs a d n)
  | 0 => Or.inl ⟨rfl, fun m hm => absurd hm (Nat.not_lt_zero m)⟩
  | n + 1 => by
    have ih := lgs_I n
    rw [lgs]
    by_cases q : fbb a d n < 2 ^ d ∧ (lgs a d n).2 < pc n + 1
    · rw [if_pos q]
      refine Or.inr ⟨n, Nat.lt_succ_self _, q.1, rfl, fun k hk hb => ?_⟩
      rcases Nat.lt_or_ge k n with z | z
      · rcases ih with ⟨-, h2⟩ | ⟨m, hm, hb2, e, h2⟩
        · exact absurd hb (h2 k z)
        · have := h2 k z hb
          have h3 := q.2
          rw [e] at h3
          have h4 : pc m + 1 < pc n + 1 := h3
          omega
      · rw [show k = n by omega]
        exact Nat.le_refl _
    · rw [if_neg q]
      rcases ih with ⟨h1, h2⟩ | ⟨m, hm, hb2, e, h2⟩
      · refine Or.inl ⟨h1, fun m hm hb => ?_⟩
        rcases Nat.lt_or_ge m n with z | z
        · exact h2 m z hb
        · have hmn : m = n := by omega
          subst hmn
          rw [h1] at q
          exact q ⟨hb, Nat.succ_pos _⟩
      · refine Or.inr ⟨m, by omega, hb2, e, fun k hk hb => ?_⟩
        rcases Nat.lt_or_ge k n with z | z
        · exact h2 k z hb
        · have hkn : k = n := by omega
          subst hkn
          rcases Nat.lt_or_ge (pc m) (pc k) with y | y
          · exact absurd ⟨hb, by rw [e]; show pc m + 1 < pc k + 1; omega⟩ q
          · exact y
theorem fbb_zt (m : Nat) (h : fbb a d m < 2 ^ d) : zt (fbs a m d) (fbb a d m) = true := (zfst_spec (fun v => zt (fbs a m d) v) (2 ^ d)).2.2 h
theorem fbb_no (m : Nat) (h : ¬ fbb a d m < 2 ^ d) : fb_ct (zt (fbs a m d)) (2 ^ d) = 0 := by
  have hs := zfst_spec (fun v => zt (fbs a m d) v) (2 ^ d)
  refine fb_ct_zero.mpr (fun v hv => ?_)
  have e : zfst (fun v => zt (fbs a m d) v) (2 ^ d) = 2 ^ d := Nat.le_antisymm hs.1 (Nat.not_lt.mp h)
  exact hs.2.1 v (by rw [e]; exact hv)
end
theorem mb_dec : ∀ m, m < 32 → ∀ b, b < 32 → (nI (64 * m + b)) >>> ((6 : Int32) &&& 31) = nI m ∧ (nI (64 * m + b)) &&& (63 : Int32) = nI b := by decide +kernel
section
variable {d n : Nat} {cu : CU}
theorem p_areSubcubes (h : CORE d n cu) (h5 : d ≤ 5) : f_L_areSubcubes (nI d) cu = some 1 := by
  obtain ⟨h1, hd, hn, -, -, ha, -⟩ := id h
  have h32 := p2_32 h5
  have h0 : 0 < 2 ^ d := p2_pos d
  have hle := ct_le (zt cu.1.2.1) (2 ^ d)
  have hf0 := e_free h (k := 0) (by omega)
  rw [nI_0, fsn_0 hd] at hf0
  have hfd := e_free h (k := d) (Nat.le_refl _)
  rw [fsn_d h1 hd] at hfd
  unfold f_L_areSubcubes
  refine (zob_eq (p_alive h h5)).trans ((zob_eq (e_large h)).trans ((zob_eq hf0).trans (zjp_eq.trans (zjp_eq.trans ((if_pos rfl).trans ((zob_eq hfd).trans ?_))))))
  rw [p2_nI d (by omega)]
  have hI := lgs_I (a := cu.1.2.1) (d := d) (2 ^ d)
  -- the third of the first conditions
  have hthird : (lgs cu.1.2.1 d (2 ^ d)).1 = -1 ↔ fb_ct (zt cu.1.2.1) (2 ^ d) = 0 := by
    rcases hI with ⟨e, hz⟩ | ⟨m, hm, hb, e, hmax⟩
    · rw [e]
      refine ⟨fun _ => fb_ct_zero.mpr (fun v hv => ?_), fun _ => rfl⟩
      cases z : zt cu.1.2.1 v with
      | false => rfl
      | true =>
        have hno := fbb_no 0 (hz 0 h0)
        have := fb_ct_zero.mp hno v hv
        rw [fbs_0 hd (by omega), z] at this
        cases this
    · rw [e]
      refine ⟨fun q => absurd q (nI_ne_m1 (by omega)), fun q => ?_⟩
      have := fbs_al hd (by omega) (fbb_zt m hb)
      rw [fb_ct_zero.mp q _ hb] at this
      cases this
  have hK : ∀ (K : Int32 → Int32 → Option rt_L_areSubcubes) (x : Int32), zjp K (fun K => if nI (fb_ct (zt cu.1.2.1) (2 ^ d)) = nI (2 ^ d) then K x 1 else K x 0) = K x (nI (if fb_ct (zt cu.1.2.1) (2 ^ d) = 2 ^ d then 1 else 0)) := fun K x => by
    by_cases q : fb_ct (zt cu.1.2.1) (2 ^ d) = 2 ^ d
    · rw [zjp_eq, if_pos (by rw [q]), if_pos q]; rfl
    · rw [zjp_eq, if_neg (fun z => q (nI_inj (by omega) (by omega) z)), if_neg q]; rfl
  refine (hK _ _).trans ((if_pos rfl).trans ?_)
  have hK2 : ∀ (K : Int32 → Option rt_L_areSubcubes), zjp K (fun K => if (lgs cu.1.2.1 d (2 ^ d)).1 = -1 then K 1 else K 0) = K (if fb_ct (zt cu.1.2.1) (2 ^ d) = 0 then 1 else 0) := fun K => by
    by_cases q : fb_ct (zt cu.1.2.1) (2 ^ d) = 0
    · rw [zjp_eq, if_pos (hthird.mpr q), if_pos q]
    · rw [zjp_eq, if_neg (fun z => q (hthird.mp z)), if_neg q]
  refine (hK2 _).trans ?_
  have hK3 : ∀ (K : Int32 → Int32 → Option rt_L_areSubcubes) (x : Int32), zjp K (fun K => if nI (fb_ct (zt cu.1.2.1) (2 ^ d)) = 0 then K x 1 else K x 0) = K x (if fb_ct (zt cu.1.2.1) (2 ^ d) = 0 then 1 else 0) := fun K x => by
    by_cases q : fb_ct (zt cu.1.2.1) (2 ^ d) = 0
    · rw [zjp_eq, if_pos (by rw [q]; rfl), if_pos q]
    · rw [zjp_eq, if_neg (nI_ne0 (by omega) (by omega)), if_neg q]
  refine (hK3 _ _).trans ((if_pos rfl).trans ((if_neg (by decide)).trans ?_))
  rcases hI with ⟨e, hz⟩ | ⟨m, hm, hb, e, hmax⟩
  · rw [e]
    exact (if_neg (by decide)).trans (zgd_eq rfl)
  · have hFP := (fbs_FP cu.1.2.1 m d hd _ (show fbb cu.1.2.1 d m < 64 by omega)).mp (fbb_zt m hb)
    obtain ⟨d1, d2⟩ := mb_dec m (by omega) (fbb cu.1.2.1 d m) (by omega)
    have hand : m &&& fbb cu.1.2.1 d m = 0 := Nat.eq_of_testBit_eq (fun i => by
      rw [Nat.testBit_and, Nat.zero_testBit]
      cases z : m.testBit i with
      | false => rfl
      | true =>
        rcases Nat.lt_or_ge i d with y | y
        · rw [hFP.1 i y z]; rfl
        · rw [Nat.testBit_lt_two_pow (Nat.lt_of_lt_of_le hm (Nat.pow_le_pow_right (by decide) y))] at z; cases z)
    have hpd := pc_led d (by omega) m hm
    have hfm := e_free h hpd
    have hfpos : 0 < fsn cu.1.2.1 d (pc m) (2 ^ d) := by
      have h2 := fb_sm_part (fun k => if pc k = pc m then fb_ct (zt (fbs cu.1.2.1 k d)) (2 ^ d) else 0) hm
      simp only [if_pos] at h2
      have h3 : 0 < fb_ct (zt (fbs cu.1.2.1 m d)) (2 ^ d) := fb_ct_pos.mpr ⟨_, hb, fbb_zt m hb⟩
      unfold fsn
      omega
    have hfle := fsn_le (a := cu.1.2.1) (k := pc m) hd (show 2 ^ d ≤ 64 by omega)
    have hones := p_ones m (by omega)
    rw [e]
    refine (if_pos (nI_pos' (by omega))).trans (zbd_eq.trans (zbd_eq.trans (zjp_eq.trans (zjp_eq.trans ?_))))
    show (if nI (2 ^ d) ≤ (nI (64 * m + fbb cu.1.2.1 d m)) >>> ((6 : Int32) &&& 31) then _ else _) = some 1
    rw [d1, d2]
    refine (if_neg (nI_ge hm (by omega))).trans ((if_neg (nI_ge hb (by omega))).trans ((if_pos (by rw [nx_and, hand]; rfl)).trans ((zob_eq hones).trans ((zob_eq hfm).trans ((if_neg (nI_nle hfpos (by omega))).trans ((zob_eq hones).trans (zjp_eq.trans ?_)))))))
    have hloop : (zl2 (R := rt_L_areSubcubes) (fun k162 (i4_162 : Int32) (i7_162 : Int32) =>
if nI (2 ^ d) ≤ i7_162 then (
zgd (isb i4_162) (some i4_162)) else (
if (i4_162 : Int32) = 0 then (
zgd (isb i4_162) (some i4_162)) else (
zjp (T := Int32 → Option rt_L_areSubcubes) (fun (s0_202 : Int32) =>
zbd (A := Int32) (i7_162 + 1) (fun x6 =>
k162 s0_202 x6)) (fun K202 =>
zjp (T := Option rt_L_areSubcubes) (
K202 1) (fun K197 =>
if ((i7_162 &&& (nI m ^^^ ((-1) : Int32))) : Int32) = nI (fbb cu.1.2.1 d m) then (
zob (F_isAlive i7_162 cu) (fun u7 =>
if (u7 : Int32) = 1 then (
K197) else (
K202 0))) else (
K197)))))) 64 1 0) = some 1 := by
      refine zl2_itF (2 ^ d) (fun _ => 1) (fun j => nI j) (by omega) (fun K j hj => ?_) (fun K => (if_pos (nI_le (Nat.le_refl _) (by omega))).trans (zgd_eq rfl)) rfl nI_0
      refine (if_neg (nI_ge hj (by omega))).trans ((if_neg (by decide)).trans (zjp_eq.trans (zjp_eq.trans ?_)))
      have hend : zbd (A := Int32) (nI j + 1) (fun x6 => K 1 x6) = K 1 (nI (j + 1)) := by rw [nI_1]; rfl
      rw [off_nI j (by omega) m (by omega)]
      by_cases q : nI (j &&& (63 ^^^ m)) = nI (fbb cu.1.2.1 d m)
      · have q2 : j &&& (63 ^^^ m) = fbb cu.1.2.1 d m := nI_inj (Nat.lt_of_le_of_lt Nat.and_le_left (by omega)) (by omega) q
        have hal : zt cu.1.2.1 j = true := hFP.2 j (by omega) (fun i hi hno => by
          have hmi : m.testBit i = false := by
            cases z : m.testBit i with
            | false => rfl
            | true =>
              rcases Nat.lt_or_ge i d with y | y
              · exact absurd ⟨y, z⟩ hno
              · rw [Nat.testBit_lt_two_pow (Nat.lt_of_lt_of_le hm (Nat.pow_le_pow_right (by decide) y))] at z; cases z
          have := congrArg (fun x => x.testBit i) q2
          simp only [Nat.testBit_and, off_bit m (by omega) i hi, hmi, Bool.not_false, Bool.and_true] at this
          exact this)
        have hA := e_isAlive h hj
        rw [hal] at hA
        exact (if_pos q).trans ((zob_eq hA).trans ((if_pos rfl).trans hend))
      · exact (if_neg q).trans hend
    by_cases q : pc m = d
    · exact (if_pos (by rw [q])).trans hloop
    · have hz : fsn cu.1.2.1 d (pc m + 1) (2 ^ d) = 0 := fb_sm_0 (fun k hk => by
        by_cases y : pc k = pc m + 1
        · rw [if_pos y]
          refine fbb_no k (fun z => ?_)
          have := hmax k hk z
          omega
        · rw [if_neg y])
      have hfm2 := e_free h (k := pc m + 1) (by omega)
      rw [hz] at hfm2
      refine (if_neg (fun z => q (nI_inj (by omega) (by omega) z))).trans ((zob_eq hones).trans ?_)
      rw [nI_1]
      exact (zob_eq hfm2).trans ((if_pos rfl).trans hloop)
end
