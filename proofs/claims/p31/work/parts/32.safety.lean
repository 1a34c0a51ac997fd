/-! the class' Safety: levels, vectors, the best dimension -/
theorem zjp_eq {T R : Type} {K : T} {f : T → Option R} : zjp K f = f K := rfl
theorem zbd_eq {A R : Type} {e : A} {f : A → Option R} : zbd e f = f e := rfl
/-- f with its first n places out of g -/
def zp {α : Type} (f g : Nat → α) (n : Nat) : Nat → α := fun v => if v < n then g v else f v
theorem zp_0 {α : Type} (f g : Nat → α) : zp f g 0 = f := by
  funext v
  simp [zp]
theorem zp_in {α : Type} (f g : Nat → α) {n v : Nat} (h : v < n) : zp f g n v = g v := if_pos h
theorem zp_succ (f g : Nat → Int32) (n : Nat) : upd (zp f g n) n (g n) = zp f g (n + 1) := by
  funext v
  simp only [upd, zp]
  by_cases h : v = n
  · subst h; simp
  · by_cases h2 : v < n
    · simp [h, h2, show v < n + 1 by omega]
    · simp [h, h2, show ¬ v < n + 1 by omega]
theorem zp_skip (f g : Nat → Int32) (n : Nat) (h : g n = f n) : zp f g n = zp f g (n + 1) := by
  funext v
  simp only [zp]
  by_cases h3 : v = n
  · subst h3; simp [h]
  · by_cases h2 : v < n
    · simp [h2, show v < n + 1 by omega]
    · simp [h2, show ¬ v < n + 1 by omega]
/-- the least k below n with p k, or n -/
def zfst (p : Nat → Bool) : Nat → Nat
  | 0 => 0
  | n + 1 => if zfst p n < n then zfst p n else if p n then n else n + 1
theorem zfst_spec (p : Nat → Bool) : ∀ n, zfst p n ≤ n ∧ (∀ j, j < zfst p n → p j = false) ∧ (zfst p n < n → p (zfst p n) = true)
  | 0 => ⟨Nat.le_refl _, fun j h => absurd h (Nat.not_lt_zero j), fun h => absurd h (Nat.not_lt_zero _)⟩
  | n + 1 => by
    obtain ⟨h1, h2, h3⟩ := zfst_spec p n
    simp only [zfst]
    by_cases h : zfst p n < n
    · rw [if_pos h]; exact ⟨by omega, h2, fun _ => h3 h⟩
    · rw [if_neg h]
      have e : zfst p n = n := by omega
      rw [e] at h2
      cases hp : p n with
      | true => exact ⟨by simp, by simpa using h2, fun _ => by simpa using hp⟩
      | false =>
        refine ⟨by simp, fun j hj => ?_, fun h => by simp at h⟩
        simp at hj
        rcases Nat.lt_or_ge j n with q | q
        · exact h2 j q
        · rw [show j = n by omega]; exact hp
theorem zfst_le {p : Nat → Bool} {n k : Nat} (h : p k = true) (hk : k < n) : zfst p n ≤ k := by
  rcases Nat.lt_or_ge k (zfst p n) with q | q
  · rw [(zfst_spec p n).2.1 k q] at h; cases h
  · exact q
theorem zfst_eq {p : Nat → Bool} {n k : Nat} (hk : k ≤ n) (h1 : ∀ j, j < k → p j = false) (h2 : k < n → p k = true) : zfst p n = k := by
  obtain ⟨a, b, c⟩ := zfst_spec p n
  rcases Nat.lt_trichotomy (zfst p n) k with q | q | q
  · have := c (by omega); rw [h1 _ q] at this; cases this
  · exact q
  · have := h2 (by omega); rw [b k q] at this; cases this
/-- how many neighbours of v have less than k -/
def cnL (d : Nat) (L : Nat → Nat) (v k : Nat) : Nat := fb_ct (fun i => decide (L (v ^^^ 2 ^ i) < k)) d
def newL (d : Nat) (L : Nat → Nat) (v : Nat) : Nat := zfst (fun k => decide (k < cnL d L v k)) d
def stepL (d : Nat) (al : Nat → Bool) (L : Nat → Nat) (v : Nat) : Nat := if al v then newL d L v else L v
def lvl (d : Nat) (al : Nat → Bool) : Nat → Nat → Nat
  | 0 => fun v => if al v then d else 0
  | t + 1 => stepL d al (lvl d al t)
theorem nb_lt {d v k : Nat} (hd : d ≤ 6) (hv : v < 2 ^ d) (hk : k < d) : v ^^^ 2 ^ k < 2 ^ d := Nat.xor_lt_two_pow hv (Nat.pow_lt_pow_right (by decide) hk)
theorem nb_64 {v k : Nat} (hv : v < 64) (hk : k < 6) : v ^^^ 2 ^ k < 64 := Nat.xor_lt_two_pow (n := 6) hv (Nat.pow_lt_pow_right (by decide) hk)
theorem ct_le (p : Nat → Bool) (n : Nat) : fb_ct p n ≤ n := fb_ct_le p n
theorem s_levelOf {v : Nat} {f : Nat → Int32} {L : Nat → Nat} (hv : v < 64) (hf : ∀ w, w < 64 → f w = nI (L w)) : f_X2_levelOf (nI v) f = some (nI (L v)) := by
  refine (zob_eq (s_read f hv (by decide))).trans ?_
  rw [hf v hv]
theorem s_neighboursBelow {d v k : Nat} {f : Nat → Int32} {L : Nat → Nat} (hd : d ≤ 6) (hv : v < 64) (hk : k ≤ 6) (hf : ∀ w, w < 64 → f w = nI (L w)) (hL : ∀ w, w < 64 → L w ≤ 6) : f_X2_neighboursBelow (nI v) (nI k) (nI d) f = some (nI (cnL d L v k)) := by
  refine zl2_iter d (fun j => nI (fb_ct (fun i => decide (L (v ^^^ 2 ^ i) < k)) j)) (fun j => nI j) (by omega) (fun K j hj => ?_) (fun K => ?_) ?_ ?_
  · have hw := nb_64 (v := v) (k := j) hv (by omega)
    refine (if_neg (nI_ge hj (by omega))).trans ?_
    refine (zob_eq (s_neighbour v (by omega))).trans ?_
    refine (zob_eq (s_read f hw (by decide))).trans ?_
    refine zjp_eq.trans ?_
    rw [hf _ hw]
    by_cases h : k ≤ L (v ^^^ 2 ^ j)
    · refine (if_pos (nI_le h (by have := hL _ hw; omega))).trans ?_
      refine zbd_eq.trans ?_
      rw [nI_1, fb_ct_succ, if_neg (by simpa using h)]
      rfl
    · refine (if_neg (nI_ge (by omega) (by omega))).trans ?_
      refine zbd_eq.trans (zbd_eq.trans ?_)
      rw [nI_1, nI_1, fb_ct_succ, if_pos (by simpa using h)]
  · exact if_pos (nI_le (Nat.le_refl d) (by omega))
  · rfl
  · rfl
theorem s_levelAfterRound {d v : Nat} {f : Nat → Int32} {L : Nat → Nat} (hd : d ≤ 6) (hv : v < 64) (hf : ∀ w, w < 64 → f w = nI (L w)) (hL : ∀ w, w < 64 → L w ≤ 6) : f_X2_levelAfterRound (nI v) (nI d) f = some (nI (newL d L v)) := by
  obtain ⟨h1, h2, h3⟩ := zfst_spec (fun k => decide (k < cnL d L v k)) d
  have hc : ∀ k, cnL d L v k ≤ 6 := fun k => Nat.le_trans (ct_le _ d) hd
  refine zl1_iter (newL d L v) (fun j => nI j) (by show zfst _ d ≤ _; omega) (fun K j hj => ?_) (fun K => ?_) ?_
  · have hj2 : j < d := Nat.lt_of_lt_of_le hj h1
    have h4 := h2 j hj
    simp at h4
    refine (if_neg (nI_ge hj2 (by omega))).trans ?_
    refine (zob_eq (s_neighboursBelow hd hv (by omega) hf hL)).trans ?_
    refine (if_pos (nI_le h4 (by omega))).trans ?_
    refine zbd_eq.trans ?_
    rw [nI_1]
  · by_cases h : newL d L v < d
    · have h4 := h3 h
      simp at h4
      refine (if_neg (nI_ge h (by omega))).trans ?_
      refine (zob_eq (s_neighboursBelow hd hv (by omega) hf hL)).trans ?_
      exact if_neg (nI_ge h4 (by have := hc (newL d L v); show cnL d L v (newL d L v) < _; omega))
    · have e : newL d L v = d := Nat.le_antisymm h1 (by omega)
      rw [e]
      exact if_pos (nI_le (Nat.le_refl d) (by omega))
  · rfl
theorem s_startLevels {d : Nat} (a : Int64) (f : Nat → Int32) : f_X2_startLevels a (nI d) f = some (zp f (fun v => nI (if zt a v then d else 0)) 64) := by
  refine zl2_iter (R := Nat → Int32) 64 (fun j => nI j) (fun j => zp f (fun v => nI (if zt a v then d else 0)) j) (by decide) (fun K j hj => ?_) (fun K => ?_) nI_0 (zp_0 _ _)
  · refine (if_neg (nI_ge (show j < 64 from hj) (by decide))).trans ?_
    refine (zob_eq (s_contains a hj)).trans ?_
    refine zjp_eq.trans ?_
    have e := zp_succ f (fun v => nI (if zt a v then d else 0)) j
    cases h : zt a j with
    | false =>
      refine (if_pos rfl).trans ?_
      refine (zob_eq (s_write _ _ hj (by decide))).trans ?_
      refine zbd_eq.trans ?_
      rw [h] at e
      rw [nI_1, ← e]
      rfl
    | true =>
      refine (if_neg (by decide)).trans ?_
      refine (zob_eq (s_write _ _ hj (by decide))).trans ?_
      refine zbd_eq.trans ?_
      rw [h] at e
      rw [nI_1, ← e]
      rfl
  · exact if_pos (nI_le (Nat.le_refl 64) (by decide))
/-- some place below n -/
def zor (p : Nat → Bool) : Nat → Bool
  | 0 => false
  | n + 1 => zor p n || p n
theorem zor_f {p : Nat → Bool} : ∀ {n : Nat}, zor p n = false → ∀ k, k < n → p k = false
  | 0, _, k, hk => absurd hk (Nat.not_lt_zero k)
  | n + 1, h, k, hk => by
    rw [zor, Bool.or_eq_false_iff] at h
    rcases Nat.lt_or_ge k n with q | q
    · exact zor_f h.1 k q
    · rw [show k = n by omega]; exact h.2
theorem zor_t {p : Nat → Bool} : ∀ {n : Nat}, zor p n = true → ∃ k, k < n ∧ p k = true
  | 0, h => by cases h
  | n + 1, h => by
    rw [zor, Bool.or_eq_true] at h
    rcases h with h | h
    · obtain ⟨k, h1, h2⟩ := zor_t h; exact ⟨k, by omega, h2⟩
    · exact ⟨n, by omega, h⟩
theorem zor_cong {p q : Nat → Bool} : ∀ {n : Nat}, (∀ k, k < n → p k = q k) → zor p n = zor q n
  | 0, _ => rfl
  | n + 1, h => by rw [zor, zor, zor_cong (fun k hk => h k (by omega)), h n (by omega)]
theorem wp_of_eq {R : Type} {x y : Option R} {Q : R → Prop} (h : x = y) (k : wp y Q) : wp x Q := by rw [h]; exact k
theorem cpy64 (f lb : Nat → Int32) {w : Nat} (hw : w < 64) : va_cpy f lb (0 : Int32).toNatClampNeg (0 : Int32).toNatClampNeg (64 : Int32).toNatClampNeg w = f w := by
  show (if 0 ≤ w ∧ w < 0 + 64 then f (0 + (w - 0)) else lb w) = f w
  rw [if_pos ⟨by omega, by omega⟩]
  simp
theorem s_roundChanges {d : Nat} (a : Int64) {f lb : Nat → Int32} {L : Nat → Nat} (hd : d ≤ 6) (hf : ∀ w, w < 64 → f w = nI (L w)) (hL : ∀ w, w < 64 → L w ≤ 6) :
    f_X2_roundChanges a (nI d) f lb = some (bI (zor (fun v => decide (stepL d (zt a) L v ≠ L v)) 64), zp f (fun v => nI (stepL d (zt a) L v)) 64, va_cpy f lb (0 : Int32).toNatClampNeg (0 : Int32).toNatClampNeg (64 : Int32).toNatClampNeg) := by
  refine zbd_eq.trans ?_
  have hy : ∀ w, w < 64 → va_cpy f lb (0 : Int32).toNatClampNeg (0 : Int32).toNatClampNeg (64 : Int32).toNatClampNeg w = nI (L w) := fun w hw => (cpy64 f lb hw).trans (hf w hw)
  generalize va_cpy f lb (0 : Int32).toNatClampNeg (0 : Int32).toNatClampNeg (64 : Int32).toNatClampNeg = y at hy ⊢
  refine zl3_iter 64 (fun j => bI (zor (fun v => decide (stepL d (zt a) L v ≠ L v)) j)) (fun j => nI j) (fun j => zp f (fun v => nI (stepL d (zt a) L v)) j) (by decide) (fun K j hj => ?_) (fun K => ?_) rfl nI_0 (zp_0 _ _)
  · refine (if_neg (nI_ge (show j < 64 from hj) (by decide))).trans ?_
    refine (zob_eq (s_contains a hj)).trans (zjp_eq.trans ?_)
    have e := zp_succ f (fun v => nI (stepL d (zt a) L v)) j
    have hz : ∀ b, decide (stepL d (zt a) L j ≠ L j) = b → bI (zor (fun v => decide (stepL d (zt a) L v ≠ L v)) (j + 1)) = bI (zor (fun v => decide (stepL d (zt a) L v ≠ L v)) j || b) := fun b hb => by rw [zor, hb]
    cases h : zt a j with
    | false =>
      have hs : stepL d (zt a) L j = L j := if_neg (by rw [h]; decide)
      refine (if_pos rfl).trans (zbd_eq.trans ?_)
      rw [nI_1, hz false (by simp [hs]), Bool.or_false, zp_skip f (fun v => nI (stepL d (zt a) L v)) j (by show nI (stepL d (zt a) L j) = f j; rw [hs, hf j hj])]
    | true =>
      have hs : stepL d (zt a) L j = newL d L j := if_pos h
      have hn : newL d L j ≤ 6 := Nat.le_trans (zfst_spec _ d).1 hd
      refine (if_neg (by decide)).trans ?_
      refine (zob_eq (s_levelAfterRound hd hj hy hL)).trans ?_
      refine (zob_eq (s_read y hj (by decide))).trans (zjp_eq.trans ?_)
      rw [hy j hj]
      by_cases hq : newL d L j = L j
      · refine (if_pos (by rw [hq])).trans ?_
        refine (zob_eq (s_write _ _ hj (by decide))).trans (zbd_eq.trans ?_)
        rw [nI_1, hz false (by simp [hs, hq]), Bool.or_false, ← e, hs]
      · refine (if_neg (fun q => hq ((nI_eq (by omega) (by have := hL j hj; omega)).mp q))).trans ?_
        refine (zob_eq (s_write _ _ hj (by decide))).trans (zbd_eq.trans ?_)
        rw [nI_1, hz true (by simp [hs, hq]), Bool.or_true, ← e, hs]
        rfl
  · refine (if_pos (nI_le (Nat.le_refl 64) (by decide))).trans ?_
    exact zgd_eq (isb_bI _)
/-! the rounds end -/
theorem newL_le (d : Nat) (L : Nat → Nat) (v : Nat) : newL d L v ≤ d := (zfst_spec _ d).1
theorem cnL_anti {d : Nat} {L L' : Nat → Nat} (h : ∀ w, L w ≤ L' w) (v k : Nat) : cnL d L' v k ≤ cnL d L v k := fb_ct_sub (fun i _ hi => by
  simp at hi ⊢
  have := h (v ^^^ 2 ^ i)
  omega)
theorem newL_mono {d : Nat} {L L' : Nat → Nat} (h : ∀ w, L w ≤ L' w) (v : Nat) : newL d L v ≤ newL d L' v := by
  rcases Nat.lt_or_ge (newL d L' v) d with q | q
  · have h1 := (zfst_spec (fun k => decide (k < cnL d L' v k)) d).2.2 q
    simp at h1
    refine zfst_le ?_ q
    have h2 := cnL_anti (d := d) h v (newL d L' v)
    simp
    exact Nat.lt_of_lt_of_le h1 h2
  · exact Nat.le_trans (newL_le d L v) q
theorem lvl_le (d : Nat) (al : Nat → Bool) : ∀ t v, lvl d al t v ≤ d
  | 0, v => by
    simp only [lvl]
    split <;> omega
  | t + 1, v => by
    simp only [lvl, stepL]
    split
    · exact newL_le d _ v
    · exact lvl_le d al t v
theorem lvl_desc (d : Nat) (al : Nat → Bool) : ∀ t v, lvl d al (t + 1) v ≤ lvl d al t v
  | 0, v => by
    simp only [lvl, stepL]
    split
    · exact newL_le d _ v
    · exact Nat.le_refl _
  | t + 1, v => by
    show stepL d al (lvl d al (t + 1)) v ≤ stepL d al (lvl d al t) v
    simp only [stepL]
    split
    · exact newL_mono (fun w => lvl_desc d al t w) v
    · exact lvl_desc d al t v
def chg (d : Nat) (al : Nat → Bool) (t : Nat) : Bool := zor (fun v => decide (lvl d al (t + 1) v ≠ lvl d al t v)) 64
def rnd (d : Nat) (al : Nat → Bool) : Nat := zfst (fun t => !chg d al t) 385
def LV (d : Nat) (al : Nat → Bool) : Nat → Nat := lvl d al (rnd d al)
theorem sm_lt {f g : Nat → Nat} : ∀ {n : Nat}, (∀ k, k < n → f k ≤ g k) → zor (fun k => decide (f k ≠ g k)) n = true → fb_sm f n < fb_sm g n
  | 0, _, h => by cases h
  | n + 1, h, hz => by
    rw [zor, Bool.or_eq_true] at hz
    rw [fb_sm_succ, fb_sm_succ]
    have h1 := h n (by omega)
    rcases hz with hz | hz
    · have := sm_lt (fun k hk => h k (by omega)) hz
      omega
    · have h2 : fb_sm f n ≤ fb_sm g n := fb_sm_le (fun k hk => h k (by omega))
      simp at hz
      omega
theorem rnd_sum {d : Nat} (hd : d ≤ 6) (al : Nat → Bool) : ∀ t, (∀ j, j < t → chg d al j = true) → fb_sm (lvl d al t) 64 + t ≤ 384
  | 0, _ => by
    have h := fb_sm_le (f := lvl d al 0) (g := fun _ => 6) (n := 64) (fun k _ => Nat.le_trans (lvl_le d al 0 k) hd)
    rw [fb_sm_const] at h
    omega
  | t + 1, h => by
    have h1 := rnd_sum hd al t (fun j hj => h j (by omega))
    have h2 := sm_lt (f := lvl d al (t + 1)) (g := lvl d al t) (n := 64) (fun k _ => lvl_desc d al t k) (h t (by omega))
    omega
theorem rnd_lt {d : Nat} (hd : d ≤ 6) (al : Nat → Bool) : rnd d al < 385 := by
  obtain ⟨h1, h2, -⟩ := zfst_spec (fun t => !chg d al t) 385
  rcases Nat.lt_or_ge (rnd d al) 385 with q | q
  · exact q
  · have h3 := rnd_sum hd al 385 (fun j hj => by
      have := h2 j (Nat.lt_of_lt_of_le hj q)
      simpa using this)
    omega
theorem rnd_t {d : Nat} {al : Nat → Bool} {t : Nat} (h : t < rnd d al) : chg d al t = true := by
  have := (zfst_spec (fun t => !chg d al t) 385).2.1 t h
  simpa using this
theorem rnd_f {d : Nat} (hd : d ≤ 6) (al : Nat → Bool) : chg d al (rnd d al) = false := by
  have h : (!chg d al (rnd d al)) = true := (zfst_spec (fun t => !chg d al t) 385).2.2 (rnd_lt hd al)
  simpa using h
theorem LV_step {d : Nat} (hd : d ≤ 6) (al : Nat → Bool) {v : Nat} (hv : v < 64) : stepL d al (LV d al) v = LV d al v := by
  have h := zor_f (rnd_f hd al) v hv
  simp at h
  exact h
/-! vectors -/
def UU (d : Nat) (al : Nat → Bool) : Nat → Nat → Bool
  | 0 => al
  | k + 1 => fun v => al v && decide (d - (k + 2) < fb_ct (fun i => UU d al k (v ^^^ 2 ^ i)) d)
theorem s_above {d b : Nat} (a : Int64) (hd : d ≤ 6) (hb : b ≤ 6) : wp (f_X2_withNeighboursAbove a (nI b) (nI d)) (fun r => ∀ v, v < 64 → zt r v = decide (b < fb_ct (fun i => zt a (v ^^^ 2 ^ i)) d)) := by
  refine zl2_wp (fun fo i => ∃ j, j ≤ 64 ∧ i = nI j ∧ ∀ v, v < 64 → zt fo v = (decide (v < j) && decide (b < fb_ct (fun i => zt a (v ^^^ 2 ^ i)) d))) (fun _ i => 64 - i.toNatClampNeg) (fun K fo i hI ih => ?_) 0 0 ⟨0, by decide, rfl, fun v _ => by rw [zt_0]; simp⟩ (by decide)
  obtain ⟨j, hj, rfl, hfo⟩ := hI
  by_cases hj2 : j < 64
  · refine wp_f (nI_ge hj2 (by decide)) ?_
    refine wp_of_eq (zl2_iter d (fun k => nI (fb_ct (fun i => zt a (j ^^^ 2 ^ i)) k)) (fun k => nI k) (by omega) (fun K2 k hk => ?_) (fun K2 => if_pos (nI_le (Nat.le_refl d) (by omega))) rfl rfl) ?_
    · refine (if_neg (nI_ge hk (by omega))).trans ?_
      refine (zob_eq (s_neighbour j (by omega))).trans ?_
      refine (zob_eq (s_contains a (nb_64 hj2 (by omega)))).trans (zjp_eq.trans ?_)
      cases h : zt a (j ^^^ 2 ^ k) with
      | false =>
        refine (if_pos rfl).trans (zbd_eq.trans ?_)
        rw [nI_1, fb_ct_succ, h]
        rfl
      | true =>
        refine (if_neg (by decide)).trans (zbd_eq.trans (zbd_eq.trans ?_))
        rw [nI_1, nI_1, fb_ct_succ, h]
        rfl
    · refine wp_jp ?_
      have hct := ct_le (fun i => zt a (j ^^^ 2 ^ i)) d
      have hm : ∀ x : Nat, x < 64 → 64 - (nI (x + 1)).toNatClampNeg < 64 - (nI x).toNatClampNeg := fun x hx => by rw [nI_clamp (by omega), nI_clamp (by omega)]; omega
      by_cases hq : fb_ct (fun i => zt a (j ^^^ 2 ^ i)) d ≤ b
      · refine wp_t (nI_le hq (by omega)) (wp_bd ?_)
        rw [nI_1]
        refine ih _ _ ⟨j + 1, by omega, rfl, fun v hv => ?_⟩ (hm j hj2)
        rw [hfo v hv]
        by_cases hvj : v = j
        · subst hvj
          simp
          omega
        · rw [show decide (v < j) = decide (v < j + 1) from by rw [decide_eq_decide]; omega]
      · refine wp_f (nI_ge (by omega) (by omega)) (wp_bd (wp_bd ?_))
        rw [nI_1]
        refine ih _ _ ⟨j + 1, by omega, rfl, fun v hv => ?_⟩ (hm j hj2)
        rw [zt_or, hfo v hv, zt_bit hj2 hv]
        by_cases hvj : v = j
        · subst hvj
          simp
          omega
        · rw [show decide (v < j) = decide (v < j + 1) from by rw [decide_eq_decide]; omega]
          simp [hvj]
  · have e : j = 64 := by omega
    subst e
    refine wp_t (nI_le (Nat.le_refl 64) (by decide)) (wp_some (fun v hv => ?_))
    rw [hfo v hv]
    simp [hv]
