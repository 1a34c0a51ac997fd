/-! the reference: nodes, levels -/
def MN (c : Nat → Int32) (d : Nat) (al : Nat → Bool) : Prop := 1 ≤ d ∧ d ≤ 6 ∧ c 0 = nI d ∧ ∀ v, v < 2 ^ d → c (3 + v) = bI (!al v)
theorem p2_le {d : Nat} (hd : d ≤ 6) : 2 ^ d ≤ 64 := Nat.pow_le_pow_right (n := 2) (by decide) hd
theorem p2_pos (d : Nat) : 0 < 2 ^ d := Nat.pow_pos (by decide)
theorem m_nodes {c : Nat → Int32} {d : Nat} {al : Nat → Bool} (h : MN c d al) : f_X7_nodes c = some (nI (2 ^ d)) := by
  refine (zgd_eq rfl).trans ?_
  show some ((1 : Int32) <<< (c 0 &&& 31)) = _
  rw [h.2.2.1, p2_nI d (by have := h.2.1; omega)]
theorem m_lives {c : Nat → Int32} {d v : Nat} {al : Nat → Bool} (h : MN c d al) (hv : v < 2 ^ d) : f_X7_lives (nI v) c = some (bI (al v)) := by
  have h6 := p2_le h.2.1
  rw [f_X7_lives, show (3 : Int32) = nI 3 from rfl, nI_add, nI_clamp (by omega), inb_nI (show 3 + v < 187 by omega) (by decide), h.2.2.2 v hv]
  cases al v <;> rfl
theorem m_howMany0 (c g hm : Nat → Int32) (x : Int32) (X : Option rt_X7_newLevel) (F : (Int32 → (Nat → Int32) → Option rt_X7_newLevel) → Int32 → (Nat → Int32) → Option rt_X7_newLevel) (Y : (Nat → Int32) → Option rt_X7_newLevel)
    (hF : F = fun k2 i2 h2 => if (7 : Int32) ≤ i2 then Y h2 else zgd (inb i2 7) (zbd (upd h2 i2.toNatClampNeg 0) fun y14 => zbd (i2 + 1) fun x15 => k2 x15 y14)) : zl2 F zfu 0 hm = Y (zp hm (fun _ => 0) 7) := by
  subst hF
  refine zl2_iter 7 (fun j => nI j) (fun j => zp hm (fun _ => 0) j) (by decide) (fun K j hj => ?_) (fun K => if_pos (by decide)) nI_0 (zp_0 _ _)
  refine (if_neg (nI_ge (show j < 7 from hj) (by decide))).trans ?_
  refine (zgd_eq (inb_nI hj (by decide))).trans (zbd_eq.trans (zbd_eq.trans ?_))
  rw [nI_1, nI_clamp (by omega), zp_succ hm (fun _ => 0) j]
theorem cnL_succ (d : Nat) (L : Nat → Nat) (v k : Nat) : cnL d L v (k + 1) = cnL d L v k + fb_ct (fun i => decide (L (v ^^^ 2 ^ i) = k)) d := by
  show fb_ct _ d = fb_ct _ d + fb_ct _ d
  generalize d = m
  induction m with
  | zero => rfl
  | succ m ih =>
    rw [fb_ct_succ, fb_ct_succ, fb_ct_succ, ih]
    by_cases h1 : L (v ^^^ 2 ^ m) < k
    · simp [h1, show L (v ^^^ 2 ^ m) < k + 1 by omega, show ¬ L (v ^^^ 2 ^ m) = k by omega]; omega
    · by_cases h2 : L (v ^^^ 2 ^ m) = k
      · simp [h2]; omega
      · simp [h1, h2, show ¬ L (v ^^^ 2 ^ m) < k + 1 by omega]
theorem cnL_0 (d : Nat) (L : Nat → Nat) (v : Nat) : cnL d L v 0 = 0 := fb_ct_zero.mpr (fun k _ => by simp)
theorem m_newLevel {c g hm : Nat → Int32} {d v : Nat} {al : Nat → Bool} {L : Nat → Nat} (h : MN c d al) (hv : v < 2 ^ d) (hg : ∀ w, w < 2 ^ d → g w = nI (L w)) (hL : ∀ w, w < 2 ^ d → L w ≤ d) : wp (f_X7_newLevel (nI v) c g hm) (fun r => r.1 = nI (newL d L v)) := by
  obtain ⟨hd1, hd, hc0, hc⟩ := id h
  have h6 := p2_le hd
  refine wp_of_eq (m_howMany0 c g hm (nI v) none _ _ rfl) ?_
  have z0 : ∀ k, k < 7 → zp hm (fun _ => 0) 7 k = nI (fb_ct (fun i => decide (L (v ^^^ 2 ^ i) = k)) 0) := fun k hk => (zp_in _ _ hk).trans rfl
  generalize zp hm (fun _ => 0) 7 = m0 at z0 ⊢
  -- the counts
  refine zl2_wp (fun i m => ∃ j, j ≤ d ∧ i = nI j ∧ ∀ k, k < 7 → m k = nI (fb_ct (fun i => decide (L (v ^^^ 2 ^ i) = k)) j)) (fun i _ => 64 - i.toNatClampNeg) (fun K i m hI ih => ?_) 0 m0 ⟨0, by omega, rfl, z0⟩ (by decide)
  obtain ⟨j, hj, rfl, hm⟩ := hI
  refine wp_gd rfl ?_
  rw [show c (0 : Int32).toNatClampNeg = nI d from hc0]
  by_cases hj2 : j < d
  · refine wp_f (nI_ge hj2 (by omega)) ?_
    have hw := nb_lt hd hv hj2
    rw [nb_nI v (by omega), nI_clamp (by omega), hg _ hw]
    have hl := hL _ hw
    refine wp_gd (inb_nI (by omega) (by decide)) (wp_gd (inb_nI (by omega) (by decide)) (wp_bd (wp_gd (inb_nI (by omega) (by decide)) (wp_bd (wp_bd ?_)))))
    rw [nI_clamp (show L (v ^^^ 2 ^ j) < 2 ^ 31 by omega), hm _ (by omega), nI_1, nI_1]
    refine ih _ _ ⟨j + 1, by omega, rfl, fun k hk => ?_⟩ (by rw [nI_clamp (by omega), nI_clamp (by omega)]; omega)
    rw [fb_ct_succ]
    by_cases hk2 : k = L (v ^^^ 2 ^ j)
    · subst hk2; simp [upd]
    · simp [upd, hk2, hm k hk, show ¬ L (v ^^^ 2 ^ j) = k from fun e => hk2 e.symm]
  · have e : j = d := by omega
    subst e
    refine wp_t (nI_le (Nat.le_refl j) (by omega)) ?_
    obtain ⟨h1, h2, h3⟩ := zfst_spec (fun k => decide (k < cnL j L v k)) j
    have hcn : ∀ k, cnL j L v k ≤ 6 := fun k => Nat.le_trans (ct_le _ j) hd
    refine wp_of_eq (zl2_iter (newL j L v) (fun k => nI (cnL j L v k)) (fun k => nI k) (by show zfst _ j ≤ _; omega) (X := some (nI (newL j L v), m)) (fun K k hk => ?_) (fun K => ?_) (by rw [cnL_0]; rfl) nI_0) (wp_some rfl)
    · have hk2 : k < j := Nat.lt_of_lt_of_le hk h1
      have h4 := h2 k hk
      simp at h4
      refine (zgd_eq rfl).trans ?_
      refine (if_neg (nI_ge hk2 (by omega))).trans ?_
      refine (if_pos (nI_le h4 (by omega))).trans ?_
      refine (zgd_eq (inb_nI (by omega) (by decide))).trans (zbd_eq.trans (zbd_eq.trans ?_))
      rw [nI_clamp (by omega), hm k (by omega), nI_add, nI_1, cnL_succ]
    · refine (zgd_eq rfl).trans ?_
      by_cases hq : newL j L v < j
      · have h4 := h3 hq
        simp at h4
        refine (if_neg (nI_ge hq (by omega))).trans ?_
        exact if_neg (nI_ge h4 (by have := hcn (newL j L v); show cnL j L v (newL j L v) < _; omega))
      · have e : newL j L v = j := Nat.le_antisymm h1 (by omega)
        rw [e]
        refine (if_pos (nI_le (Nat.le_refl j) (by omega))).trans ?_
        exact zgd_eq rfl
theorem lvl_dead {d : Nat} {al : Nat → Bool} : ∀ t v, al v = false → lvl d al t v = 0
  | 0, v, h => by simp [lvl, h]
  | t + 1, v, h => by simp only [lvl, stepL, h]; exact lvl_dead t v h
theorem zor_mono {p : Nat → Bool} : ∀ {m n : Nat}, m ≤ n → (∀ k, m ≤ k → k < n → p k = false) → zor p m = zor p n
  | m, 0, h, _ => by rw [show m = 0 by omega]
  | m, n + 1, h, hp => by
    rcases Nat.lt_or_ge m (n + 1) with q | q
    · rw [zor, hp n (by omega) (by omega), Bool.or_false]
      exact zor_mono (by omega) (fun k h1 h2 => hp k h1 (by omega))
    · rw [show m = n + 1 by omega]
theorem chg_2d {d : Nat} {al : Nat → Bool} (hd : d ≤ 6) (ha : ∀ v, 2 ^ d ≤ v → al v = false) (t : Nat) : zor (fun v => decide (lvl d al (t + 1) v ≠ lvl d al t v)) (2 ^ d) = chg d al t :=
  zor_mono (p2_le hd) (fun k h1 _ => by simp [lvl_dead _ k (ha k h1)])
def flQ (d : Nat) (al : Nat → Bool) (r : rt_X7_findLevels) : Prop := r.1 = nI (rnd d al) ∧ ∀ w, w < 2 ^ d → r.2.1 w = nI (LV d al w)
theorem m_findLevels {c lv nw hm : Nat → Int32} {d : Nat} {al : Nat → Bool} (h : MN c d al) (ha : ∀ v, 2 ^ d ≤ v → al v = false) : wp (f_X7_findLevels c lv nw hm) (flQ d al) := by
  obtain ⟨hd1, hd, hc0, hc⟩ := id h
  have h6 := p2_le hd
  have hT := rnd_lt hd al
  -- the start
  refine wp_of_eq (zl2_iter (2 ^ d) (fun j => nI j) (fun j => zp lv (fun v => nI (lvl d al 0 v)) j) (by omega) (fun K j hj => ?_) (fun K => (zob_eq (m_nodes h)).trans (if_pos (nI_le (Nat.le_refl _) (by omega)))) nI_0 (zp_0 _ _)) ?_
  · refine (zob_eq (m_nodes h)).trans ?_
    refine (if_neg (nI_ge hj (by omega))).trans ?_
    refine (zob_eq (m_lives h hj)).trans (zjp_eq.trans ?_)
    have e := zp_succ lv (fun v => nI (lvl d al 0 v)) j
    have fin : ∀ x : Int32, x = nI (lvl d al 0 j) → (zgd (inb (nI j) 64) (zbd (upd (zp lv (fun v => nI (lvl d al 0 v)) j) (nI j).toNatClampNeg x) fun y19 => zbd (nI j + 1) fun x20 => K x20 y19)) = K (nI (j + 1)) (zp lv (fun v => nI (lvl d al 0 v)) (j + 1)) := fun x hx => by
      refine (zgd_eq (inb_nI (by omega) (by decide))).trans (zbd_eq.trans (zbd_eq.trans ?_))
      rw [nI_1, nI_clamp (by omega), hx, e]
    cases hal : al j with
    | false => exact (if_pos rfl).trans (fin 0 (by simp [lvl, hal]; rfl))
    | true =>
      refine (if_neg (by decide)).trans ((zgd_eq rfl).trans ?_)
      exact fin _ (by simp only [lvl, hal]; exact hc0)
  -- the rounds
  refine zl5_wp (fun i1 i2 lev _ _ => ∃ t, t ≤ rnd d al + 1 ∧ i2 = bI (decide (t ≤ rnd d al)) ∧ i1 = nI (min t (rnd d al)) ∧ ∀ w, w < 2 ^ d → lev w = nI (lvl d al (min t (rnd d al)) w) ) (fun i1 i2 _ _ _ => 400 - i1.toNatClampNeg + (if i2 = 0 then 0 else 1)) (fun K i1 i2 lev nw hm hI ih => ?_) 0 1 _ nw hm ⟨0, by omega, by simp; rfl, by simp; rfl, fun w hw => by rw [zp_in _ _ hw, Nat.zero_min]⟩ (by decide)
  obtain ⟨t, ht, rfl, rfl, hlev⟩ := hI
  by_cases hq : t ≤ rnd d al
  · have em : min t (rnd d al) = t := by omega
    rw [em] at hlev ⊢
    refine wp_f (by simp [hq]; decide) ?_
    have hL : ∀ w, w < 2 ^ d → lvl d al t w ≤ d := fun w _ => lvl_le d al t w
    refine zl4_wp (fun i2 i3 nw hm => ∃ j, j ≤ 2 ^ d ∧ i3 = nI j ∧ i2 = bI (zor (fun v => decide (lvl d al (t + 1) v ≠ lvl d al t v)) j) ∧ ∀ w, w < j → nw w = nI (lvl d al (t + 1) w)) (fun _ i3 _ _ => 64 - i3.toNatClampNeg) (fun K2 i2 i3 nw hm hI ih2 => ?_) 0 0 nw hm ⟨0, Nat.zero_le _, rfl, rfl, fun w hw => by omega⟩ (by decide)
    obtain ⟨j, hj, rfl, rfl, hnw⟩ := hI
    refine wp_ob (m_nodes h) ?_
    by_cases hj2 : j < 2 ^ d
    · refine wp_f (nI_ge hj2 (by omega)) ?_
      refine wp_ob (m_lives h hj2) (wp_jp ?_)
      have hle1 := lvl_le d al (t + 1) j
      have hle := lvl_le d al t j
      have fin : ∀ (x : Int32) (hm2 : Nat → Int32), x = nI (lvl d al (t + 1) j) → wp (zgd (inb (nI j) 64) (zbd (upd nw (nI j).toNatClampNeg x) fun y12 => zjp (fun (s0 : Int32) => zbd (nI j + 1) fun x13 => K2 s0 x13 y12 hm2) fun K107 => zjp (K107 1) fun K102 => if bI (zor (fun v => decide (lvl d al (t + 1) v ≠ lvl d al t v)) j) = 0 then zgd (inb (nI j) 64) (zgd (inb (nI j) 64) (if y12 (nI j).toNatClampNeg = lev (nI j).toNatClampNeg then K107 0 else K102)) else K102)) (flQ d al) := by
        intro x hm2 hx
        refine wp_gd (inb_nI (by omega) (by decide)) (wp_bd (wp_jp (wp_jp ?_)))
        have hgo : ∀ b : Bool, zor (fun v => decide (lvl d al (t + 1) v ≠ lvl d al t v)) (j + 1) = b → wp (zbd (nI j + 1) fun x13 => K2 (bI b) x13 (upd nw (nI j).toNatClampNeg x) hm2) (flQ d al) := fun b hb => by
          refine wp_bd ?_
          rw [nI_1]
          refine ih2 _ _ _ _ ⟨j + 1, by omega, rfl, by rw [hb], fun w hw => ?_⟩ (by rw [nI_clamp (by omega), nI_clamp (by omega)]; omega)
          rw [nI_clamp (by omega)]
          by_cases hwj : w = j
          · subst hwj; simp [upd, hx]
          · simp [upd, hwj, hnw w (by omega)]
        cases hz : zor (fun v => decide (lvl d al (t + 1) v ≠ lvl d al t v)) j with
        | true => exact wp_f (by decide) (hgo true (by rw [zor, hz, Bool.true_or]))
        | false =>
          refine wp_t rfl (wp_gd (inb_nI (by omega) (by decide)) (wp_gd (inb_nI (by omega) (by decide)) ?_))
          have hcond : (upd nw (nI j).toNatClampNeg x (nI j).toNatClampNeg = lev (nI j).toNatClampNeg) ↔ lvl d al (t + 1) j = lvl d al t j := by
            rw [nI_clamp (show j < 2 ^ 31 by omega), show upd nw j x j = x by simp [upd], hx, hlev j hj2]
            exact nI_eq (by omega) (by omega)
          by_cases he : lvl d al (t + 1) j = lvl d al t j
          · exact wp_t (hcond.mpr he) (hgo false (by rw [zor, hz]; simp [he]))
          · exact wp_f (fun q => he (hcond.mp q)) (hgo true (by rw [zor, hz]; simp [he]))
      cases hal : al j with
      | false => exact wp_t rfl (fin 0 hm (by rw [lvl_dead _ j hal]; rfl))
      | true =>
        refine wp_f (by decide) (wp_obW (m_newLevel h hj2 hlev hL) (fun u hu => ?_))
        exact fin u.1 u.2 (by rw [hu]; simp [lvl, stepL, hal])
    · have e : j = 2 ^ d := by omega
      subst e
      refine wp_t (nI_le (Nat.le_refl _) (by omega)) ?_
      rw [chg_2d hd ha t]
      refine wp_of_eq (zl2_iter (2 ^ d) (fun k => nI k) (fun k => zp lev nw k) (by omega) (fun K3 k hk => ?_) (fun K3 => (zob_eq (m_nodes h)).trans (if_pos (nI_le (Nat.le_refl _) (by omega)))) nI_0 (zp_0 _ _)) ?_
      · refine (zob_eq (m_nodes h)).trans ?_
        refine (if_neg (nI_ge hk (by omega))).trans ?_
        refine (zgd_eq (inb_nI (by omega) (by decide))).trans (zbd_eq.trans ?_)
        refine (zgd_eq (inb_nI (by omega) (by decide))).trans (zbd_eq.trans (zbd_eq.trans ?_))
        rw [nI_1, nI_clamp (by omega), zp_succ lev nw k]
      · refine wp_jp ?_
        have hnew : ∀ w, w < 2 ^ d → zp lev nw (2 ^ d) w = nI (lvl d al (t + 1) w) := fun w hw => (zp_in _ _ hw).trans (hnw w hw)
        by_cases h2 : t < rnd d al
        · rw [rnd_t h2]
          refine wp_f (by decide) (wp_bd ?_)
          rw [nI_1]
          refine ih _ _ _ _ _ ⟨t + 1, by omega, by simp [show t + 1 ≤ rnd d al by omega], by rw [show min (t + 1) (rnd d al) = t + 1 by omega], fun w hw => by rw [show min (t + 1) (rnd d al) = t + 1 by omega]; exact hnew w hw⟩ ?_
          rw [nI_clamp (by omega), nI_clamp (by omega)]
          simp [hq, bI]
          omega
        · have e : t = rnd d al := by omega
          have hf : chg d al t = false := by rw [e]; exact rnd_f hd al
          rw [hf]
          refine wp_t (by decide) (wp_bd ?_)
          refine ih _ _ _ _ _ ⟨t + 1, by omega, by simp [show ¬ t + 1 ≤ rnd d al by omega], by rw [show min (t + 1) (rnd d al) = t by omega]; exact Int32.add_zero _, fun w hw => ?_⟩ ?_
          · rw [show min (t + 1) (rnd d al) = t by omega, hnew w hw]
            have := zor_f hf w (by omega)
            simp at this
            rw [this]
          · rw [show nI t + 0 = nI t from Int32.add_zero _]
            simp [hq, bI]
  · have em : min t (rnd d al) = rnd d al := by omega
    rw [em] at hlev ⊢
    exact wp_t (by simp [hq]; rfl) (wp_some ⟨rfl, hlev⟩)
