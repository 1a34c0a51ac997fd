/-! the reference's vectors -/
theorem s_ushr31b : ∀ m, m < 128 → ∀ k, k < 7 → ((nI m) >>> (nI k &&& 31)) &&& (1 : Int32) = bI (m.testBit k) := by decide +kernel
theorem or_p2 : ∀ m, m < 128 → ∀ k, k < 7 → nI m ||| ((1 : Int32) <<< (nI k &&& 31)) = nI (m ||| 2 ^ k) := by decide +kernel
theorem or_lt : ∀ m, m < 128 → ∀ k, k < 7 → m ||| 2 ^ k < 128 := by decide +kernel
theorem two_bit : ∀ j, j < 7 → Nat.testBit 2 j = decide (j = 1) := by decide
def VB (d : Nat) (al : Nat → Bool) (c : Nat → Int32) (k w : Nat) : Prop := ∃ B, B < 128 ∧ c w = nI B ∧ ∀ j, j < 7 → B.testBit j = (decide (1 ≤ j ∧ j ≤ k) && UU d al (j - 1) w)
theorem VB_bit {d : Nat} {al : Nat → Bool} {c : Nat → Int32} {k w j : Nat} (h : VB d al c k w) (h1 : 1 ≤ j) (h2 : j ≤ k) (h3 : j < 7) : ((c w) >>> (nI j &&& 31)) &&& (1 : Int32) = bI (UU d al (j - 1) w) := by
  obtain ⟨B, hB, e, hb⟩ := h
  rw [e, s_ushr31b B hB j h3, hb j h3, decide_eq_true ⟨h1, h2⟩, Bool.true_and]
theorem VB_upd {d : Nat} {al : Nat → Bool} {c : Nat → Int32} {k w v : Nat} {x : Int32} (h : VB d al c k w) (hne : w ≠ v) : VB d al (upd c v x) k w := by
  obtain ⟨B, hB, e, hb⟩ := h
  exact ⟨B, hB, by simp [upd, hne, e], hb⟩
theorem UU_dead {d : Nat} {al : Nat → Bool} {v : Nat} (h : al v = false) : ∀ k, UU d al k v = false
  | 0 => h
  | k + 1 => by simp [UU, h]
theorem m_findVectors {c vc : Nat → Int32} {d : Nat} {al : Nat → Bool} (h : MN c d al) : wp (f_X7_findVectors c vc) (fun r => ∀ w, w < 2 ^ d → VB d al r d w) := by
  obtain ⟨hd1, hd, hc0, hc⟩ := id h
  have h6 := p2_le hd
  refine wp_gd rfl (wp_bd ?_)
  rw [show c (0 : Int32).toNatClampNeg = nI d from hc0]
  refine wp_of_eq (zl2_iter (2 ^ d) (fun j => nI j) (fun j => zp vc (fun v => nI (if al v then 2 else 0)) j) (by omega) (fun K j hj => ?_) (fun K => (zob_eq (m_nodes h)).trans (if_pos (nI_le (Nat.le_refl _) (by omega)))) nI_0 (zp_0 _ _)) ?_
  · refine (zob_eq (m_nodes h)).trans ((if_neg (nI_ge hj (by omega))).trans ((zob_eq (m_lives h hj)).trans (zjp_eq.trans ?_)))
    have e := zp_succ vc (fun v => nI (if al v then 2 else 0)) j
    have fin : ∀ x : Int32, x = nI (if al j then 2 else 0) → (zgd (inb (nI j) 64) (zbd (upd (zp vc (fun v => nI (if al v then 2 else 0)) j) (nI j).toNatClampNeg x) fun y17 => zbd (nI j + 1) fun x18 => K x18 y17)) = K (nI (j + 1)) (zp vc (fun v => nI (if al v then 2 else 0)) (j + 1)) := fun x hx => by
      refine (zgd_eq (inb_nI (by omega) (by decide))).trans (zbd_eq.trans (zbd_eq.trans ?_))
      rw [nI_1, nI_clamp (by omega), hx, e]
    cases hal : al j with
    | false => exact (if_pos rfl).trans (fin 0 (by simp [hal]; rfl))
    | true => exact (if_neg (by decide)).trans (fin 2 (by simp [hal]; rfl))
  have h0 : ∀ w, w < 2 ^ d → VB d al (zp vc (fun v => nI (if al v then 2 else 0)) (2 ^ d)) 1 w := fun w hw => by
    refine ⟨if al w then 2 else 0, by split <;> decide, zp_in _ _ hw, fun j hj => ?_⟩
    cases hal : al w with
    | false => simp [UU_dead hal]
    | true =>
      simp only [if_true]
      rw [two_bit j hj]
      by_cases hj1 : j = 1
      · subst hj1; simp [UU, hal]
      · simp [hj1, show ¬ (1 ≤ j ∧ j ≤ 1) by omega]
  generalize zp vc (fun v => nI (if al v then 2 else 0)) (2 ^ d) = v0 at h0 ⊢
  refine zl2_wp (fun i vc => ∃ k, 1 ≤ k ∧ k ≤ d ∧ i = nI (k + 1) ∧ ∀ w, w < 2 ^ d → VB d al vc k w) (fun i _ => 64 - i.toNatClampNeg) (fun K i vc hI ih => ?_) 2 v0 ⟨1, by omega, hd1, rfl, h0⟩ (by decide)
  obtain ⟨k, hk1, hk, rfl, hv⟩ := hI
  by_cases hk2 : k < d
  · refine wp_f (nI_nlt (by omega) (by omega)) ?_
    refine zl2_wp (fun i vc => ∃ j, j ≤ 2 ^ d ∧ i = nI j ∧ (∀ w, w < j → VB d al vc (k + 1) w) ∧ ∀ w, j ≤ w → w < 2 ^ d → VB d al vc k w) (fun i _ => 64 - i.toNatClampNeg) (fun K2 i vc hI ih2 => ?_) 0 vc ⟨0, Nat.zero_le _, rfl, fun w hw => by omega, fun w _ hw => hv w hw⟩ (by decide)
    obtain ⟨j, hj, rfl, hv1, hv2⟩ := hI
    have hbit : ∀ w, w < 2 ^ d → ((vc w) >>> (nI k &&& 31)) &&& (1 : Int32) = bI (UU d al (k - 1) w) := fun w hw => by
      rcases Nat.lt_or_ge w j with q | q
      · exact VB_bit (hv1 w q) hk1 (by omega) (by omega)
      · exact VB_bit (hv2 w q hw) hk1 (by omega) (by omega)
    refine wp_ob (m_nodes h) ?_
    by_cases hj2 : j < 2 ^ d
    · refine wp_f (nI_ge hj2 (by omega)) ?_
      refine wp_of_eq (zl2_iter d (fun i => nI (fb_ct (fun i => UU d al (k - 1) (j ^^^ 2 ^ i)) i)) (fun i => nI i) (by omega) (fun K3 i hi => ?_) (fun K3 => if_pos (nI_le (Nat.le_refl d) (by omega))) rfl nI_0) ?_
      · refine (if_neg (nI_ge hi (by omega))).trans ?_
        have hw := nb_lt hd hj2 hi
        rw [nb_nI j (show i < 31 by omega)]
        refine (zgd_eq (inb_nI (by omega) (by decide))).trans (zbd_eq.trans (zbd_eq.trans ?_))
        rw [nI_clamp (by omega), show nI (k + 1) - (1 : Int32) = nI k from nI_pred k, hbit _ hw, nI_1, fb_ct_succ]
        cases UU d al (k - 1) (j ^^^ 2 ^ i) with
        | false => rw [show bI false = 0 from rfl, Int32.add_zero]; rfl
        | true => rw [show bI true = 1 from rfl, nI_1]; rfl
      · have hct := ct_le (fun i => UU d al (k - 1) (j ^^^ 2 ^ i)) d
        refine wp_gd (inb_nI (by omega) (by decide)) (wp_ob (m_lives h hj2) (wp_jp (wp_jp ?_)))
        rw [nI_clamp (show j < 2 ^ 31 by omega)]
        obtain ⟨B, hB, eB, hb⟩ := hv2 j (Nat.le_refl j) hj2
        have eU : UU d al k j = (al j && decide (d - (k + 1) < fb_ct (fun i => UU d al (k - 1) (j ^^^ 2 ^ i)) d)) := by
          obtain ⟨k', rfl⟩ : ∃ z, k = z + 1 := ⟨k - 1, by omega⟩
          rfl
        have fin : ∀ (x : Int32) (B2 : Nat), x = nI B2 → B2 < 128 → (∀ i, i < 7 → B2.testBit i = (decide (1 ≤ i ∧ i ≤ k + 1) && UU d al (i - 1) j)) → wp (zgd (inb (nI j) 64) (zbd (upd vc (nI j).toNatClampNeg x) fun y10 => zbd (nI j + 1) fun x11 => K2 x11 y10)) (fun r => ∀ w, w < 2 ^ d → VB d al r d w) := fun x B2 hx hB2 hb2 => by
          refine wp_gd (inb_nI (by omega) (by decide)) (wp_bd (wp_bd ?_))
          rw [nI_1, nI_clamp (by omega)]
          refine ih2 _ _ ⟨j + 1, by omega, rfl, fun w hw => ?_, fun w h1 h2 => VB_upd (hv2 w (by omega) h2) (by omega)⟩ (by rw [nI_clamp (by omega), nI_clamp (by omega)]; omega)
          by_cases hwj : w = j
          · subst hwj; exact ⟨B2, hB2, by simp [upd, hx], hb2⟩
          · exact VB_upd (hv1 w (by omega)) hwj
        have keep : UU d al k j = false → ∀ i, i < 7 → B.testBit i = (decide (1 ≤ i ∧ i ≤ k + 1) && UU d al (i - 1) j) := fun hU i hi => by
          rw [hb i hi]
          by_cases hik : i = k + 1
          · subst hik; simp [hU]
          · rw [show decide (1 ≤ i ∧ i ≤ k) = decide (1 ≤ i ∧ i ≤ k + 1) from by rw [decide_eq_decide]; omega]
        cases hal : al j with
        | false =>
          refine wp_t rfl (wp_bd ?_)
          exact fin _ B (by rw [eB]; exact Int32.or_zero) hB (keep (by rw [eU, hal, Bool.false_and]))
        | true =>
          refine wp_f (by decide) ?_
          rw [show nI d - nI (k + 1) = nI (d - (k + 1)) from nI_sub (by omega)]
          by_cases hq : fb_ct (fun i => UU d al (k - 1) (j ^^^ 2 ^ i)) d ≤ d - (k + 1)
          · refine wp_t (nI_le hq (by omega)) (wp_bd ?_)
            exact fin _ B (by rw [eB]; exact Int32.or_zero) hB (keep (by rw [eU, hal]; simp; omega))
          · refine wp_f (nI_ge (by omega) (by omega)) (wp_bd ?_)
            refine fin _ (B ||| 2 ^ (k + 1)) (by rw [eB]; exact or_p2 B hB (k + 1) (by omega)) (or_lt B hB (k + 1) (by omega)) (fun i hi => ?_)
            rw [Nat.testBit_or, hb i hi, Nat.testBit_two_pow]
            by_cases hik : i = k + 1
            · subst hik
              simp [eU, hal]
              omega
            · rw [show decide (1 ≤ i ∧ i ≤ k) = decide (1 ≤ i ∧ i ≤ k + 1) from by rw [decide_eq_decide]; omega, decide_eq_false (show ¬ k + 1 = i by omega), Bool.or_false]
    · have e : j = 2 ^ d := by omega
      subst e
      refine wp_t (nI_le (Nat.le_refl _) (by omega)) (wp_bd ?_)
      rw [nI_1]
      exact ih _ _ ⟨k + 1, by omega, by omega, rfl, hv1⟩ (by rw [nI_clamp (by omega), nI_clamp (by omega)]; omega)
  · have e : k = d := by omega
    subst e
    exact wp_t (nI_lt (by omega) (by omega)) (wp_some hv)
