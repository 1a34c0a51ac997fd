/-! the law's own methods: counting, levels, the print -/
theorem p_ones : ∀ m, m < 64 → f_L_ones (nI m) = some (nI (pc m)) := by decide +kernel
theorem p2_32 {d : Nat} (h : d ≤ 5) : 2 ^ d ≤ 32 := Nat.pow_le_pow_right (n := 2) (by decide) h
section
variable {d n : Nat} {cu : CU}
theorem p_alive (h : CORE d n cu) (h5 : d ≤ 5) : f_L_alive (nI d) cu = some (nI (fb_ct (zt cu.1.2.1) (2 ^ d))) := by
  have h32 := p2_32 h5
  unfold f_L_alive
  refine zl2_itF (2 ^ d) (fun j => nI (fb_ct (zt cu.1.2.1) j)) (fun j => nI j) (by omega) (fun K j hj => ?_) (fun K => if_pos (by rw [p2_nI d (by omega)]; exact nI_le (Nat.le_refl _) (by omega))) nI_0 nI_0
  refine (if_neg (by rw [p2_nI d (by omega)]; exact nI_ge hj (by omega))).trans ((zob_eq (e_isAlive h hj)).trans (zjp_eq.trans ?_))
  rw [fb_ct_succ]
  cases e : zt cu.1.2.1 j with
  | true =>
    refine (if_pos rfl).trans (zbd_eq.trans (zbd_eq.trans ?_))
    rw [nI_1, nI_1]; rfl
  | false =>
    refine (if_neg (by decide)).trans (zbd_eq.trans (zbd_eq.trans ?_))
    rw [nI_1, Int32.add_zero]; rfl
theorem lev_fix {d : Nat} (hd : d ≤ 6) (al : Nat → Bool) {v : Nat} (hv : v < 64) (ha : al v = true) : (∀ k, k < LV d al v → cnL d (LV d al) v k ≤ k) ∧ (LV d al v < d → LV d al v < cnL d (LV d al) v (LV d al v)) := by
  have h := LV_step hd al hv
  rw [stepL, if_pos ha] at h
  have hs := zfst_spec (fun k => decide (k < cnL d (LV d al) v k)) d
  have h' : zfst (fun k => decide (k < cnL d (LV d al) v k)) d = LV d al v := h
  rw [h'] at hs
  exact ⟨fun k hk => Nat.not_lt.mp (of_decide_eq_false (hs.2.1 k hk)), fun hk => of_decide_eq_true (hs.2.2 hk)⟩
/-- how many of the first i neighbours of v have less than k -/
theorem cnl_step (d : Nat) (L : Nat → Nat) (v k i : Nat) (h : k < 2 ^ 31) (hL : L (v ^^^ 2 ^ i) < 2 ^ 31) (K : Int32 → Int32 → Option rt_L_areLevels) (a b : Int32) :
    (if nI k ≤ nI (L (v ^^^ 2 ^ i)) then K a 0 else K a 1) = K a (if decide (L (v ^^^ 2 ^ i) < k) then 1 else 0) := by
  rcases Nat.lt_or_ge (L (v ^^^ 2 ^ i)) k with q | q
  · rw [if_neg (nI_ge q h), if_pos (decide_eq_true q)]
  · rw [if_pos (nI_le q hL), if_neg (by rw [decide_eq_true_eq]; omega)]
theorem p_areLevels (h : CORE d n cu) (h5 : d ≤ 5) : f_L_areLevels (nI d) cu = some 1 := by
  obtain ⟨h1, hd, -, -, -, ha, -⟩ := id h
  have h32 := p2_32 h5
  have hLd : ∀ v, LV d (zt cu.1.2.1) v ≤ d := fun v => lvl_le d _ _ v
  have hr := rnd_lt hd (zt cu.1.2.1)
  unfold f_L_areLevels
  refine (zob_eq (e_rounds h)).trans (zjp_eq.trans ((if_neg (nI_pos (n := rnd d (zt cu.1.2.1)) (by omega))).trans ?_))
  refine zl3_itF (2 ^ d) (fun j => nI (sfe d (LV d (zt cu.1.2.1)) j)) (fun _ => 1) (fun j => nI j) (by omega) (fun K j hj => ?_) (fun K => ?_) nI_0 rfl nI_0
  · refine zjp_eq.trans (zjp_eq.trans ((if_neg (by rw [p2_nI d (by omega)]; exact nI_ge hj (by omega))).trans ((if_neg (by decide)).trans ((zob_eq (e_level h hj)).trans (zjp_eq.trans ?_)))))
    have hfin : ∀ x : Int32, x = (if (LV d (zt cu.1.2.1) j == d) = true then 1 else 0) → (zbd (A := Int32) (nI (sfe d (LV d (zt cu.1.2.1)) j) + x) (fun x4 => zob (F_isAlive (nI j) cu) (fun u5 => zjp (T := Int32 → Option rt_L_areLevels) (fun (i3_228 : Int32) => zbd (A := Int32) (nI j + 1) (fun x6 => K x4 i3_228 x6)) (fun K228 => if (u5 : Int32) = 0 then (
zjp (T := Int32 → Option rt_L_areLevels) (fun (s0_91 : Int32) =>
K228 s0_91) (fun K91 =>
zjp (T := Option rt_L_areLevels) (
K91 0) (fun K90 =>
if (nI (LV d (zt cu.1.2.1) j) : Int32) = 0 then (
zob (F_vectorBit (nI j) 1 cu) (fun u12 =>
if (u12 : Int32) = 0 then (
zob (F_vectorBit (nI j) (nI d) cu) (fun u13 =>
if (u13 : Int32) = 0 then (
K91 1) else (
K90))) else (
K90))) else (
K90)))) else (
zjp (T := Int32 → Option rt_L_areLevels) (fun (s0_122 : Int32) =>
zl2 (R := rt_L_areLevels) (fun k126 (i3_126 : Int32) (i6_126 : Int32) =>
if (nI (LV d (zt cu.1.2.1) j) : Int32) < i6_126 then (
K228 i3_126) else (
if (i3_126 : Int32) = 0 then (
K228 i3_126) else (
zl2 (R := rt_L_areLevels) (fun k143 (i7_143 : Int32) (i8_143 : Int32) =>
if (nI d : Int32) ≤ i8_143 then (
zjp (T := Int32 → Option rt_L_areLevels) (fun (s0_221 : Int32) =>
zbd (A := Int32) (i6_126 + 1) (fun x7 =>
k126 s0_221 x7)) (fun K221 =>
if (nI (LV d (zt cu.1.2.1) j) : Int32) ≤ i6_126 then (
zjp (T := Option rt_L_areLevels) (
K221 1) (fun K216 =>
if (nI (LV d (zt cu.1.2.1) j) : Int32) = nI d then (
K216) else (
if (i7_143 : Int32) ≤ i6_126 then (
K221 0) else (
K216)))) else (
if (i6_126 : Int32) < i7_143 then (
K221 0) else (
K221 1)))) else (
zob (F_level (nI j ^^^ ((1 : Int32) <<< (i8_143 &&& 31))) cu) (fun u8 =>
zjp (T := Int32 → Int32 → Option rt_L_areLevels) (fun (s0_172 : Int32) (s1_172 : Int32) =>
zbd (A := Int32) (s0_172 + s1_172) (fun x9 =>
zbd (A := Int32) (i8_143 + 1) (fun x10 =>
k143 x9 x10))) (fun K172 =>
if (i6_126 : Int32) ≤ u8 then (
K172 i7_143 0) else (
K172 i7_143 1))))) 8 0 0))) 8 s0_122 1) (fun K122 =>
zjp (T := Option rt_L_areLevels) (
K122 0) (fun K121 =>
if (nI (LV d (zt cu.1.2.1) j) : Int32) ≤ 0 then (
K121) else (
if (nI d : Int32) < nI (LV d (zt cu.1.2.1) j) then (
K121) else (
zob (F_vectorBit (nI j) 1 cu) (fun u11 =>
if (u11 : Int32) = 1 then (
K122 1) else (
K121)))))))))) ) = K (nI (sfe d (LV d (zt cu.1.2.1)) (j + 1))) 1 (nI (j + 1)) := by
      intro x hx
      have hs : nI (sfe d (LV d (zt cu.1.2.1)) j) + x = nI (sfe d (LV d (zt cu.1.2.1)) (j + 1)) := by
        rw [show sfe d (LV d (zt cu.1.2.1)) (j + 1) = sfe d (LV d (zt cu.1.2.1)) j + (if (LV d (zt cu.1.2.1) j == d) = true then 1 else 0) from fb_ct_succ _ j, hx]
        split
        · exact nI_1 _
        · exact Int32.add_zero _
      refine zbd_eq.trans ((zob_eq (e_isAlive h hj)).trans (zjp_eq.trans ?_))
      rw [hs]
      have hK : ∀ z : Int32, z = 1 → (zbd (A := Int32) (nI j + 1) (fun x6 => K (nI (sfe d (LV d (zt cu.1.2.1)) (j + 1))) z x6)) = K (nI (sfe d (LV d (zt cu.1.2.1)) (j + 1))) 1 (nI (j + 1)) := by
        intro z hz
        subst hz
        exact zbd_eq.trans (by rw [nI_1])
      cases e : zt cu.1.2.1 j with
      | false =>
        have hl0 : LV d (zt cu.1.2.1) j = 0 := (LV_alive h1 _ j).2 e
        refine (if_pos rfl).trans (zjp_eq.trans (zjp_eq.trans ((if_pos (by rw [hl0]; exact nI_0)).trans ((zob_eq (e_vec h hj (k := 1) (Nat.le_refl _) h1)).trans ?_))))
        rw [UU_dead e]
        refine (if_pos rfl).trans ((zob_eq (e_vec h hj (k := d) h1 (Nat.le_refl _))).trans ?_)
        rw [UU_dead e]
        exact (if_pos rfl).trans (hK 1 rfl)
      | true =>
        have hl1 : 1 ≤ LV d (zt cu.1.2.1) j := (LV_alive h1 _ j).1 e
        obtain ⟨f1, f2⟩ := lev_fix hd (zt cu.1.2.1) (v := j) (by omega) e
        refine (if_neg (by decide)).trans (zjp_eq.trans (zjp_eq.trans ((if_neg (nI_nle (by omega) (by have := hLd j; omega))).trans ((if_neg (nI_nlt (hLd j) (by omega))).trans ((zob_eq (e_vec h hj (k := 1) (Nat.le_refl _) h1)).trans ?_)))))
        rw [show UU d (zt cu.1.2.1) (1 - 1) j = true from e]
        refine (if_pos rfl).trans ?_
        have hLj := hLd j
        refine zl2_itF (LV d (zt cu.1.2.1) j) (fun _ => 1) (fun i => nI (i + 1)) (by omega) (fun K2 i hi => ?_) (fun K2 => (if_pos (nI_lt (by omega) (by omega))).trans (hK 1 rfl)) rfl rfl
        refine (if_neg (nI_nlt (by omega) (by omega))).trans ((if_neg (by decide)).trans ?_)
        refine zl2_itF d (fun m => nI (fb_ct (fun b => decide (LV d (zt cu.1.2.1) (j ^^^ 2 ^ b) < i + 1)) m)) (fun m => nI m) (by omega) (fun K3 m hm => ?_) (fun K3 => ?_) nI_0 nI_0
        · have hlm := hLd (j ^^^ 2 ^ m)
          refine (if_neg (nI_ge hm (by omega))).trans ?_
          rw [nb_nI j (show m < 31 by omega)]
          refine (zob_eq (e_level h (nb_lt hd hj hm))).trans (zjp_eq.trans ?_)
          rw [fb_ct_succ]
          rcases Nat.lt_or_ge (LV d (zt cu.1.2.1) (j ^^^ 2 ^ m)) (i + 1) with q | q
          · refine (if_neg (nI_ge q (by omega))).trans (zbd_eq.trans (zbd_eq.trans ?_))
            rw [nI_1, nI_1, if_pos (decide_eq_true q)]
          · refine (if_pos (nI_le q (by omega))).trans (zbd_eq.trans (zbd_eq.trans ?_))
            rw [nI_1, Int32.add_zero, if_neg (by rw [decide_eq_true_eq]; omega)]; rfl
        · have hc : fb_ct (fun b => decide (LV d (zt cu.1.2.1) (j ^^^ 2 ^ b) < i + 1)) d = cnL d (LV d (zt cu.1.2.1)) j (i + 1) := rfl
          have hcl : cnL d (LV d (zt cu.1.2.1)) j (i + 1) ≤ d := ct_le _ d
          refine (if_pos (nI_le (Nat.le_refl _) (by omega))).trans (zjp_eq.trans ?_)
          rcases Nat.lt_or_ge (i + 1) (LV d (zt cu.1.2.1) j) with q | q
          · refine (if_neg (nI_ge q (by omega))).trans ((if_neg ?_).trans (zbd_eq.trans (by rw [nI_1])))
            rw [hc]
            exact nI_nlt (f1 _ q) (by omega)
          · have hq : LV d (zt cu.1.2.1) j = i + 1 := by omega
            refine (if_pos (nI_le q (by omega))).trans (zjp_eq.trans ?_)
            by_cases hqd : LV d (zt cu.1.2.1) j = d
            · exact (if_pos (by rw [hqd])).trans (zbd_eq.trans (by rw [nI_1]))
            · refine (if_neg (fun z => hqd (nI_inj (by omega) (by omega) z))).trans ((if_neg ?_).trans (zbd_eq.trans (by rw [nI_1])))
              rw [hc]
              have := f2 (by omega)
              rw [hq] at this
              exact nI_ge this (by omega)
    by_cases hq : LV d (zt cu.1.2.1) j = d
    · refine (if_pos (by rw [hq])).trans (hfin 1 (by rw [if_pos (beq_iff_eq.mpr hq)]))
    · refine (if_neg (fun z => hq (nI_inj (by have := hLd j; omega) (by omega) z))).trans (hfin 0 (by rw [if_neg (by rw [beq_iff_eq]; exact hq)]))
  · exact zjp_eq.trans ((if_pos (by rw [p2_nI d (by omega)]; exact nI_le (Nat.le_refl _) (by omega))).trans (zjp_eq.trans ((if_neg (show ¬ (1 : Int32) = 0 by decide)).trans ((zob_eq (e_safe h)).trans (if_pos rfl)))))
end
