/-! the number of disjoint paths, on both sides -/
def Uk (d : Nat) (al : Nat → Bool) (s t : Nat) : Nat → Nat → Nat
  | 0 => fun _ => 0
  | k + 1 => nxU d al s t (Uk d al s t k)
def NP (d : Nat) (al : Nat → Bool) (s t : Nat) : Nat := zfst (fun k => !fnd d al s t (Uk d al s t k)) 7
section
variable {d s t : Nat} {al : Nat → Bool}
theorem fnd_ne {U : Nat → Nat} (h : fnd d al s t U = true) : (bs d U al s 128).2.1 (2 * t) ≠ none := fun e => by
  rw [fnd, cfS, e] at h
  cases h
theorem FI_0 (s t : Nat) : FI d s t (fun _ => 0) (fun _ => none) := by
  refine ⟨fun _ => p2_pos d, fun _ _ k k' _ _ h => ?_, rfl, rfl, rfl, fun u k _ _ _ => ⟨fun h => (by cases h), fun h => ?_⟩, fun _ _ h => (by cases h), fun _ _ _ _ => ⟨fun _ => rfl, fun _ => rfl⟩⟩
  · rw [Nat.zero_testBit] at h; cases h
  · rw [Nat.zero_testBit] at h; cases h
theorem Uk_ok (hd : d ≤ 6) (hs : s < 2 ^ d) (ht : t < 2 ^ d) (hst : s ≠ t) : ∀ k, (∀ j, j < k → fnd d al s t (Uk d al s t j) = true) → (∃ C, FI d s t (Uk d al s t k) C) ∧ fb_ct (fun b => (Uk d al s t k s).testBit b) d = k
  | 0, _ => ⟨⟨_, FI_0 s t⟩, fb_ct_zero.mpr fun b _ => Nat.zero_testBit b⟩
  | k + 1, h => by
    obtain ⟨⟨C, hF⟩, hct⟩ := Uk_ok hd hs ht hst k (fun j hj => h j (by omega))
    obtain ⟨-, hP⟩ := fnd_yes hd hs (fnd_ne (h k (by omega)))
    obtain ⟨D, hD⟩ := CN_ex (ph (cfS d al s (Uk d al s t k)) (2 * t)) (lnP d al s t (Uk d al s t k)) t C (fun v u u' => sA_one' hP)
    refine ⟨⟨D, FI_up hd hst ht hP hF hD⟩, ?_⟩
    have := ct_up hd hP hs
    rw [hct] at this
    exact this
theorem full_no {U : Nat → Nat} (hd : d ≤ 6) (hs : s < 2 ^ d) (h : fb_ct (fun b => (U s).testBit b) d = d) : fnd d al s t U = false := by
  have ha := fb_ct_all.mp h
  have e0 : ∀ n B, n ≤ d → exX U al s s n B = B := fun n => by
    induction n with
    | zero => exact fun _ _ => rfl
    | succ n ih =>
      intro B hn
      rw [exX, if_neg (fun q => by rw [ha n (by omega)] at q; exact absurd q.1 (by decide))]
      exact ih B (by omega)
  have e1 : bs d U al s 1 = bs d U al s 0 := by
    show (if 0 < (bs d U al s 0).1 then expd d U al s ((bs d U al s 0).2.2 0) (bs d U al s 0) else bs d U al s 0) = _
    rw [if_pos (show 0 < (bs d U al s 0).1 from Nat.one_pos), show (bs d U al s 0).2.2 0 = 2 * s + 1 from (show uN2 (fun _ => 0) 0 (2 * s + 1) 0 = 2 * s + 1 from if_pos rfl), expd, if_neg (by omega), show (2 * s + 1) / 2 = s by omega, expX, if_neg (fun q => q.1 rfl), e0 d _ (Nat.le_refl d)]
  refine fnd_no (i := 1) hd hs (by rw [e1]; exact Nat.le_refl 1) ?_
  rw [e1]
  exact if_neg (by omega)
theorem NP_lt {j : Nat} (h : j < NP d al s t) : fnd d al s t (Uk d al s t j) = true := by
  have := (zfst_spec (fun k => !fnd d al s t (Uk d al s t k)) 7).2.1 j h
  simpa using this
theorem NP_le (hd : d ≤ 6) (hs : s < 2 ^ d) (ht : t < 2 ^ d) (hst : s ≠ t) : NP d al s t ≤ 6 := by
  have h7 := (zfst_spec (fun k => !fnd d al s t (Uk d al s t k)) 7).1
  refine Classical.byContradiction fun hn => ?_
  have h6 : 6 < NP d al s t := by unfold NP at *; omega
  obtain ⟨-, hct⟩ := Uk_ok (al := al) hd hs ht hst 6 (fun j hj => NP_lt (by omega))
  have := ct_le (fun b => (Uk d al s t 6 s).testBit b) d
  have hd6 : d = 6 := by omega
  have e := full_no (al := al) (t := t) (U := Uk d al s t 6) hd hs (by rw [hct, hd6])
  rw [NP_lt h6] at e
  cases e
theorem NP_end (hd : d ≤ 6) (hs : s < 2 ^ d) (ht : t < 2 ^ d) (hst : s ≠ t) : fnd d al s t (Uk d al s t (NP d al s t)) = false := by
  have h6 := NP_le (al := al) hd hs ht hst
  have := (zfst_spec (fun k => !fnd d al s t (Uk d al s t k)) 7).2.2 (by unfold NP at h6; omega)
  unfold NP
  simpa using this
theorem NP_more (hd : d ≤ 6) (hs : s < 2 ^ d) (ht : t < 2 ^ d) (hst : s ≠ t) {k : Nat} (hk : k ≤ NP d al s t) (h : fnd d al s t (Uk d al s t k) = true) : k < NP d al s t := by
  rcases Nat.lt_or_ge k (NP d al s t) with q | q
  · exact q
  · have e : k = NP d al s t := by omega
    rw [e, NP_end hd hs ht hst] at h
    cases h
theorem NP_done {k : Nat} (hk : k ≤ NP d al s t) (h : fnd d al s t (Uk d al s t k) = false) : k = NP d al s t := by
  rcases Nat.lt_or_ge k (NP d al s t) with q | q
  · rw [NP_lt q] at h; cases h
  · omega
end
theorem s_largestP {d s t : Nat} {a : Int64} (hd : d ≤ 6) (hs : s < 2 ^ d) (ht : t < 2 ^ d) (hst : s ≠ t) (x1 x2 x3 x4 : Int32) (x5 : Int64) (lv cf q : Nat → Int32) :
    wp (f_X1_largest (nI s) (nI t) (nI d) a x1 x2 x3 x4 x5 lv cf q) (fun r => r.1 = nI (NP d (zt a) s t)) := by
  have hN6 := NP_le (al := zt a) hd hs ht hst
  obtain ⟨l0, e0, hl0⟩ := s_fillI (n := 64) 0 lv (by decide)
  refine wp_ob e0 ?_
  refine zl6_wp (fun i6 i7 _ lv _ _ => ∃ k, k ≤ NP d (zt a) s t ∧ i6 = nI k ∧ i7 = nI k ∧ CL d lv (Uk d (zt a) s t k)) (fun _ i7 _ _ _ _ => 100 - i7.toNatClampNeg) (fun K i6 i7 m lv cf q hI ih => ?_) 0 0 x1 l0 cf q ⟨0, Nat.zero_le _, rfl, rfl, hl0, fun _ => p2_pos d⟩ (by decide)
  obtain ⟨k, hk, rfl, rfl, hC⟩ := hI
  by_cases h6 : k = 6
  · refine wp_t (show nI 6 ≤ nI k from nI_le (by omega) (by omega)) (wp_some ?_)
    exact congrArg nI (show k = NP d (zt a) s t by omega)
  · refine wp_f (show ¬ nI 6 ≤ nI k from nI_ge (by omega) (by decide)) (wp_obW (s_findsPath hd hs ht hC) (fun r hr => ?_))
    rcases hr with ⟨r0, i, hi, hCB⟩ | ⟨r0, i, hi, hn⟩
    · obtain ⟨hf, hP⟩ := fnd_yes hd hs hi
      have hlt := NP_more hd hs ht hst hk hf
      refine wp_f (by rw [r0]; decide) (wp_obW (s_addPath hd hs hC hP hCB.2.1) (fun u hu => wp_bd (wp_bd ?_)))
      rw [nI_1]
      exact ih _ _ _ _ _ _ ⟨k + 1, hlt, rfl, rfl, hu⟩ (by rw [nI_clamp (by omega), nI_clamp (by omega)]; omega)
    · refine wp_t r0 (wp_some ?_)
      rw [NP_done hk (fnd_no hd hs hi hn)]
theorem m_fillCG {R : Type} (f g : Nat → Int32) (Y : (Nat → Int32) → (Nat → Int32) → Option R) : zl3 (R := R) (fun k26 (i3_26 : Int32) (c_26 : Nat → Int32) (g_26 : Nat → Int32) => if (64 : Int32) ≤ i3_26 then Y c_26 g_26 else zbd (-1 : Int32) (fun x6 => zgd (inb i3_26 64) (zbd (upd c_26 i3_26.toNatClampNeg x6) (fun y8 => zbd (-1 : Int32) (fun x9 => zgd (inb i3_26 64) (zbd (upd g_26 i3_26.toNatClampNeg x9) (fun y11 => zbd (i3_26 + 1) (fun x12 => k26 x12 y8 y11)))))))) zfu 0 f g = Y (zp f (fun _ => -1) 64) (zp g (fun _ => -1) 64) := by
  refine zl3_iter 64 (fun j => nI j) (fun j => zp f (fun _ => -1) j) (fun j => zp g (fun _ => -1) j) (by decide) (fun K j hj => ?_) (fun K => if_pos (by decide)) nI_0 (zp_0 _ _) (zp_0 _ _)
  refine (if_neg (nI_ge (show j < 64 from hj) (by decide))).trans (zbd_eq.trans ((zgd_eq (inb_nI hj (by decide))).trans (zbd_eq.trans (zbd_eq.trans ((zgd_eq (inb_nI hj (by decide))).trans (zbd_eq.trans (zbd_eq.trans ?_)))))))
  rw [nI_1, nI_clamp (by omega), zp_succ f (fun _ => -1) j, zp_succ g (fun _ => -1) j]
theorem m_disjoint {c comes goes cm hv way : Nat → Int32} {d s t : Nat} {al : Nat → Bool} {r hm : Int32} (hM : MN c d al) (hs : s < 2 ^ d) (ht : t < 2 ^ d) (hst : s ≠ t) (hbar : f_X7_barOf (nI s) (nI t) c = some 0) :
    wp (f_X7_disjointPaths (nI s) (nI t) r hm c comes goes cm hv way) (fun w => w.1 = nI (NP d al s t) ∧ w.2.1 = 0) := by
  obtain ⟨hd1, hd, hc0, hcc⟩ := id hM
  have h6 := p2_le hd
  have hN6 := NP_le (al := al) hd hs ht hst
  refine wp_jp (wp_f (fun z => hst (nI_inj (by omega) (by omega) z)) (wp_ob hbar (wp_ob (m_refused0 r) (wp_t rfl ?_))))
  refine wp_of_eq (m_fillCG comes goes _) ?_
  have hG0 : GR d s t (fun _ => 0) (fun _ => none) false (zp goes (fun _ => -1) 64) (zp comes (fun _ => -1) 64) := by
    refine ⟨zp_in _ _ (by omega), fun u hu _ _ => zp_in _ _ (by omega), fun u k _ _ _ h => ?_, fun v hv => zp_in _ _ (by omega), fun k _ _ => (Nat.zero_testBit k).symm⟩
    rw [Nat.zero_testBit] at h; cases h
  refine zl8_wp (fun i3 i4 _ comes goes _ _ _ => ∃ k C dir, k ≤ NP d al s t ∧ i4 = nI k ∧ i3 = bI dir ∧ FI d s t (Uk d al s t k) C ∧ GR d s t (Uk d al s t k) C dir goes comes) (fun _ i4 _ _ _ _ _ _ => 100 - i4.toNatClampNeg) (fun K i3 i4 hm comes goes cm hv way hI ih => ?_) 0 0 hm _ _ cm hv way ⟨0, _, false, Nat.zero_le _, rfl, rfl, FI_0 s t, hG0⟩ (by decide)
  obtain ⟨k, C, dir, hk, rfl, rfl, hF, hG⟩ := hI
  refine wp_obW (m_searches hM hs ht hst hF hG) (fun u hu => ?_)
  rcases hu with ⟨r0, i, hi, hCM⟩ | ⟨r0, i, hi, hn⟩
  · obtain ⟨hf, hP⟩ := fnd_yes hd hs hi
    have hlt := NP_more hd hs ht hst hk hf
    obtain ⟨D, hD⟩ := CN_ex (ph (cfS d al s (Uk d al s t k)) (2 * t)) (lnP d al s t (Uk d al s t k)) t C (fun v u u' => sA_one' hP)
    have hF' := FI_up hd hst ht hP hF hD
    refine wp_f (by rw [r0]; decide) (wp_bd (wp_jp (wp_jp ?_)))
    have hm0 := h_end hP
    have ecm : u.2.2.1 (nI t : Int32).toNatClampNeg = nI (MC (ph (cfS d al s (Uk d al s t k)) (2 * t) 1)) := by
      have e := (hP.2.2.2.1 0 hm0).2.2
      rw [ph_0] at e
      have e2 := hCM.2.1 (2 * t) (by omega)
      rw [MC_e, e] at e2
      rw [nI_clamp (by omega)]
      exact e2
    have hh1 : ph (cfS d al s (Uk d al s t k)) (2 * t) 1 < 128 := by
      have := hP.2.2.2.2.1 1 hm0
      omega
    have es : (64 : Int32) + nI s = nI (MC (2 * s + 1)) := by rw [MC_x]; exact nI_add 64 s
    have go : ∀ x : Int32, x = bI (dir || decide (ph (cfS d al s (Uk d al s t k)) (2 * t) 1 = 2 * s + 1)) → wp (zob (f_X7_turns (nI s) (nI t) comes goes u.2.2.1 way) (fun u4 => K x (nI k + 1) u.2.1 u4.1 u4.2.1 u.2.2.1 u.2.2.2 u4.2.2)) (fun w => w.1 = nI (NP d al s t) ∧ w.2.1 = 0) := fun x hx => by
      refine wp_obW (m_turns hd hs ht hF hG hP hCM.2.1) (fun u4 hu4 => ?_)
      obtain ⟨g1, c1, hT1, hT2⟩ := hu4
      rw [nI_1]
      exact ih _ _ _ _ _ _ _ _ ⟨k + 1, D, _, hlt, rfl, hx, hF', GR_up hd hst hs ht hP hF hD hG hT1 hT2⟩ (by rw [nI_clamp (by omega), nI_clamp (by omega)]; omega)
    cases dir with
    | true => exact wp_f (by decide) (go 1 rfl)
    | false =>
      refine wp_t rfl (wp_gd (inb_nI (by omega) (by decide)) ?_)
      rw [ecm, es]
      have h1 := MC_lt hh1
      have h2 := MC_lt (x := 2 * s + 1) (by omega)
      by_cases q : ph (cfS d al s (Uk d al s t k)) (2 * t) 1 = 2 * s + 1
      · exact wp_t (by rw [q]) (go 1 (by rw [decide_eq_true q]; rfl))
      · exact wp_f (fun z => q (MC_inj hh1 (by omega) (nI_inj (by omega) (by omega) z))) (go 0 (by rw [decide_eq_false q]; rfl))
  · refine wp_t r0 (wp_some ⟨?_, rfl⟩)
    rw [NP_done hk (fnd_no hd hs hi hn)]
