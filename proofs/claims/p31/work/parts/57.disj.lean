/-! the number of disjoint paths, on both sides -/
def Uk (d : Nat) (al : Nat → Bool) (s t : Nat) : Nat → Nat → Nat
  | 0 => fun _ => 0
  | k + 1 => nxU d al s t (Uk d al s t k)
def NP (d : Nat) (al : Nat → Bool) (s t : Nat) : Nat := zfst (fun k => !fnd d al s t (Uk d al s t k)) 7
section
variable {d s t : Nat} {al : Nat → Bool}
theorem fnd_ne {U : Nat → Nat} (h : fnd d al s t U = true) : (bs d U al s 128).2.1 (2 * t) ≠ none := fun e => by
  rw [fnd, cfS, e] at h
  cases h
theorem FI_0 (s t : Nat) : FI d s t (fun _ => 0) (fun _ => none) := by
  refine ⟨fun _ => p2_pos d, fun _ _ k k' _ _ h => ?_, rfl, rfl, rfl, fun u k _ _ _ => ⟨fun h => (by cases h), fun h => ?_⟩, fun _ _ h => (by cases h), fun _ _ _ _ => ⟨fun _ => rfl, fun _ => rfl⟩⟩
  · rw [Nat.zero_testBit] at h; cases h
  · rw [Nat.zero_testBit] at h; cases h
theorem Uk_ok (hd : d ≤ 6) (hs : s < 2 ^ d) (ht : t < 2 ^ d) (hst : s ≠ t) : ∀ k, (∀ j, j < k → fnd d al s t (Uk d al s t j) = true) → (∃ C, FI d s t (Uk d al s t k) C) ∧ fb_ct (fun b => (Uk d al s t k s).testBit b) d = k
  | 0, _ => ⟨⟨_, FI_0 s t⟩, fb_ct_zero.mpr fun b _ => Nat.zero_testBit b⟩
  | k + 1, h => by
    obtain ⟨⟨C, hF⟩, hct⟩ := Uk_ok hd hs ht hst k (fun j hj => h j (by omega))
    obtain ⟨-, hP⟩ := fnd_yes hd hs (fnd_ne (h k (by omega)))
    obtain ⟨D, hD⟩ := CN_ex (ph (cfS d al s (Uk d al s t k)) (2 * t)) (lnP d al s t (Uk d al s t k)) t C (fun v u u' => sA_one' hP)
    refine ⟨⟨D, FI_up hd hst ht hP hF hD⟩, ?_⟩
    have := ct_up hd hP hs
    rw [hct] at this
    exact this
theorem full_no {U : Nat → Nat} (hd : d ≤ 6) (hs : s < 2 ^ d) (h : fb_ct (fun b => (U s).testBit b) d = d) : fnd d al s t U = false := by
  have ha := fb_ct_all.mp h
  have e0 : ∀ n B, n ≤ d → exX U al s s n B = B := fun n => by
    induction n with
    | zero => exact fun _ _ => rfl
    | succ n ih =>
      intro B hn
      rw [exX, if_neg (fun q => by rw [ha n (by omega)] at q; exact absurd q.1 (by decide))]
      exact ih B (by omega)
  have e1 : bs d U al s 1 = bs d U al s 0 := by
    show (if 0 < (bs d U al s 0).1 then expd d U al s ((bs d U al s 0).2.2 0) (bs d U al s 0) else bs d U al s 0) = _
    rw [if_pos (show 0 < (bs d U al s 0).1 from Nat.one_pos), show (bs d U al s 0).2.2 0 = 2 * s + 1 from (show uN2 (fun _ => 0) 0 (2 * s + 1) 0 = 2 * s + 1 from if_pos rfl), expd, if_neg (by omega), show (2 * s + 1) / 2 = s by omega, expX, if_neg (fun q => q.1 rfl), e0 d _ (Nat.le_refl d)]
  refine fnd_no (i := 1) hd hs (by rw [e1]; exact Nat.le_refl 1) ?_
  rw [e1]
  exact if_neg (by omega)
theorem NP_lt {j : Nat} (h : j < NP d al s t) : fnd d al s t (Uk d al s t j) = true := by
  have := (zfst_spec (fun k => !fnd d al s t (Uk d al s t k)) 7).2.1 j h
  simpa using this
theorem NP_le (hd : d ≤ 6) (hs : s < 2 ^ d) (ht : t < 2 ^ d) (hst : s ≠ t) : NP d al s t ≤ 6 := by
  have h7 := (zfst_spec (fun k => !fnd d al s t (Uk d al s t k)) 7).1
  refine Classical.byContradiction fun hn => ?_
  have h6 : 6 < NP d al s t := by unfold NP at *; omega
  obtain ⟨-, hct⟩ := Uk_ok (al := al) hd hs ht hst 6 (fun j hj => NP_lt (by omega))
  have := ct_le (fun b => (Uk d al s t 6 s).testBit b) d
  have hd6 : d = 6 := by omega
  have e := full_no (al := al) (t := t) (U := Uk d al s t 6) hd hs (by rw [hct, hd6])
  rw [NP_lt h6] at e
  cases e
theorem NP_end (hd : d ≤ 6) (hs : s < 2 ^ d) (ht : t < 2 ^ d) (hst : s ≠ t) : fnd d al s t (Uk d al s t (NP d al s t)) = false := by
  have h6 := NP_le (al := al) hd hs ht hst
  have := (zfst_spec (fun k => !fnd d al s t (Uk d al s t k)) 7).2.2 (by unfold NP at h6; omega)
  unfold NP
  simpa using this
theorem NP_more (hd : d ≤ 6) (hs : s < 2 ^ d) (ht : t < 2 ^ d) (hst : s ≠ t) {k : Nat} (hk : k ≤ NP d al s t) (h : fnd d al s t (Uk d al s t k) = true) : k < NP d al s t := by
  rcases Nat.lt_or_ge k (NP d al s t) with q | q
  · exact q
  · have e : k = NP d al s t := by omega
    rw [e, NP_end hd hs ht hst] at h
    cases h
theorem NP_done {k : Nat} (hk : k ≤ NP d al s t) (h : fnd d al s t (Uk d al s t k) = false) : k = NP d al s t := by
  rcases Nat.lt_or_ge k (NP d al s t) with q | q
  · rw [NP_lt q] at h; cases h
  · omega
end
theorem s_largestP {d s t : Nat} {a : Int64} (hd : d ≤ 6) (hs : s < 2 ^ d) (ht : t < 2 ^ d) (hst : s ≠ t) (x1 x2 x3 x4 : Int32) (x5 : Int64) (lv cf q : Nat → Int32) :
    wp (f_X1_largest (nI s) (nI t) (nI d) a x1 x2 x3 x4 x5 lv cf q) (fun r => r.1 = nI (NP d (zt a) s t)) := by
  have hN6 := NP_le (al := zt a) hd hs ht hst
  obtain ⟨l0, e0, hl0⟩ := s_fillI (n := 64) 0 lv (by decide)
  refine wp_ob e0 ?_
  refine zl6_wp (fun i6 i7 _ lv _ _ => ∃ k, k ≤ NP d (zt a) s t ∧ i6 = nI k ∧ i7 = nI k ∧ CL d lv (Uk d (zt a) s t k)) (fun _ i7 _ _ _ _ => 100 - i7.toNatClampNeg) (fun K i6 i7 m lv cf q hI ih => ?_) 0 0 x1 l0 cf q ⟨0, Nat.zero_le _, rfl, rfl, hl0, fun _ => p2_pos d⟩ (by decide)
  obtain ⟨k, hk, rfl, rfl, hC⟩ := hI
  by_cases h6 : k = 6
  · refine wp_t (show nI 6 ≤ nI k from nI_le (by omega) (by omega)) (wp_some ?_)
    exact congrArg nI (show k = NP d (zt a) s t by omega)
  · refine wp_f (show ¬ nI 6 ≤ nI k from nI_ge (by omega) (by decide)) (wp_obW (s_findsPath hd hs ht hC) (fun r hr => ?_))
    rcases hr with ⟨r0, i, hi, hCB⟩ | ⟨r0, i, hi, hn⟩
    · obtain ⟨hf, hP⟩ := fnd_yes hd hs hi
      have hlt := NP_more hd hs ht hst hk hf
      refine wp_f (by rw [r0]; decide) (wp_obW (s_addPath hd hs hC hP hCB.2.1) (fun u hu => wp_bd (wp_bd ?_)))
      rw [nI_1]
      exact ih _ _ _ _ _ _ ⟨k + 1, hlt, rfl, rfl, hu⟩ (by rw [nI_clamp (by omega), nI_clamp (by omega)]; omega)
    · refine wp_t r0 (wp_some ?_)
      rw [NP_done hk (fnd_no hd hs hi hn)]
theorem m_fillCG {R : Type} (f g : Nat → Int32) (Y : (Nat → Int32) → (Nat → Int32) → Option R) : zl3 (R := R) (fun k26 (i3_26 : Int32) (c_26 : Nat → Int32) (g_26 : Nat → Int32) => if (64 : Int32) ≤ i3_26 then Y c_26 g_26 else zbd (-1 : Int32) (fun x6 => zgd (inb i3_26 64) (zbd (upd c_26 i3_26.toNatClampNeg x6) (fun y8 => zbd (-1 : Int32) (fun x9 => zgd (inb i3_26 64) (zbd (upd g_26 i3_26.toNatClampNeg x9) (fun y11 => zbd (i3_26 + 1) (fun x12 => k26 x12 y8 y11)))))))) zfu 0 f g = Y (zp f (fun _ => -1) 64) (zp g (fun _ => -1) 64) := by
  refine zl3_iter 64 (fun j => nI j) (fun j => zp f (fun _ => -1) j) (fun j => zp g (fun _ => -1) j) (by decide) (fun K j hj => ?_) (fun K => if_pos (by decide)) nI_0 (zp_0 _ _) (zp_0 _ _)
  refine (if_neg (nI_ge (show j < 64 from hj) (by decide))).trans (zbd_eq.trans ((zgd_eq (inb_nI hj (by decide))).trans (zbd_eq.trans (zbd_eq.trans ((zgd_eq (inb_nI hj (by decide))).trans (zbd_eq.trans (zbd_eq.trans ?_)))))))
  rw [nI_1, nI_clamp (by omega), zp_succ f (fun _ => -1) j, zp_succ g (fun _ => -1) j]