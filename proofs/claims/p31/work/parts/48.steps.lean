/-! many steps -/
abbrev QS : Type := (Nat → Int32) × (Nat → Int32) × (Nat → Int32) × (Nat → Int32)
def csN (d n : Nat) (L : Nat → Nat) (al : Nat → Bool) (go : Nat → Int32) : Nat → QS → Nat × QS
  | 0, T => (0, T)
  | k + 1, T => ((csN d n L al go k T).1 + (cit d L al go n (0, fun _ => 0, (csN d n L al go k T).2)).1, (cit d L al go n (0, fun _ => 0, (csN d n L al go k T).2)).2.2)
def VQ (d n : Nat) (go : Nat → Int32) (T : QS) : Prop := ∀ i, i < n → ∃ p g, p < 2 ^ d ∧ g < 2 ^ d ∧ T.2.1 i = nI p ∧ go i = nI g
theorem VQ_N {d n : Nat} {L : Nat → Nat} {al : Nat → Bool} {go : Nat → Int32} {T : QS} (hd : d ≤ 6) (h : VQ d n go T) : ∀ k, VQ d n go (csN d n L al go k T).2
  | 0 => h
  | k + 1 => (VC_it (S := (0, fun _ => 0, (csN d n L al go k T).2)) hd ⟨fun _ => (by decide : 0 < 64), VQ_N hd h k⟩ n (Nat.le_refl n)).2
theorem stp_1 (s : Int32) (k : Nat) : s + nI k + 1 = s + nI (k + 1) := by rw [Int32.add_assoc, nI_1]
theorem s_steps {R : Type} {Q : R → Prop} {d n N : Nat} {al : Nat → Bool} {go f uw : Nat → Int32} {T : QS} {stp : Int32} (Y : Int32 → Int32 → (Nat → Int32) → (Nat → Int32) → (Nat → Int32) → (Nat → Int32) → (Nat → Int32) → Option R)
    (hd1 : 1 ≤ d) (hd : d ≤ 6) (hn : n ≤ 24) (hN : N ≤ 20) (h : VQ d n go T) (hf : ∀ w, w < 64 → f w = nI (LV d al w))
    (hY : ∀ uw, wp (Y (nI (csN d n (LV d al) al go N T).1) (stp + nI N) (csN d n (LV d al) al go N T).2.1 (csN d n (LV d al) al go N T).2.2.1 (csN d n (LV d al) al go N T).2.2.2.1 (csN d n (LV d al) al go N T).2.2.2.2 uw) Q) :
    wp (zl8 (R := R) (fun k36 (i2 : Int32) (i3 : Int32) (sp : Int32) (st : Nat → Int32) (po : Nat → Int32) (mv : Nat → Int32) (de : Nat → Int32) (uw : Nat → Int32) =>
if (nI N : Int32) ≤ i3 then (Y i2 sp st po mv de uw) else (
zob (f_X4_oneStep uw sp (nI n) st po go mv de (nI d) f) (fun u2 =>
zbd (A := Int32) (i2 + u2.1) (fun x3 =>
zbd (A := Int32) (i3 + 1) (fun x4 =>
k36 x3 x4 u2.2.2.1 u2.2.2.2.1 u2.2.2.2.2.1 u2.2.2.2.2.2.1 u2.2.2.2.2.2.2 u2.2.1))))) zfu 0 0 stp T.1 T.2.1 T.2.2.1 T.2.2.2 uw) Q := by
  refine zl8_wp (fun i2 i3 sp st po mv de _ => ∃ k, k ≤ N ∧ i3 = nI k ∧ i2 = nI (csN d n (LV d al) al go k T).1 ∧ sp = stp + nI k ∧ (st, po, mv, de) = (csN d n (LV d al) al go k T).2) (fun _ i3 _ _ _ _ _ _ => 100 - i3.toNatClampNeg) (fun K i2 i3 sp st po mv de uw hI ih => ?_) 0 0 stp T.1 T.2.1 T.2.2.1 T.2.2.2 uw ⟨0, Nat.zero_le N, rfl, rfl, (Int32.add_zero stp).symm, rfl⟩ (by decide)
  obtain ⟨k, hk, rfl, rfl, rfl, he⟩ := hI
  have hV := VQ_N (L := LV d al) (al := al) hd h k
  generalize hC : csN d n (LV d al) al go k T = C at *
  obtain ⟨rfl, rfl, rfl, rfl⟩ : st = C.2.1 ∧ po = C.2.2.1 ∧ mv = C.2.2.2.1 ∧ de = C.2.2.2.2 := by
    obtain ⟨c0, c1, c2, c3, c4⟩ := C
    simp only [Prod.mk.injEq] at he
    exact he
  by_cases hkN : k < N
  · refine wp_f (nI_ge hkN (by omega)) (wp_obW (s_oneStep hd1 hd hn hV hf) (fun r hr => wp_bd (wp_bd ?_)))
    obtain ⟨r1, r2, r3⟩ := hr
    rw [r1, r2, nI_add, nI_1, stp_1]
    have es : csN d n (LV d al) al go (k + 1) T = (C.1 + (cit d (LV d al) al go n (0, fun _ => 0, C.2)).1, (cit d (LV d al) al go n (0, fun _ => 0, C.2)).2.2) := by rw [csN, hC]
    exact ih _ _ _ _ _ _ _ _ ⟨k + 1, hkN, rfl, by rw [es], rfl, by rw [es]; exact r3⟩ (by rw [nI_clamp (by omega), nI_clamp (by omega)]; omega)
  · have : k = N := by omega
    subst this
    refine wp_t (nI_le (Nat.le_refl _) (by omega)) ?_
    rw [hC] at hY
    exact hY uw
theorem m_used0 {R : Type} (f : Nat → Int32) (Y : (Nat → Int32) → Option R) : zl2 (R := R) (fun k45 (i4_45 : Int32) (c_45 : Nat → Int32) => if (4096 : Int32) ≤ i4_45 then Y c_45 else zgd (inb i4_45 4096) (zbd (upd c_45 i4_45.toNatClampNeg (vp_nar .boolean 0)) (fun y16 => zbd (i4_45 + 1) (fun x17 => k45 x17 y16)))) zfu 0 f = Y (zp f (fun _ => 0) 4096) := by
  refine zl2_iter 4096 (fun j => nI j) (fun j => zp f (fun _ => 0) j) (by decide) (fun K j hj => ?_) (fun K => if_pos (by decide)) nI_0 (zp_0 _ _)
  refine (if_neg (nI_ge (show j < 4096 from hj) (by decide))).trans ((zgd_eq (inb_nI hj (by decide))).trans (zbd_eq.trans (zbd_eq.trans ?_)))
  rw [nI_1, nI_clamp (by omega), show (vp_nar .boolean 0) = (fun _ => (0 : Int32)) j from rfl, zp_succ f (fun _ => 0) j]
theorem RN_tick {s : Sl} {c : Nat → Int32} (h : RN s c) : RN (s.1, s.2.1, s.2.2.1 + 1, s.2.2.2) (upd c 1 (c 1 + 1)) := by
  obtain ⟨d, n, hd1, hd, hn, h1, h2, h3, h4, h5, h6, h7, h8⟩ := h
  have h64 := p2_le hd
  have ho : ∀ i, i ≠ 1 → upd c 1 (c 1 + 1) i = c i := fun i hi => if_neg hi
  refine ⟨d, n, hd1, hd, hn, h1, (ho 0 (by decide)).trans h2, fun v hv => by rw [ho _ (by omega)]; exact h3 v hv, h4, ?_, h6, (ho 2 (by decide)).trans h7, fun i hi => ?_⟩
  · show s.2.2.1 + 1 = upd c 1 (c 1 + 1) 1
    rw [upd, if_pos rfl, h5]
  · have := h8 i hi
    unfold RM at *
    rw [ho _ (by omega), ho _ (by omega), ho _ (by omega), ho _ (by omega), ho _ (by omega)]
    exact this
theorem RN_2 {d n : Nat} {a : Int64} {stp : Int32} {go e : Nat → Int32} {T : QS} (hn : n ≤ 24) (h : RN (stS d n a stp go T) e) : e 2 = nI n := by
  obtain ⟨d', n', e1, e2, hM, ha, hB, hR⟩ := RN_MN h
  exact hB.1.trans (Eq.symm e2)
theorem RN_VQ {d n : Nat} {a : Int64} {stp : Int32} {go e : Nat → Int32} {T : QS} (hd : d ≤ 6) (hn : n ≤ 24) (h : RN (stS d n a stp go T) e) : VQ d n go T := by
  obtain ⟨d', n', e1, e2, hM, ha, hB, hR⟩ := RN_MN h
  have : d = d' := nI_inj (by omega) (by have := hB.2.2.1; omega) e1
  subst this
  have : n = n' := nI_inj (by omega) (by have := hB.2.1; omega) e2
  subst this
  intro i hi
  obtain ⟨a1, a2, a3, a4, a5, p, g, hp, hg, c1, c2⟩ := hR i hi
  exact ⟨p, g, hp, hg, a2.trans c1, a3.trans c2⟩
theorem RN_st {d n i : Nat} {a : Int64} {stp : Int32} {go e : Nat → Int32} {T : QS} (hn : n ≤ 24) (hi : i < n) (h : RN (stS d n a stp go T) e) : T.1 i = e (67 + 5 * i) := by
  obtain ⟨d', n', e1, e2, hM, ha, hB, hR⟩ := RN_MN h
  have : n = n' := nI_inj (by omega) (by have := hB.2.1; omega) e2
  subst this
  exact (hR i hi).1