/-! the ring of saved situations and the rows of the reference -/
def RM (d : Nat) (s : Sl) (c : Nat → Int32) (i : Nat) : Prop :=
  s.2.2.2.2.1 i = c (67 + 5 * i) ∧ s.2.2.2.2.2.1 i = c (68 + 5 * i) ∧ s.2.2.2.2.2.2.1 i = c (69 + 5 * i) ∧ s.2.2.2.2.2.2.2.1 i = c (70 + 5 * i) ∧ s.2.2.2.2.2.2.2.2 i = c (71 + 5 * i) ∧
  ∃ p g, p < 2 ^ d ∧ g < 2 ^ d ∧ c (68 + 5 * i) = nI p ∧ c (69 + 5 * i) = nI g
def RN (s : Sl) (c : Nat → Int32) : Prop := ∃ d n, 1 ≤ d ∧ d ≤ 6 ∧ n ≤ 24 ∧ s.1 = nI d ∧ c 0 = nI d ∧ (∀ v, v < 2 ^ d → c (3 + v) = bI (!zt s.2.1 v)) ∧ (∀ v, 2 ^ d ≤ v → zt s.2.1 v = false) ∧
  s.2.2.1 = c 1 ∧ s.2.2.2.1 = nI n ∧ c 2 = nI n ∧ ∀ i, i < n → RM d s c i
def sEq (s t : Sl) : Prop := s.1 = t.1 ∧ s.2.1 = t.2.1 ∧ s.2.2.1 = t.2.2.1 ∧ s.2.2.2.1 = t.2.2.2.1 ∧ ∀ i, i < 24 → s.2.2.2.2.1 i = t.2.2.2.2.1 i ∧ s.2.2.2.2.2.1 i = t.2.2.2.2.2.1 i ∧ s.2.2.2.2.2.2.1 i = t.2.2.2.2.2.2.1 i ∧ s.2.2.2.2.2.2.2.1 i = t.2.2.2.2.2.2.2.1 i ∧ s.2.2.2.2.2.2.2.2 i = t.2.2.2.2.2.2.2.2 i
theorem RN_cong {s t : Sl} {c e : Nat → Int32} (h : RN s c) (hs : sEq t s) (hc : ∀ i, i < 187 → e i = c i) : RN t e := by
  obtain ⟨d, n, hd1, hd, hn, h1, h2, h3, h4, h5, h6, h7, h8⟩ := h
  obtain ⟨s1, s2, s3, s4, s5⟩ := hs
  have h64 := p2_le hd
  refine ⟨d, n, hd1, hd, hn, s1.trans h1, (hc 0 (by decide)).trans h2, fun v hv => ?_, fun v hv => ?_, ?_, s4.trans h6, (hc 2 (by decide)).trans h7, fun i hi => ?_⟩
  · rw [s2, hc _ (by omega)]; exact h3 v hv
  · rw [s2]; exact h4 v hv
  · rw [s3, hc 1 (by decide)]; exact h5
  · obtain ⟨a1, a2, a3, a4, a5, a6⟩ := h8 i hi
    obtain ⟨b1, b2, b3, b4, b5⟩ := s5 i (by omega)
    unfold RM
    rw [b1, b2, b3, b4, b5, hc _ (by omega), hc _ (by omega), hc _ (by omega), hc _ (by omega), hc _ (by omega)]
    exact ⟨a1, a2, a3, a4, a5, a6⟩
def pk (s0 s1 s2 s3 : Sl) : Nat → Sl
  | 0 => s0 | 1 => s1 | 2 => s2 | _ => s3
def PA (nx sz : Int32) (s0 s1 s2 s3 : Sl) (sv : Int32) (past : Nat → Int32) : Prop := ∃ k z, k < 4 ∧ z ≤ 4 ∧ nx = nI k ∧ sz = nI z ∧ sv = nI z ∧ ∀ j, j < z → RN (pk s0 s1 s2 s3 ((k + 4 - z + j) % 4)) (fun i => past (187 * j + i))
def zs (f g : Nat → Int32) (b n : Nat) : Nat → Int32 := fun i => if b ≤ i ∧ i < b + n then g (i - b) else f i
theorem zs_0 (f g : Nat → Int32) (b : Nat) : zs f g b 0 = f := by
  funext i
  exact if_neg (by omega)
theorem zs_in (f g : Nat → Int32) {b n i : Nat} (h : i < n) : zs f g b n (b + i) = g i := by
  unfold zs
  rw [if_pos ⟨by omega, by omega⟩, show b + i - b = i by omega]
theorem zs_out (f g : Nat → Int32) {b n i : Nat} (h : i < b ∨ b + n ≤ i) : zs f g b n i = f i := if_neg (by omega)
theorem zs_succ (f g : Nat → Int32) (b n : Nat) : upd (zs f g b n) (b + n) (g n) = zs f g b (n + 1) := by
  funext v
  simp only [upd, zs]
  by_cases h : v = b + n
  · subst h; simp
  · by_cases h2 : b ≤ v ∧ v < b + n
    · simp [h, h2, show v < b + (n + 1) by omega]
    · simp only [if_neg h, if_neg h2]
      exact (if_neg (by omega)).symm
theorem nI_inj {a b : Nat} (ha : a < 2 ^ 31) (hb : b < 2 ^ 31) (h : nI a = nI b) : a = b := by
  have := congrArg Int32.toInt h
  rw [nI_toInt ha, nI_toInt hb] at this
  omega
theorem nI_mul (a b : Nat) : nI a * nI b = nI (a * b) := (Int32.ofNat_mul a b).symm
theorem cpy24 (f lb : Nat → Int32) {w : Nat} (hw : w < 24) : va_cpy f lb (0 : Int32).toNatClampNeg (0 : Int32).toNatClampNeg (24 : Int32).toNatClampNeg w = f w := by
  show (if 0 ≤ w ∧ w < 0 + 24 then f (0 + (w - 0)) else lb w) = f w
  rw [if_pos ⟨by omega, by omega⟩]
  simp
def cpS (s n : Sl) : Sl := (n.1, n.2.1, n.2.2.1, n.2.2.2.1, va_cpy n.2.2.2.2.1 s.2.2.2.2.1 (0 : Int32).toNatClampNeg (0 : Int32).toNatClampNeg (24 : Int32).toNatClampNeg, va_cpy n.2.2.2.2.2.1 s.2.2.2.2.2.1 (0 : Int32).toNatClampNeg (0 : Int32).toNatClampNeg (24 : Int32).toNatClampNeg, va_cpy n.2.2.2.2.2.2.1 s.2.2.2.2.2.2.1 (0 : Int32).toNatClampNeg (0 : Int32).toNatClampNeg (24 : Int32).toNatClampNeg, va_cpy n.2.2.2.2.2.2.2.1 s.2.2.2.2.2.2.2.1 (0 : Int32).toNatClampNeg (0 : Int32).toNatClampNeg (24 : Int32).toNatClampNeg, va_cpy n.2.2.2.2.2.2.2.2 s.2.2.2.2.2.2.2.2 (0 : Int32).toNatClampNeg (0 : Int32).toNatClampNeg (24 : Int32).toNatClampNeg)
theorem cpS_eq (s n : Sl) : sEq (cpS s n) n := ⟨rfl, rfl, rfl, rfl, fun _ hi => ⟨cpy24 _ _ hi, cpy24 _ _ hi, cpy24 _ _ hi, cpy24 _ _ hi, cpy24 _ _ hi⟩⟩
theorem s_copyFrom (s n : Sl) : f_X3_copyFrom s.1 s.2.1 s.2.2.1 s.2.2.2.1 s.2.2.2.2.1 s.2.2.2.2.2.1 s.2.2.2.2.2.2.1 s.2.2.2.2.2.2.2.1 s.2.2.2.2.2.2.2.2 n.1 n.2.1 n.2.2.1 n.2.2.2.1 n.2.2.2.2.1 n.2.2.2.2.2.1 n.2.2.2.2.2.2.1 n.2.2.2.2.2.2.2.1 n.2.2.2.2.2.2.2.2 = some (cpS s n) := rfl
theorem s_slot : ∀ k, k < 4 → f_X5_slotAt (nI k) = some (nI k) := by decide +kernel
theorem nx4 : ∀ k, k < 4 → (nI k + (1 : Int32)) - (nI k + (1 : Int32)) / (4 : Int32) * (4 : Int32) = nI ((k + 1) % 4) := by decide +kernel
theorem bk4 : ∀ k, k < 4 → ((nI k + (4 : Int32)) - (1 : Int32)) - ((nI k + (4 : Int32)) - (1 : Int32)) / (4 : Int32) * (4 : Int32) = nI ((k + 3) % 4) := by decide +kernel
theorem sz4 : ∀ z, z < 5 → (if (4 : Int32) < (nI z + (1 : Int32)) then (4 : Int32) else (nI z + (1 : Int32))) = nI (if z = 4 then 4 else z + 1) := by decide +kernel
def sv0 (z : Nat) : Nat := if z = 4 then 3 else z
def pst0 (z : Nat) (past : Nat → Int32) : Nat → Int32 := if z = 4 then zp past (fun i => past (i + 187)) 561 else past
def pst (z : Nat) (past c : Nat → Int32) : Nat → Int32 := zs (pst0 z past) c (187 * sv0 z) 187
theorem pst_last {z i : Nat} (past c : Nat → Int32) (hi : i < 187) : pst z past c (187 * sv0 z + i) = c i := zs_in _ _ hi
theorem pst_old {z j i : Nat} (hz : z ≤ 4) (past c : Nat → Int32) (hi : i < 187) (hj : j < sv0 z) : pst z past c (187 * j + i) = past (187 * (if z = 4 then j + 1 else j) + i) := by
  unfold pst
  rw [zs_out _ _ (by omega), pst0]
  by_cases h4 : z = 4
  · rw [if_pos h4, if_pos h4, zp]
    have : sv0 z = 3 := if_pos h4
    rw [if_pos (by omega)]
    congr 1; omega
  · rw [if_neg h4, if_neg h4]
theorem PA_save {k z : Nat} {s0 s1 s2 s3 t0 t1 t2 t3 n : Sl} {past c : Nat → Int32} (hk : k < 4) (hz : z ≤ 4)
    (h : ∀ j, j < z → RN (pk s0 s1 s2 s3 ((k + 4 - z + j) % 4)) (fun i => past (187 * j + i))) (hn : RN n c)
    (h1 : ∀ i, i < 4 → i ≠ k → pk t0 t1 t2 t3 i = pk s0 s1 s2 s3 i) (h2 : sEq (pk t0 t1 t2 t3 k) n) :
    PA (nI ((k + 1) % 4)) (nI (if z = 4 then 4 else z + 1)) t0 t1 t2 t3 (nI (sv0 z + 1)) (pst z past c) := by
  have e : (if z = 4 then 4 else z + 1) = sv0 z + 1 := by
    unfold sv0; split <;> rfl
  have hs : sv0 z ≤ 3 ∧ sv0 z ≤ z := by unfold sv0; split <;> omega
  refine ⟨(k + 1) % 4, sv0 z + 1, by omega, by omega, rfl, by rw [e], rfl, fun j hj => ?_⟩
  by_cases hl : j = sv0 z
  · subst hl
    have e2 : ((k + 1) % 4 + 4 - (sv0 z + 1) + sv0 z) % 4 = k := by omega
    rw [e2]
    exact RN_cong hn h2 (fun i hi => pst_last past c hi)
  · have hj2 : j < sv0 z := by omega
    have e2 : ((k + 1) % 4 + 4 - (sv0 z + 1) + j) % 4 = (k + 4 - z + (if z = 4 then j + 1 else j)) % 4 := by
      unfold sv0 at *; split at hj2 <;> simp_all <;> omega
    have e3 : (k + 4 - z + (if z = 4 then j + 1 else j)) % 4 ≠ k := by
      unfold sv0 at *; split at hj2 <;> simp_all <;> omega
    have e4 : (if z = 4 then j + 1 else j) < z := by
      unfold sv0 at *; split at hj2 <;> simp_all <;> omega
    rw [e2, h1 _ (by omega) e3]
    exact RN_cong (h _ e4) ⟨rfl, rfl, rfl, rfl, fun _ _ => ⟨rfl, rfl, rfl, rfl, rfl⟩⟩ (fun i hi => pst_old hz past c hi hj2)
theorem s_restore {k z : Nat} {s0 s1 s2 s3 n : Sl} (hk : k < 4) (hz : z < 4) :
    f_X5_restoreInto (nI k) (nI (z + 1)) s0.1 s0.2.1 s0.2.2.1 s0.2.2.2.1 s0.2.2.2.2.1 s0.2.2.2.2.2.1 s0.2.2.2.2.2.2.1 s0.2.2.2.2.2.2.2.1 s0.2.2.2.2.2.2.2.2 s1.1 s1.2.1 s1.2.2.1 s1.2.2.2.1 s1.2.2.2.2.1 s1.2.2.2.2.2.1 s1.2.2.2.2.2.2.1 s1.2.2.2.2.2.2.2.1 s1.2.2.2.2.2.2.2.2 s2.1 s2.2.1 s2.2.2.1 s2.2.2.2.1 s2.2.2.2.2.1 s2.2.2.2.2.2.1 s2.2.2.2.2.2.2.1 s2.2.2.2.2.2.2.2.1 s2.2.2.2.2.2.2.2.2 s3.1 s3.2.1 s3.2.2.1 s3.2.2.2.1 s3.2.2.2.2.1 s3.2.2.2.2.2.1 s3.2.2.2.2.2.2.1 s3.2.2.2.2.2.2.2.1 s3.2.2.2.2.2.2.2.2 n.1 n.2.1 n.2.2.1 n.2.2.2.1 n.2.2.2.2.1 n.2.2.2.2.2.1 n.2.2.2.2.2.2.1 n.2.2.2.2.2.2.2.1 n.2.2.2.2.2.2.2.2 = some (nI ((k + 3) % 4), nI z, cpS n (pk s0 s1 s2 s3 ((k + 3) % 4))) := by
  refine zbd_eq.trans ?_
  rw [bk4 k hk]
  refine (zob_eq (s_slot _ (by omega))).trans ?_
  have e1 : ¬ nI (z + 1) ≤ (0 : Int32) := nI_ge (a := 0) (by omega) (by omega)
  have e2 : nI (z + 1) - (1 : Int32) = nI z := nI_sub (a := z + 1) (b := 1) (by omega)
  obtain rfl | rfl | rfl | rfl : k = 0 ∨ k = 1 ∨ k = 2 ∨ k = 3 := by omega
  · refine (if_neg (by decide)).trans ((if_neg (by decide)).trans ((if_neg (by decide)).trans ((if_pos (by decide)).trans ((if_neg e1).trans ((zob_eq (s_copyFrom n s3)).trans (zbd_eq.trans ?_))))))
    rw [e2]
    rfl
  · refine (if_pos (by decide)).trans ((if_neg e1).trans ((zob_eq (s_copyFrom n s0)).trans (zbd_eq.trans ?_)))
    rw [e2]
    rfl
  · refine (if_neg (by decide)).trans ((if_pos (by decide)).trans ((if_neg e1).trans ((zob_eq (s_copyFrom n s1)).trans (zbd_eq.trans ?_))))
    rw [e2]
    rfl
  · refine (if_neg (by decide)).trans ((if_neg (by decide)).trans ((if_pos (by decide)).trans ((if_neg e1).trans ((zob_eq (s_copyFrom n s2)).trans (zbd_eq.trans ?_)))))
    rw [e2]
    rfl
theorem PA_undo {k z : Nat} {s0 s1 s2 s3 n : Sl} {past c : Nat → Int32} (hk : k < 4) (hz : z < 4)
    (h : ∀ j, j < z + 1 → RN (pk s0 s1 s2 s3 ((k + 4 - (z + 1) + j) % 4)) (fun i => past (187 * j + i))) :
    PA (nI ((k + 3) % 4)) (nI z) s0 s1 s2 s3 (nI z) past ∧ RN (cpS n (pk s0 s1 s2 s3 ((k + 3) % 4))) (zp c (fun i => past (187 * z + i)) 187) := by
  refine ⟨⟨(k + 3) % 4, z, by omega, by omega, rfl, rfl, rfl, fun j hj => ?_⟩, ?_⟩
  · have := h j (by omega)
    rw [show (k + 4 - (z + 1) + j) % 4 = ((k + 3) % 4 + 4 - z + j) % 4 by omega] at this
    exact this
  · have := h z (by omega)
    rw [show (k + 4 - (z + 1) + z) % 4 = (k + 3) % 4 by omega] at this
    exact RN_cong this (cpS_eq _ _) (fun i hi => zp_in _ _ hi)
