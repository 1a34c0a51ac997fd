/-! situations after a change, against rows -/
theorem RN_die {s : Sl} {c e : Nat → Int32} {S : Nat → Bool} {n : Nat} {a' : Int64} (h : RN s c) (hc2 : c 2 = nI n) (hn : n ≤ 24) (ha : ∀ v, v < 64 → zt a' v = (zt s.2.1 v && !S v)) (hD : DS n S c e) :
    RN (s.1, a', s.2.2.1, s.2.2.2.1, zp s.2.2.2.2.1 (nwS S c) n, s.2.2.2.2.2) e := by
  obtain ⟨d, m, hd1, hd, hm, h1, h2, h3, h4, h5, h6, h7, h8⟩ := h
  have hmn : m = n := nI_inj (by omega) (by omega) (h7.symm.trans hc2)
  subst hmn
  have h64 := p2_le hd
  obtain ⟨D1, D2, D3⟩ := hD
  refine ⟨d, m, hd1, hd, hm, h1, (D1 0 (by decide)).trans h2, fun v hv => ?_, fun v hv => ?_, h5.trans (D1 1 (by decide)).symm, h6, (D1 2 (by decide)).trans h7, fun i hi => ?_⟩
  · rw [D2 v (by omega), h3 v hv, ha v (by omega)]
    cases S v <;> simp [bI]
  · rcases Nat.lt_or_ge v 64 with q | q
    · rw [ha v q, h4 v hv, Bool.false_and]
    · exact zt_big q
  · obtain ⟨b1, b2, b3, b4, b5, b6⟩ := h8 i hi
    obtain ⟨e1, e2, e3, e4, e5⟩ := D3 i (by omega)
    unfold RM
    rw [e1, e2, e3, e4, e5, if_pos hi]
    exact ⟨zp_in _ _ hi, b2, b3, b4, b5, b6⟩
theorem zt_mask : ∀ e, e < 7 → ∀ v, v < 64 → zt (j_lushr (-1) ((64 : Int32) - ((1 : Int32) <<< (nI e &&& 31)))) v = decide (v < 2 ^ e) := by decide +kernel
theorem RN_restart {d : Nat} (hd1 : 1 ≤ d) (hd : d ≤ 6) (c st po go mv de : Nat → Int32) : RN (nI d, j_lushr (-1) ((64 : Int32) - ((1 : Int32) <<< (nI d &&& 31))), 0, 0, st, po, go, mv, de) (upd (zp c (fun _ => 0) 187) 0 (nI d)) := by
  have h64 := p2_le hd
  have hz : ∀ i, i ≠ 0 → i < 187 → upd (zp c (fun _ => 0) 187) 0 (nI d) i = 0 := fun i hi h => by
    rw [upd, if_neg hi]; exact zp_in _ _ h
  refine ⟨d, 0, hd1, hd, by decide, rfl, rfl, fun v hv => ?_, fun v hv => ?_, (hz 1 (by decide) (by decide)).symm, rfl, hz 2 (by decide) (by decide), fun i hi => absurd hi (Nat.not_lt_zero i)⟩
  · rw [hz _ (by omega) (by omega), zt_mask d (by omega) v (by omega), decide_eq_true hv]
    rfl
  · rcases Nat.lt_or_ge v 64 with q | q
    · rw [zt_mask d (by omega) v q, decide_eq_false (by omega)]
    · exact zt_big q
theorem m_zeros {R : Type} (f : Nat → Int32) (Y : (Nat → Int32) → Option R) : zl2 (R := R) (fun k37 (i3_37 : Int32) (c_37 : Nat → Int32) => if (187 : Int32) ≤ i3_37 then Y c_37 else zgd (inb i3_37 187) (zbd (upd c_37 i3_37.toNatClampNeg 0) (fun y9 => zbd (i3_37 + 1) (fun x10 => k37 x10 y9)))) zfu 0 f = Y (zp f (fun _ => 0) 187) := by
  refine zl2_iter 187 (fun j => nI j) (fun j => zp f (fun _ => 0) j) (by decide) (fun K j hj => ?_) (fun K => if_pos (by decide)) nI_0 (zp_0 _ _)
  refine (if_neg (nI_ge (show j < 187 from hj) (by decide))).trans ((zgd_eq (inb_nI hj (by decide))).trans (zbd_eq.trans (zbd_eq.trans ?_)))
  rw [nI_1, nI_clamp (by omega), zp_succ f (fun _ => 0) j]
theorem RN_MN {s : Sl} {c : Nat → Int32} (h : RN s c) : ∃ d n, s.1 = nI d ∧ s.2.2.2.1 = nI n ∧ MN c d (zt s.2.1) ∧ (∀ v, 2 ^ d ≤ v → zt s.2.1 v = false) ∧ MB c n d ∧ ∀ i, i < n → RM d s c i := by
  obtain ⟨d, n, hd1, hd, hn, h1, h2, h3, h4, h5, h6, h7, h8⟩ := h
  exact ⟨d, n, h1, h6, ⟨hd1, hd, h2, h3⟩, h4, ⟨h7, hn, hd, fun i hi => (h8 i hi).2.2.2.2.2⟩, h8⟩
theorem RN_revive {s : Sl} {c : Nat → Int32} {d v : Nat} (h : RN s c) (hs : s.1 = nI d) (hd : d ≤ 6) (hv : v < 2 ^ d) : RN (s.1, s.2.1 ||| j_lshl 1 (nI v), s.2.2) (upd c (3 + v) 0) := by
  obtain ⟨d', n, hd1, hd', hn, h1, h2, h3, h4, h5, h6, h7, h8⟩ := h
  have : d' = d := nI_inj (by omega) (by omega) (h1.symm.trans hs)
  subst this
  have h64 := p2_le hd
  have ho : ∀ i, i ≠ 3 + v → upd c (3 + v) 0 i = c i := fun i hi => if_neg hi
  refine ⟨d', n, hd1, hd, hn, h1, (ho 0 (by omega)).trans h2, fun w hw => ?_, fun w hw => ?_, h5.trans (ho 1 (by omega)).symm, h6, (ho 2 (by omega)).trans h7, fun i hi => ?_⟩
  · show upd c (3 + v) 0 (3 + w) = bI (!zt (s.2.1 ||| j_lshl 1 (nI v)) w)
    rw [zt_or, zt_bit (by omega) (by omega), upd]
    by_cases e : w = v
    · rw [if_pos (by omega), decide_eq_true e, Bool.or_true]; rfl
    · rw [if_neg (by omega), decide_eq_false e, Bool.or_false]; exact h3 w hw
  · show zt (s.2.1 ||| j_lshl 1 (nI v)) w = false
    rcases Nat.lt_or_ge w 64 with q | q
    · rw [zt_or, zt_bit (by omega) q, h4 w hw, decide_eq_false (by omega)]; rfl
    · exact zt_big q
  · have := h8 i hi
    unfold RM at *
    rw [ho _ (by omega), ho _ (by omega), ho _ (by omega), ho _ (by omega), ho _ (by omega)]
    exact this
theorem ct_64 {p : Nat → Bool} {d : Nat} (hd : d ≤ 6) (h : ∀ v, 2 ^ d ≤ v → p v = false) : fb_ct p 64 = fb_ct p (2 ^ d) := by
  have h6 := p2_le hd
  have e := fb_ct_split p (2 ^ d) (64 - 2 ^ d)
  rw [show 2 ^ d + (64 - 2 ^ d) = 64 by omega, show fb_ct (fun k => p (2 ^ d + k)) (64 - 2 ^ d) = 0 from fb_ct_zero.mpr (fun k _ => h _ (by omega))] at e
  exact e
theorem dead_eq {d : Nat} {a : Int64} (hd : d ≤ 6) (ha : ∀ v, 2 ^ d ≤ v → zt a v = false) : nI (2 ^ d) - nI (fb_ct (zt a) 64) = nI (fb_ct (fun v => !zt a v) (2 ^ d)) := by
  have h1 := fb_ct_not (zt a) (2 ^ d)
  rw [ct_64 hd ha, nI_sub (by omega)]
  congr 1
  omega
theorem s_addMessage {n p g : Nat} (hn : n < 24) (hp : p < 64) (hg : g < 64) (st po go mv de : Nat → Int32) :
    f_X3_addMessage (nI p) (nI g) (nI n) st po go mv de = some (nI n, nI (n + 1), upd st n (if p = g then 1 else 0), upd po n (nI p), upd go n (nI g), upd mv n 0, upd de n 0) := by
  have k : ∀ x, (zob (f_X6_write 24 (nI n) x st) fun u1 => zob (f_X6_write 24 (nI n) (nI p) po) fun u2 => zob (f_X6_write 24 (nI n) (nI g) go) fun u3 => zob (f_X6_write 24 (nI n) 0 mv) fun u4 => zob (f_X6_write 24 (nI n) 0 de) fun u5 => zbd (nI n + 1) fun x6 => some (nI n, x6, u1, u2, u3, u4, u5)) = some (nI n, nI (n + 1), upd st n x, upd po n (nI p), upd go n (nI g), upd mv n 0, upd de n 0) := fun x => by
    refine (zob_eq (s_write st x hn (by decide))).trans ((zob_eq (s_write po _ hn (by decide))).trans ((zob_eq (s_write go _ hn (by decide))).trans ((zob_eq (s_write mv _ hn (by decide))).trans ((zob_eq (s_write de _ hn (by decide))).trans (zbd_eq.trans ?_)))))
    rw [nI_1]
  refine zjp_eq.trans ?_
  by_cases e : p = g
  · refine (if_pos (by rw [e])).trans ?_
    rw [if_pos e]; exact k 1
  · refine (if_neg (fun q => e (nI_inj (by omega) (by omega) q))).trans ?_
    rw [if_neg e]; exact k 0
def sndR (c : Nat → Int32) (n p g : Nat) : Nat → Int32 := upd (upd (upd (upd (upd (upd c (67 + 5 * n) (if p = g then 1 else 0)) (68 + 5 * n) (nI p)) (69 + 5 * n) (nI g)) (70 + 5 * n) 0) (71 + 5 * n) 0) 2 (nI (n + 1))
theorem RN_send {s : Sl} {c : Nat → Int32} {d n p g : Nat} (h : RN s c) (hs : s.1 = nI d) (hd : d ≤ 6) (hc2 : c 2 = nI n) (hn : n < 24) (hp : p < 2 ^ d) (hg : g < 2 ^ d) :
    RN (s.1, s.2.1, s.2.2.1, nI (n + 1), upd s.2.2.2.2.1 n (if p = g then 1 else 0), upd s.2.2.2.2.2.1 n (nI p), upd s.2.2.2.2.2.2.1 n (nI g), upd s.2.2.2.2.2.2.2.1 n 0, upd s.2.2.2.2.2.2.2.2 n 0) (sndR c n p g) := by
  obtain ⟨d', n', hd1, hd', hn', h1, h2, h3, h4, h5, h6, h7, h8⟩ := h
  have : d' = d := nI_inj (by omega) (by omega) (h1.symm.trans hs)
  subst this
  have : n' = n := nI_inj (by omega) (by omega) (h7.symm.trans hc2)
  subst this
  have h64 := p2_le hd
  have ho : ∀ i, i ≠ 2 → (i < 67 + 5 * n' ∨ 71 + 5 * n' < i) → sndR c n' p g i = c i := fun i hi hi2 => by
    simp only [sndR, upd]
    rw [if_neg hi, if_neg (by omega), if_neg (by omega), if_neg (by omega), if_neg (by omega), if_neg (by omega)]
  refine ⟨d', n' + 1, hd1, hd, hn, h1, (ho 0 (by decide) (by omega)).trans h2, fun w hw => ?_, h4, h5.trans (ho 1 (by decide) (by omega)).symm, rfl, rfl, fun i hi => ?_⟩
  · rw [ho _ (by omega) (by omega)]; exact h3 w hw
  · by_cases e : i = n'
    · subst e
      have k0 : sndR c i p g (67 + 5 * i) = if p = g then 1 else 0 := by
        simp only [sndR, upd]
        rw [if_neg (by omega), if_neg (by omega), if_neg (by omega), if_neg (by omega), if_neg (by omega)]
        simp
      have k1 : sndR c i p g (68 + 5 * i) = nI p := by
        simp only [sndR, upd]
        rw [if_neg (by omega), if_neg (by omega), if_neg (by omega), if_neg (by omega)]
        simp
      have k2 : sndR c i p g (69 + 5 * i) = nI g := by
        simp only [sndR, upd]
        rw [if_neg (by omega), if_neg (by omega), if_neg (by omega)]
        simp
      have k3 : sndR c i p g (70 + 5 * i) = 0 := by
        simp only [sndR, upd]
        rw [if_neg (by omega), if_neg (by omega)]
        simp
      have k4 : sndR c i p g (71 + 5 * i) = 0 := by
        simp only [sndR, upd]
        rw [if_neg (by omega)]
        simp
      unfold RM
      rw [k0, k1, k2, k3, k4]
      exact ⟨if_pos rfl, if_pos rfl, if_pos rfl, if_pos rfl, if_pos rfl, p, g, hp, hg, rfl, rfl⟩
    · have := h8 i (by omega)
      unfold RM at *
      rw [ho _ (by omega) (by omega), ho _ (by omega) (by omega), ho _ (by omega) (by omega), ho _ (by omega) (by omega), ho _ (by omega) (by omega)]
      exact ⟨(if_neg e).trans this.1, (if_neg e).trans this.2.1, (if_neg e).trans this.2.2.1, (if_neg e).trans this.2.2.2.1, (if_neg e).trans this.2.2.2.2.1, this.2.2.2.2.2⟩
/-! many deaths, one after the other -/
theorem DS_0 (n : Nat) (c : Nat → Int32) : DS n (fun _ => false) c c := by
  refine ⟨fun _ _ => rfl, fun v hv => rfl, fun i hi => ⟨?_, rfl, rfl, rfl, rfl⟩⟩
  split
  · rw [nwS, if_neg (fun q => by simp [hit] at q)]
  · rfl
theorem DS_trans {n : Nat} {S T : Nat → Bool} {c e f : Nat → Int32} (h : DS n S c e) (k : DS n T e f) : DS n (fun w => S w || T w) c f := by
  obtain ⟨a1, a2, a3⟩ := h
  obtain ⟨b1, b2, b3⟩ := k
  refine ⟨fun i hi => (b1 i hi).trans (a1 i hi), fun v hv => ?_, fun i hi => ?_⟩
  · rw [b2 v hv, a2 v hv]
    show _ = if (S v || T v) = true then (1 : Int32) else c (3 + v)
    cases S v <;> cases T v <;> rfl
  · obtain ⟨c0, c1, c2, c3, c4⟩ := a3 i hi
    obtain ⟨d0, d1, d2, d3, d4⟩ := b3 i hi
    refine ⟨?_, d1.trans c1, d2.trans c2, d3.trans c3, d4.trans c4⟩
    rw [d0]
    by_cases hin : i < n
    · rw [if_pos hin, if_pos hin]
      rw [if_pos hin] at c0
      have ht : hit T e i = hit T c i := by rw [hit, hit, c1, c2]
      have hu : hit (fun w => S w || T w) c i = (hit S c i || hit T c i) := by
        show ((S (c (68 + 5 * i)).toNatClampNeg || T (c (68 + 5 * i)).toNatClampNeg) || (S (c (69 + 5 * i)).toNatClampNeg || T (c (69 + 5 * i)).toNatClampNeg)) = ((S (c (68 + 5 * i)).toNatClampNeg || S (c (69 + 5 * i)).toNatClampNeg) || (T (c (68 + 5 * i)).toNatClampNeg || T (c (69 + 5 * i)).toNatClampNeg))
        cases S (c (68 + 5 * i)).toNatClampNeg <;> cases T (c (68 + 5 * i)).toNatClampNeg <;> cases S (c (69 + 5 * i)).toNatClampNeg <;> cases T (c (69 + 5 * i)).toNatClampNeg <;> rfl
      rw [nwS, ht, c0, nwS, nwS, hu]
      by_cases h0 : c (67 + 5 * i) = 0
      · cases hit S c i <;> cases hit T c i <;> simp [h0]
      · simp [h0]
    · rw [if_neg hin, if_neg hin]
      rw [if_neg hin] at c0
      exact c0
theorem DS_cong {n : Nat} {S T : Nat → Bool} {c e : Nat → Int32} (h : DS n S c e) (hs : ∀ w, S w = T w) : DS n T c e := by
  rw [show T = S from (funext hs).symm]; exact h
def xb (x : Int32) (v : Nat) : Bool := x.toBitVec.getLsbD v
theorem zt_low32 : ∀ v, v < 64 → zt 4294967295 v = decide (v < 32) := by decide +kernel
theorem xb_big {x : Int32} {v : Nat} (h : 32 ≤ v) : xb x v = false := BitVec.getLsbD_of_ge _ _ h
theorem zt_ext32 (x : Int32) {v : Nat} (hv : v < 64) : zt (x.toInt64 &&& (4294967295 : Int64)) v = xb x v := by
  rw [zt_and, zt_low32 v hv]
  by_cases h : v < 32
  · rw [decide_eq_true h, Bool.and_true]
    show (x.toInt64.toBitVec).getLsbD v = xb x v
    rw [Int32.toBitVec_toInt64, BitVec.getLsbD_signExtend]
    simp [h, hv, xb]
  · rw [decide_eq_false h, Bool.and_false, xb_big (by omega)]
theorem sh_cnt : ∀ v, v < 32 → ((nI v &&& 31).toBitVec.smod 32#32).toNat = v := by decide +kernel
theorem and_1 (y : Int32) : (y &&& 1 = 1) ↔ y.toBitVec.getLsbD 0 = true := by
  rw [← Int32.toBitVec_inj, Int32.toBitVec_and]
  show y.toBitVec &&& 1#32 = 1#32 ↔ _
  rw [BitVec.and_one_eq_setWidth_ofBool_getLsbD]
  cases y.toBitVec.getLsbD 0 <;> decide
theorem bit32 (x : Int32) {v : Nat} (hv : v < 32) : ((x >>> (nI v &&& 31)) &&& (1 : Int32) = 1) ↔ xb x v = true := by
  rw [and_1, Int32.toBitVec_shiftRight]
  show (x.toBitVec.sshiftRight ((nI v &&& 31).toBitVec.smod 32#32).toNat).getLsbD 0 = true ↔ _
  rw [sh_cnt v hv, BitVec.getLsbD_sshiftRight]
  simp [hv, xb]