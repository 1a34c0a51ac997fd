/-! what the questions answer, over a packed cube whose core is known -/
def CORE (d n : Nat) (cu : CU) : Prop := 1 ≤ d ∧ d ≤ 6 ∧ n ≤ 24 ∧ cu.1.1 = nI d ∧ cu.1.2.2.2.1 = nI n ∧ (∀ v, 2 ^ d ≤ v → zt cu.1.2.1 v = false) ∧ findQ d (zt cu.1.2.1) cu.2.2.1
def SAME (cu cu' : CU) : Prop := cu'.1 = cu.1 ∧ cu'.2.1 = cu.2.1 ∧ cu'.2.2.1 = cu.2.2.1
theorem SAME.rfl' {cu : CU} : SAME cu cu := ⟨rfl, rfl, rfl⟩
theorem SAME.trans' {a b c : CU} (h : SAME a b) (k : SAME b c) : SAME a c := ⟨k.1.trans h.1, k.2.1.trans h.2.1, k.2.2.trans h.2.2⟩
theorem CORE.same {d n : Nat} {cu cu' : CU} (h : CORE d n cu) (k : SAME cu cu') : CORE d n cu' := by
  obtain ⟨k1, -, k3⟩ := k
  unfold CORE
  rw [k1, k3]
  exact h
theorem L6 {d : Nat} (hd : d ≤ 6) (al : Nat → Bool) : ∀ w, w < 64 → LV d al w ≤ 6 := fun w _ => Nat.le_trans (lvl_le d al _ w) hd
theorem ndBad_ge {d : Nat} (hd : d ≤ 6) : ndBad d (nI (2 ^ d)) := Or.inr ⟨2 ^ d, by have := p2_le hd; omega, Nat.le_refl _, rfl⟩
theorem ndBad_m1 (d : Nat) : ndBad d (-1) := Or.inl (by decide)
theorem s_pairOk {d s t : Nat} {a : Int64} (hd : d ≤ 6) (hs : s < 2 ^ d) (ht : t < 2 ^ d) (as : zt a s = true) (at' : zt a t = true) : f_X6_requireLivingPair (nI s) (nI t) (nI d) a = some (.inr ()) := by
  have h6 := p2_le hd
  have e1 : f_X6_requireAlive (nI s) a = some (.inr ()) := by rw [s_reqA a (by omega), as]; rfl
  have e2 : f_X6_requireAlive (nI t) a = some (.inr ()) := by rw [s_reqA a (by omega), at']; rfl
  exact (zox_eq (s_reqN hd hs)).trans ((zox_eq (s_reqN hd ht)).trans ((zox_eq e1).trans ((zox_eq e2).trans rfl)))
theorem s_pairNo {d s t : Nat} {a : Int64} (hd : d ≤ 6) (hs : s < 2 ^ d) (ht : t < 2 ^ d) (h : ¬ (zt a s = true ∧ zt a t = true)) : f_X6_requireLivingPair (nI s) (nI t) (nI d) a = some (.inl ISE) := by
  have h6 := p2_le hd
  cases as : zt a s with
  | false =>
    have e1 : f_X6_requireAlive (nI s) a = some (.inl ISE) := by rw [s_reqA a (by omega), as]; rfl
    exact (zox_eq (s_reqN hd hs)).trans ((zox_eq (s_reqN hd ht)).trans (zox_eqE e1))
  | true =>
    cases at' : zt a t with
    | true => exact absurd ⟨as, at'⟩ h
    | false =>
      have e1 : f_X6_requireAlive (nI s) a = some (.inr ()) := by rw [s_reqA a (by omega), as]; rfl
      have e2 : f_X6_requireAlive (nI t) a = some (.inl ISE) := by rw [s_reqA a (by omega), at']; rfl
      exact (zox_eq (s_reqN hd hs)).trans ((zox_eq (s_reqN hd ht)).trans ((zox_eq e1).trans (zox_eqE e2)))
section
variable {d n : Nat} {cu : CU}
theorem e_isAlive (h : CORE d n cu) {v : Nat} (hv : v < 2 ^ d) : F_isAlive (nI v) cu = some (bI (zt cu.1.2.1 v)) := by
  obtain ⟨h1, hd, hn, e1, e2, ha, hf⟩ := h
  have h6 := p2_le hd
  unfold F_isAlive
  rw [e1]
  have hc : f_X6_isAlive (nI v) (nI d) cu.1.2.1 = some (.inr (bI (zt cu.1.2.1 v))) := (zox_eq (s_reqN hd hv)).trans ((zob_eq (s_contains _ (show v < 64 by omega))).trans (zgd_eq (isb_bI _)))
  refine (zcx_eq hc).trans (zjp_eq.trans ?_)
  cases zt cu.1.2.1 v with
  | true => exact if_neg (by decide)
  | false => exact if_pos rfl
theorem e_level (h : CORE d n cu) {v : Nat} (hv : v < 2 ^ d) : F_level (nI v) cu = some (nI (LV d (zt cu.1.2.1) v)) := by
  obtain ⟨h1, hd, hn, e1, e2, ha, hf⟩ := h
  have h6 := p2_le hd
  unfold F_level
  rw [e1]
  exact (zcx_eq ((zox_eq (s_reqN hd hv)).trans (zob_eq (s_levelOf (show v < 64 by omega) hf.2.2.1)))).trans rfl
theorem e_level_bad (h : CORE d n cu) {x : Int32} (hx : ndBad d x) : F_level x cu = some (-1000) := by
  obtain ⟨h1, hd, hn, e1, e2, ha, hf⟩ := h
  unfold F_level
  rw [e1]
  exact (zcx_eqE (zox_eqE (s_reqN_bad hd hx))).trans rfl
theorem e_vec (h : CORE d n cu) {v k : Nat} (hv : v < 2 ^ d) (hk1 : 1 ≤ k) (hkd : k ≤ d) : F_vectorBit (nI v) (nI k) cu = some (bI (UU d (zt cu.1.2.1) (k - 1) v)) := by
  obtain ⟨h1, hd, hn, e1, e2, ha, hf⟩ := h
  have h6 := p2_le hd
  unfold F_vectorBit
  rw [e1]
  have hc : f_X6_vectorBit (nI v) (nI k) (nI d) cu.2.2.1.2.2.2.2 = some (.inr (bI (UU d (zt cu.1.2.1) (k - 1) v))) := by
    refine (zox_eq (s_reqN hd hv)).trans (zjp_eq.trans ((if_neg (nI_nlt (a := k) (b := 1) hk1 (by omega))).trans ((if_pos (nI_le hkd (by omega))).trans ((zob_eq (s_bitOf _ (show v < 64 by omega) (by omega))).trans ?_))))
    rw [hf.2.2.2 k hk1 hkd v (by omega)]
  exact (zcx_eq hc).trans rfl
theorem e_vec_bad (h : CORE d n cu) {v : Nat} (hv : v < 2 ^ d) : F_vectorBit (nI v) (nI (d + 1)) cu = some (-1000) := by
  obtain ⟨h1, hd, hn, e1, e2, ha, hf⟩ := h
  unfold F_vectorBit
  rw [e1]
  exact (zcx_eqE ((zox_eq (s_reqN hd hv)).trans (zjp_eq.trans ((if_neg (nI_nlt (a := d + 1) (b := 1) (by omega) (by omega))).trans (if_neg (nI_ge (a := d) (b := d + 1) (by omega) (by omega))))))).trans rfl
theorem e_rounds (h : CORE d n cu) : F_rounds cu = some (nI (rnd d (zt cu.1.2.1))) := by
  obtain ⟨h1, hd, hn, e1, e2, ha, hf⟩ := h
  unfold F_rounds
  rw [hf.2.1]
  rfl
theorem e_safe (h : CORE d n cu) : F_safeNodes cu = some (nI (sfe d (LV d (zt cu.1.2.1)) (2 ^ d))) := by
  obtain ⟨h1, hd, hn, e1, e2, ha, hf⟩ := h
  unfold F_safeNodes
  rw [e1]
  exact s_safeNodes hd hf.2.2.1 (L6 hd _)
theorem e_large (h : CORE d n cu) : F_largestSubcube cu = some (lgs cu.1.2.1 d (2 ^ d)).1 := by
  obtain ⟨h1, hd, hn, e1, e2, ha, hf⟩ := h
  unfold F_largestSubcube
  rw [e1]
  exact s_largest hd ha
theorem e_dist (h : CORE d n cu) {v w : Nat} (hv : v < 2 ^ d) (hw : w < 2 ^ d) : F_distance (nI v) (nI w) cu = some (nI (pc (v ^^^ w))) := by
  obtain ⟨h1, hd, hn, e1, e2, ha, hf⟩ := h
  have h6 := p2_le hd
  have hxw := Nat.xor_lt_two_pow hv hw
  unfold F_distance
  rw [e1]
  have hc : f_X6_distance (nI v) (nI w) (nI d) = some (.inr (nI (pc (v ^^^ w)))) := by
    refine (zox_eq (s_reqN hd hv)).trans ((zox_eq (s_reqN hd hw)).trans ?_)
    rw [nx_xor]
    exact zob_eq (s_bitCount _ (by omega))
  exact (zcx_eq hc).trans rfl
theorem e_dist_bad (h : CORE d n cu) {x y : Int32} (hx : ndBad d x) : F_distance x y cu = some (-1000) := by
  obtain ⟨h1, hd, hn, e1, e2, ha, hf⟩ := h
  unfold F_distance
  rw [e1]
  exact (zcx_eqE (zox_eqE (s_reqN_bad hd hx))).trans rfl
theorem e_short (h : CORE d n cu) {s t : Nat} (hs : s < 2 ^ d) (ht : t < 2 ^ d) (as : zt cu.1.2.1 s = true) (at' : zt cu.1.2.1 t = true) : F_shortest (nI s) (nI t) cu = some (shI d (zt cu.1.2.1) s t) := by
  obtain ⟨h1, hd, hn, e1, e2, ha, hf⟩ := h
  unfold F_shortest
  rw [e1]
  exact (zcx_eq (s_shortest hd hs ht (s_pairOk hd hs ht as at'))).trans rfl
theorem e_short_no (h : CORE d n cu) {s t : Nat} (hs : s < 2 ^ d) (ht : t < 2 ^ d) (q : ¬ (zt cu.1.2.1 s = true ∧ zt cu.1.2.1 t = true)) : F_shortest (nI s) (nI t) cu = some (-2000) := by
  obtain ⟨h1, hd, hn, e1, e2, ha, hf⟩ := h
  unfold F_shortest
  rw [e1]
  exact (zcx_eqE (zox_eqE (s_pairNo hd hs ht q))).trans rfl
theorem e_dec (h : CORE d n cu) {s t : Nat} (hs : s < 2 ^ d) (ht : t < 2 ^ d) (as : zt cu.1.2.1 s = true) (at' : zt cu.1.2.1 t = true) : F_decide (nI s) (nI t) cu = some (nI (dcs d (LV d (zt cu.1.2.1)) s t)) := by
  obtain ⟨h1, hd, hn, e1, e2, ha, hf⟩ := h
  unfold F_decide
  rw [e1, hf.1]
  exact (zcx_eq ((zox_eq (s_pairOk hd hs ht as at')).trans (zob_eq (s_decision hd hs ht hf.2.2.1 (L6 hd _))))).trans rfl
theorem e_dec_no (h : CORE d n cu) {s t : Nat} (hs : s < 2 ^ d) (ht : t < 2 ^ d) (q : ¬ (zt cu.1.2.1 s = true ∧ zt cu.1.2.1 t = true)) : F_decide (nI s) (nI t) cu = some (-2000) := by
  obtain ⟨h1, hd, hn, e1, e2, ha, hf⟩ := h
  unfold F_decide
  rw [e1]
  exact (zcx_eqE (zox_eqE (s_pairNo hd hs ht q))).trans rfl
theorem e_len (h : CORE d n cu) {s t : Nat} (hs : s < 2 ^ d) (ht : t < 2 ^ d) (as : zt cu.1.2.1 s = true) (at' : zt cu.1.2.1 t = true) : F_routeLength (nI s) (nI t) cu = some (rlen d (LV d (zt cu.1.2.1)) s t) := by
  obtain ⟨h1, hd, hn, e1, e2, ha, hf⟩ := h
  unfold F_routeLength
  rw [e1, hf.1]
  exact (zcx_eq ((zox_eq (s_pairOk hd hs ht as at')).trans (zob_eq (s_lengthOfRoute hd hs ht hf.2.2.1 (L6 hd _))))).trans rfl
theorem e_len_no (h : CORE d n cu) {s t : Nat} (hs : s < 2 ^ d) (ht : t < 2 ^ d) (q : ¬ (zt cu.1.2.1 s = true ∧ zt cu.1.2.1 t = true)) : F_routeLength (nI s) (nI t) cu = some (-2000) := by
  obtain ⟨h1, hd, hn, e1, e2, ha, hf⟩ := h
  unfold F_routeLength
  rw [e1]
  exact (zcx_eqE (zox_eqE (s_pairNo hd hs ht q))).trans rfl
theorem s_alOk {v : Nat} {a : Int64} (hv : v < 64) (h : zt a v = true) : f_X6_requireAlive (nI v) a = some (.inr ()) := by rw [s_reqA a hv, h]; rfl
theorem e_node (h : CORE d n cu) {s t i : Nat} (hs : s < 2 ^ d) (ht : t < 2 ^ d) (as : zt cu.1.2.1 s = true) (at' : zt cu.1.2.1 t = true) (h2 : dcs d (LV d (zt cu.1.2.1)) s t ≠ 2)
    (hi : i ≤ pc (s ^^^ t) + (if dcs d (LV d (zt cu.1.2.1)) s t = 1 then 2 else 0)) : F_routeNode (nI s) (nI t) (nI i) cu = some (nI (rno d (LV d (zt cu.1.2.1)) t (dcs d (LV d (zt cu.1.2.1)) s t == 1) s i)) := by
  obtain ⟨h1, hd, hn, e1, e2, ha, hf⟩ := h
  have h6 := p2_le hd
  have hp := pc_le (s ^^^ t)
  have hi9 : i ≤ 9 := by
    have : (if dcs d (LV d (zt cu.1.2.1)) s t = 1 then 2 else 0) ≤ 2 := by split <;> omega
    omega
  unfold F_routeNode
  rw [e1, hf.1]
  have hz : (0 : Int32) ≤ nI i := nI_le (a := 0) (by omega) (by omega)
  have hzl : nI i ≤ rlen d (LV d (zt cu.1.2.1)) s t := by
    unfold rlen
    rw [if_neg h2]
    exact nI_le hi (by split <;> omega)
  exact (zcx_eq ((zox_eq (s_reqN hd hs)).trans ((zox_eq (s_reqN hd ht)).trans ((if_pos hz).trans ((zox_eq (s_alOk (by omega) as)).trans ((zox_eq (s_alOk (by omega) at')).trans ((zob_eq (s_lengthOfRoute hd hs ht hf.2.2.1 (L6 hd _))).trans ((if_pos hzl).trans (zob_eq (s_nodeOfRoute hd hs ht h2 hi hf.2.2.1 (L6 hd _))))))))))).trans rfl
theorem e_node_out (h : CORE d n cu) {s t i : Nat} (hs : s < 2 ^ d) (ht : t < 2 ^ d) (as : zt cu.1.2.1 s = true) (at' : zt cu.1.2.1 t = true) (hi : i < 100)
    (ho : ¬ nI i ≤ rlen d (LV d (zt cu.1.2.1)) s t) : F_routeNode (nI s) (nI t) (nI i) cu = some (-1) := by
  obtain ⟨h1, hd, hn, e1, e2, ha, hf⟩ := h
  have h6 := p2_le hd
  unfold F_routeNode
  rw [e1, hf.1]
  have hz : (0 : Int32) ≤ nI i := nI_le (a := 0) (by omega) (by omega)
  exact (zcx_eq ((zox_eq (s_reqN hd hs)).trans ((zox_eq (s_reqN hd ht)).trans ((if_pos hz).trans ((zox_eq (s_alOk (by omega) as)).trans ((zox_eq (s_alOk (by omega) at')).trans ((zob_eq (s_lengthOfRoute hd hs ht hf.2.2.1 (L6 hd _))).trans (if_neg ho)))))))).trans rfl
theorem e_node_neg (h : CORE d n cu) {s t : Nat} (hs : s < 2 ^ d) (ht : t < 2 ^ d) : F_routeNode (nI s) (nI t) (-1) cu = some (-1000) := by
  obtain ⟨h1, hd, hn, e1, e2, ha, hf⟩ := h
  unfold F_routeNode
  rw [e1]
  exact (zcx_eqE ((zox_eq (s_reqN hd hs)).trans ((zox_eq (s_reqN hd ht)).trans (if_neg (by decide))))).trans rfl
theorem e_reach (h : CORE d n cu) {s x : Nat} (hs : s < 2 ^ d) (hx : x ≤ 2) (as : zt cu.1.2.1 s = true) : F_reach (nI s) (nI x) cu = some (nI (rch d (LV d (zt cu.1.2.1)) (zt cu.1.2.1) s x (2 ^ d))) := by
  obtain ⟨h1, hd, hn, e1, e2, ha, hf⟩ := h
  unfold F_reach
  rw [e1, hf.1]
  exact (zcx_eq (s_reach hd hs hx hf.2.2.1 (L6 hd _) as)).trans rfl
theorem e_reach_bad (h : CORE d n cu) {s : Nat} (hs : s < 2 ^ d) : F_reach (nI s) (-1) cu = some (-1000) := by
  obtain ⟨h1, hd, hn, e1, e2, ha, hf⟩ := h
  unfold F_reach
  rw [e1]
  have e : f_X6_reach (nI s) (-1) (nI d) cu.1.2.1 cu.2.2.1.1 cu.2.2.1.2.2.1 = some (.inl IAE) := (zox_eq (s_reqN hd hs)).trans (zjp_eq.trans (if_pos (show (-1 : Int32) < 0 by decide)))
  exact (zcx_eqE e).trans rfl
theorem e_btime (h : CORE d n cu) {s t : Nat} (hs : s < 2 ^ d) (ht : t < 2 ^ d) (as : zt cu.1.2.1 s = true) : wp (F_broadcastTime (nI s) (nI t) cu) (fun u => u.1 = (BR d (LV d (zt cu.1.2.1)) (zt cu.1.2.1) s).2.1 t ∧ SAME cu u.2) := by
  obtain ⟨h1, hd, hn, e1, e2, ha, hf⟩ := h
  have h6 := p2_le hd
  obtain ⟨u, e, hu⟩ := s_run (a := cu.1.2.1) (n0 := cu.2.2.2.1.1) (T := cu.2.2.2.1.2.1) (M := cu.2.2.2.1.2.2.1) (Q := cu.2.2.2.1.2.2.2) hd hf.2.2.1 (L6 hd _) hs
  have hL : f_L_broadcastTime (nI s) (nI t) cu.1.1 cu.1.2.1 cu.2.2.1.1 cu.2.2.1.2.2.1 cu.2.2.2.1.1 cu.2.2.2.1.2.1 cu.2.2.2.1.2.2.1 cu.2.2.2.1.2.2.2 = some (u.2.1 t, u.1, u.2.1, u.2.2.1, u.2.2.2) := by
    rw [e1, hf.1]
    exact (zcx_eq ((zox_eq (s_reqN hd hs)).trans ((zox_eq (s_reqN hd ht)).trans ((zox_eq (s_alOk (by omega) as)).trans ((zob_eq e).trans (zob_eq (s_timeOf u.2.1 (show t < 64 by omega)))))))).trans rfl
  exact wp_ob hL (wp_some ⟨hu.2.1 t (by omega), rfl, rfl, rfl⟩)
theorem e_bsize (h : CORE d n cu) {s : Nat} (hs : s < 2 ^ d) (as : zt cu.1.2.1 s = true) : wp (F_broadcastSize (nI s) cu) (fun u => u.1 = nI (BR d (LV d (zt cu.1.2.1)) (zt cu.1.2.1) s).1 ∧ SAME cu u.2) := by
  obtain ⟨h1, hd, hn, e1, e2, ha, hf⟩ := h
  have h6 := p2_le hd
  obtain ⟨u, e, hu⟩ := s_run (a := cu.1.2.1) (n0 := cu.2.2.2.1.1) (T := cu.2.2.2.1.2.1) (M := cu.2.2.2.1.2.2.1) (Q := cu.2.2.2.1.2.2.2) hd hf.2.2.1 (L6 hd _) hs
  have hL : f_L_broadcastSize (nI s) cu.1.1 cu.1.2.1 cu.2.2.1.1 cu.2.2.1.2.2.1 cu.2.2.2.1.1 cu.2.2.2.1.2.1 cu.2.2.2.1.2.2.1 cu.2.2.2.1.2.2.2 = some (u.1, u.1, u.2.1, u.2.2.1, u.2.2.2) := by
    rw [e1, hf.1]
    exact (zcx_eq ((zox_eq (s_reqN hd hs)).trans ((zox_eq (s_alOk (by omega) as)).trans (zob_eq e)))).trans rfl
  exact wp_ob hL (wp_some ⟨hu.1, rfl, rfl, rfl⟩)
theorem e_free (h : CORE d n cu) {k : Nat} (hk : k ≤ d) : F_freeSubcubes (nI k) cu = some (nI (fsn cu.1.2.1 d k (2 ^ d))) := by
  obtain ⟨h1, hd, hn, e1, e2, ha, hf⟩ := h
  unfold F_freeSubcubes
  rw [e1]
  exact (zcx_eq (zjp_eq.trans ((if_neg (nI_pos (n := k) (by omega))).trans ((if_pos (nI_le hk (by omega))).trans (s_freeL hd (by omega) ha))))).trans rfl
theorem e_free_bad (h : CORE d n cu) : F_freeSubcubes (nI (d + 1)) cu = some (-1000) := by
  obtain ⟨h1, hd, hn, e1, e2, ha, hf⟩ := h
  unfold F_freeSubcubes
  rw [e1]
  exact (zcx_eqE (zjp_eq.trans ((if_neg (nI_pos (n := d + 1) (by omega))).trans (if_neg (nI_ge (a := d) (b := d + 1) (by omega) (by omega)))))).trans rfl
theorem e_disj (h : CORE d n cu) {s t : Nat} (hs : s < 2 ^ d) (ht : t < 2 ^ d) (hst : s ≠ t) (as : zt cu.1.2.1 s = true) (at' : zt cu.1.2.1 t = true) : wp (F_disjointPaths (nI s) (nI t) cu) (fun u => u.1 = nI (NP d (zt cu.1.2.1) s t) ∧ SAME cu u.2) := by
  obtain ⟨h1, hd, hn, e1, e2, ha, hf⟩ := h
  have h6 := p2_le hd
  have ne : ¬ nI s = nI t := fun z => hst (nI_inj (by omega) (by omega) z)
  obtain ⟨u, eu, hu⟩ := s_largestP (a := cu.1.2.1) hd hs ht hst cu.2.2.2.2.1.1 cu.2.2.2.2.1.2.1 cu.2.2.2.2.1.2.2.1 cu.2.2.2.2.1.2.2.2.1 cu.2.2.2.2.1.2.2.2.2.1 cu.2.2.2.2.1.2.2.2.2.2.1 cu.2.2.2.2.1.2.2.2.2.2.2.1 cu.2.2.2.2.1.2.2.2.2.2.2.2
  have hc : f_X6_disjointPaths (nI s) (nI t) (nI d) cu.1.2.1 cu.2.2.2.2.1.1 cu.2.2.2.2.1.2.1 cu.2.2.2.2.1.2.2.1 cu.2.2.2.2.1.2.2.2.1 cu.2.2.2.2.1.2.2.2.2.1 cu.2.2.2.2.1.2.2.2.2.2.1 cu.2.2.2.2.1.2.2.2.2.2.2.1 cu.2.2.2.2.1.2.2.2.2.2.2.2 = some (.inr u) := by
    unfold f_X6_disjointPaths
    rw [s_reqN hd hs, s_reqN hd ht, s_alOk (by omega) as, s_alOk (by omega) at', eu]
    exact if_neg ne
  have hL : f_L_disjointPaths (nI s) (nI t) cu.1.1 cu.1.2.1 cu.2.2.2.2.1.1 cu.2.2.2.2.1.2.1 cu.2.2.2.2.1.2.2.1 cu.2.2.2.2.1.2.2.2.1 cu.2.2.2.2.1.2.2.2.2.1 cu.2.2.2.2.1.2.2.2.2.2.1 cu.2.2.2.2.1.2.2.2.2.2.2.1 cu.2.2.2.2.1.2.2.2.2.2.2.2 = some u := by
    rw [e1]
    exact (zcx_eq hc).trans rfl
  exact wp_ob hL (wp_some ⟨hu, rfl, rfl, rfl⟩)
theorem e_disj_same (h : CORE d n cu) {s : Nat} (hs : s < 2 ^ d) : wp (F_disjointPaths (nI s) (nI s) cu) (fun u => u.1 = -1000 ∧ u.2 = cu) := by
  obtain ⟨h1, hd, hn, e1, e2, ha, hf⟩ := h
  have hL : f_L_disjointPaths (nI s) (nI s) cu.1.1 cu.1.2.1 cu.2.2.2.2.1.1 cu.2.2.2.2.1.2.1 cu.2.2.2.2.1.2.2.1 cu.2.2.2.2.1.2.2.2.1 cu.2.2.2.2.1.2.2.2.2.1 cu.2.2.2.2.1.2.2.2.2.2.1 cu.2.2.2.2.1.2.2.2.2.2.2.1 cu.2.2.2.2.1.2.2.2.2.2.2.2 = some (-1000, cu.2.2.2.2.1) := by
    rw [e1]
    exact (zcx_eqE ((zox_eq (s_reqN hd hs)).trans ((zox_eq (s_reqN hd hs)).trans (if_pos rfl)))).trans rfl
  exact wp_ob hL (wp_some ⟨rfl, rfl⟩)
theorem s_msg {n i : Nat} (hn : n ≤ 24) (hi : i < n) : f_X6_requireMessage (nI i) (nI n) = some (.inr ()) := zjp_eq.trans ((if_neg (nI_pos (n := i) (by omega))).trans (if_pos (nI_lt hi (by omega))))
theorem s_msg_bad {n : Nat} {x : Int32} (hx : x < 0 ∨ ∃ i, n ≤ i ∧ i < 2 ^ 31 ∧ x = nI i) : f_X6_requireMessage x (nI n) = some (.inl IAE) := by
  rcases hx with h | ⟨i, hi, hj, rfl⟩
  · exact zjp_eq.trans (if_pos h)
  · exact zjp_eq.trans ((if_neg (nI_pos (n := i) (by omega))).trans (if_neg (nI_nlt hi hj)))
theorem e_state (h : CORE d n cu) {i : Nat} (hi : i < n) : F_state (nI i) cu = some (cu.1.2.2.2.2.1 i) := by
  obtain ⟨h1, hd, hn, e1, e2, ha, hf⟩ := h
  unfold F_state
  rw [e2]
  exact (zcx_eq ((zox_eq (s_msg hn hi)).trans (zob_eq (s_read _ (show i < 24 by omega) (by decide))))).trans rfl
theorem e_state_bad (h : CORE d n cu) {x : Int32} (hx : x < 0 ∨ ∃ i, n ≤ i ∧ i < 2 ^ 31 ∧ x = nI i) : F_state x cu = some (-1000) := by
  obtain ⟨h1, hd, hn, e1, e2, ha, hf⟩ := h
  unfold F_state
  rw [e2]
  exact (zcx_eqE (zox_eqE (s_msg_bad hx))).trans rfl
theorem e_position (h : CORE d n cu) {i : Nat} (hi : i < n) : F_position (nI i) cu = some (cu.1.2.2.2.2.2.1 i) := by
  obtain ⟨h1, hd, hn, e1, e2, ha, hf⟩ := h
  unfold F_position
  rw [e2]
  exact (zcx_eq ((zox_eq (s_msg hn hi)).trans (zob_eq (s_read _ (show i < 24 by omega) (by decide))))).trans rfl
theorem e_position_bad (h : CORE d n cu) {x : Int32} (hx : x < 0 ∨ ∃ i, n ≤ i ∧ i < 2 ^ 31 ∧ x = nI i) : F_position x cu = some (-1000) := by
  obtain ⟨h1, hd, hn, e1, e2, ha, hf⟩ := h
  unfold F_position
  rw [e2]
  exact (zcx_eqE (zox_eqE (s_msg_bad hx))).trans rfl
theorem e_moves (h : CORE d n cu) {i : Nat} (hi : i < n) : F_moves (nI i) cu = some (cu.1.2.2.2.2.2.2.2.1 i) := by
  obtain ⟨h1, hd, hn, e1, e2, ha, hf⟩ := h
  unfold F_moves
  rw [e2]
  exact (zcx_eq ((zox_eq (s_msg hn hi)).trans (zob_eq (s_read _ (show i < 24 by omega) (by decide))))).trans rfl
theorem e_moves_bad (h : CORE d n cu) {x : Int32} (hx : x < 0 ∨ ∃ i, n ≤ i ∧ i < 2 ^ 31 ∧ x = nI i) : F_moves x cu = some (-1000) := by
  obtain ⟨h1, hd, hn, e1, e2, ha, hf⟩ := h
  unfold F_moves
  rw [e2]
  exact (zcx_eqE (zox_eqE (s_msg_bad hx))).trans rfl
theorem e_count (h : CORE d n cu) {x : Nat} (hx : x ≤ 2) : F_count (nI x) cu = some (nI (fb_ct (fun i => decide (cu.1.2.2.2.2.1 i = nI x)) n)) := by
  obtain ⟨h1, hd, hn, e1, e2, ha, hf⟩ := h
  unfold F_count
  rw [e2]
  have hs : f_X6_count (nI x) (nI n) cu.1.2.2.2.2.1 = some (.inr (nI (fb_ct (fun i => decide (cu.1.2.2.2.2.1 i = nI x)) n))) := by
    refine zjp_eq.trans ((if_neg (nI_pos (n := x) (by omega))).trans ((if_pos (nI_le (b := 2) hx (by omega))).trans ?_))
    refine zl2_iter n (fun j => nI (fb_ct (fun i => decide (cu.1.2.2.2.2.1 i = nI x)) j)) (fun j => nI j) (by omega) (fun K j hj => ?_) (fun K => if_pos (nI_le (Nat.le_refl _) (by omega))) rfl nI_0
    refine (if_neg (nI_ge hj (by omega))).trans ((zob_eq (s_read _ (show j < 24 by omega) (by decide))).trans (zjp_eq.trans ?_))
    rw [fb_ct_succ]
    by_cases e : cu.1.2.2.2.2.1 j = nI x
    · refine (if_pos e).trans (zbd_eq.trans (zbd_eq.trans ?_))
      rw [nI_1, nI_1, decide_eq_true e]; rfl
    · refine (if_neg e).trans (zbd_eq.trans ?_)
      rw [nI_1, decide_eq_false e]; rfl
  exact (zcx_eq hs).trans rfl
theorem e_count3 (h : CORE d n cu) : F_count 3 cu = some (-1000) := by
  unfold F_count
  exact (zcx_eqE (zjp_eq.trans ((if_neg (by decide)).trans (if_neg (by decide))))).trans rfl
end
