/-! the digest, on both sides -/
def mx (h : Int64) (x : Int32) : Int64 := (31 : Int64) * h + x.toInt64
def hV (d : Nat) (al : Nat → Bool) (v : Nat) : Nat → Int64 → Int64
  | 0, h => h
  | k + 1, h => mx (hV d al v k h) (bI (UU d al k v))
def hN (d : Nat) (al : Nat → Bool) : Nat → Int64 → Int64
  | 0, h => h
  | v + 1, h => hV d al v d (mx (hN d al v h) (nI (LV d al v)))
def hF (c : Nat → Int32) : Nat → Int64 → Int64
  | 0, h => h
  | j + 1, h => mx (hF c j h) (c (67 + j))
theorem s_hashNodes {d : Nat} {al : Nat → Bool} {f : Nat → Int32} {vs : Nat → Int64} (h : Int64) (hd : d ≤ 6) (hf : ∀ w, w < 64 → f w = nI (LV d al w)) (hvs : ∀ k, 1 ≤ k → k ≤ d → ∀ v, v < 64 → zt (vs k) v = UU d al (k - 1) v) :
    f_X6_hashNodes h (nI d) f vs = some (hN d al (2 ^ d) h) := by
  have h6 := p2_le hd
  refine zl2_iter (2 ^ d) (fun v => hN d al v h) (fun v => nI v) (by omega) (fun K v hv => ?_) (fun K => (zob_eq (s_nodeCount hd)).trans (if_pos (nI_le (Nat.le_refl _) (by omega)))) rfl nI_0
  refine (zob_eq (s_nodeCount hd)).trans ((if_neg (nI_ge hv (by omega))).trans ((zob_eq (s_levelOf (show v < 64 by omega) hf)).trans (zbd_eq.trans ?_)))
  refine zl2_iter d (fun k => hV d al v k (mx (hN d al v h) (nI (LV d al v)))) (fun k => nI (k + 1)) (by omega) (fun K2 k hk => ?_) (fun K2 => (if_pos (nI_lt (by omega) (by omega))).trans (zbd_eq.trans (by rw [nI_1]; rfl))) rfl rfl
  refine (if_neg (nI_nlt (by omega) (by omega))).trans ((zob_eq (s_bitOf vs (show v < 64 by omega) (by omega))).trans (zbd_eq.trans (zbd_eq.trans ?_)))
  rw [hvs (k + 1) (by omega) (by omega) v (by omega), nI_1]
  rfl
theorem s_hashMessages {d n : Nat} {s : Sl} {c : Nat → Int32} (h : Int64) (hn : n ≤ 24) (hm : ∀ i, i < n → RM d s c i) :
    f_X6_hashMessages h (nI n) s.2.2.2.2.1 s.2.2.2.2.2.1 s.2.2.2.2.2.2.1 s.2.2.2.2.2.2.2.1 s.2.2.2.2.2.2.2.2 = some (hF c (5 * n) (mx h (nI n))) := by
  refine zbd_eq.trans ?_
  refine zl2_iter n (fun j => hF c (5 * j) (mx h (nI n))) (fun j => nI j) (by omega) (fun K j hj => ?_) (fun K => if_pos (nI_le (Nat.le_refl _) (by omega))) rfl nI_0
  obtain ⟨a1, a2, a3, a4, a5, -⟩ := hm j hj
  have hj24 : j < 24 := by omega
  refine (if_neg (nI_ge hj (by omega))).trans ((zob_eq (s_read _ hj24 (by decide))).trans (zbd_eq.trans ((zob_eq (s_read _ hj24 (by decide))).trans (zbd_eq.trans ((zob_eq (s_read _ hj24 (by decide))).trans (zbd_eq.trans ((zob_eq (s_read _ hj24 (by decide))).trans (zbd_eq.trans ((zob_eq (s_read _ hj24 (by decide))).trans (zbd_eq.trans (zbd_eq.trans ?_)))))))))))
  rw [a1, a2, a3, a4, a5, nI_1, show 5 * (j + 1) = 5 * j + 1 + 1 + 1 + 1 + 1 by omega]
  simp only [hF, mx, show 67 + (5 * j + 1) = 68 + 5 * j by omega, show 67 + (5 * j + 1 + 1) = 69 + 5 * j by omega, show 67 + (5 * j + 1 + 1 + 1) = 70 + 5 * j by omega, show 67 + (5 * j + 1 + 1 + 1 + 1) = 71 + 5 * j by omega]
def DG (d n : Nat) (a : Int64) (c : Nat → Int32) (sz : Int32) : Int64 := hF c (5 * n) (mx (hN d (zt a) (2 ^ d) (mx (mx (mx (mx (mx (mx 12805 sz) (nI d)) (c 1)) (nI (rnd d (zt a)))) (nI (sfe d (LV d (zt a)) (2 ^ d)))) (lgs a d (2 ^ d)).1)) (nI n))
theorem s_digest {d n : Nat} {s : Sl} {c f : Nat → Int32} {vs : Nat → Int64} {sz : Int32} (hd : d ≤ 6) (hn : n ≤ 24) (hs : s.2.2.1 = c 1) (ha : ∀ v, 2 ^ d ≤ v → zt s.2.1 v = false) (hm : ∀ i, i < n → RM d s c i) (hf : ∀ w, w < 64 → f w = nI (LV d (zt s.2.1) w)) (hvs : ∀ k, 1 ≤ k → k ≤ d → ∀ v, v < 64 → zt (vs k) v = UU d (zt s.2.1) (k - 1) v) :
    f_X6_digest (nI d) s.2.1 s.2.2.1 (nI n) s.2.2.2.2.1 s.2.2.2.2.2.1 s.2.2.2.2.2.2.1 s.2.2.2.2.2.2.2.1 s.2.2.2.2.2.2.2.2 sz (nI (rnd d (zt s.2.1))) f vs = some (DG d n s.2.1 c sz) := by
  have hL : ∀ w, w < 64 → LV d (zt s.2.1) w ≤ 6 := fun w _ => Nat.le_trans (lvl_le d _ _ w) hd
  refine zbd_eq.trans (zbd_eq.trans (zbd_eq.trans ((zob_eq (show f_X6_rounds (nI (rnd d (zt s.2.1))) = some _ from rfl)).trans (zbd_eq.trans ((zob_eq (s_safeNodes hd hf hL)).trans (zbd_eq.trans ((zob_eq (s_largest hd ha)).trans (zbd_eq.trans ((zob_eq (s_hashNodes _ hd hf hvs)).trans ((zob_eq (s_hashMessages _ hn hm)).trans ?_))))))))))
  rw [hs]
  rfl