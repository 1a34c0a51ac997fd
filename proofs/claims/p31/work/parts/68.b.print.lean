/-! the print of a state, and what is refused -/
def vwm (n : Nat) (f : Nat → Int32) (k : Nat) : Int32 := if k < n then f k else -1000
def pr1 (d : Nat) (al : Nat → Bool) : Nat → Int64 → Int64
  | 0, h => h
  | j + 1, h => ((31 : Int64) * pr1 d al j h) + (nI (LV d al j) : Int32).toInt64
def pr2 (n : Nat) (st po mv : Nat → Int32) : Nat → Int64 → Int64
  | 0, h => h
  | j + 1, h => ((31 : Int64) * (((31 : Int64) * (((31 : Int64) * pr2 n st po mv j h) + (vwm n st j : Int32).toInt64)) + (vwm n po j : Int32).toInt64)) + (vwm n mv j : Int32).toInt64
def PR (d n : Nat) (a : Int64) (st po mv : Nat → Int32) : Int64 := pr2 n st po mv 25 (pr1 d (zt a) (2 ^ d) ((((31 : Int64) * (((31 : Int64) * (nI (rnd d (zt a)) : Int32).toInt64) + (nI (sfe d (LV d (zt a)) (2 ^ d)) : Int32).toInt64)) + ((lgs a d (2 ^ d)).1 : Int32).toInt64)))
theorem pr2_cong {n : Nat} {st po mv st' po' mv' : Nat → Int32} (h : ∀ i, i < n → st i = st' i ∧ po i = po' i ∧ mv i = mv' i) (x : Int64) : ∀ k, pr2 n st po mv k x = pr2 n st' po' mv' k x
  | 0 => rfl
  | k + 1 => by
    have e1 : vwm n st k = vwm n st' k := by
      unfold vwm
      by_cases q : k < n
      · rw [if_pos q, if_pos q, (h k q).1]
      · rw [if_neg q, if_neg q]
    have e2 : vwm n po k = vwm n po' k := by
      unfold vwm
      by_cases q : k < n
      · rw [if_pos q, if_pos q, (h k q).2.1]
      · rw [if_neg q, if_neg q]
    have e3 : vwm n mv k = vwm n mv' k := by
      unfold vwm
      by_cases q : k < n
      · rw [if_pos q, if_pos q, (h k q).2.2]
      · rw [if_neg q, if_neg q]
    rw [pr2, pr2, e1, e2, e3, pr2_cong h x k]
section
variable {d n : Nat} {cu : CU}
theorem e_stateV (h : CORE d n cu) {k : Nat} (hk : k < 100) : F_state (nI k) cu = some (vwm n cu.1.2.2.2.2.1 k) := by
  unfold vwm
  by_cases q : k < n
  · rw [if_pos q]; exact e_state h q
  · rw [if_neg q]; exact e_state_bad h (Or.inr ⟨k, by omega, by omega, rfl⟩)
theorem e_positionV (h : CORE d n cu) {k : Nat} (hk : k < 100) : F_position (nI k) cu = some (vwm n cu.1.2.2.2.2.2.1 k) := by
  unfold vwm
  by_cases q : k < n
  · rw [if_pos q]; exact e_position h q
  · rw [if_neg q]; exact e_position_bad h (Or.inr ⟨k, by omega, by omega, rfl⟩)
theorem e_movesV (h : CORE d n cu) {k : Nat} (hk : k < 100) : F_moves (nI k) cu = some (vwm n cu.1.2.2.2.2.2.2.2.1 k) := by
  unfold vwm
  by_cases q : k < n
  · rw [if_pos q]; exact e_moves h q
  · rw [if_neg q]; exact e_moves_bad h (Or.inr ⟨k, by omega, by omega, rfl⟩)
theorem p_print (h : CORE d n cu) (h5 : d ≤ 5) : f_L_print (nI d) cu = some (PR d n cu.1.2.1 cu.1.2.2.2.2.1 cu.1.2.2.2.2.2.1 cu.1.2.2.2.2.2.2.2.1) := by
  have h32 := p2_32 h5
  unfold f_L_print
  refine (zob_eq (e_rounds h)).trans ((zob_eq (e_safe h)).trans ((zob_eq (e_large h)).trans (zbd_eq.trans ?_)))
  refine zl2_itF (2 ^ d) (fun j => pr1 d (zt cu.1.2.1) j ((((31 : Int64) * (((31 : Int64) * (nI (rnd d (zt cu.1.2.1)) : Int32).toInt64) + (nI (sfe d (LV d (zt cu.1.2.1)) (2 ^ d)) : Int32).toInt64)) + ((lgs cu.1.2.1 d (2 ^ d)).1 : Int32).toInt64))) (fun j => nI j) (by omega) (fun K j hj => ?_) (fun K => ?_) rfl nI_0
  · refine (if_neg (by rw [p2_nI d (by omega)]; exact nI_ge hj (by omega))).trans ((zob_eq (e_level h hj)).trans (zbd_eq.trans (zbd_eq.trans ?_)))
    rw [nI_1]; rfl
  · refine (if_pos (by rw [p2_nI d (by omega)]; exact nI_le (Nat.le_refl _) (by omega))).trans ?_
    refine zl2_itF 25 (fun j => pr2 n cu.1.2.2.2.2.1 cu.1.2.2.2.2.2.1 cu.1.2.2.2.2.2.2.2.1 j (pr1 d (zt cu.1.2.1) (2 ^ d) ((((31 : Int64) * (((31 : Int64) * (nI (rnd d (zt cu.1.2.1)) : Int32).toInt64) + (nI (sfe d (LV d (zt cu.1.2.1)) (2 ^ d)) : Int32).toInt64)) + ((lgs cu.1.2.1 d (2 ^ d)).1 : Int32).toInt64)))) (fun j => nI j) (by decide) (fun K j hj => ?_) (fun K => if_pos (by decide)) rfl nI_0
    refine (if_neg (nI_ge (b := 25) hj (by decide))).trans ((zob_eq (e_stateV h (by omega))).trans ((zob_eq (e_positionV h (by omega))).trans ((zob_eq (e_movesV h (by omega))).trans (zbd_eq.trans (zbd_eq.trans ?_)))))
    rw [nI_1]; rfl
/-! refused: nothing changes -/
theorem r_setDimension : F_setDimension (-1) cu = some (-1000, cu) := xE_setDimension (zjp_eq.trans (if_pos (show (-1 : Int32) < 1 by decide)))
theorem r_kill (h : CORE d n cu) {x : Int32} (hx : ndBad d x) : F_kill x cu = some (-1000, cu) := by
  obtain ⟨h1, hd, hn, e1, e2, ha, hf⟩ := h
  have e : f_X6_requireNode x cu.1.1 = some (.inl IAE) := by rw [e1]; exact s_reqN_bad hd hx
  exact xE_kill (zox_eqE e)
theorem r_revive (h : CORE d n cu) {x : Int32} (hx : ndBad d x) : F_revive x cu = some (-1000, cu) := by
  obtain ⟨h1, hd, hn, e1, e2, ha, hf⟩ := h
  have e : f_X6_requireNode x cu.1.1 = some (.inl IAE) := by rw [e1]; exact s_reqN_bad hd hx
  exact xE_revive (zox_eqE e)
theorem r_send (h : CORE d n cu) {s : Nat} (hs : s < 2 ^ d) {x : Int32} (hx : ndBad d x) : F_send (nI s) x cu = some (-1000, cu) := by
  obtain ⟨h1, hd, hn, e1, e2, ha, hf⟩ := h
  have e : f_X6_requireLivingPair (nI s) x cu.1.1 cu.1.2.1 = some (.inl IAE) := by rw [e1]; exact (zox_eq (s_reqN hd hs)).trans (zox_eqE (s_reqN_bad hd hx))
  exact xE_send (zox_eqE e)
theorem r_step : F_step 0 cu = some (-1000, cu) := xE_step (zjp_eq.trans (if_pos (show (0 : Int32) < 1 by decide)))
theorem r_disj (h : CORE d n cu) {s : Nat} (hs : s < 2 ^ d) : F_disjointPaths (nI s) (nI s) cu = some (-1000, cu) := by
  obtain ⟨⟨a, b⟩, e, e1, e2⟩ := e_disj_same h hs
  exact e.trans (by rw [show a = (-1000 : Int32) from e1, show b = cu from e2])
theorem p_refused (h : CORE d n cu) (h5 : d ≤ 5) : f_L_refused (nI d) cu = some (1, cu) := by
  obtain ⟨h1, hd, hn, e1, e2, ha, hf⟩ := id h
  have h32 := p2_32 h5
  have h0 : 0 < 2 ^ d := p2_pos d
  have hb := ndBad_ge hd
  unfold f_L_refused
  refine (zob_eq (p_print h h5)).trans (zbd_eq.trans ((zob_eq r_setDimension).trans (zjp_eq.trans (zjp_eq.trans ((if_pos rfl).trans ?_)))))
  rw [p2_nI d (by omega)]
  refine (zob_eq (r_kill h hb)).trans ((if_pos rfl).trans ((zob_eq (r_revive h (ndBad_m1 d))).trans ((if_pos rfl).trans ((zob_eq (e_dist_bad h hb)).trans ((if_pos rfl).trans ((zob_eq (e_level_bad h (ndBad_m1 d))).trans ((if_pos rfl).trans ?_)))))))
  rw [nI_1]
  refine (zob_eq (e_vec_bad h (v := 0) h0)).trans ((if_pos rfl).trans ((zob_eq (e_node_neg h (s := 0) (t := 0) h0 h0)).trans ((if_pos rfl).trans ((zob_eq (e_reach_bad h (s := 0) h0)).trans ((if_pos rfl).trans ((zob_eq (e_free_bad h)).trans ((if_pos rfl).trans ((zob_eq (r_disj h (s := 0) h0)).trans ((if_pos rfl).trans ?_)))))))))
  refine (zob_eq (r_send h (s := 0) h0 hb)).trans ((if_pos rfl).trans ((zob_eq r_step).trans ((if_pos rfl).trans ((zob_eq (e_state_bad h (x := 24) (Or.inr ⟨24, hn, by decide, rfl⟩))).trans ((if_pos rfl).trans ((zob_eq (e_position_bad h (x := -1) (Or.inl (by decide)))).trans ((if_pos rfl).trans ((zob_eq (e_moves_bad h (x := 24) (Or.inr ⟨24, hn, by decide, rfl⟩))).trans ((if_pos rfl).trans ((zob_eq (e_count3 h)).trans ((if_pos rfl).trans ?_)))))))))))
  refine zjp_eq.trans ((if_neg (by decide)).trans ((zob_eq (p_print h h5)).trans (if_pos ((lg_cmp0 _ _).mpr rfl))))
end
