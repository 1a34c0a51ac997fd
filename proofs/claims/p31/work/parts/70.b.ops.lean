/-! the operations that change: what they answer, what holds behind them -/
theorem hit_S {S : Nat → Bool} {c : Nat → Int32} {n : Nat} : dcnt S c n ≤ n := ct_le _ n
section
variable {d n T : Nat} {bg : Nat → Int32} {cu : CU}
theorem MSG_die (h : MSG d n T bg cu.1) (hn : n ≤ 24) (S : Nat → Bool) (a : Int64) : MSG d n T bg (cu.1.1, a, cu.1.2.2.1, cu.1.2.2.2.1, zp cu.1.2.2.2.2.1 (nwS S (rwc cu.1)) n, cu.1.2.2.2.2.2.1, cu.1.2.2.2.2.2.2.1, cu.1.2.2.2.2.2.2.2.1, cu.1.2.2.2.2.2.2.2.2) := fun i hi => by
  obtain ⟨b, p, g, m, x, j, h1, h2, h3, h4, h5, h6, h7, h8, h9, h10⟩ := h i hi
  have e : zp cu.1.2.2.2.2.1 (nwS S (rwc cu.1)) n i = nwS S (rwc cu.1) i := zp_in _ _ hi
  by_cases q : rwc cu.1 (67 + 5 * i) = 0 ∧ hit S (rwc cu.1) i = true
  · exact ⟨b, p, g, m, 2, j, h1, h2, h3, by decide, h5, h6, h7, h8, e.trans (by rw [nwS, if_pos q]; rfl), h10⟩
  · exact ⟨b, p, g, m, x, j, h1, h2, h3, h4, h5, h6, h7, h8, e.trans (by rw [nwS, if_neg q, rwc_0]; exact h9), h10⟩
theorem bit_S {v : Nat} (hv : v < 64) : zt (j_lshl 1 (nI v)) = fun w => w == v := by
  funext w
  rcases Nat.lt_or_ge w 64 with q | q
  · rw [zt_bit hv q]; by_cases e : w = v <;> simp [e]
  · rw [zt_big q]; exact (beq_eq_false_iff_ne.mpr (by omega)).symm
theorem o_kill_no (h : INV d n T bg cu) {v : Nat} (hv : v < 2 ^ d) (hl : zt cu.1.2.1 v = false) : F_kill (nI v) cu = some (-2000, cu) := by
  obtain ⟨⟨h1, hd, hn, e1, e2, ha, hf⟩, -, -⟩ := h
  have h6 := p2_le hd
  have e : f_X6_requireNode (nI v) cu.1.1 = some (.inr ()) := by rw [e1]; exact s_reqN hd hv
  have eA : f_X6_requireAlive (nI v) cu.1.2.1 = some (.inl ISE) := by rw [s_reqA _ (by omega), hl]; rfl
  exact xS_kill ((zox_eq e).trans (zox_eqE eA))
theorem o_kill (h : INV d n T bg cu) {v : Nat} (hv : v < 2 ^ d) (hl : zt cu.1.2.1 v = true) : wp (F_kill (nI v) cu) (fun u => (∃ q, q ≤ n ∧ u.1 = nI q) ∧ INV d n T bg u.2 ∧ LAST u.2.2.1 cu.1 ∧ zt u.2.1.2.1 v = false) := by
  obtain ⟨⟨h1, hd, hn, e1, e2, ha, hf⟩, hM, k, z, hk, hz, ek, ez⟩ := id h
  have h6 := p2_le hd
  have e : f_X6_requireNode (nI v) cu.1.1 = some (.inr ()) := by rw [e1]; exact s_reqN hd hv
  have eA : f_X6_requireAlive (nI v) cu.1.2.1 = some (.inr ()) := by rw [s_reqA _ (by omega), hl]; rfl
  have hsv := s_save' (s0 := cu.2.1.2.2.1) (s1 := cu.2.1.2.2.2.1) (s2 := cu.2.1.2.2.2.2.1) (s3 := cu.2.1.2.2.2.2.2) (n := cu.1) hk hz
  rw [← ek, ← ez] at hsv
  have hld := s_letDie (bits := j_lshl 1 (nI v)) (a := cu.1.2.1) (s := cu.1) hn hd (MSG_RM hM)
  rw [← e2] at hld
  have hrf := s_refresh (d := d) (cu.1.2.1 &&& (j_lshl 1 (nI v) ^^^ (-1))) cu.2.2.1 h1 hd
  rw [← e1] at hrf
  have hal : ∀ w, w < 64 → zt (cu.1.2.1 &&& (j_lshl 1 (nI v) ^^^ (-1))) w = (zt cu.1.2.1 w && !(w == v)) := fun w hw => by
    rw [zt_and, zt_xor, zt_m1 hw, bit_S (by omega), Bool.xor_true]
  refine wp_imp (xO_kill (Q := fun u => ∃ q, q ≤ n ∧ u.1 = nI q ∧ CORE d n (N_kill cu u) ∧ MSG d n T bg (N_kill cu u).1 ∧ LAST (N_kill cu u).2.1 cu.1 ∧ zt (N_kill cu u).1.2.1 v = false) ?_) ?_
  · refine wp_of_eq (zox_eq e) (wp_of_eq (zox_eq eA) (wp_obW hsv (fun u3 hu3 => wp_ob hld (wp_bd (wp_obW hrf (fun u6 hu6 => wp_some ⟨_, rfl, dcnt (zt (j_lshl 1 (nI v))) (rwc cu.1) n, hit_S, rfl, ⟨h1, hd, hn, e1, e2, fun w hw => ?_, ?_⟩, ?_, hu3, ?_⟩))))))
    · rcases Nat.lt_or_ge w 64 with q | q
      · show zt (cu.1.2.1 &&& (j_lshl 1 (nI v) ^^^ (-1))) w = false
        rw [hal w q, ha w hw]; rfl
      · exact zt_big q
    · exact hu6
    · exact MSG_die hM hn _ _
    · show zt (cu.1.2.1 &&& (j_lshl 1 (nI v) ^^^ (-1))) v = false
      rw [hal v (by omega)]; simp
  · rintro r ⟨u, ⟨q, hq, e1', hC, hM', hL, hz'⟩, rfl⟩
    exact ⟨⟨q, hq, e1'⟩, ⟨hC, hM', hL.pst⟩, hL, hz'⟩
theorem o_revive_no (h : INV d n T bg cu) {v : Nat} (hv : v < 2 ^ d) (hl : zt cu.1.2.1 v = true) : F_revive (nI v) cu = some (-2000, cu) := by
  obtain ⟨⟨h1, hd, hn, e1, e2, ha, hf⟩, -, -⟩ := h
  have h6 := p2_le hd
  have e : f_X6_requireNode (nI v) cu.1.1 = some (.inr ()) := by rw [e1]; exact s_reqN hd hv
  have hcon := s_contains cu.1.2.1 (show v < 64 by omega)
  rw [hl] at hcon
  exact xS_revive ((zox_eq e).trans ((zob_eq hcon).trans (if_neg (show ¬ bI true = 0 by decide))))
theorem o_revive (h : INV d n T bg cu) {v : Nat} (hv : v < 2 ^ d) (hl : zt cu.1.2.1 v = false) : wp (F_revive (nI v) cu) (fun u => u.1 = nI (2 ^ d - fb_ct (zt u.2.1.2.1) (2 ^ d)) ∧ INV d n T bg u.2 ∧ LAST u.2.2.1 cu.1 ∧ zt u.2.1.2.1 v = true) := by
  obtain ⟨⟨h1, hd, hn, e1, e2, ha, hf⟩, hM, k, z, hk, hz, ek, ez⟩ := id h
  have h6 := p2_le hd
  have e : f_X6_requireNode (nI v) cu.1.1 = some (.inr ()) := by rw [e1]; exact s_reqN hd hv
  have hcon := s_contains cu.1.2.1 (show v < 64 by omega)
  rw [hl] at hcon
  have hsv := s_save' (s0 := cu.2.1.2.2.1) (s1 := cu.2.1.2.2.2.1) (s2 := cu.2.1.2.2.2.2.1) (s3 := cu.2.1.2.2.2.2.2) (n := cu.1) hk hz
  rw [← ek, ← ez] at hsv
  have hrf := s_refresh (d := d) (cu.1.2.1 ||| j_lshl 1 (nI v)) cu.2.2.1 h1 hd
  rw [← e1] at hrf
  have hnc := s_nodeCount hd
  rw [← e1] at hnc
  have hal : ∀ w, zt (cu.1.2.1 ||| j_lshl 1 (nI v)) w = (zt cu.1.2.1 w || (w == v)) := fun w => by
    rw [zt_or, bit_S (by omega)]
  have hbig : ∀ w, 2 ^ d ≤ w → zt (cu.1.2.1 ||| j_lshl 1 (nI v)) w = false := fun w hw => by
    rw [hal, ha w hw, Bool.false_or]; exact beq_eq_false_iff_ne.mpr (by omega)
  have hct := ct_64 (p := zt (cu.1.2.1 ||| j_lshl 1 (nI v))) hd hbig
  have hcl := ct_le (zt (cu.1.2.1 ||| j_lshl 1 (nI v))) (2 ^ d)
  refine wp_imp (xO_revive (Q := fun u => u.1 = nI (2 ^ d - fb_ct (zt (N_revive cu u).1.2.1) (2 ^ d)) ∧ CORE d n (N_revive cu u) ∧ MSG d n T bg (N_revive cu u).1 ∧ LAST (N_revive cu u).2.1 cu.1 ∧ zt (N_revive cu u).1.2.1 v = true) ?_) ?_
  · refine wp_of_eq (zox_eq e) (wp_ob hcon (wp_t rfl (wp_obW hsv (fun u3 hu3 => wp_bd (wp_obW hrf (fun u6 hu6 => wp_ob hnc (wp_ob (s_popL _) (wp_some ⟨_, rfl, ?_, ⟨h1, hd, hn, e1, e2, hbig, hu6⟩, hM, hu3, ?_⟩))))))))
    · show nI (2 ^ d) - nI (fb_ct (zt (cu.1.2.1 ||| j_lshl 1 (nI v))) 64) = nI (2 ^ d - fb_ct (zt (cu.1.2.1 ||| j_lshl 1 (nI v))) (2 ^ d))
      rw [hct, nI_sub hcl]
    · show zt (cu.1.2.1 ||| j_lshl 1 (nI v)) v = true
      rw [hal]; simp
  · rintro r ⟨u, ⟨e1', hC, hM', hL, hz'⟩, rfl⟩
    exact ⟨e1', ⟨hC, hM', hL.pst⟩, hL, hz'⟩
theorem o_send_no (h : INV d n T bg cu) {s t : Nat} (hs : s < 2 ^ d) (ht : t < 2 ^ d) (q : ¬ ((zt cu.1.2.1 s = true ∧ zt cu.1.2.1 t = true) ∧ n < 24)) : F_send (nI s) (nI t) cu = some (-2000, cu) := by
  obtain ⟨⟨h1, hd, hn, e1, e2, ha, hf⟩, -, -⟩ := h
  by_cases q1 : zt cu.1.2.1 s = true ∧ zt cu.1.2.1 t = true
  · have e : f_X6_requireLivingPair (nI s) (nI t) cu.1.1 cu.1.2.1 = some (.inr ()) := by rw [e1]; exact s_pairOk hd hs ht q1.1 q1.2
    have hn24 : n = 24 := by
      rcases Nat.lt_or_ge n 24 with z | z
      · exact absurd ⟨q1, z⟩ q
      · omega
    have hm : ¬ cu.1.2.2.2.1 < 24 := by rw [e2, hn24]; decide
    exact xS_send ((zox_eq e).trans (if_neg hm))
  · have e : f_X6_requireLivingPair (nI s) (nI t) cu.1.1 cu.1.2.1 = some (.inl ISE) := by rw [e1]; exact s_pairNo hd hs ht q1
    exact xS_send (zox_eqE e)
theorem upd_in (f : Nat → Int32) (n : Nat) (x : Int32) : upd f n x n = x := if_pos rfl
theorem upd_out (f : Nat → Int32) {n i : Nat} (x : Int32) (h : i ≠ n) : upd f n x i = f i := if_neg h
theorem o_send (h : INV d n T bg cu) {s t : Nat} (hs : s < 2 ^ d) (ht : t < 2 ^ d) (as : zt cu.1.2.1 s = true) (at' : zt cu.1.2.1 t = true) (hn24 : n < 24) :
    wp (F_send (nI s) (nI t) cu) (fun u => u.1 = nI n ∧ INV d (n + 1) T (upd bg n (nI s)) u.2 ∧ LAST u.2.2.1 cu.1 ∧ u.2.1.2.2.2.2.1 n = (if s = t then 1 else 0) ∧ u.2.1.2.2.2.2.2.1 n = nI s ∧ u.2.1.2.2.2.2.2.2.2.1 n = 0) := by
  obtain ⟨⟨h1, hd, hn, e1, e2, ha, hf⟩, hM, k, z, hk, hz, ek, ez⟩ := id h
  have h6 := p2_le hd
  have e : f_X6_requireLivingPair (nI s) (nI t) cu.1.1 cu.1.2.1 = some (.inr ()) := by rw [e1]; exact s_pairOk hd hs ht as at'
  have hsv := s_save' (s0 := cu.2.1.2.2.1) (s1 := cu.2.1.2.2.2.1) (s2 := cu.2.1.2.2.2.2.1) (s3 := cu.2.1.2.2.2.2.2) (n := cu.1) hk hz
  rw [← ek, ← ez] at hsv
  have ham := s_addMessage (p := s) (g := t) hn24 (show s < 64 by omega) (show t < 64 by omega) cu.1.2.2.2.2.1 cu.1.2.2.2.2.2.1 cu.1.2.2.2.2.2.2.1 cu.1.2.2.2.2.2.2.2.1 cu.1.2.2.2.2.2.2.2.2
  rw [← e2] at ham
  have hlt : cu.1.2.2.2.1 < 24 := by rw [e2]; exact nI_lt (b := 24) hn24 (by decide)
  refine wp_imp (xO_send (Q := fun u => u.1 = nI n ∧ CORE d (n + 1) (N_send cu u) ∧ MSG d (n + 1) T (upd bg n (nI s)) (N_send cu u).1 ∧ LAST (N_send cu u).2.1 cu.1 ∧ (N_send cu u).1.2.2.2.2.1 n = (if s = t then 1 else 0) ∧ (N_send cu u).1.2.2.2.2.2.1 n = nI s ∧ (N_send cu u).1.2.2.2.2.2.2.2.1 n = 0) ?_) ?_
  · refine wp_of_eq (zox_eq e) (wp_t hlt (wp_obW hsv (fun u3 hu3 => wp_ob ham (wp_some ⟨_, rfl, e2, ⟨h1, hd, hn24, e1, rfl, ha, hf⟩, fun i hi => ?_, hu3, upd_in _ _ _, upd_in _ _ _, upd_in _ _ _⟩))))
    by_cases q : i = n
    · subst q
      by_cases st : s = t
      · exact ⟨s, s, t, 0, 1, 0, hs, hs, ht, by decide, upd_in _ _ _, upd_in _ _ _, upd_in _ _ _, upd_in _ _ _, (upd_in _ _ _).trans (by rw [if_pos st]; rfl), Nat.zero_le _, by rw [Nat.xor_self]; decide⟩
      · exact ⟨s, s, t, 0, 0, 0, hs, hs, ht, by decide, upd_in _ _ _, upd_in _ _ _, upd_in _ _ _, upd_in _ _ _, (upd_in _ _ _).trans (by rw [if_neg st]; rfl), Nat.zero_le _, by rw [Nat.xor_self]; decide⟩
    · obtain ⟨b, p, g, m, x, j, g1, g2, g3, g4, g5, g6, g7, g8, g9, g10⟩ := hM i (by omega)
      exact ⟨b, p, g, m, x, j, g1, g2, g3, g4, (upd_out _ _ q).trans g5, (upd_out _ _ q).trans g6, (upd_out _ _ q).trans g7, (upd_out _ _ q).trans g8, (upd_out _ _ q).trans g9, g10⟩
  · rintro r ⟨u, ⟨e1', hC, hM', hL, hr⟩, rfl⟩
    exact ⟨e1', ⟨hC, hM', hL.pst⟩, hL, hr⟩
/-! undo: what was saved last comes back -/
theorem o_undo_no (e : cu.2.1.2.1 = 0) : F_undo cu = some (-2000, cu) := xS_undo (if_pos e)
theorem o_undo {c0 : CU} {bg' : Nat → Int32} (h0 : INV d n T bg c0) (hbg : ∀ i, i < n → bg' i = bg i) (hL : LAST cu.2.1 c0.1) : wp (F_undo cu) (fun u => (∃ q, q < 4 ∧ u.1 = nI q) ∧ INV d n T bg' u.2 ∧ sEq u.2.1 c0.1) := by
  obtain ⟨⟨h1, hd, hn, e1, e2, ha, hf⟩, hM, -⟩ := id h0
  obtain ⟨k, z, hk, hz1, hz, ek, ez, hs⟩ := hL
  obtain ⟨z, rfl⟩ : ∃ y, z = y + 1 := ⟨z - 1, by omega⟩
  have hre := s_restore (s0 := cu.2.1.2.2.1) (s1 := cu.2.1.2.2.2.1) (s2 := cu.2.1.2.2.2.2.1) (s3 := cu.2.1.2.2.2.2.2) (n := cu.1) hk (show z < 4 by omega)
  rw [← ek, ← ez] at hre
  have hq : sEq (cpS cu.1 (pk cu.2.1.2.2.1 cu.2.1.2.2.2.1 cu.2.1.2.2.2.2.1 cu.2.1.2.2.2.2.2 ((k + 3) % 4))) c0.1 := by
    have h := cpS_eq cu.1 (pk cu.2.1.2.2.1 cu.2.1.2.2.2.1 cu.2.1.2.2.2.2.1 cu.2.1.2.2.2.2.2 ((k + 3) % 4))
    obtain ⟨a1, a2, a3, a4, a5⟩ := h
    obtain ⟨b1, b2, b3, b4, b5⟩ := hs
    exact ⟨a1.trans b1, a2.trans b2, a3.trans b3, a4.trans b4, fun i hi => ⟨(a5 i hi).1.trans (b5 i hi).1, (a5 i hi).2.1.trans (b5 i hi).2.1, (a5 i hi).2.2.1.trans (b5 i hi).2.2.1, (a5 i hi).2.2.2.1.trans (b5 i hi).2.2.2.1, (a5 i hi).2.2.2.2.trans (b5 i hi).2.2.2.2⟩⟩
  generalize hR : cpS cu.1 (pk cu.2.1.2.2.1 cu.2.1.2.2.2.1 cu.2.1.2.2.2.2.1 cu.2.1.2.2.2.2.2 ((k + 3) % 4)) = R at hre hq
  have hrf := s_refresh (d := d) R.2.1 cu.2.2.1 h1 hd
  have e1R : R.1 = nI d := hq.1.trans e1
  rw [← e1R] at hrf
  have hne : ¬ cu.2.1.2.1 = 0 := by rw [ez]; exact nI_ne0 (by omega) (by omega)
  refine wp_imp (xO_undo (Q := fun u => u.1 = nI z ∧ INV d n T bg' (N_undo cu u) ∧ sEq (N_undo cu u).1 c0.1) ?_) ?_
  · refine wp_f hne (wp_ob hre (wp_obW hrf (fun u6 hu6 => wp_some ⟨_, rfl, rfl, ⟨⟨h1, hd, hn, e1R, hq.2.2.2.1.trans e2, fun w hw => ?_, hu6⟩, MSG.eqv hn hM hq hbg, (k + 3) % 4, z, by omega, by omega, rfl, rfl⟩, hq⟩)))
    show zt R.2.1 w = false
    rw [hq.2.1]; exact ha w hw
  · rintro r ⟨u, ⟨e1', hI, hS⟩, rfl⟩
    exact ⟨⟨z, by omega, e1'⟩, hI, hS⟩
/-- what is saved and back prints alike -/
theorem PR_eqv {c0 c1 : CU} (hn : n ≤ 24) (h : sEq c1.1 c0.1) : PR d n c1.1.2.1 c1.1.2.2.2.2.1 c1.1.2.2.2.2.2.1 c1.1.2.2.2.2.2.2.2.1 = PR d n c0.1.2.1 c0.1.2.2.2.2.1 c0.1.2.2.2.2.2.1 c0.1.2.2.2.2.2.2.2.1 := by
  unfold PR
  rw [h.2.1]
  exact pr2_cong (fun i hi => ⟨(h.2.2.2.2 i (by omega)).1, (h.2.2.2.2 i (by omega)).2.1, (h.2.2.2.2 i (by omega)).2.2.2.1⟩) _ 25
end
