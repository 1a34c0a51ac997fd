/-! undo: class in its wrapper and reference, both ways -/
abbrev n_undo_s (s : Sl) (u : rt_L_undo) : Sl := (u.2.1, u.2.2.1, u.2.2.2.1, u.2.2.2.2.1, u.2.2.2.2.2.1, u.2.2.2.2.2.2.1, u.2.2.2.2.2.2.2.1, u.2.2.2.2.2.2.2.2.1, u.2.2.2.2.2.2.2.2.2.1)
abbrev n_undo_g (g : RG) (u : rt_L_undo) : RG := (u.2.2.2.2.2.2.2.2.2.2.1, u.2.2.2.2.2.2.2.2.2.2.2.1, g.2.2.1, g.2.2.2.1, g.2.2.2.2.1, g.2.2.2.2.2)
abbrev n_undo_t (t : SF) (u : rt_L_undo) : SF := (u.2.2.2.2.2.2.2.2.2.2.2.2.1, u.2.2.2.2.2.2.2.2.2.2.2.2.2.1, u.2.2.2.2.2.2.2.2.2.2.2.2.2.2.1, u.2.2.2.2.2.2.2.2.2.2.2.2.2.2.2.1, u.2.2.2.2.2.2.2.2.2.2.2.2.2.2.2.2.1)
abbrev n_undo_o (u : rt_L_undo) : Nat → Int64 := u.2.2.2.2.2.2.2.2.2.2.2.2.2.2.2.2.2
set_option maxRecDepth 100000 in
theorem o_undo (r : Int32) (o : Nat → Int64) {s : Sl} {g : RG} {t : SF} {sv : Int32} {c past : Nat → Int32} (h : REL s g t sv c past) : wp (f_L_undo 1 s.1 s.2.1 s.2.2.1 s.2.2.2.1 s.2.2.2.2.1 s.2.2.2.2.2.1 s.2.2.2.2.2.2.1 s.2.2.2.2.2.2.2.1 s.2.2.2.2.2.2.2.2 g.1 g.2.1 g.2.2.1.1 g.2.2.1.2.1 g.2.2.1.2.2.1 g.2.2.1.2.2.2.1 g.2.2.1.2.2.2.2.1 g.2.2.1.2.2.2.2.2.1 g.2.2.1.2.2.2.2.2.2.1 g.2.2.1.2.2.2.2.2.2.2.1 g.2.2.1.2.2.2.2.2.2.2.2 g.2.2.2.1.1 g.2.2.2.1.2.1 g.2.2.2.1.2.2.1 g.2.2.2.1.2.2.2.1 g.2.2.2.1.2.2.2.2.1 g.2.2.2.1.2.2.2.2.2.1 g.2.2.2.1.2.2.2.2.2.2.1 g.2.2.2.1.2.2.2.2.2.2.2.1 g.2.2.2.1.2.2.2.2.2.2.2.2 g.2.2.2.2.1.1 g.2.2.2.2.1.2.1 g.2.2.2.2.1.2.2.1 g.2.2.2.2.1.2.2.2.1 g.2.2.2.2.1.2.2.2.2.1 g.2.2.2.2.1.2.2.2.2.2.1 g.2.2.2.2.1.2.2.2.2.2.2.1 g.2.2.2.2.1.2.2.2.2.2.2.2.1 g.2.2.2.2.1.2.2.2.2.2.2.2.2 g.2.2.2.2.2.1 g.2.2.2.2.2.2.1 g.2.2.2.2.2.2.2.1 g.2.2.2.2.2.2.2.2.1 g.2.2.2.2.2.2.2.2.2.1 g.2.2.2.2.2.2.2.2.2.2.1 g.2.2.2.2.2.2.2.2.2.2.2.1 g.2.2.2.2.2.2.2.2.2.2.2.2.1 g.2.2.2.2.2.2.2.2.2.2.2.2.2 t.1 t.2.1 t.2.2.1 t.2.2.2.1 t.2.2.2.2 o) (fun u => wp (f_X7_undo sv r c past) (fun w => agr u.1 (n_undo_o u) w.1 w.2.2.1 ∧ REL (n_undo_s s u) (n_undo_g g u) (n_undo_t t u) w.2.1 w.2.2.2 past)) := by
  obtain ⟨d, n, hs1, hs4, hd1, hd, hn, hc2, hM, ha, hB, hRM, hF⟩ := REL_un h
  obtain ⟨s1, a, st, s4, T⟩ := s
  replace hs1 : s1 = nI d := hs1
  replace hs4 : s4 = nI n := hs4
  subst hs1 hs4
  have h6 := p2_le hd
  obtain ⟨k, z, hk, hz, ek, ez, ev, hr⟩ := id h.2.1
  obtain ⟨g1, g2, s0, s1', s2', s3'⟩ := g
  replace ek : g1 = nI k := ek
  replace ez : g2 = nI z := ez
  subst ek ez ev
  rcases z with _ | z
  · refine wp_of_eq ((zcx_eqE (if_pos rfl)).trans (if_pos rfl)) (wp_some (wp_of_eq (m_undo0 r c past) (wp_some ⟨⟨rfl, fun q => absurd q no1⟩, h⟩)))
  · obtain ⟨hP2, hR2⟩ := PA_undo (n := (nI d, a, st, nI n, T)) (c := c) hk (show z < 4 by omega) hr
    obtain ⟨d', n', e1', e4', hM', ha', hB', hRM'⟩ := RN_MN hR2
    have hsf := s_refresh (d := d') (cpS (nI d, a, st, nI n, T) (pk s0 s1' s2' s3' ((k + 3) % 4))).2.1 t hM'.1 hM'.2.1
    refine wp_cxW (wp_f (nI_ne0 (by omega) (by omega)) (wp_ob (s_restore (s0 := s0) (s1 := s1') (s2 := s2') (s3 := s3') (n := (nI d, a, st, nI n, T)) hk (show z < 4 by omega)) (wp_obW (P := findQ d' (zt (cpS (nI d, a, st, nI n, T) (pk s0 s1' s2' s3' ((k + 3) % 4))).2.1)) ?_ (fun u6 hu6 => wp_some ⟨_, rfl, ?_⟩))))
    · rw [← e1'] at hsf; exact hsf
    · refine wp_bd (wp_gd rfl (wp_bd (wp_some (wp_of_eq (m_undo (by omega) r c past) (wp_some ⟨⟨rfl, fun _ => updL_0 o _⟩, hR2, hP2, d', hM'.2.1, e1', hu6⟩)))))
