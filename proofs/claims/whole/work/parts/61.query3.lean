/-! questions about messages -/
theorem msg_cases (n : Nat) (x : Int32) (hn : n ≤ 24) : (∃ i, i < n ∧ x = nI i ∧ f_X6_requireMessage x (nI n) = some (.inr ()) ∧ f_X7_within x 0 (nI n - 1) = some 1) ∨ (f_X6_requireMessage x (nI n) = some (.inl IAE) ∧ f_X7_within x 0 (nI n - 1) = some 0) := by
  by_cases h : x < 0
  · exact Or.inr ⟨zjp_eq.trans (if_pos h), m_within_bad (Or.inl h)⟩
  · obtain ⟨i, hi, rfl⟩ := nI_of h
    rcases Nat.lt_or_ge i n with q | q
    · refine Or.inl ⟨i, q, rfl, zjp_eq.trans ((if_neg h).trans (if_pos (nI_lt q (by omega)))), m_within h ?_⟩
      rw [show nI n - (1 : Int32) = nI (n - 1) from nI_sub (b := 1) (by omega)]
      exact nI_nlt (by omega) (by omega)
    · refine Or.inr ⟨zjp_eq.trans ((if_neg h).trans (if_neg (nI_nlt q hi))), m_within_bad (Or.inr ?_)⟩
      rcases Nat.eq_zero_or_pos n with z | z
      · subst z
        rw [Int32.lt_iff_toInt_lt, nI_toInt hi, show (nI 0 - (1 : Int32)).toInt = -1 from by decide]
        omega
      · rw [show nI n - (1 : Int32) = nI (n - 1) from nI_sub (b := 1) (by omega)]
        exact nI_lt (by omega) hi
theorem m_asked {c : Nat → Int32} {n i e : Nat} {r : Int32} (hc2 : c 2 = nI n) (hn : n ≤ 24) (hi : i < n) (he : e < 5) (hw : f_X7_within (nI i) 0 (nI n - 1) = some 1) : f_X7_asked (nI i) (nI e) r c = some (c (67 + 5 * i + e), 0) := by
  refine (zgd_eq rfl).trans ?_
  rw [show c (2 : Int32).toNatClampNeg = nI n from hc2]
  refine (zob_eq hw).trans (zjp_eq.trans ((if_neg (by decide)).trans ((zob_eq (m_refused0 r)).trans ((if_pos rfl).trans ?_))))
  rw [show (67 : Int32) + (5 : Int32) * nI i + nI e = nI (67 + 5 * i + e) by rw [show (5 : Int32) * nI i = nI (5 * i) from nI_mul 5 i, show (67 : Int32) + nI (5 * i) = nI (67 + 5 * i) from nI_add 67 (5 * i), nI_add]]
  refine (zgd_eq (inb_nI (by omega) (by decide))).trans ?_
  rw [nI_clamp (by omega)]
theorem m_asked_bad {c : Nat → Int32} {n : Nat} {x e r : Int32} (hc2 : c 2 = nI n) (hw : f_X7_within x 0 (nI n - 1) = some 0) : f_X7_asked x e r c = some (0, 1) := by
  refine (zgd_eq rfl).trans ?_
  rw [show c (2 : Int32).toNatClampNeg = nI n from hc2]
  exact (zob_eq hw).trans (zjp_eq.trans ((if_pos rfl).trans ((zob_eq (m_refused1 r)).trans (if_neg (by decide)))))
section
variable {d n : Nat} {s : Sl} {c : Nat → Int32}
theorem q_state (x r : Int32) (o : Nat → Int64) (hc2 : c 2 = nI n) (hn : n ≤ 24) (hm : ∀ i, i < n → RM d s c i) :
    ∃ k o', f_L_state 1 x (nI n) s.2.2.2.2.1 o = some (k, o') ∧ wp (f_X7_state x r c) (fun w => agr k o' w.1 w.2) := by
  rcases msg_cases n x hn with ⟨i, hi, rfl, e1, e2⟩ | ⟨e1, e2⟩
  · refine ⟨0, _, (zcx_eq ((zox_eq e1).trans (zob_eq (s_read _ (show i < 24 by omega) (by decide))))).trans rfl, ?_⟩
    refine wp_ob (m_asked (e := 0) hc2 hn hi (by decide) e2) (wp_some ⟨rfl, fun _ => ?_⟩)
    rw [updL_0, (hm i hi).1]; rfl
  · exact ⟨1, _, (zcx_eqE (zox_eqE e1)).trans rfl, wp_ob (m_asked_bad hc2 e2) (wp_some ⟨rfl, fun h => absurd h (by decide)⟩)⟩
theorem q_position (x r : Int32) (o : Nat → Int64) (hc2 : c 2 = nI n) (hn : n ≤ 24) (hm : ∀ i, i < n → RM d s c i) :
    ∃ k o', f_L_position 1 x (nI n) s.2.2.2.2.2.1 o = some (k, o') ∧ wp (f_X7_position x r c) (fun w => agr k o' w.1 w.2) := by
  rcases msg_cases n x hn with ⟨i, hi, rfl, e1, e2⟩ | ⟨e1, e2⟩
  · refine ⟨0, _, (zcx_eq ((zox_eq e1).trans (zob_eq (s_read _ (show i < 24 by omega) (by decide))))).trans rfl, ?_⟩
    refine wp_ob (m_asked (e := 1) hc2 hn hi (by decide) e2) (wp_some ⟨rfl, fun _ => ?_⟩)
    rw [updL_0, (hm i hi).2.1, show 67 + 5 * i + 1 = 68 + 5 * i by omega]
  · exact ⟨1, _, (zcx_eqE (zox_eqE e1)).trans rfl, wp_ob (m_asked_bad hc2 e2) (wp_some ⟨rfl, fun h => absurd h (by decide)⟩)⟩
theorem q_moves (x r : Int32) (o : Nat → Int64) (hc2 : c 2 = nI n) (hn : n ≤ 24) (hm : ∀ i, i < n → RM d s c i) :
    ∃ k o', f_L_moves 1 x (nI n) s.2.2.2.2.2.2.2.1 o = some (k, o') ∧ wp (f_X7_moves x r c) (fun w => agr k o' w.1 w.2) := by
  rcases msg_cases n x hn with ⟨i, hi, rfl, e1, e2⟩ | ⟨e1, e2⟩
  · refine ⟨0, _, (zcx_eq ((zox_eq e1).trans (zob_eq (s_read _ (show i < 24 by omega) (by decide))))).trans rfl, ?_⟩
    refine wp_ob (m_asked (e := 3) hc2 hn hi (by decide) e2) (wp_some ⟨rfl, fun _ => ?_⟩)
    rw [updL_0, (hm i hi).2.2.2.1, show 67 + 5 * i + 3 = 70 + 5 * i by omega]
  · exact ⟨1, _, (zcx_eqE (zox_eqE e1)).trans rfl, wp_ob (m_asked_bad hc2 e2) (wp_some ⟨rfl, fun h => absurd h (by decide)⟩)⟩
theorem q_count (x r : Int32) (o : Nat → Int64) (hc2 : c 2 = nI n) (hn : n ≤ 24) (hm : ∀ i, i < n → RM d s c i) :
    ∃ k o', f_L_count 1 x (nI n) s.2.2.2.2.1 o = some (k, o') ∧ wp (f_X7_count x r c) (fun w => agr k o' w.1 w.2) := by
  by_cases h0 : x < 0
  · exact ⟨1, _, (zcx_eqE (zjp_eq.trans (if_pos h0))).trans rfl, wp_ob (m_within_bad (Or.inl h0)) (wp_jp (wp_t rfl (wp_ob (m_refused1 r) (wp_f (by decide) (wp_some ⟨rfl, fun h => absurd h (by decide)⟩)))))⟩
  · by_cases h2 : x ≤ 2
    · have hs : f_X6_count x (nI n) s.2.2.2.2.1 = some (.inr (nI (fb_ct (fun i => decide (c (67 + 5 * i) = x)) n))) := by
        refine zjp_eq.trans ((if_neg h0).trans ((if_pos h2).trans ?_))
        refine zl2_iter n (fun j => nI (fb_ct (fun i => decide (c (67 + 5 * i) = x)) j)) (fun j => nI j) (by omega) (fun K j hj => ?_) (fun K => if_pos (nI_le (Nat.le_refl _) (by omega))) rfl nI_0
        refine (if_neg (nI_ge hj (by omega))).trans ((zob_eq (s_read _ (show j < 24 by omega) (by decide))).trans (zjp_eq.trans ?_))
        rw [(hm j hj).1, fb_ct_succ]
        by_cases e : c (67 + 5 * j) = x
        · refine (if_pos e).trans (zbd_eq.trans (zbd_eq.trans ?_))
          rw [nI_1, nI_1, decide_eq_true e]; rfl
        · refine (if_neg e).trans (zbd_eq.trans ?_)
          rw [nI_1, decide_eq_false e]; rfl
      refine ⟨0, _, (zcx_eq hs).trans rfl, ?_⟩
      refine wp_ob (m_within h0 (Int32.not_lt.mpr h2)) (wp_jp (wp_f (by decide) (wp_ob (m_refused0 r) (wp_t rfl ?_))))
      refine wp_of_eq ?_ (wp_some (r := (nI (fb_ct (fun i => decide (c (67 + 5 * i) = x)) n), 0)) ⟨rfl, fun _ => updL_0 _ _⟩)
      refine zl2_iter n (fun j => nI (fb_ct (fun i => decide (c (67 + 5 * i) = x)) j)) (fun j => nI j) (by omega) (fun K j hj => ?_) (fun K => (zgd_eq rfl).trans (if_pos (by rw [show c (2 : Int32).toNatClampNeg = nI n from hc2]; exact nI_le (Nat.le_refl _) (by omega)))) rfl nI_0
      refine (zgd_eq rfl).trans ((if_neg (by rw [show c (2 : Int32).toNatClampNeg = nI n from hc2]; exact nI_ge hj (by omega))).trans ?_)
      rw [show (5 : Int32) * nI j = nI (5 * j) from nI_mul 5 j, show (67 : Int32) + nI (5 * j) = nI (67 + 5 * j) from nI_add 67 (5 * j)]
      refine (zgd_eq (inb_nI (by omega) (by decide))).trans (zjp_eq.trans ?_)
      rw [nI_clamp (show 67 + 5 * j < 2 ^ 31 by omega), fb_ct_succ]
      by_cases e : c (67 + 5 * j) = x
      · refine (if_pos e).trans (zbd_eq.trans (zbd_eq.trans ?_))
        rw [nI_1, nI_1, decide_eq_true e]; rfl
      · refine (if_neg e).trans (zbd_eq.trans (zbd_eq.trans ?_))
        rw [nI_1, decide_eq_false e, Int32.add_zero]; rfl
    · exact ⟨1, _, (zcx_eqE (zjp_eq.trans ((if_neg h0).trans (if_neg h2)))).trans rfl, wp_ob (m_within_bad (Or.inr (Int32.not_le.mp h2))) (wp_jp (wp_t rfl (wp_ob (m_refused1 r) (wp_f (by decide) (wp_some ⟨rfl, fun h => absurd h (by decide)⟩)))))⟩
end
