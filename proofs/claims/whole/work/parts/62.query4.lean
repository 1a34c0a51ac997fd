/-! questions about routes, reach, broadcasts, free subcubes, disjoint paths -/
theorem no1 : ¬ (1 : Int32) = 0 := by decide
theorem no2 : ¬ (2 : Int32) = 0 := by decide
section
variable {d : Nat} {a : Int64} {c : Nat → Int32}
theorem q_broadcastSize (x r n0 : Int32) (f T M Q lst at' lv nw hm dims : Nat → Int32) (o : Nat → Int64) (hM : MN c d (zt a)) (ha : ∀ v, 2 ^ d ≤ v → zt a v = false) (hf : ∀ w, w < 64 → f w = nI (LV d (zt a) w)) :
    ∃ u, f_L_broadcastSize 1 x (nI d) a (nI d) f n0 T M Q o = some u ∧ wp (f_X7_broadcastSize x r c lst at' lv nw hm dims) (fun w => agr u.1 u.2.2.2.2.2 w.1 w.2.1) := by
  have hd := hM.2.1
  have h6 := p2_le hd
  have hL6 : ∀ w, LV d (zt a) w ≤ 6 := fun w => Nat.le_trans (lvl_le d (zt a) _ w) hd
  rcases nd_cases d x with ⟨v, hv, rfl⟩ | hx
  · cases hl : zt a v with
    | true =>
      obtain ⟨u, e, hu⟩ := s_run (a := a) (n0 := n0) (T := T) (M := M) (Q := Q) hd hf (fun w _ => hL6 w) hv
      have e1 : f_X6_requireAlive (nI v) a = some (.inr ()) := by rw [s_reqA a (by omega), hl]; rfl
      refine ⟨_, (zcx_eq ((zox_eq (s_reqN hd hv)).trans ((zox_eq e1).trans (zob_eq e)))).trans rfl, ?_⟩
      refine wp_ob (m_isNode hM hv) (wp_jp (wp_f (by decide) (wp_ob (m_lives hM hv) ?_)))
      rw [hl]
      refine wp_f (by decide) (wp_ob (m_refused0 r) (wp_t rfl (wp_obW (m_broadcasts hM ha hv) (fun u2 hu2 => wp_some ⟨rfl, fun _ => ?_⟩))))
      refine (updL_0 o _).trans ?_
      show u.1.toInt64 = u2.1.toInt64
      rw [hu.1, hu2.1]
    | false =>
      have e1 : f_X6_requireAlive (nI v) a = some (.inl ISE) := by rw [s_reqA a (by omega), hl]; rfl
      refine ⟨_, (zcx_eqE ((zox_eq (s_reqN hd hv)).trans (zox_eqE e1))).trans rfl, ?_⟩
      refine wp_ob (m_isNode hM hv) (wp_jp (wp_f (by decide) (wp_ob (m_lives hM hv) ?_)))
      rw [hl]
      exact wp_t rfl (wp_ob (m_refused2 r) (wp_f (by decide) (wp_some ⟨rfl, fun h => absurd h no2⟩)))
  · refine ⟨_, (zcx_eqE (zox_eqE (s_reqN_bad hd hx))).trans rfl, ?_⟩
    exact wp_ob (m_isNode_bad hM hx) (wp_jp (wp_t rfl (wp_ob (m_refused1 r) (wp_f (by decide) (wp_some ⟨rfl, fun h => absurd h no1⟩)))))
theorem q_broadcastTime (x y r n0 : Int32) (f T M Q lst at' lv nw hm dims : Nat → Int32) (o : Nat → Int64) (hM : MN c d (zt a)) (ha : ∀ v, 2 ^ d ≤ v → zt a v = false) (hf : ∀ w, w < 64 → f w = nI (LV d (zt a) w)) :
    ∃ u, f_L_broadcastTime 1 x y (nI d) a (nI d) f n0 T M Q o = some u ∧ wp (f_X7_broadcastTime x y r c lst at' lv nw hm dims) (fun w => agr u.1 u.2.2.2.2.2 w.1 w.2.1) := by
  have hd := hM.2.1
  have h6 := p2_le hd
  have hL6 : ∀ w, LV d (zt a) w ≤ 6 := fun w => Nat.le_trans (lvl_le d (zt a) _ w) hd
  rcases nd_cases d x with ⟨v, hv, rfl⟩ | hx
  · rcases nd_cases d y with ⟨w, hw, rfl⟩ | hy
    · cases hl : zt a v with
      | true =>
        obtain ⟨u, e, hu⟩ := s_run (a := a) (n0 := n0) (T := T) (M := M) (Q := Q) hd hf (fun w _ => hL6 w) hv
        have e1 : f_X6_requireAlive (nI v) a = some (.inr ()) := by rw [s_reqA a (by omega), hl]; rfl
        refine ⟨_, (zcx_eq ((zox_eq (s_reqN hd hv)).trans ((zox_eq (s_reqN hd hw)).trans ((zox_eq e1).trans ((zob_eq e).trans (zob_eq (s_timeOf u.2.1 (show w < 64 by omega)))))))).trans rfl, ?_⟩
        refine wp_ob (m_isNode hM hv) (wp_jp (wp_jp (wp_f (by decide) (wp_ob (m_isNode hM hw) (wp_f (by decide) (wp_ob (m_lives hM hv) ?_))))))
        rw [hl]
        refine wp_f (by decide) (wp_ob (m_refused0 r) (wp_t rfl (wp_obW (m_broadcasts hM ha hv) (fun u2 hu2 => wp_gd (inb_nI (by omega) (by decide)) (wp_some ⟨rfl, fun _ => ?_⟩)))))
        refine (updL_0 o _).trans ?_
        show (u.2.1 w).toInt64 = (u2.2.2.1 (nI w : Int32).toNatClampNeg).toInt64
        rw [nI_clamp (show w < 2 ^ 31 by omega), hu.2.1 w (by omega), hu2.2.1 w (by omega)]
      | false =>
        have e1 : f_X6_requireAlive (nI v) a = some (.inl ISE) := by rw [s_reqA a (by omega), hl]; rfl
        refine ⟨_, (zcx_eqE ((zox_eq (s_reqN hd hv)).trans ((zox_eq (s_reqN hd hw)).trans (zox_eqE e1)))).trans rfl, ?_⟩
        refine wp_ob (m_isNode hM hv) (wp_jp (wp_jp (wp_f (by decide) (wp_ob (m_isNode hM hw) (wp_f (by decide) (wp_ob (m_lives hM hv) ?_))))))
        rw [hl]
        exact wp_t rfl (wp_ob (m_refused2 r) (wp_f (by decide) (wp_some ⟨rfl, fun h => absurd h no2⟩)))
    · refine ⟨_, (zcx_eqE ((zox_eq (s_reqN hd hv)).trans (zox_eqE (s_reqN_bad hd hy)))).trans rfl, ?_⟩
      exact wp_ob (m_isNode hM hv) (wp_jp (wp_jp (wp_f (by decide) (wp_ob (m_isNode_bad hM hy) (wp_t rfl (wp_ob (m_refused1 r) (wp_f (by decide) (wp_some ⟨rfl, fun h => absurd h no1⟩))))))))
  · refine ⟨_, (zcx_eqE (zox_eqE (s_reqN_bad hd hx))).trans rfl, ?_⟩
    exact wp_ob (m_isNode_bad hM hx) (wp_jp (wp_jp (wp_t rfl (wp_ob (m_refused1 r) (wp_f (by decide) (wp_some ⟨rfl, fun h => absurd h no1⟩))))))
end
