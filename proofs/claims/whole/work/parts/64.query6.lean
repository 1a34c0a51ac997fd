/-! the question of reach -/
section
variable {d : Nat} {a : Int64} {c : Nat → Int32}
theorem q_reach (x y r : Int32) (f lv nw hm : Nat → Int32) (o : Nat → Int64) (hM : MN c d (zt a)) (ha : ∀ v, 2 ^ d ≤ v → zt a v = false) (hf : ∀ w, w < 64 → f w = nI (LV d (zt a) w)) :
    ∃ k o', f_L_reach 1 x y (nI d) a (nI d) f o = some (k, o') ∧ wp (f_X7_reach x y r c lv nw hm) (fun w => agr k o' w.1 w.2.1) := by
  have hd := hM.2.1
  have h6 := p2_le hd
  have hL6 : ∀ w, LV d (zt a) w ≤ 6 := fun w => Nat.le_trans (lvl_le d (zt a) _ w) hd
  rcases nd_cases d x with ⟨v, hv, rfl⟩ | hx
  · by_cases h0 : y < 0
    · refine ⟨1, _, (zcx_eqE ((zox_eq (s_reqN hd hv)).trans (zjp_eq.trans (if_pos h0)))).trans rfl, ?_⟩
      exact wp_ob (m_isNode hM hv) (wp_jp (wp_jp (wp_f (by decide) (wp_ob (m_within_bad (Or.inl h0)) (wp_t rfl (wp_ob (m_refused1 r) (wp_f (by decide) (wp_some ⟨rfl, fun h => absurd h no1⟩))))))))
    · by_cases h2 : y ≤ 2
      · obtain ⟨k, hk, rfl⟩ := nI_of h0
        have hk2 : k ≤ 2 := by
          rcases Nat.lt_or_ge 2 k with q | q
          · exact absurd h2 (nI_ge (a := 2) q hk)
          · exact q
        have hw := m_within (x := nI k) (lo := 0) (hi := 2) h0 (Int32.not_lt.mpr h2)
        cases hl : zt a v with
        | true =>
          refine ⟨0, _, (zcx_eq (s_reach hd hv hk2 hf (fun w _ => hL6 w) hl)).trans rfl, ?_⟩
          refine wp_ob (m_isNode hM hv) (wp_jp (wp_jp (wp_f (by decide) (wp_ob hw (wp_f (by decide) (wp_ob (m_lives hM hv) ?_))))))
          rw [hl]
          refine wp_f (by decide) (wp_ob (m_refused0 r) (wp_t rfl (wp_obW (m_findLevels hM ha) (fun u hu => ?_))))
          exact wp_of_eq (m_reachL (fun i3 => some (i3, 0, u.2.1, u.2.2.1, u.2.2.2)) hM hv hk2 hu.2 (fun w _ => hL6 w)) (wp_some ⟨rfl, fun _ => updL_0 o _⟩)
        | false =>
          have e1 : f_X6_requireAlive (nI v) a = some (.inl ISE) := by rw [s_reqA a (by omega), hl]; rfl
          refine ⟨2, _, (zcx_eqE ((zox_eq (s_reqN hd hv)).trans (zjp_eq.trans ((if_neg h0).trans ((if_pos h2).trans (zox_eqE e1)))))).trans rfl, ?_⟩
          refine wp_ob (m_isNode hM hv) (wp_jp (wp_jp (wp_f (by decide) (wp_ob hw (wp_f (by decide) (wp_ob (m_lives hM hv) ?_))))))
          rw [hl]
          exact wp_t rfl (wp_ob (m_refused2 r) (wp_f (by decide) (wp_some ⟨rfl, fun h => absurd h no2⟩)))
      · refine ⟨1, _, (zcx_eqE ((zox_eq (s_reqN hd hv)).trans (zjp_eq.trans ((if_neg h0).trans (if_neg h2))))).trans rfl, ?_⟩
        exact wp_ob (m_isNode hM hv) (wp_jp (wp_jp (wp_f (by decide) (wp_ob (m_within_bad (Or.inr (Int32.not_le.mp h2))) (wp_t rfl (wp_ob (m_refused1 r) (wp_f (by decide) (wp_some ⟨rfl, fun h => absurd h no1⟩))))))))
  · refine ⟨1, _, (zcx_eqE (zox_eqE (s_reqN_bad hd hx))).trans rfl, ?_⟩
    exact wp_ob (m_isNode_bad hM hx) (wp_jp (wp_jp (wp_t rfl (wp_ob (m_refused1 r) (wp_f (by decide) (wp_some ⟨rfl, fun h => absurd h no1⟩))))))
end
