/-! the question of disjoint paths -/
section
variable {d : Nat} {a : Int64} {c : Nat → Int32}
theorem bar_ok {v w : Nat} (hM : MN c d (zt a)) (hv : v < 2 ^ d) (hw : w < 2 ^ d) : f_X7_barOf (nI v) (nI w) c = some (if (zt a v && zt a w) = true then 0 else 2) := by
  refine (zob_eq (m_isNode hM hv)).trans (zjp_eq.trans ((if_neg (by decide)).trans ((zob_eq (m_isNode hM hw)).trans ((if_neg (by decide)).trans ((zob_eq (m_lives hM hv)).trans (zjp_eq.trans ?_))))))
  cases zt a v with
  | false => exact if_pos rfl
  | true =>
    refine (if_neg (by decide)).trans ((zob_eq (m_lives hM hw)).trans ?_)
    cases zt a w with
    | false => exact if_pos rfl
    | true => exact if_neg (by decide)
theorem q_disjointPaths (x y r x1 x2 x3 x4 hm : Int32) (x5 : Int64) (lv cf q comes goes cm hv way : Nat → Int32) (o : Nat → Int64) (hM : MN c d (zt a)) :
    ∃ u, f_L_disjointPaths 1 x y (nI d) a x1 x2 x3 x4 x5 lv cf q o = some u ∧ wp (f_X7_disjointPaths x y r hm c comes goes cm hv way) (fun w => agr u.1 u.2.2.2.2.2.2.2.2.2 w.1 w.2.1) := by
  have hd := hM.2.1
  have h6 := p2_le hd
  rcases nd_cases d x with ⟨v, hv', rfl⟩ | hx
  · rcases nd_cases d y with ⟨w, hw, rfl⟩ | hy
    · by_cases e : v = w
      · subst e
        refine ⟨_, (zcx_eqE ((zox_eq (s_reqN hd hv')).trans ((zox_eq (s_reqN hd hw)).trans (if_pos rfl)))).trans rfl, ?_⟩
        exact wp_jp (wp_t rfl (wp_ob (m_refused1 r) (wp_f (by decide) (wp_some ⟨rfl, fun h => absurd h no1⟩))))
      · have ne : ¬ nI v = nI w := fun z => e (nI_inj (by omega) (by omega) z)
        have hb := bar_ok hM hv' hw
        have e1 := s_reqA a (v := v) (by omega)
        have e2 := s_reqA a (v := w) (by omega)
        cases hl : zt a v with
        | false =>
          rw [hl] at e1 hb
          refine ⟨_, (zcx_eqE ((zox_eq (s_reqN hd hv')).trans ((zox_eq (s_reqN hd hw)).trans ((if_neg ne).trans (zox_eqE e1))))).trans rfl, ?_⟩
          exact wp_jp (wp_f ne (wp_ob hb (wp_ob (m_refused2 r) (wp_f (by decide) (wp_some ⟨rfl, fun h => absurd h no2⟩)))))
        | true =>
          rw [hl] at e1 hb
          cases hl2 : zt a w with
          | false =>
            rw [hl2] at e2 hb
            refine ⟨_, (zcx_eqE ((zox_eq (s_reqN hd hv')).trans ((zox_eq (s_reqN hd hw)).trans ((if_neg ne).trans ((zox_eq e1).trans (zox_eqE e2)))))).trans rfl, ?_⟩
            exact wp_jp (wp_f ne (wp_ob hb (wp_ob (m_refused2 r) (wp_f (by decide) (wp_some ⟨rfl, fun h => absurd h no2⟩)))))
          | true =>
            rw [hl2] at e2 hb
            have e1' : f_X6_requireAlive (nI v) a = some (.inr ()) := e1.trans rfl
            have e2' : f_X6_requireAlive (nI w) a = some (.inr ()) := e2.trans rfl
            obtain ⟨u, eu, hu⟩ := s_largestP (a := a) hd hv' hw e x1 x2 x3 x4 x5 lv cf q
            have hc : f_X6_disjointPaths (nI v) (nI w) (nI d) a x1 x2 x3 x4 x5 lv cf q = some (.inr u) := by
              unfold f_X6_disjointPaths
              rw [s_reqN hd hv', s_reqN hd hw, e1', e2', eu]
              exact if_neg ne
            refine ⟨_, (zcx_eq hc).trans rfl, ?_⟩
            refine wp_imp (m_disjoint hM hv' hw e hb) (fun z hz => ⟨hz.2, fun _ => (updL_0 o _).trans ?_⟩)
            show u.1.toInt64 = z.1.toInt64
            rw [hu, hz.1]
    · refine ⟨_, (zcx_eqE ((zox_eq (s_reqN hd hv')).trans (zox_eqE (s_reqN_bad hd hy)))).trans rfl, ?_⟩
      refine wp_jp (wp_ite (fun _ => wp_ob (m_refused1 r) (wp_f (by decide) (wp_some ⟨rfl, fun h => absurd h no1⟩))) (fun _ => ?_))
      exact wp_ob ((zob_eq (m_isNode hM hv')).trans (zjp_eq.trans ((if_neg (by decide)).trans ((zob_eq (m_isNode_bad hM hy)).trans (if_pos rfl))))) (wp_ob (m_refused1 r) (wp_f (by decide) (wp_some ⟨rfl, fun h => absurd h no1⟩)))
  · refine ⟨_, (zcx_eqE (zox_eqE (s_reqN_bad hd hx))).trans rfl, ?_⟩
    refine wp_jp (wp_ite (fun _ => wp_ob (m_refused1 r) (wp_f (by decide) (wp_some ⟨rfl, fun h => absurd h no1⟩))) (fun _ => ?_))
    exact wp_ob ((zob_eq (m_isNode_bad hM hx)).trans (zjp_eq.trans (if_pos rfl))) (wp_ob (m_refused1 r) (wp_f (by decide) (wp_some ⟨rfl, fun h => absurd h no1⟩)))
end
