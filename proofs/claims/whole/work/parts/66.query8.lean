/-! the question of a node of a route -/
section
variable {d : Nat} {a : Int64} {c : Nat → Int32}
theorem q_routeNode (x y z r : Int32) (f lv nw hm : Nat → Int32) (o : Nat → Int64) (hM : MN c d (zt a)) (ha : ∀ v, 2 ^ d ≤ v → zt a v = false) (hf : ∀ w, w < 64 → f w = nI (LV d (zt a) w)) :
    ∃ k o', f_L_routeNode 1 x y z (nI d) a (nI d) f o = some (k, o') ∧ wp (f_X7_routeNode x y z r c lv nw hm) (fun w => agr k o' w.1 w.2.1) := by
  have hd := hM.2.1
  have h6 := p2_le hd
  have hL6 : ∀ w, LV d (zt a) w ≤ 6 := fun w => Nat.le_trans (lvl_le d (zt a) _ w) hd
  have h1 : ∀ E, f_X6_routeNode x y z (nI d) a (nI d) f = some (.inl E) → E = IAE → f_L_routeNode 1 x y z (nI d) a (nI d) f o = some (1, o) := fun E e q => by subst q; exact (zcx_eqE e).trans rfl
  have h2 : ∀ E, f_X6_routeNode x y z (nI d) a (nI d) f = some (.inl E) → E = ISE → f_L_routeNode 1 x y z (nI d) a (nI d) f o = some (2, o) := fun E e q => by subst q; exact (zcx_eqE e).trans rfl
  have f1 : wp (zob (f_X7_refused 1 r) (fun u1 => if (u1.1 : Int32) = 0 then (none : Option rt_X7_routeNode) else some (0, u1.2, lv, nw, hm))) (fun w => agr 1 o w.1 w.2.1) := wp_ob (m_refused1 r) (wp_f (by decide) (wp_some ⟨rfl, fun h => absurd h no1⟩))
  by_cases hz : (0 : Int32) ≤ z
  · rcases nd_cases d x with ⟨v, hv, rfl⟩ | hx
    · rcases nd_cases d y with ⟨w, hw, rfl⟩ | hy
      · have hb := bar_ok hM hv hw
        have e1 := s_reqA a (v := v) (by omega)
        have e2 := s_reqA a (v := w) (by omega)
        cases hl : zt a v with
        | false =>
          rw [hl] at e1 hb
          refine ⟨2, o, h2 _ ((zox_eq (s_reqN hd hv)).trans ((zox_eq (s_reqN hd hw)).trans ((if_pos hz).trans (zox_eqE e1)))) rfl, ?_⟩
          exact wp_jp (wp_t hz (wp_ob hb (wp_ob (m_refused2 r) (wp_f (by decide) (wp_some ⟨rfl, fun h => absurd h no2⟩)))))
        | true =>
          rw [hl] at e1 hb
          have e1' : f_X6_requireAlive (nI v) a = some (.inr ()) := e1.trans rfl
          cases hl2 : zt a w with
          | false =>
            rw [hl2] at e2 hb
            refine ⟨2, o, h2 _ ((zox_eq (s_reqN hd hv)).trans ((zox_eq (s_reqN hd hw)).trans ((if_pos hz).trans ((zox_eq e1').trans (zox_eqE e2))))) rfl, ?_⟩
            exact wp_jp (wp_t hz (wp_ob hb (wp_ob (m_refused2 r) (wp_f (by decide) (wp_some ⟨rfl, fun h => absurd h no2⟩)))))
          | true =>
            rw [hl2] at e2 hb
            have e2' : f_X6_requireAlive (nI w) a = some (.inr ()) := e2.trans rfl
            have hlen := s_lengthOfRoute hd hv hw hf (fun w _ => hL6 w)
            by_cases hzl : z ≤ rlen d (LV d (zt a)) v w
            · obtain ⟨n, hn, rfl⟩ := nI_of (x := z) (Int32.not_lt.mpr hz)
              have hdn : dcs d (LV d (zt a)) v w ≠ 2 := fun q => by
                unfold rlen at hzl
                rw [if_pos q] at hzl
                exact nI_pos hn (Int32.lt_of_le_of_lt hzl (by decide))
              have hnl : n ≤ pc (v ^^^ w) + (if dcs d (LV d (zt a)) v w = 1 then 2 else 0) := by
                have hp := pc_le (v ^^^ w)
                have e : rlen d (LV d (zt a)) v w = nI (pc (v ^^^ w) + (if dcs d (LV d (zt a)) v w = 1 then 2 else 0)) := by
                  unfold rlen
                  rw [if_neg hdn]
                rw [e] at hzl
                rcases Nat.lt_or_ge (pc (v ^^^ w) + (if dcs d (LV d (zt a)) v w = 1 then 2 else 0)) n with q | q
                · exact absurd hzl (nI_ge q hn)
                · exact q
              have hc : f_X6_routeNode (nI v) (nI w) (nI n) (nI d) a (nI d) f = some (.inr (nI (rno d (LV d (zt a)) w (dcs d (LV d (zt a)) v w == 1) v n))) :=
                (zox_eq (s_reqN hd hv)).trans ((zox_eq (s_reqN hd hw)).trans ((if_pos hz).trans ((zox_eq e1').trans ((zox_eq e2').trans ((zob_eq hlen).trans ((if_pos hzl).trans (zob_eq (s_nodeOfRoute hd hv hw hdn hnl hf (fun w _ => hL6 w)))))))))
              refine ⟨0, _, (zcx_eq hc).trans rfl, ?_⟩
              refine wp_jp (wp_t hz (wp_ob hb (wp_ob (m_refused0 r) (wp_t rfl (wp_obW (m_findLevels hM ha) (fun u hu => wp_ob (m_lengthOf hM hv hw hu.2 (fun w _ => hL6 w)) (wp_t hzl ?_)))))))
              exact wp_of_eq (m_walk (fun i5 => some (i5, 0, u.2.1, u.2.2.1, u.2.2.2)) hM hv hw hdn hnl hu.2 (fun w _ => hL6 w)) (wp_some ⟨rfl, fun _ => updL_0 o _⟩)
            · have hc : f_X6_routeNode (nI v) (nI w) z (nI d) a (nI d) f = some (.inr (-1)) :=
                (zox_eq (s_reqN hd hv)).trans ((zox_eq (s_reqN hd hw)).trans ((if_pos hz).trans ((zox_eq e1').trans ((zox_eq e2').trans ((zob_eq hlen).trans (if_neg hzl))))))
              refine ⟨0, _, (zcx_eq hc).trans rfl, ?_⟩
              exact wp_jp (wp_t hz (wp_ob hb (wp_ob (m_refused0 r) (wp_t rfl (wp_obW (m_findLevels hM ha) (fun u hu => wp_ob (m_lengthOf hM hv hw hu.2 (fun w _ => hL6 w)) (wp_f hzl (wp_some ⟨rfl, fun _ => updL_0 o _⟩))))))))
      · refine ⟨1, o, h1 _ ((zox_eq (s_reqN hd hv)).trans (zox_eqE (s_reqN_bad hd hy))) rfl, ?_⟩
        exact wp_jp (wp_t hz (wp_ob ((zob_eq (m_isNode hM hv)).trans (zjp_eq.trans ((if_neg (by decide)).trans ((zob_eq (m_isNode_bad hM hy)).trans (if_pos rfl))))) (wp_ob (m_refused1 r) (wp_f (by decide) (wp_some ⟨rfl, fun h => absurd h no1⟩)))))
    · refine ⟨1, o, h1 _ (zox_eqE (s_reqN_bad hd hx)) rfl, ?_⟩
      exact wp_jp (wp_t hz (wp_ob ((zob_eq (m_isNode_bad hM hx)).trans (zjp_eq.trans (if_pos rfl))) (wp_ob (m_refused1 r) (wp_f (by decide) (wp_some ⟨rfl, fun h => absurd h no1⟩)))))
  · have hm' : wp (f_X7_routeNode x y z r c lv nw hm) (fun w => agr 1 o w.1 w.2.1) := wp_jp (wp_f hz (wp_ob (m_refused1 r) (wp_f (by decide) (wp_some ⟨rfl, fun h => absurd h no1⟩))))
    refine ⟨1, o, ?_, hm'⟩
    rcases nd_cases d x with ⟨v, hv, rfl⟩ | hx
    · rcases nd_cases d y with ⟨w, hw, rfl⟩ | hy
      · exact h1 _ ((zox_eq (s_reqN hd hv)).trans ((zox_eq (s_reqN hd hw)).trans (if_neg hz))) rfl
      · exact h1 _ ((zox_eq (s_reqN hd hv)).trans (zox_eqE (s_reqN_bad hd hy))) rfl
    · exact h1 _ (zox_eqE (s_reqN_bad hd hx)) rfl
end
