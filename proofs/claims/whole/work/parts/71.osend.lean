/-! send: class in its wrapper and reference, both ways -/
abbrev n_send_s (s : Sl) (u : rt_L_send) : Sl := (s.1, s.2.1, s.2.2.1, u.2.1, u.2.2.1, u.2.2.2.1, u.2.2.2.2.1, u.2.2.2.2.2.1, u.2.2.2.2.2.2.1)
abbrev n_send_g (g : RG) (u : rt_L_send) : RG := (u.2.2.2.2.2.2.2.1, u.2.2.2.2.2.2.2.2.1, (u.2.2.2.2.2.2.2.2.2.1, u.2.2.2.2.2.2.2.2.2.2.1, u.2.2.2.2.2.2.2.2.2.2.2.1, u.2.2.2.2.2.2.2.2.2.2.2.2.1, u.2.2.2.2.2.2.2.2.2.2.2.2.2.1, u.2.2.2.2.2.2.2.2.2.2.2.2.2.2.1, u.2.2.2.2.2.2.2.2.2.2.2.2.2.2.2.1, u.2.2.2.2.2.2.2.2.2.2.2.2.2.2.2.2.1, u.2.2.2.2.2.2.2.2.2.2.2.2.2.2.2.2.2.1), (u.2.2.2.2.2.2.2.2.2.2.2.2.2.2.2.2.2.2.1, u.2.2.2.2.2.2.2.2.2.2.2.2.2.2.2.2.2.2.2.1, u.2.2.2.2.2.2.2.2.2.2.2.2.2.2.2.2.2.2.2.2.1, u.2.2.2.2.2.2.2.2.2.2.2.2.2.2.2.2.2.2.2.2.2.1, u.2.2.2.2.2.2.2.2.2.2.2.2.2.2.2.2.2.2.2.2.2.2.1, u.2.2.2.2.2.2.2.2.2.2.2.2.2.2.2.2.2.2.2.2.2.2.2.1, u.2.2.2.2.2.2.2.2.2.2.2.2.2.2.2.2.2.2.2.2.2.2.2.2.1, u.2.2.2.2.2.2.2.2.2.2.2.2.2.2.2.2.2.2.2.2.2.2.2.2.2.1, u.2.2.2.2.2.2.2.2.2.2.2.2.2.2.2.2.2.2.2.2.2.2.2.2.2.2.1), (u.2.2.2.2.2.2.2.2.2.2.2.2.2.2.2.2.2.2.2.2.2.2.2.2.2.2.2.1, u.2.2.2.2.2.2.2.2.2.2.2.2.2.2.2.2.2.2.2.2.2.2.2.2.2.2.2.2.1, u.2.2.2.2.2.2.2.2.2.2.2.2.2.2.2.2.2.2.2.2.2.2.2.2.2.2.2.2.2.1, u.2.2.2.2.2.2.2.2.2.2.2.2.2.2.2.2.2.2.2.2.2.2.2.2.2.2.2.2.2.2.1, u.2.2.2.2.2.2.2.2.2.2.2.2.2.2.2.2.2.2.2.2.2.2.2.2.2.2.2.2.2.2.2.1, u.2.2.2.2.2.2.2.2.2.2.2.2.2.2.2.2.2.2.2.2.2.2.2.2.2.2.2.2.2.2.2.2.1, u.2.2.2.2.2.2.2.2.2.2.2.2.2.2.2.2.2.2.2.2.2.2.2.2.2.2.2.2.2.2.2.2.2.1, u.2.2.2.2.2.2.2.2.2.2.2.2.2.2.2.2.2.2.2.2.2.2.2.2.2.2.2.2.2.2.2.2.2.2.1, u.2.2.2.2.2.2.2.2.2.2.2.2.2.2.2.2.2.2.2.2.2.2.2.2.2.2.2.2.2.2.2.2.2.2.2.1), (u.2.2.2.2.2.2.2.2.2.2.2.2.2.2.2.2.2.2.2.2.2.2.2.2.2.2.2.2.2.2.2.2.2.2.2.2.1, u.2.2.2.2.2.2.2.2.2.2.2.2.2.2.2.2.2.2.2.2.2.2.2.2.2.2.2.2.2.2.2.2.2.2.2.2.2.1, u.2.2.2.2.2.2.2.2.2.2.2.2.2.2.2.2.2.2.2.2.2.2.2.2.2.2.2.2.2.2.2.2.2.2.2.2.2.2.1, u.2.2.2.2.2.2.2.2.2.2.2.2.2.2.2.2.2.2.2.2.2.2.2.2.2.2.2.2.2.2.2.2.2.2.2.2.2.2.2.1, u.2.2.2.2.2.2.2.2.2.2.2.2.2.2.2.2.2.2.2.2.2.2.2.2.2.2.2.2.2.2.2.2.2.2.2.2.2.2.2.2.1, u.2.2.2.2.2.2.2.2.2.2.2.2.2.2.2.2.2.2.2.2.2.2.2.2.2.2.2.2.2.2.2.2.2.2.2.2.2.2.2.2.2.1, u.2.2.2.2.2.2.2.2.2.2.2.2.2.2.2.2.2.2.2.2.2.2.2.2.2.2.2.2.2.2.2.2.2.2.2.2.2.2.2.2.2.2.1, u.2.2.2.2.2.2.2.2.2.2.2.2.2.2.2.2.2.2.2.2.2.2.2.2.2.2.2.2.2.2.2.2.2.2.2.2.2.2.2.2.2.2.2.1, u.2.2.2.2.2.2.2.2.2.2.2.2.2.2.2.2.2.2.2.2.2.2.2.2.2.2.2.2.2.2.2.2.2.2.2.2.2.2.2.2.2.2.2.2.1))
abbrev n_send_o (u : rt_L_send) : Nat → Int64 := u.2.2.2.2.2.2.2.2.2.2.2.2.2.2.2.2.2.2.2.2.2.2.2.2.2.2.2.2.2.2.2.2.2.2.2.2.2.2.2.2.2.2.2.2.2
set_option maxRecDepth 100000 in
theorem o_send (x : Int32) (y : Int32) (r : Int32) (o : Nat → Int64) {s : Sl} {g : RG} {t : SF} {sv : Int32} {c past : Nat → Int32} (h : REL s g t sv c past) : wp (f_L_send 1 x y s.1 s.2.1 s.2.2.1 s.2.2.2.1 s.2.2.2.2.1 s.2.2.2.2.2.1 s.2.2.2.2.2.2.1 s.2.2.2.2.2.2.2.1 s.2.2.2.2.2.2.2.2 g.1 g.2.1 g.2.2.1.1 g.2.2.1.2.1 g.2.2.1.2.2.1 g.2.2.1.2.2.2.1 g.2.2.1.2.2.2.2.1 g.2.2.1.2.2.2.2.2.1 g.2.2.1.2.2.2.2.2.2.1 g.2.2.1.2.2.2.2.2.2.2.1 g.2.2.1.2.2.2.2.2.2.2.2 g.2.2.2.1.1 g.2.2.2.1.2.1 g.2.2.2.1.2.2.1 g.2.2.2.1.2.2.2.1 g.2.2.2.1.2.2.2.2.1 g.2.2.2.1.2.2.2.2.2.1 g.2.2.2.1.2.2.2.2.2.2.1 g.2.2.2.1.2.2.2.2.2.2.2.1 g.2.2.2.1.2.2.2.2.2.2.2.2 g.2.2.2.2.1.1 g.2.2.2.2.1.2.1 g.2.2.2.2.1.2.2.1 g.2.2.2.2.1.2.2.2.1 g.2.2.2.2.1.2.2.2.2.1 g.2.2.2.2.1.2.2.2.2.2.1 g.2.2.2.2.1.2.2.2.2.2.2.1 g.2.2.2.2.1.2.2.2.2.2.2.2.1 g.2.2.2.2.1.2.2.2.2.2.2.2.2 g.2.2.2.2.2.1 g.2.2.2.2.2.2.1 g.2.2.2.2.2.2.2.1 g.2.2.2.2.2.2.2.2.1 g.2.2.2.2.2.2.2.2.2.1 g.2.2.2.2.2.2.2.2.2.2.1 g.2.2.2.2.2.2.2.2.2.2.2.1 g.2.2.2.2.2.2.2.2.2.2.2.2.1 g.2.2.2.2.2.2.2.2.2.2.2.2.2 o) (fun u => wp (f_X7_send x y sv r c past) (fun w => agr u.1 (n_send_o u) w.1 w.2.2.1 ∧ REL (n_send_s s u) (n_send_g g u) t w.2.1 w.2.2.2.1 w.2.2.2.2)) := by
  obtain ⟨d, n, hs1, hs4, hd1, hd, hn, hc2, hM, ha, hB, hRM, hF⟩ := REL_un h
  obtain ⟨s1, a, st, s4, T⟩ := s
  replace hs1 : s1 = nI d := hs1
  replace hs4 : s4 = nI n := hs4
  subst hs1 hs4
  have h6 := p2_le hd
  have hc2' : c (2 : Int32).toNatClampNeg = nI n := hc2
  rcases pair_cases hM x y with ⟨v, w, hv, hw, rfl, rfl, hav, haw, hs, hb⟩ | ⟨hs, hb⟩ | ⟨hs, hb⟩
  · by_cases hn24 : n < 24
    · have hRS := RN_send h.1 rfl hd hc2 hn24 hv hw
      refine wp_cxW (wp_of_eq (zox_eq hs) (wp_t (nI_lt hn24 (by decide)) (wp_obW (s_save h.2.1 h.1) (fun u3 hu3 => ?_))))
      obtain ⟨z, hz, hPA⟩ := hu3
      refine wp_ob (s_addMessage hn24 (by omega) (by omega) _ _ _ _ _) (wp_some ⟨_, rfl, ?_⟩)
      refine wp_bd (wp_gd rfl (wp_bd (wp_some ?_)))
      have n24 : ¬ nI n = 24 := fun q => absurd (nI_inj (b := 24) (by omega) (by decide) q) (by omega)
      have e67 : (67 : Int32) + (5 : Int32) * nI n = nI (67 + 5 * n) := by
        rw [show (5 : Int32) * nI n = nI (5 * n) from nI_mul 5 n]; exact nI_add 67 (5 * n)
      have hu : sndR c n v w 2 = nI (n + 1) := by simp only [sndR, upd]; exact if_pos trivial
      have fin : ∀ s2 : Int32, s2 = (if v = w then 1 else 0) → wp (zgd (inb (nI (67 + 5 * n)) 187) (
          zbd (A := (Nat → Int32)) (upd c (nI (67 + 5 * n)).toNatClampNeg s2) (fun y7 =>
          zgd (inb (nI (67 + 5 * n) + (1 : Int32)) 187) (
          zbd (A := (Nat → Int32)) (upd y7 (nI (67 + 5 * n) + (1 : Int32)).toNatClampNeg (nI v)) (fun y9 =>
          zgd (inb (nI (67 + 5 * n) + (2 : Int32)) 187) (
          zbd (A := (Nat → Int32)) (upd y9 (nI (67 + 5 * n) + (2 : Int32)).toNatClampNeg (nI w)) (fun y11 =>
          zgd (inb (nI (67 + 5 * n) + (3 : Int32)) 187) (
          zbd (A := (Nat → Int32)) (upd y11 (nI (67 + 5 * n) + (3 : Int32)).toNatClampNeg 0) (fun y13 =>
          zgd (inb (nI (67 + 5 * n) + (4 : Int32)) 187) (
          zbd (A := (Nat → Int32)) (upd y13 (nI (67 + 5 * n) + (4 : Int32)).toNatClampNeg 0) (fun y15 =>
          zgd (inb 2 187) (
          zbd (A := Int32) ((y15 (2 : Int32).toNatClampNeg) + (1 : Int32)) (fun x17 =>
          zgd (inb 2 187) (
          zbd (A := (Nat → Int32)) (upd y15 (2 : Int32).toNatClampNeg x17) (fun y19 =>
          zgd (inb 2 187) (
          some (α := rt_X7_send) (((y19 (2 : Int32).toNatClampNeg) - (1 : Int32)), z.1, 0, y19, z.2)))))))))))))))))
          (fun r => r = (nI n, z.1, 0, sndR c n v w, z.2)) := fun s2 e2 => by
        rw [show nI (67 + 5 * n) + (1 : Int32) = nI (68 + 5 * n) from nI_addc (b := 1) (by omega), show nI (67 + 5 * n) + (2 : Int32) = nI (69 + 5 * n) from nI_addc (b := 2) (by omega), show nI (67 + 5 * n) + (3 : Int32) = nI (70 + 5 * n) from nI_addc (b := 3) (by omega), show nI (67 + 5 * n) + (4 : Int32) = nI (71 + 5 * n) from nI_addc (b := 4) (by omega)]
        refine wp_gd (inb_nI (by omega) (by decide)) (wp_bd (wp_gd (inb_nI (by omega) (by decide)) (wp_bd (wp_gd (inb_nI (by omega) (by decide)) (wp_bd (wp_gd (inb_nI (by omega) (by decide)) (wp_bd (wp_gd (inb_nI (by omega) (by decide)) (wp_bd (wp_gd rfl (wp_bd (wp_gd rfl (wp_bd (wp_gd rfl (wp_some ?_)))))))))))))))
        rw [nI_clamp (by omega), nI_clamp (by omega), nI_clamp (by omega), nI_clamp (by omega), nI_clamp (by omega), e2]
        have e15 : upd (upd (upd (upd (upd c (67 + 5 * n) (if v = w then 1 else 0)) (68 + 5 * n) (nI v)) (69 + 5 * n) (nI w)) (70 + 5 * n) 0) (71 + 5 * n) 0 (2 : Int32).toNatClampNeg = nI n := by
          show upd (upd (upd (upd (upd c (67 + 5 * n) (if v = w then 1 else 0)) (68 + 5 * n) (nI v)) (69 + 5 * n) (nI w)) (70 + 5 * n) 0) (71 + 5 * n) 0 2 = nI n
          simp only [upd]
          rw [if_neg (by omega), if_neg (by omega), if_neg (by omega), if_neg (by omega), if_neg (by omega)]
          exact hc2
        rw [e15, nI_1]
        show ((sndR c n v w 2) - 1, z.1, 0, sndR c n v w, z.2) = _
        rw [hu, show nI (n + 1) - (1 : Int32) = nI n from nI_sub (a := n + 1) (b := 1) (by omega)]
      refine wp_ob hb (wp_jp (wp_t (by decide) (wp_gd rfl (wp_f (by rw [hc2']; exact n24) (wp_ob (m_refused0 r) (wp_t rfl (wp_ob hz (wp_gd rfl (wp_bd (wp_jp ?_))))))))))
      rw [hc2', e67]
      have Z : ∀ q : rt_X7_send, q = (nI n, z.1, 0, sndR c n v w, z.2) → agr 0 (vp_updL o (0 : Int32).toNatClampNeg (nI n).toInt64) q.1 q.2.2.1 ∧ REL (nI d, a, st, nI (n + 1), upd T.1 n (if v = w then 1 else 0), upd T.2.1 n (nI v), upd T.2.2.1 n (nI w), upd T.2.2.2.1 n 0, upd T.2.2.2.2 n 0) (u3.1, u3.2.1, (u3.2.2.1, u3.2.2.2.1, u3.2.2.2.2.1, u3.2.2.2.2.2.1, u3.2.2.2.2.2.2.1, u3.2.2.2.2.2.2.2.1, u3.2.2.2.2.2.2.2.2.1, u3.2.2.2.2.2.2.2.2.2.1, u3.2.2.2.2.2.2.2.2.2.2.1), (u3.2.2.2.2.2.2.2.2.2.2.2.1, u3.2.2.2.2.2.2.2.2.2.2.2.2.1, u3.2.2.2.2.2.2.2.2.2.2.2.2.2.1, u3.2.2.2.2.2.2.2.2.2.2.2.2.2.2.1, u3.2.2.2.2.2.2.2.2.2.2.2.2.2.2.2.1, u3.2.2.2.2.2.2.2.2.2.2.2.2.2.2.2.2.1, u3.2.2.2.2.2.2.2.2.2.2.2.2.2.2.2.2.2.1, u3.2.2.2.2.2.2.2.2.2.2.2.2.2.2.2.2.2.2.1, u3.2.2.2.2.2.2.2.2.2.2.2.2.2.2.2.2.2.2.2.1), (u3.2.2.2.2.2.2.2.2.2.2.2.2.2.2.2.2.2.2.2.2.1, u3.2.2.2.2.2.2.2.2.2.2.2.2.2.2.2.2.2.2.2.2.2.1, u3.2.2.2.2.2.2.2.2.2.2.2.2.2.2.2.2.2.2.2.2.2.2.1, u3.2.2.2.2.2.2.2.2.2.2.2.2.2.2.2.2.2.2.2.2.2.2.2.1, u3.2.2.2.2.2.2.2.2.2.2.2.2.2.2.2.2.2.2.2.2.2.2.2.2.1, u3.2.2.2.2.2.2.2.2.2.2.2.2.2.2.2.2.2.2.2.2.2.2.2.2.2.1, u3.2.2.2.2.2.2.2.2.2.2.2.2.2.2.2.2.2.2.2.2.2.2.2.2.2.2.1, u3.2.2.2.2.2.2.2.2.2.2.2.2.2.2.2.2.2.2.2.2.2.2.2.2.2.2.2.1, u3.2.2.2.2.2.2.2.2.2.2.2.2.2.2.2.2.2.2.2.2.2.2.2.2.2.2.2.2.1), (u3.2.2.2.2.2.2.2.2.2.2.2.2.2.2.2.2.2.2.2.2.2.2.2.2.2.2.2.2.2.1, u3.2.2.2.2.2.2.2.2.2.2.2.2.2.2.2.2.2.2.2.2.2.2.2.2.2.2.2.2.2.2.1, u3.2.2.2.2.2.2.2.2.2.2.2.2.2.2.2.2.2.2.2.2.2.2.2.2.2.2.2.2.2.2.2.1, u3.2.2.2.2.2.2.2.2.2.2.2.2.2.2.2.2.2.2.2.2.2.2.2.2.2.2.2.2.2.2.2.2.1, u3.2.2.2.2.2.2.2.2.2.2.2.2.2.2.2.2.2.2.2.2.2.2.2.2.2.2.2.2.2.2.2.2.2.1, u3.2.2.2.2.2.2.2.2.2.2.2.2.2.2.2.2.2.2.2.2.2.2.2.2.2.2.2.2.2.2.2.2.2.2.1, u3.2.2.2.2.2.2.2.2.2.2.2.2.2.2.2.2.2.2.2.2.2.2.2.2.2.2.2.2.2.2.2.2.2.2.2.1, u3.2.2.2.2.2.2.2.2.2.2.2.2.2.2.2.2.2.2.2.2.2.2.2.2.2.2.2.2.2.2.2.2.2.2.2.2.1, u3.2.2.2.2.2.2.2.2.2.2.2.2.2.2.2.2.2.2.2.2.2.2.2.2.2.2.2.2.2.2.2.2.2.2.2.2.2)) t q.2.1 q.2.2.2.1 q.2.2.2.2 := fun q e => by
        subst e
        exact ⟨⟨rfl, fun _ => updL_0 o _⟩, hRS, hPA, d, hd, rfl, hF⟩
      by_cases hvw : v = w
      · exact wp_t (by rw [hvw]) (wp_imp (fin 1 (if_pos hvw).symm) Z)
      · exact wp_f (fun q => hvw (nI_inj (by omega) (by omega) q)) (wp_imp (fin 0 (if_neg hvw).symm) Z)
    · have : n = 24 := by omega
      subst this
      refine wp_of_eq ((zcx_eqE ((zox_eq hs).trans (if_neg (show ¬ nI 24 < 24 by decide)))).trans ((if_neg no_si).trans (if_pos rfl))) (wp_some ?_)
      refine wp_ob hb (wp_jp (wp_t (by decide) (wp_gd rfl (wp_t (by rw [hc2']; rfl) ?_))))
      exact wp_ob (m_refused2 r) (wp_f (by decide) (wp_some ⟨⟨rfl, fun q => absurd q no2⟩, h⟩))
  · refine wp_of_eq ((zcx_eqE (zox_eqE hs)).trans (if_pos rfl)) (wp_some ?_)
    exact wp_ob hb (wp_jp (wp_f (by decide) (wp_ob (m_refused1 r) (wp_f (by decide) (wp_some ⟨⟨rfl, fun q => absurd q no1⟩, h⟩)))))
  · refine wp_of_eq ((zcx_eqE (zox_eqE hs)).trans ((if_neg no_si).trans (if_pos rfl))) (wp_some ?_)
    exact wp_ob hb (wp_jp (wp_f (by decide) (wp_ob (m_refused2 r) (wp_f (by decide) (wp_some ⟨⟨rfl, fun q => absurd q no2⟩, h⟩)))))
