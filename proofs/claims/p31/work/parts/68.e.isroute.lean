/-! the question of a route is answered well -/
theorem ev_mod : ∀ j, j < 128 → nI (2 * j) - nI (2 * j) / (2 : Int32) * (2 : Int32) = 0 := by decide +kernel
theorem nI_ne2000 {n : Nat} (h : n < 2 ^ 31) : ¬ nI n = -2000 := fun q => by
  have e := congrArg Int32.toInt q
  rw [nI_toInt h, show (-2000 : Int32).toInt = -2000 from by decide] at e
  omega
theorem shI_t {d : Nat} {al : Nat → Bool} {s t : Nat} (h : shd d al s t < 64) : shI d al s t = nI (shd d al s t) := if_pos h
theorem shI_f {d : Nat} {al : Nat → Bool} {s t : Nat} (h : ¬ shd d al s t < 64) : shI d al s t = -1 := if_neg h
theorem RLN_le {d : Nat} {L : Nat → Nat} {s t : Nat} : RLN d L s t ≤ 8 := by
  unfold RLN
  have := pc_le (s ^^^ t)
  split <;> omega
section
variable {d n : Nat} {cu : CU}
theorem p_isRoute (h : CORE d n cu) {s t : Nat} (hs : s < 2 ^ d) (ht : t < 2 ^ d) : f_L_isRoute (nI s) (nI t) cu = some 1 := by
  obtain ⟨h1, hd, hn, -, -, ha, -⟩ := id h
  have h6 := p2_le hd
  have hx : s ^^^ t < 64 := xor_lt (by omega) (by omega)
  have hp6 := pc_le (s ^^^ t)
  unfold f_L_isRoute
  refine (zob_eq (e_dist h hs ht)).trans ?_
  by_cases q : zt cu.1.2.1 s = true ∧ zt cu.1.2.1 t = true
  · obtain ⟨as, at'⟩ := q
    have hle := dcs_le (L := LV d (zt cu.1.2.1)) hd hs ht
    have hW : shI d (zt cu.1.2.1) s t ≠ -2000 := by
      by_cases w : shd d (zt cu.1.2.1) s t < 64
      · rw [shI_t w]; exact nI_ne2000 (by omega)
      · rw [shI_f w]; decide
    have hsym : shI d (zt cu.1.2.1) s t = shI d (zt cu.1.2.1) t s := by unfold shI; rw [shd_sym as at']
    refine (zob_eq (e_short h hs ht as at')).trans ((if_neg hW).trans ((zob_eq (e_dec h hs ht as at')).trans ((zob_eq (e_len h hs ht as at')).trans ((zob_eq (e_dist h ht hs)).trans (zjp_eq.trans (zjp_eq.trans ?_))))))
    rw [nx_xor]
    refine (if_pos (by rw [Nat.xor_comm])).trans ((zob_eq (p_ones _ hx)).trans ((if_pos rfl).trans ((zob_eq (e_short h ht hs at' as)).trans ((if_pos hsym).trans (zjp_eq.trans ?_)))))
    -- the last of the first conditions
    have hway : ∀ (A B : Option rt_L_isRoute), (if shI d (zt cu.1.2.1) s t = -1 then A else if shI d (zt cu.1.2.1) s t < nI (pc (s ^^^ t)) then B else if (shI d (zt cu.1.2.1) s t - nI (pc (s ^^^ t))) - (shI d (zt cu.1.2.1) s t - nI (pc (s ^^^ t))) / (2 : Int32) * (2 : Int32) = 0 then A else B) = A := by
      intro A B
      by_cases w : shd d (zt cu.1.2.1) s t < 64
      · obtain ⟨k, hk, hp⟩ := shd_PTH w
        obtain ⟨-, j, hj⟩ := PTH_pc hd hs ht hp
        rw [hk] at hj
        rw [shI_t w, if_neg (nI_ne_m1 (by omega)), if_neg (nI_nlt (by omega) (by omega)), nI_sub (by omega), show shd d (zt cu.1.2.1) s t - pc (s ^^^ t) = 2 * j by omega]
        exact if_pos (ev_mod j (by omega))
      · rw [shI_f w]; exact if_pos rfl
    refine (hway _ _).trans ((if_neg (nI_pos (by omega))).trans ((if_neg (nI_ge (b := 3) (by omega) (by omega))).trans ?_))
    by_cases h2 : dcs d (LV d (zt cu.1.2.1)) s t = 2
    · have hr : rlen d (LV d (zt cu.1.2.1)) s t = -1 := if_pos h2
      have hno := e_node_out h (i := 0) hs ht as at' (by omega) (by rw [hr]; decide)
      rw [nI_0] at hno
      exact (if_pos (by rw [h2]; rfl)).trans (zjp_eq.trans ((if_neg (by decide)).trans ((if_pos hr).trans ((zob_eq hno).trans (if_pos rfl)))))
    · have hL8 := RLN_le (d := d) (L := LV d (zt cu.1.2.1)) (s := s) (t := t)
      have hr : rlen d (LV d (zt cu.1.2.1)) s t = nI (RLN d (LV d (zt cu.1.2.1)) s t) := if_neg h2
      have hgo := rno_go h1 hd hs ht as at' h2
      have hend := rno_end hd hs ht (LV d (zt cu.1.2.1)) h2
      have hP := (hgo _ (Nat.le_refl _)).2.2.1
      rw [hend] at hP
      have hW2 := shd_le (by omega) hP
      have hnode : ∀ i, i ≤ RLN d (LV d (zt cu.1.2.1)) s t → F_routeNode (nI s) (nI t) (nI i) cu = some (nI (rno d (LV d (zt cu.1.2.1)) t (dcs d (LV d (zt cu.1.2.1)) s t == 1) s i)) := fun i hi => e_node h hs ht as at' h2 hi
      have hn0 := hnode 0 (by omega)
      rw [nI_0] at hn0
      have hnE := hnode _ (Nat.le_refl _)
      rw [hend] at hnE
      have hout := e_node_out h (i := RLN d (LV d (zt cu.1.2.1)) s t + 1) hs ht as at' (by omega) (by rw [hr]; exact nI_ge (by omega) (by omega))
      refine (if_neg (fun z => h2 (nI_inj (b := 2) (by omega) (by omega) z))).trans (zjp_eq.trans (zjp_eq.trans ((if_neg (by decide)).trans ?_)))
      rw [hr, shI_t (by omega)]
      refine (if_pos ?_).trans ((if_neg (nI_pos (by omega))).trans ((if_neg (nI_nlt hW2 (by omega))).trans ((zob_eq hn0).trans ((if_pos rfl).trans ((zob_eq hnE).trans ((if_pos rfl).trans ?_))))))
      · rw [show (2 : Int32) * nI (dcs d (LV d (zt cu.1.2.1)) s t) = nI (2 * dcs d (LV d (zt cu.1.2.1)) s t) from nI_mul 2 _, nI_add]
        exact congrArg nI (by unfold RLN; split <;> omega)
      · rw [nI_1]
        refine (zob_eq hout).trans ((if_pos rfl).trans ?_)
        refine zl2_itF (RLN d (LV d (zt cu.1.2.1)) s t) (fun _ => 1) (fun i => nI (i + 1)) (by omega) (fun K i hi => ?_) (fun K => (if_pos (nI_lt (by omega) (by omega))).trans (zgd_eq rfl)) rfl rfl
        obtain ⟨g1, g2, g3, -, -⟩ := hgo (i + 1) (by omega)
        obtain ⟨k1, -⟩ := hgo i (by omega)
        obtain ⟨-, b, hb, hb2⟩ := g3
        refine (if_neg (nI_nlt (by omega) (by omega))).trans ((if_neg (by decide)).trans ((zob_eq (hnode (i + 1) (by omega))).trans (zjp_eq.trans (zjp_eq.trans ((if_neg (nI_pos (by omega))).trans ?_)))))
        rw [nI_pred]
        refine (zob_eq (hnode i (by omega))).trans ((zob_eq (e_dist h g1 k1)).trans ((if_pos ?_).trans ?_))
        · -- neighbours
          obtain ⟨b2, hb2d, hbb⟩ := (rno_ok (L := LV d (zt cu.1.2.1)) hd hs ht h2 i (by unfold RLN at hi; omega)).2.2 (by unfold RLN at hi; omega)
          have hn : rno d (LV d (zt cu.1.2.1)) t (dcs d (LV d (zt cu.1.2.1)) s t == 1) s (i + 1) = rno d (LV d (zt cu.1.2.1)) t (dcs d (LV d (zt cu.1.2.1)) s t == 1) s i ^^^ 2 ^ b2 := by
            show (match bestD d (LV d (zt cu.1.2.1)) (rno d (LV d (zt cu.1.2.1)) t (dcs d (LV d (zt cu.1.2.1)) s t == 1) s i) (rdim d t (dcs d (LV d (zt cu.1.2.1)) s t == 1) (rno d (LV d (zt cu.1.2.1)) t (dcs d (LV d (zt cu.1.2.1)) s t == 1) s i) i) with | none => rno d (LV d (zt cu.1.2.1)) t (dcs d (LV d (zt cu.1.2.1)) s t == 1) s i | some b => rno d (LV d (zt cu.1.2.1)) t (dcs d (LV d (zt cu.1.2.1)) s t == 1) s i ^^^ 2 ^ b) = _
            rw [hbb]
          rw [hn, xor_2k]
          have hone : ∀ k, k < 6 → nI (pc (2 ^ k)) = 1 := by decide
          exact hone b2 (by omega)
        · have hA := e_isAlive h g1
          rw [g2] at hA
          refine (zob_eq hA).trans ((if_pos rfl).trans (zbd_eq.trans ?_))
          rw [nI_1]
  · refine (zob_eq (e_short_no h hs ht q)).trans ((if_pos rfl).trans ((zob_eq (e_isAlive h hs)).trans (zjp_eq.trans (zjp_eq.trans ?_))))
    have hrest : (zob (F_decide (nI s) (nI t) cu) (fun u18 => if (u18 : Int32) = (-2000) then (zob (F_routeLength (nI s) (nI t) cu) (fun u19 => if (u19 : Int32) = (-2000) then (some 1 : Option rt_L_isRoute) else (some 0))) else (some 0))) = some 1 := (zob_eq (e_dec_no h hs ht q)).trans ((if_pos rfl).trans ((zob_eq (e_len_no h hs ht q)).trans (if_pos rfl)))
    cases as : zt cu.1.2.1 s with
    | false => exact (if_pos rfl).trans hrest
    | true =>
      have at' : zt cu.1.2.1 t = false := by
        cases z : zt cu.1.2.1 t with
        | false => rfl
        | true => exact absurd ⟨as, z⟩ q
      have hA := e_isAlive h ht
      rw [at'] at hA
      exact (if_neg (by decide)).trans ((zob_eq hA).trans ((if_pos rfl).trans hrest))
end
