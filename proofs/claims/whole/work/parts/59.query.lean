/-! questions: class in its wrapper, and reference -/
def agr (k : Int32) (o : Nat → Int64) (b r : Int32) : Prop := r = k ∧ (k = 0 → o 0 = b.toInt64)
theorem zcx_eq {A R : Type} {x : Option (String ⊕ A)} {h : String → Option R} {f : A → Option R} {a : A} (e : x = some (.inr a)) : zcx x h f = f a := by rw [e]; rfl
theorem zcx_eqE {A R : Type} {x : Option (String ⊕ A)} {h : String → Option R} {f : A → Option R} {E : String} (e : x = some (.inl E)) : zcx x h f = h E := by rw [e]; rfl
theorem updL_0 (o : Nat → Int64) (x : Int64) : vp_updL o (0 : Int32).toNatClampNeg x 0 = x := if_pos rfl
section
variable {d : Nat} {a : Int64} {c : Nat → Int32}
theorem q_level (x r : Int32) (f lv nw hm : Nat → Int32) (o : Nat → Int64) (hM : MN c d (zt a)) (ha : ∀ v, 2 ^ d ≤ v → zt a v = false) (hf : ∀ w, w < 64 → f w = nI (LV d (zt a) w)) :
    ∃ k o', f_L_level 1 x (nI d) f o = some (k, o') ∧ wp (f_X7_level x r c lv nw hm) (fun w => agr k o' w.1 w.2.1) := by
  have hd := hM.2.1
  have h6 := p2_le hd
  rcases nd_cases d x with ⟨v, hv, rfl⟩ | hx
  · refine ⟨0, _, (zcx_eq ((zox_eq (s_reqN hd hv)).trans (zob_eq (s_levelOf (show v < 64 by omega) hf)))).trans rfl, ?_⟩
    refine wp_ob (m_isNode hM hv) (wp_jp (wp_f (by decide) (wp_ob (m_refused0 r) (wp_t rfl (wp_obW (m_findLevels hM ha) (fun u hu => wp_gd (inb_nI (by omega) (by decide)) (wp_some ⟨rfl, fun _ => ?_⟩)))))))
    rw [updL_0]
    show (nI (LV d (zt a) v)).toInt64 = (u.2.1 (nI v : Int32).toNatClampNeg).toInt64
    rw [nI_clamp (show v < 2 ^ 31 by omega), hu.2 v hv]
  · refine ⟨1, _, (zcx_eqE (zox_eqE (s_reqN_bad hd hx))).trans rfl, ?_⟩
    exact wp_ob (m_isNode_bad hM hx) (wp_jp (wp_t rfl (wp_ob (m_refused1 r) (wp_f (by decide) (wp_some ⟨rfl, fun h => absurd h (by decide)⟩)))))
theorem q_isAlive (x r : Int32) (o : Nat → Int64) (hM : MN c d (zt a)) :
    ∃ k o', f_L_isAlive 1 x (nI d) a o = some (k, o') ∧ wp (f_X7_isAlive x r c) (fun w => agr k o' w.1 w.2) := by
  have hd := hM.2.1
  have h6 := p2_le hd
  rcases nd_cases d x with ⟨v, hv, rfl⟩ | hx
  · have hc : f_X6_isAlive (nI v) (nI d) a = some (.inr (bI (zt a v))) := (zox_eq (s_reqN hd hv)).trans ((zob_eq (s_contains a (show v < 64 by omega))).trans (zgd_eq (isb_bI _)))
    cases hl : zt a v with
    | true =>
      rw [hl] at hc
      refine ⟨0, _, (zcx_eq hc).trans rfl, ?_⟩
      refine wp_ob (m_isNode hM hv) (wp_jp (wp_f (by decide) (wp_ob (m_refused0 r) (wp_jp (wp_t rfl (wp_ob (m_lives hM hv) ?_))))))
      rw [hl]
      exact wp_f (by decide) (wp_some ⟨rfl, fun _ => by rw [updL_0]; rfl⟩)
    | false =>
      rw [hl] at hc
      refine ⟨0, _, (zcx_eq hc).trans rfl, ?_⟩
      refine wp_ob (m_isNode hM hv) (wp_jp (wp_f (by decide) (wp_ob (m_refused0 r) (wp_jp (wp_t rfl (wp_ob (m_lives hM hv) ?_))))))
      rw [hl]
      exact wp_t rfl (wp_some ⟨rfl, fun _ => by rw [updL_0]; rfl⟩)
  · refine ⟨1, _, (zcx_eqE (zox_eqE (s_reqN_bad hd hx))).trans rfl, ?_⟩
    exact wp_ob (m_isNode_bad hM hx) (wp_jp (wp_t rfl (wp_ob (m_refused1 r) (wp_jp (wp_f (by decide) (wp_some ⟨rfl, fun h => absurd h (by decide)⟩))))))
theorem q_distance (x y r : Int32) (o : Nat → Int64) (hM : MN c d (zt a)) :
    ∃ k o', f_L_distance 1 x y (nI d) o = some (k, o') ∧ wp (f_X7_distance x y r c) (fun w => agr k o' w.1 w.2) := by
  have hd := hM.2.1
  have h6 := p2_le hd
  rcases nd_cases d x with ⟨v, hv, rfl⟩ | hx
  · rcases nd_cases d y with ⟨w, hw, rfl⟩ | hy
    · have hxw := Nat.xor_lt_two_pow hv hw
      have hc : f_X6_distance (nI v) (nI w) (nI d) = some (.inr (nI (pc (v ^^^ w)))) := by
        refine (zox_eq (s_reqN hd hv)).trans ((zox_eq (s_reqN hd hw)).trans ?_)
        rw [nx_xor]
        exact zob_eq (s_bitCount _ (by omega))
      refine ⟨0, _, (zcx_eq hc).trans rfl, ?_⟩
      exact wp_ob (m_isNode hM hv) (wp_jp (wp_jp (wp_f (by decide) (wp_ob (m_isNode hM hw) (wp_f (by decide) (wp_ob (m_refused0 r) (wp_t rfl (wp_ob (s_far (by omega) (by omega)) (wp_some ⟨rfl, fun _ => updL_0 _ _⟩)))))))))
    · refine ⟨1, _, (zcx_eqE ((zox_eq (s_reqN hd hv)).trans (zox_eqE (s_reqN_bad hd hy)))).trans rfl, ?_⟩
      exact wp_ob (m_isNode hM hv) (wp_jp (wp_jp (wp_f (by decide) (wp_ob (m_isNode_bad hM hy) (wp_t rfl (wp_ob (m_refused1 r) (wp_f (by decide) (wp_some ⟨rfl, fun h => absurd h (by decide)⟩))))))))
  · refine ⟨1, _, (zcx_eqE (zox_eqE (s_reqN_bad hd hx))).trans rfl, ?_⟩
    exact wp_ob (m_isNode_bad hM hx) (wp_jp (wp_jp (wp_t rfl (wp_ob (m_refused1 r) (wp_f (by decide) (wp_some ⟨rfl, fun h => absurd h (by decide)⟩))))))
theorem q_vectorBit (x y r : Int32) (vs : Nat → Int64) (vc : Nat → Int32) (o : Nat → Int64) (hM : MN c d (zt a)) (hvs : ∀ k, 1 ≤ k → k ≤ d → ∀ v, v < 64 → zt (vs k) v = UU d (zt a) (k - 1) v) :
    ∃ k o', f_L_vectorBit 1 x y (nI d) vs o = some (k, o') ∧ wp (f_X7_vectorBit x y r c vc) (fun w => agr k o' w.1 w.2.1) := by
  have hd := hM.2.1
  have hc0 : c (0 : Int32).toNatClampNeg = nI d := hM.2.2.1
  have h6 := p2_le hd
  rcases nd_cases d x with ⟨v, hv, rfl⟩ | hx
  · by_cases h1 : y < 1
    · refine ⟨1, _, (zcx_eqE ((zox_eq (s_reqN hd hv)).trans (zjp_eq.trans (if_pos h1)))).trans rfl, ?_⟩
      refine wp_ob (m_isNode hM hv) (wp_jp (wp_jp (wp_f (by decide) (wp_gd rfl (wp_ob (m_within_bad (Or.inl h1)) (wp_t rfl (wp_ob (m_refused1 r) (wp_f (by decide) (wp_some ⟨rfl, fun h => absurd h (by decide)⟩)))))))))
    · by_cases h2 : y ≤ nI d
      · obtain ⟨k, hk, rfl⟩ := nI_of (x := y) (fun q => h1 (Int32.lt_trans q (by decide)))
        have hk1 : 1 ≤ k := by
          rcases Nat.eq_zero_or_pos k with q | q
          · subst q; exact absurd (by decide) h1
          · exact q
        have hkd : k ≤ d := by
          rcases Nat.lt_or_ge d k with q | q
          · exact absurd h2 (nI_ge q hk)
          · exact q
        have hc : f_X6_vectorBit (nI v) (nI k) (nI d) vs = some (.inr (bI (UU d (zt a) (k - 1) v))) := by
          refine (zox_eq (s_reqN hd hv)).trans (zjp_eq.trans ((if_neg h1).trans ((if_pos h2).trans ((zob_eq (s_bitOf vs (show v < 64 by omega) (by omega))).trans ?_))))
          rw [hvs k hk1 hkd v (by omega)]
        refine ⟨0, _, (zcx_eq hc).trans rfl, ?_⟩
        have hw : f_X7_within (nI k) 1 (c (0 : Int32).toNatClampNeg) = some 1 := by
          rw [hc0]
          exact m_within h1 (nI_nlt hkd (by omega))
        refine wp_ob (m_isNode hM hv) (wp_jp (wp_jp (wp_f (by decide) (wp_gd rfl (wp_ob hw (wp_f (by decide) (wp_ob (m_refused0 r) (wp_t rfl (wp_obW (m_findVectors hM) (fun u hu => wp_gd (inb_nI (by omega) (by decide)) (wp_some ⟨rfl, fun _ => ?_⟩)))))))))))
        rw [updL_0]
        show (bI _).toInt64 = (((u (nI v : Int32).toNatClampNeg) >>> (nI k &&& 31)) &&& (1 : Int32)).toInt64
        rw [nI_clamp (show v < 2 ^ 31 by omega), VB_bit (hu v hv) hk1 hkd (by omega)]
      · refine ⟨1, _, (zcx_eqE ((zox_eq (s_reqN hd hv)).trans (zjp_eq.trans ((if_neg h1).trans (if_neg h2))))).trans rfl, ?_⟩
        have hw : f_X7_within y 1 (c (0 : Int32).toNatClampNeg) = some 0 := by
          rw [hc0]
          exact m_within_bad (Or.inr (Int32.not_le.mp h2))
        exact wp_ob (m_isNode hM hv) (wp_jp (wp_jp (wp_f (by decide) (wp_gd rfl (wp_ob hw (wp_t rfl (wp_ob (m_refused1 r) (wp_f (by decide) (wp_some ⟨rfl, fun h => absurd h (by decide)⟩)))))))))
  · refine ⟨1, _, (zcx_eqE (zox_eqE (s_reqN_bad hd hx))).trans rfl, ?_⟩
    exact wp_ob (m_isNode_bad hM hx) (wp_jp (wp_jp (wp_t rfl (wp_ob (m_refused1 r) (wp_f (by decide) (wp_some ⟨rfl, fun h => absurd h (by decide)⟩))))))
end
