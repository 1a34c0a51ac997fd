/-! questions: class in its wrapper, and reference -/
def agr (k : Int32) (o : Nat → Int64) (b r : Int32) : Prop := r = k ∧ (k = 0 → o 0 = b.toInt64)
theorem zcx_eq {A R : Type} {x : Option (String ⊕ A)} {h : String → Option R} {f : A → Option R} {a : A} (e : x = some (.inr a)) : zcx x h f = f a := by rw [e]; rfl
theorem zcx_eqE {A R : Type} {x : Option (String ⊕ A)} {h : String → Option R} {f : A → Option R} {E : String} (e : x = some (.inl E)) : zcx x h f = h E := by rw [e]; rfl
theorem updL_0 (o : Nat → Int64) (x : Int64) : vp_updL o (0 : Int32).toNatClampNeg x 0 = x := if_pos rfl
section
variable {d : Nat} {a : Int64} {c : Nat → Int32} (hM : MN c d (zt a)) (ha : ∀ v, 2 ^ d ≤ v → zt a v = false)
theorem q_level (x r : Int32) (f lv nw hm : Nat → Int32) (o : Nat → Int64) (hM : MN c d (zt a)) (ha : ∀ v, 2 ^ d ≤ v → zt a v = false) (hf : ∀ w, w < 64 → f w = nI (LV d (zt a) w)) :
    ∃ k o', f_L_level 1 x (nI d) f o = some (k, o') ∧ wp (f_X7_level x r c lv nw hm) (fun w => agr k o' w.1 w.2.1) := by
  have hd := hM.2.1
  have h6 := p2_le hd
  rcases nd_cases d x with ⟨v, hv, rfl⟩ | hx
  · refine ⟨0, _, (zcx_eq ((zox_eq (s_reqN hd hv)).trans (zob_eq (s_levelOf (show v < 64 by omega) hf)))).trans rfl, ?_⟩
    refine wp_ob (m_isNode hM hv) (wp_jp (wp_f (by decide) (wp_ob (m_refused0 r) (wp_t rfl (wp_obW (m_findLevels hM ha) (fun u hu => wp_gd (inb_nI (by omega) (by decide)) (wp_some ⟨rfl, fun _ => ?_⟩)))))))
    rw [updL_0]
    show (nI (LV d (zt a) v)).toInt64 = (u.2.1 (nI v : Int32).toNatClampNeg).toInt64
    rw [nI_clamp (show v < 2 ^ 31 by omega), hu.2 v hv]
  · refine ⟨1, _, (zcx_eqE (zox_eqE (s_reqN_bad hd hx))).trans rfl, ?_⟩
    exact wp_ob (m_isNode_bad hM hx) (wp_jp (wp_t rfl (wp_ob (m_refused1 r) (wp_f (by decide) (wp_some ⟨rfl, fun h => absurd h (by decide)⟩)))))
theorem q_isAlive (x r : Int32) (o : Nat → Int64) (hM : MN c d (zt a)) :
    ∃ k o', f_L_isAlive 1 x (nI d) a o = some (k, o') ∧ wp (f_X7_isAlive x r c) (fun w => agr k o' w.1 w.2) := by
  have hd := hM.2.1
  have h6 := p2_le hd
  rcases nd_cases d x with ⟨v, hv, rfl⟩ | hx
  · have hc : f_X6_isAlive (nI v) (nI d) a = some (.inr (bI (zt a v))) := (zox_eq (s_reqN hd hv)).trans ((zob_eq (s_contains a (show v < 64 by omega))).trans (zgd_eq (isb_bI _)))
    cases hl : zt a v with
    | true =>
      rw [hl] at hc
      refine ⟨0, _, (zcx_eq hc).trans rfl, ?_⟩
      refine wp_ob (m_isNode hM hv) (wp_jp (wp_f (by decide) (wp_ob (m_refused0 r) (wp_jp (wp_t rfl (wp_ob (m_lives hM hv) ?_))))))
      rw [hl]
      exact wp_f (by decide) (wp_some ⟨rfl, fun _ => by rw [updL_0]; rfl⟩)
    | false =>
      rw [hl] at hc
      refine ⟨0, _, (zcx_eq hc).trans rfl, ?_⟩
      refine wp_ob (m_isNode hM hv) (wp_jp (wp_f (by decide) (wp_ob (m_refused0 r) (wp_jp (wp_t rfl (wp_ob (m_lives hM hv) ?_))))))
      rw [hl]
      exact wp_t rfl (wp_some ⟨rfl, fun _ => by rw [updL_0]; rfl⟩)
  · refine ⟨1, _, (zcx_eqE (zox_eqE (s_reqN_bad hd hx))).trans rfl, ?_⟩
    exact wp_ob (m_isNode_bad hM hx) (wp_jp (wp_t rfl (wp_ob (m_refused1 r) (wp_jp (wp_f (by decide) (wp_some ⟨rfl, fun h => absurd h (by decide)⟩))))))
end
