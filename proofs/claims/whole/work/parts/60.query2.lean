/-! questions of two living nodes -/
section
variable {d : Nat} {a : Int64} {c : Nat → Int32}
theorem q_shortest (x y r : Int32) (lst at' : Nat → Int32) (o : Nat → Int64) (hM : MN c d (zt a)) :
    ∃ k o', f_L_shortest 1 x y (nI d) a o = some (k, o') ∧ wp (f_X7_shortest x y r c lst at') (fun w => agr k o' w.1 w.2.1) := by
  have hd := hM.2.1
  rcases pair_cases hM x y with ⟨v, w, hv, hw, rfl, rfl, -, -, e1, e2⟩ | ⟨e1, e2⟩ | ⟨e1, e2⟩
  · exact ⟨0, _, (zcx_eq (s_shortest hd hv hw e1)).trans rfl, wp_imp (m_shortest hM hv hw e2) (fun u hu => ⟨hu.2, fun _ => by rw [updL_0, hu.1]⟩)⟩
  · exact ⟨1, _, (zcx_eqE (zox_eqE e1)).trans rfl, wp_ob e2 (wp_ob (m_refused1 r) (wp_f (by decide) (wp_some ⟨rfl, fun h => absurd h (by decide)⟩)))⟩
  · exact ⟨2, _, (zcx_eqE (zox_eqE e1)).trans rfl, wp_ob e2 (wp_ob (m_refused2 r) (wp_f (by decide) (wp_some ⟨rfl, fun h => absurd h (by decide)⟩)))⟩
theorem q_decide (x y r : Int32) (f lv nw hm : Nat → Int32) (o : Nat → Int64) (hM : MN c d (zt a)) (ha : ∀ v, 2 ^ d ≤ v → zt a v = false) (hf : ∀ w, w < 64 → f w = nI (LV d (zt a) w)) :
    ∃ k o', f_L_decide 1 x y (nI d) a (nI d) f o = some (k, o') ∧ wp (f_X7_decide x y r c lv nw hm) (fun w => agr k o' w.1 w.2.1) := by
  have hd := hM.2.1
  have hL6 : ∀ w, LV d (zt a) w ≤ 6 := fun w => Nat.le_trans (lvl_le d (zt a) _ w) hd
  rcases pair_cases hM x y with ⟨v, w, hv, hw, rfl, rfl, -, -, e1, e2⟩ | ⟨e1, e2⟩ | ⟨e1, e2⟩
  · refine ⟨0, _, (zcx_eq ((zox_eq e1).trans (zob_eq (s_decision hd hv hw hf (fun w _ => hL6 w))))).trans rfl, ?_⟩
    exact wp_ob e2 (wp_ob (m_refused0 r) (wp_t rfl (wp_obW (m_findLevels hM ha) (fun u hu => wp_ob (m_decision hM hv hw hu.2 (fun w _ => hL6 w)) (wp_some ⟨rfl, fun _ => updL_0 _ _⟩)))))
  · exact ⟨1, _, (zcx_eqE (zox_eqE e1)).trans rfl, wp_ob e2 (wp_ob (m_refused1 r) (wp_f (by decide) (wp_some ⟨rfl, fun h => absurd h (by decide)⟩)))⟩
  · exact ⟨2, _, (zcx_eqE (zox_eqE e1)).trans rfl, wp_ob e2 (wp_ob (m_refused2 r) (wp_f (by decide) (wp_some ⟨rfl, fun h => absurd h (by decide)⟩)))⟩
theorem q_routeLength (x y r : Int32) (f lv nw hm : Nat → Int32) (o : Nat → Int64) (hM : MN c d (zt a)) (ha : ∀ v, 2 ^ d ≤ v → zt a v = false) (hf : ∀ w, w < 64 → f w = nI (LV d (zt a) w)) :
    ∃ k o', f_L_routeLength 1 x y (nI d) a (nI d) f o = some (k, o') ∧ wp (f_X7_routeLength x y r c lv nw hm) (fun w => agr k o' w.1 w.2.1) := by
  have hd := hM.2.1
  have hL6 : ∀ w, LV d (zt a) w ≤ 6 := fun w => Nat.le_trans (lvl_le d (zt a) _ w) hd
  rcases pair_cases hM x y with ⟨v, w, hv, hw, rfl, rfl, -, -, e1, e2⟩ | ⟨e1, e2⟩ | ⟨e1, e2⟩
  · refine ⟨0, _, (zcx_eq ((zox_eq e1).trans (zob_eq (s_lengthOfRoute hd hv hw hf (fun w _ => hL6 w))))).trans rfl, ?_⟩
    exact wp_ob e2 (wp_ob (m_refused0 r) (wp_t rfl (wp_obW (m_findLevels hM ha) (fun u hu => wp_ob (m_lengthOf hM hv hw hu.2 (fun w _ => hL6 w)) (wp_some ⟨rfl, fun _ => updL_0 _ _⟩)))))
  · exact ⟨1, _, (zcx_eqE (zox_eqE e1)).trans rfl, wp_ob e2 (wp_ob (m_refused1 r) (wp_f (by decide) (wp_some ⟨rfl, fun h => absurd h (by decide)⟩)))⟩
  · exact ⟨2, _, (zcx_eqE (zox_eqE e1)).trans rfl, wp_ob e2 (wp_ob (m_refused2 r) (wp_f (by decide) (wp_some ⟨rfl, fun h => absurd h (by decide)⟩)))⟩
end
