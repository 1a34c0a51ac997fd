/-! questions about free subcubes and disjoint paths -/
section
variable {d : Nat} {a : Int64} {c : Nat → Int32}
theorem q_freeSubcubes (x r : Int32) (o : Nat → Int64) (hM : MN c d (zt a)) (ha : ∀ v, 2 ^ d ≤ v → zt a v = false) :
    ∃ k o', f_L_freeSubcubes 1 x (nI d) a o = some (k, o') ∧ wp (f_X7_freeSubcubes x r c) (fun w => agr k o' w.1 w.2) := by
  have hd := hM.2.1
  have hc0 : c (0 : Int32).toNatClampNeg = nI d := hM.2.2.1
  by_cases h0 : x < 0
  · refine ⟨1, _, (zcx_eqE (zjp_eq.trans (if_pos h0))).trans rfl, ?_⟩
    exact wp_gd rfl (wp_ob (m_within_bad (Or.inl h0)) (wp_jp (wp_t rfl (wp_ob (m_refused1 r) (wp_f (by decide) (wp_some ⟨rfl, fun h => absurd h no1⟩))))))
  · by_cases h2 : x ≤ nI d
    · obtain ⟨k, hk, rfl⟩ := nI_of h0
      have hkd : k ≤ d := by
        rcases Nat.lt_or_ge d k with q | q
        · exact absurd h2 (nI_ge q hk)
        · exact q
      refine ⟨0, _, (zcx_eq (zjp_eq.trans ((if_neg h0).trans ((if_pos h2).trans (s_freeL hd (by omega) ha))))).trans rfl, ?_⟩
      refine wp_gd rfl (wp_ob (m_within h0 (by rw [hc0]; exact nI_nlt hkd (by omega))) (wp_jp (wp_f (by decide) (wp_ob (m_refused0 r) (wp_t rfl ?_)))))
      exact wp_of_eq (m_freeL (fun i2 => some (i2, 0)) hM ha (by omega)) (wp_some ⟨rfl, fun _ => updL_0 _ _⟩)
    · refine ⟨1, _, (zcx_eqE (zjp_eq.trans ((if_neg h0).trans (if_neg h2)))).trans rfl, ?_⟩
      exact wp_gd rfl (wp_ob (m_within_bad (Or.inr (by rw [hc0]; exact Int32.not_le.mp h2))) (wp_jp (wp_t rfl (wp_ob (m_refused1 r) (wp_f (by decide) (wp_some ⟨rfl, fun h => absurd h no1⟩))))))
end
