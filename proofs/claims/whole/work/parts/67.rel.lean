/-! states of class and reference, packed; what holds between them -/
abbrev RG : Type := Int32 × Int32 × Sl × Sl × Sl × Sl
abbrev SF : Type := rt_X2_find
abbrev BC : Type := Int32 × (Nat → Int32) × (Nat → Int32) × (Nat → Int32)
abbrev PK : Type := Int32 × Int32 × Int32 × Int32 × Int64 × (Nat → Int32) × (Nat → Int32) × (Nat → Int32)
def REL (s : Sl) (g : RG) (t : SF) (sv : Int32) (c past : Nat → Int32) : Prop := RN s c ∧ PA g.1 g.2.1 g.2.2.1 g.2.2.2.1 g.2.2.2.2.1 g.2.2.2.2.2 sv past ∧ ∃ d, d ≤ 6 ∧ s.1 = nI d ∧ findQ d (zt s.2.1) t
theorem wp_cxW {A R : Type} {x : Option (String ⊕ A)} {h : String → Option R} {f : A → Option R} {Q : R → Prop} (hx : wp x (fun r => ∃ a, r = .inr a ∧ wp (f a) Q)) : wp (zcx x h f) Q := by
  obtain ⟨r, rfl, a, rfl, k⟩ := hx
  exact k
theorem s_refresh {d : Nat} (a : Int64) (t : SF) (hd1 : 1 ≤ d) (hd : d ≤ 6) : wp (f_X6_refreshSafety (nI d) a t.1 t.2.1 t.2.2.1 t.2.2.2.1 t.2.2.2.2) (findQ d (zt a)) := wp_obW (s_find a _ _ _ _ _ hd1 hd) (fun u hu => wp_some hu)
theorem no_si : ¬ ISE = IAE := by decide
theorem REL_un {s : Sl} {g : RG} {t : SF} {sv : Int32} {c past : Nat → Int32} (h : REL s g t sv c past) : ∃ d n, s.1 = nI d ∧ s.2.2.2.1 = nI n ∧ 1 ≤ d ∧ d ≤ 6 ∧ n ≤ 24 ∧ c 2 = nI n ∧ MN c d (zt s.2.1) ∧ (∀ v, 2 ^ d ≤ v → zt s.2.1 v = false) ∧ MB c n d ∧ (∀ i, i < n → RM d s c i) ∧ findQ d (zt s.2.1) t := by
  obtain ⟨hR, hP, d0, h0, e0, hF⟩ := h
  obtain ⟨d, n, e1, e4, hM, ha, hB, hRM⟩ := RN_MN hR
  have h1 := hM.1
  have h2 := hM.2.1
  have hd0 : d0 = d := nI_inj (by omega) (by omega) (e0.symm.trans e1)
  subst hd0
  exact ⟨d0, n, e1, e4, h1, h2, hB.2.1, hB.1, hM, ha, hB, hRM, hF⟩
