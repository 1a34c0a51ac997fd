/-! what a save lays into the ring, what stands there last -/
def SVD (r : rt_X5_save) (n : Sl) : Prop := ∃ k z, k < 4 ∧ 1 ≤ z ∧ z ≤ 4 ∧ r.1 = nI k ∧ r.2.1 = nI z ∧ sEq (pk (r.2.2.1, r.2.2.2.1, r.2.2.2.2.1, r.2.2.2.2.2.1, r.2.2.2.2.2.2.1, r.2.2.2.2.2.2.2.1, r.2.2.2.2.2.2.2.2.1, r.2.2.2.2.2.2.2.2.2.1, r.2.2.2.2.2.2.2.2.2.2.1) (r.2.2.2.2.2.2.2.2.2.2.2.1, r.2.2.2.2.2.2.2.2.2.2.2.2.1, r.2.2.2.2.2.2.2.2.2.2.2.2.2.1, r.2.2.2.2.2.2.2.2.2.2.2.2.2.2.1, r.2.2.2.2.2.2.2.2.2.2.2.2.2.2.2.1, r.2.2.2.2.2.2.2.2.2.2.2.2.2.2.2.2.1, r.2.2.2.2.2.2.2.2.2.2.2.2.2.2.2.2.2.1, r.2.2.2.2.2.2.2.2.2.2.2.2.2.2.2.2.2.2.1, r.2.2.2.2.2.2.2.2.2.2.2.2.2.2.2.2.2.2.2.1) (r.2.2.2.2.2.2.2.2.2.2.2.2.2.2.2.2.2.2.2.2.1, r.2.2.2.2.2.2.2.2.2.2.2.2.2.2.2.2.2.2.2.2.2.1, r.2.2.2.2.2.2.2.2.2.2.2.2.2.2.2.2.2.2.2.2.2.2.1, r.2.2.2.2.2.2.2.2.2.2.2.2.2.2.2.2.2.2.2.2.2.2.2.1, r.2.2.2.2.2.2.2.2.2.2.2.2.2.2.2.2.2.2.2.2.2.2.2.2.1, r.2.2.2.2.2.2.2.2.2.2.2.2.2.2.2.2.2.2.2.2.2.2.2.2.2.1, r.2.2.2.2.2.2.2.2.2.2.2.2.2.2.2.2.2.2.2.2.2.2.2.2.2.2.1, r.2.2.2.2.2.2.2.2.2.2.2.2.2.2.2.2.2.2.2.2.2.2.2.2.2.2.2.1, r.2.2.2.2.2.2.2.2.2.2.2.2.2.2.2.2.2.2.2.2.2.2.2.2.2.2.2.2.1) (r.2.2.2.2.2.2.2.2.2.2.2.2.2.2.2.2.2.2.2.2.2.2.2.2.2.2.2.2.2.1, r.2.2.2.2.2.2.2.2.2.2.2.2.2.2.2.2.2.2.2.2.2.2.2.2.2.2.2.2.2.2.1, r.2.2.2.2.2.2.2.2.2.2.2.2.2.2.2.2.2.2.2.2.2.2.2.2.2.2.2.2.2.2.2.1, r.2.2.2.2.2.2.2.2.2.2.2.2.2.2.2.2.2.2.2.2.2.2.2.2.2.2.2.2.2.2.2.2.1, r.2.2.2.2.2.2.2.2.2.2.2.2.2.2.2.2.2.2.2.2.2.2.2.2.2.2.2.2.2.2.2.2.2.1, r.2.2.2.2.2.2.2.2.2.2.2.2.2.2.2.2.2.2.2.2.2.2.2.2.2.2.2.2.2.2.2.2.2.2.1, r.2.2.2.2.2.2.2.2.2.2.2.2.2.2.2.2.2.2.2.2.2.2.2.2.2.2.2.2.2.2.2.2.2.2.2.1, r.2.2.2.2.2.2.2.2.2.2.2.2.2.2.2.2.2.2.2.2.2.2.2.2.2.2.2.2.2.2.2.2.2.2.2.2.1, r.2.2.2.2.2.2.2.2.2.2.2.2.2.2.2.2.2.2.2.2.2.2.2.2.2.2.2.2.2.2.2.2.2.2.2.2.2) ((k + 3) % 4)) n
theorem s_save' {k z : Nat} {s0 s1 s2 s3 n : Sl} (hk : k < 4) (hz : z ≤ 4) :
    wp (f_X5_save (nI k) (nI z) s0.1 s0.2.1 s0.2.2.1 s0.2.2.2.1 s0.2.2.2.2.1 s0.2.2.2.2.2.1 s0.2.2.2.2.2.2.1 s0.2.2.2.2.2.2.2.1 s0.2.2.2.2.2.2.2.2 s1.1 s1.2.1 s1.2.2.1 s1.2.2.2.1 s1.2.2.2.2.1 s1.2.2.2.2.2.1 s1.2.2.2.2.2.2.1 s1.2.2.2.2.2.2.2.1 s1.2.2.2.2.2.2.2.2 s2.1 s2.2.1 s2.2.2.1 s2.2.2.2.1 s2.2.2.2.2.1 s2.2.2.2.2.2.1 s2.2.2.2.2.2.2.1 s2.2.2.2.2.2.2.2.1 s2.2.2.2.2.2.2.2.2 s3.1 s3.2.1 s3.2.2.1 s3.2.2.2.1 s3.2.2.2.2.1 s3.2.2.2.2.2.1 s3.2.2.2.2.2.2.1 s3.2.2.2.2.2.2.2.1 s3.2.2.2.2.2.2.2.2 n.1 n.2.1 n.2.2.1 n.2.2.2.1 n.2.2.2.2.1 n.2.2.2.2.2.1 n.2.2.2.2.2.2.1 n.2.2.2.2.2.2.2.1 n.2.2.2.2.2.2.2.2) (fun r => SVD r n) := by
  have e9 : ∀ q, q < 4 → ((q + 1) % 4 + 3) % 4 = q := by decide
  have h1 : 1 ≤ (if z = 4 then 4 else z + 1) := by split <;> omega
  have h4 : (if z = 4 then 4 else z + 1) ≤ 4 := by split <;> omega
  refine wp_ob (s_slot k hk) ?_
  obtain rfl | rfl | rfl | rfl : k = 0 ∨ k = 1 ∨ k = 2 ∨ k = 3 := by omega
  · refine wp_t (by decide) (wp_ob (s_copyFrom s0 n) (wp_bd (wp_bd (wp_some ⟨(0 + 1) % 4, if z = 4 then 4 else z + 1, by decide, h1, h4, nx4 0 (by decide), sz4 z (by omega), ?_⟩))))
    rw [e9 0 (by decide)]
    exact cpS_eq s0 n
  · refine wp_f (by decide) (wp_t (by decide) (wp_ob (s_copyFrom s1 n) (wp_bd (wp_bd (wp_some ⟨(1 + 1) % 4, if z = 4 then 4 else z + 1, by decide, h1, h4, nx4 1 (by decide), sz4 z (by omega), ?_⟩)))))
    rw [e9 1 (by decide)]
    exact cpS_eq s1 n
  · refine wp_f (by decide) (wp_f (by decide) (wp_t (by decide) (wp_ob (s_copyFrom s2 n) (wp_bd (wp_bd (wp_some ⟨(2 + 1) % 4, if z = 4 then 4 else z + 1, by decide, h1, h4, nx4 2 (by decide), sz4 z (by omega), ?_⟩))))))
    rw [e9 2 (by decide)]
    exact cpS_eq s2 n
  · refine wp_f (by decide) (wp_f (by decide) (wp_f (by decide) (wp_t (by decide) (wp_ob (s_copyFrom s3 n) (wp_bd (wp_bd (wp_some ⟨(3 + 1) % 4, if z = 4 then 4 else z + 1, by decide, h1, h4, nx4 3 (by decide), sz4 z (by omega), ?_⟩)))))))
    rw [e9 3 (by decide)]
    exact cpS_eq s3 n
theorem wp_cxW {A R : Type} {x : Option (String ⊕ A)} {h : String → Option R} {f : A → Option R} {Q : R → Prop} (hx : wp x (fun r => ∃ a, r = .inr a ∧ wp (f a) Q)) : wp (zcx x h f) Q := by
  obtain ⟨r, rfl, a, rfl, k⟩ := hx
  exact k
theorem s_refresh {d : Nat} (a : Int64) (t : SF) (hd1 : 1 ≤ d) (hd : d ≤ 6) : wp (f_X6_refreshSafety (nI d) a t.1 t.2.1 t.2.2.1 t.2.2.2.1 t.2.2.2.2) (findQ d (zt a)) := wp_obW (s_find a _ _ _ _ _ hd1 hd) (fun u hu => wp_some hu)
theorem no_si : ¬ ISE = IAE := by decide
/-- the ring of a cube -/
def PST (g : RG) : Prop := ∃ k z, k < 4 ∧ z ≤ 4 ∧ g.1 = nI k ∧ g.2.1 = nI z
/-- what was saved last is s -/
def LAST (g : RG) (s : Sl) : Prop := ∃ k z, k < 4 ∧ 1 ≤ z ∧ z ≤ 4 ∧ g.1 = nI k ∧ g.2.1 = nI z ∧ sEq (pk g.2.2.1 g.2.2.2.1 g.2.2.2.2.1 g.2.2.2.2.2 ((k + 3) % 4)) s
theorem LAST.pst {g : RG} {s : Sl} (h : LAST g s) : PST g := by
  obtain ⟨k, z, h1, h2, h3, h4, h5, -⟩ := h
  exact ⟨k, z, h1, h3, h4, h5⟩
/-- the messages: where they began (bg), where they are, how often they have moved -/
def MSG (d n T : Nat) (bg : Nat → Int32) (s : Sl) : Prop := ∀ i, i < n → ∃ b p g m x j, b < 2 ^ d ∧ p < 2 ^ d ∧ g < 2 ^ d ∧ x < 3 ∧ bg i = nI b ∧ s.2.2.2.2.2.1 i = nI p ∧ s.2.2.2.2.2.2.1 i = nI g ∧ s.2.2.2.2.2.2.2.1 i = nI m ∧ s.2.2.2.2.1 i = nI x ∧ m ≤ T ∧ m = pc (b ^^^ p) + 2 * j
def INV (d n T : Nat) (bg : Nat → Int32) (cu : CU) : Prop := CORE d n cu ∧ MSG d n T bg cu.1 ∧ PST cu.2.1
theorem MSG.mono {d n T T' : Nat} {bg : Nat → Int32} {s : Sl} (h : MSG d n T bg s) (ht : T ≤ T') : MSG d n T' bg s := fun i hi => by
  obtain ⟨b, p, g, m, x, j, h1, h2, h3, h4, h5, h6, h7, h8, h9, h10, h11⟩ := h i hi
  exact ⟨b, p, g, m, x, j, h1, h2, h3, h4, h5, h6, h7, h8, h9, Nat.le_trans h10 ht, h11⟩
theorem INV.mono {d n T T' : Nat} {bg : Nat → Int32} {cu : CU} (h : INV d n T bg cu) (ht : T ≤ T') : INV d n T' bg cu := ⟨h.1, h.2.1.mono ht, h.2.2⟩
theorem INV.same {d n T : Nat} {bg : Nat → Int32} {cu cu' : CU} (h : INV d n T bg cu) (k : SAME cu cu') : INV d n T bg cu' := ⟨h.1.same k, by rw [k.1]; exact h.2.1, by rw [k.2.1]; exact h.2.2⟩
theorem MSG.eqv {d n T : Nat} {bg bg' : Nat → Int32} {s t : Sl} (hn : n ≤ 24) (h : MSG d n T bg s) (he : sEq t s) (hb : ∀ i, i < n → bg' i = bg i) : MSG d n T bg' t := fun i hi => by
  obtain ⟨b, p, g, m, x, j, h1, h2, h3, h4, h5, h6, h7, h8, h9, h10⟩ := h i hi
  obtain ⟨q1, q2, q3, q4, -⟩ := he.2.2.2.2 i (by omega)
  exact ⟨b, p, g, m, x, j, h1, h2, h3, h4, (hb i hi).trans h5, q2.trans h6, q3.trans h7, q4.trans h8, q1.trans h9, h10⟩
/-- rows for the messages of a situation -/
def rwc (s : Sl) (j : Nat) : Int32 := if (j - 67) % 5 = 0 then s.2.2.2.2.1 ((j - 67) / 5) else if (j - 67) % 5 = 1 then s.2.2.2.2.2.1 ((j - 67) / 5) else if (j - 67) % 5 = 2 then s.2.2.2.2.2.2.1 ((j - 67) / 5) else if (j - 67) % 5 = 3 then s.2.2.2.2.2.2.2.1 ((j - 67) / 5) else s.2.2.2.2.2.2.2.2 ((j - 67) / 5)
theorem rwc_0 (s : Sl) (i : Nat) : rwc s (67 + 5 * i) = s.2.2.2.2.1 i := by
  unfold rwc
  rw [if_pos (by omega), show (67 + 5 * i - 67) / 5 = i by omega]
theorem rwc_1 (s : Sl) (i : Nat) : rwc s (68 + 5 * i) = s.2.2.2.2.2.1 i := by
  unfold rwc
  rw [if_neg (by omega), if_pos (by omega), show (68 + 5 * i - 67) / 5 = i by omega]
theorem rwc_2 (s : Sl) (i : Nat) : rwc s (69 + 5 * i) = s.2.2.2.2.2.2.1 i := by
  unfold rwc
  rw [if_neg (by omega), if_neg (by omega), if_pos (by omega), show (69 + 5 * i - 67) / 5 = i by omega]
theorem rwc_3 (s : Sl) (i : Nat) : rwc s (70 + 5 * i) = s.2.2.2.2.2.2.2.1 i := by
  unfold rwc
  rw [if_neg (by omega), if_neg (by omega), if_neg (by omega), if_pos (by omega), show (70 + 5 * i - 67) / 5 = i by omega]
theorem rwc_4 (s : Sl) (i : Nat) : rwc s (71 + 5 * i) = s.2.2.2.2.2.2.2.2 i := by
  unfold rwc
  rw [if_neg (by omega), if_neg (by omega), if_neg (by omega), if_neg (by omega), show (71 + 5 * i - 67) / 5 = i by omega]
theorem MSG_RM {d n T : Nat} {bg : Nat → Int32} {s : Sl} (h : MSG d n T bg s) : ∀ i, i < n → RM d s (rwc s) i := fun i hi => by
  obtain ⟨b, p, g, m, x, j, h1, h2, h3, h4, h5, h6, h7, h8, h9, h10⟩ := h i hi
  exact ⟨(rwc_0 s i).symm, (rwc_1 s i).symm, (rwc_2 s i).symm, (rwc_3 s i).symm, (rwc_4 s i).symm, p, g, h2, h3, (rwc_1 s i).trans h6, (rwc_2 s i).trans h7⟩
