/-! the turns of the reference along a path -/
def T1 (h : Nat → Nat) (m j : Nat) (g0 c0 g c : Nat → Int32) : Prop :=
  (∀ u, u < 64 → ((∃ i v, j ≤ i ∧ i < m ∧ v ≠ u ∧ h i = 2 * u + 1 ∧ h (i + 1) = 2 * v) → g u = -1) ∧ ((¬ ∃ i v, j ≤ i ∧ i < m ∧ v ≠ u ∧ h i = 2 * u + 1 ∧ h (i + 1) = 2 * v) → g u = g0 u)) ∧
  ∀ v, v < 64 → ((∃ i u, j ≤ i ∧ i < m ∧ u ≠ v ∧ h i = 2 * u + 1 ∧ h (i + 1) = 2 * v) → c v = -1) ∧ ((¬ ∃ i u, j ≤ i ∧ i < m ∧ u ≠ v ∧ h i = 2 * u + 1 ∧ h (i + 1) = 2 * v) → c v = c0 v)
def T2 (h : Nat → Nat) (m s t j : Nat) (g0 c0 g c : Nat → Int32) : Prop :=
  (∀ u, u < 64 → (∀ i v, j ≤ i → i < m → v ≠ u → u ≠ s → h i = 2 * v → h (i + 1) = 2 * u + 1 → g u = nI v) ∧ ((u = s ∨ ¬ ∃ i v, j ≤ i ∧ i < m ∧ v ≠ u ∧ h i = 2 * v ∧ h (i + 1) = 2 * u + 1) → g u = g0 u)) ∧
  ∀ v, v < 64 → (∀ i u, j ≤ i → i < m → u ≠ v → v ≠ t → h i = 2 * v → h (i + 1) = 2 * u + 1 → c v = nI u) ∧ ((v = t ∨ ¬ ∃ i u, j ≤ i ∧ i < m ∧ u ≠ v ∧ h i = 2 * v ∧ h (i + 1) = 2 * u + 1) → c v = c0 v)
theorem mc_cases (x : Nat) (hx : x < 128) : (∃ v, v < 64 ∧ x = 2 * v ∧ MC x = v) ∨ ∃ v, v < 64 ∧ x = 2 * v + 1 ∧ MC x = 64 + v := by
  rcases Nat.mod_two_eq_zero_or_one x with q | q
  · exact Or.inl ⟨x / 2, by omega, by omega, by unfold MC; rw [if_pos q]⟩
  · exact Or.inr ⟨x / 2, by omega, by omega, by unfold MC; rw [if_neg (by omega)]⟩
section
variable {d s t m : Nat} {U : Nat → Nat} {al : Nat → Bool} {cf : Nat → Option Nat} {h : Nat → Nat} {C : Nat → Option Nat} {dir : Bool} {goes comes : Nat → Int32}
theorem T1_skip {j : Nat} {g0 c0 g c : Nat → Int32} (hT : T1 h m (j + 1) g0 c0 g c) (hn : ¬ ∃ u v, u ≠ v ∧ h j = 2 * u + 1 ∧ h (j + 1) = 2 * v) : T1 h m j g0 c0 g c := by
  obtain ⟨h1, h2⟩ := hT
  refine ⟨fun u hu => ⟨fun ⟨i, v, a1, a2, a3, a4, a5⟩ => (h1 u hu).1 ⟨i, v, ?_, a2, a3, a4, a5⟩, fun q => (h1 u hu).2 fun ⟨i, v, a1, a2⟩ => q ⟨i, v, by omega, a2⟩⟩, fun v hv => ⟨fun ⟨i, u, a1, a2, a3, a4, a5⟩ => (h2 v hv).1 ⟨i, u, ?_, a2, a3, a4, a5⟩, fun q => (h2 v hv).2 fun ⟨i, u, a1, a2⟩ => q ⟨i, u, by omega, a2⟩⟩⟩
  · rcases Nat.lt_or_ge j i with q | q
    · exact q
    · have : i = j := by omega
      subst this
      exact absurd ⟨u, v, a3.symm, a4, a5⟩ hn
  · rcases Nat.lt_or_ge j i with q | q
    · exact q
    · have : i = j := by omega
      subst this
      exact absurd ⟨u, v, a3, a4, a5⟩ hn
theorem T1_step {j u v : Nat} {g0 c0 g c : Nat → Int32} (hT : T1 h m (j + 1) g0 c0 g c) (hj : j < m) (hne : u ≠ v) (e1 : h j = 2 * u + 1) (e2 : h (j + 1) = 2 * v) : T1 h m j g0 c0 (upd g u (-1)) (upd c v (-1)) := by
  obtain ⟨h1, h2⟩ := hT
  refine ⟨fun u' hu => ⟨fun ⟨i, v', a1, a2, a3, a4, a5⟩ => ?_, fun q => ?_⟩, fun v' hv => ⟨fun ⟨i, u', a1, a2, a3, a4, a5⟩ => ?_, fun q => ?_⟩⟩
  · unfold upd
    by_cases e : u' = u
    · rw [if_pos e]
    · rw [if_neg e]
      refine (h1 u' hu).1 ⟨i, v', ?_, a2, a3, a4, a5⟩
      rcases Nat.lt_or_ge j i with q | q
      · exact q
      · have : i = j := by omega
        subst this
        omega
  · have : ¬ u' = u := fun z => q ⟨j, v, Nat.le_refl j, hj, by rw [z]; exact hne.symm, by rw [z]; exact e1, e2⟩
    rw [upd, if_neg this]
    exact (h1 u' hu).2 fun ⟨i, v', a1, a2⟩ => q ⟨i, v', by omega, a2⟩
  · unfold upd
    by_cases e : v' = v
    · rw [if_pos e]
    · rw [if_neg e]
      refine (h2 v' hv).1 ⟨i, u', ?_, a2, a3, a4, a5⟩
      rcases Nat.lt_or_ge j i with q | q
      · exact q
      · have : i = j := by omega
        subst this
        omega
  · have : ¬ v' = v := fun z => q ⟨j, u, Nat.le_refl j, hj, by rw [z]; exact hne, e1, by rw [z]; exact e2⟩
    rw [upd, if_neg this]
    exact (h2 v' hv).2 fun ⟨i, u', a1, a2⟩ => q ⟨i, u', by omega, a2⟩
theorem T2_skip {j : Nat} {g0 c0 g c : Nat → Int32} (hT : T2 h m s t (j + 1) g0 c0 g c) (hn : ¬ ∃ u v, u ≠ v ∧ h j = 2 * v ∧ h (j + 1) = 2 * u + 1) : T2 h m s t j g0 c0 g c := by
  obtain ⟨h1, h2⟩ := hT
  refine ⟨fun u hu => ⟨fun i v a1 a2 a3 a4 a5 a6 => (h1 u hu).1 i v ?_ a2 a3 a4 a5 a6, fun q => (h1 u hu).2 (q.imp_right fun q ⟨i, v, a1, a2⟩ => q ⟨i, v, by omega, a2⟩)⟩, fun v hv => ⟨fun i u a1 a2 a3 a4 a5 a6 => (h2 v hv).1 i u ?_ a2 a3 a4 a5 a6, fun q => (h2 v hv).2 (q.imp_right fun q ⟨i, u, a1, a2⟩ => q ⟨i, u, by omega, a2⟩)⟩⟩
  · rcases Nat.lt_or_ge j i with q | q
    · exact q
    · have : i = j := by omega
      subst this
      exact absurd ⟨u, v, a3.symm, a5, a6⟩ hn
  · rcases Nat.lt_or_ge j i with q | q
    · exact q
    · have : i = j := by omega
      subst this
      exact absurd ⟨u, v, a3, a5, a6⟩ hn
theorem T2_step {j u v : Nat} {g0 c0 g c : Nat → Int32} (hinj : ∀ i j, i ≤ m → j ≤ m → h i = h j → i = j) (hT : T2 h m s t (j + 1) g0 c0 g c) (hj : j < m) (hne : u ≠ v) (e1 : h j = 2 * v) (e2 : h (j + 1) = 2 * u + 1) :
    T2 h m s t j g0 c0 (if u = s then g else upd g u (nI v)) (if v = t then c else upd c v (nI u)) := by
  obtain ⟨h1, h2⟩ := hT
  refine ⟨fun u' hu => ⟨fun i v' a1 a2 a3 a4 a5 a6 => ?_, fun q => ?_⟩, fun v' hv => ⟨fun i u' a1 a2 a3 a4 a5 a6 => ?_, fun q => ?_⟩⟩
  · by_cases e : u' = u
    · have : i = j := by
        have := hinj (i + 1) (j + 1) a2 hj (by rw [a6, e2, e])
        omega
      subst this
      subst e
      rw [if_neg a4, upd, if_pos rfl, show v = v' by omega]
    · have : (if u = s then g else upd g u (nI v)) u' = g u' := by
        split
        · rfl
        · exact if_neg e
      rw [this]
      refine (h1 u' hu).1 i v' ?_ a2 a3 a4 a5 a6
      rcases Nat.lt_or_ge j i with q | q
      · exact q
      · have : i = j := by omega
        subst this
        omega
  · have : (if u = s then g else upd g u (nI v)) u' = g u' := by
      split
      · rfl
      · rename_i hus
        refine if_neg fun z => ?_
        rcases q with q | q
        · exact hus (z.symm.trans q)
        · exact q ⟨j, v, Nat.le_refl j, hj, by rw [z]; exact hne.symm, e1, by rw [z]; exact e2⟩
    rw [this]
    exact (h1 u' hu).2 (q.imp_right fun q ⟨i, v', a1, a2⟩ => q ⟨i, v', by omega, a2⟩)
  · by_cases e : v' = v
    · have : i = j := hinj i j (by omega) (by omega) (by rw [a5, e1, e])
      subst this
      subst e
      rw [if_neg a4, upd, if_pos rfl, show u = u' by omega]
    · have : (if v = t then c else upd c v (nI u)) v' = c v' := by
        split
        · rfl
        · exact if_neg e
      rw [this]
      refine (h2 v' hv).1 i u' ?_ a2 a3 a4 a5 a6
      rcases Nat.lt_or_ge j i with q | q
      · exact q
      · have : i = j := by omega
        subst this
        omega
  · have : (if v = t then c else upd c v (nI u)) v' = c v' := by
      split
      · rfl
      · rename_i hvt
        refine if_neg fun z => ?_
        rcases q with q | q
        · exact hvt (z.symm.trans q)
        · exact q ⟨j, u, Nat.le_refl j, hj, by rw [z]; exact hne, by rw [z]; exact e1, e2⟩
    rw [this]
    exact (h2 v' hv).2 (q.imp_right fun q ⟨i, u', a1, a2⟩ => q ⟨i, u', by omega, a2⟩)
theorem m_turns {cm way : Nat → Int32} (hd : d ≤ 6) (hs : s < 2 ^ d) (ht : t < 2 ^ d) (hF : FI d s t U C) (hG : GR d s t U C dir goes comes) (hP : PP d U al s t cf h m) (hcm : ∀ x, x < 128 → cm (MC x) = oM (cf x)) :
    wp (f_X7_turns (nI s) (nI t) comes goes cm way) (fun r => ∃ g1 c1, T1 h m 0 goes comes g1 c1 ∧ T2 h m s t 0 g1 c1 r.2.1 r.1) := by
  have h6 := p2_le hd
  have h128 := p2_2 hd
  obtain ⟨f1, f2, f3, f4, f5, f6, f7, f8⟩ := hF
  obtain ⟨g1, g2, g3, g4, g5⟩ := hG
  obtain ⟨p0, pm, hm, hst, hlt, hinj⟩ := id hP
  have hm0 := h_end hP
  have es : (64 : Int32) + nI s = nI (MC (h m)) := by rw [pm, MC_x]; exact nI_add 64 s
  unfold f_X7_turns
  rw [es]
  have hlt2 : ∀ i, i ≤ m → h i < 128 := fun i hi => by have := hlt i hi; omega
  refine zl3_wp (fun i3 i4 w => ∃ j, j ≤ m ∧ i3 = nI j ∧ i4 = nI (MC (h j)) ∧ ∀ i, i < j → w i = nI (MC (h i))) (fun i3 _ _ => 1000 - i3.toNatClampNeg) (fun K i3 i4 w hI ih => ?_) 0 (nI t) way ⟨0, Nat.zero_le m, rfl, by rw [p0, MC_e], fun i hi => absurd hi (Nat.not_lt_zero i)⟩ (by decide)
  obtain ⟨j, hj, rfl, rfl, hw⟩ := hI
  have hMj := MC_lt (hlt2 j hj)
  have hw2 : ∀ i, i ≤ j → upd w j (nI (MC (h j))) i = nI (MC (h i)) := fun i hi => by
    unfold upd
    by_cases e : i = j
    · rw [if_pos e, e]
    · rw [if_neg e]; exact hw i (by omega)
  by_cases hjm : j = m
  · subst hjm
    refine wp_t rfl (wp_gd (inb_nI (by omega) (by decide)) (wp_bd ?_))
    rw [nI_clamp (show j < 2 ^ 31 by omega)]
    generalize upd w j (nI (MC (h j))) = way at *
    have n1 : ∀ i, nI (i + 1) - (1 : Int32) = nI i := fun i => nI_sub (a := i + 1) (b := 1) (by omega)
    have n2 : ∀ i, i < 128 → nI (i + 1) + (-1 : Int32) = nI i := by decide +kernel
    refine zl3_wp (fun i5 c g => ∃ k, k ≤ j ∧ i5 = nI k ∧ T1 h j k goes comes g c) (fun i5 _ _ => i5.toNatClampNeg) (fun K2 i5 c g hI ih2 => ?_) (nI j) comes goes ⟨j, Nat.le_refl j, rfl, ⟨fun u hu => ⟨fun ⟨i, v, a1, a2, _⟩ => absurd a2 (by omega), fun _ => rfl⟩, fun u hu => ⟨fun ⟨i, v, a1, a2, _⟩ => absurd a2 (by omega), fun _ => rfl⟩⟩⟩ (by rw [nI_clamp (by omega)]; omega)
    obtain ⟨k, hk, rfl, hT⟩ := hI
    cases k with
    | zero =>
      refine wp_t (by decide) ?_
      refine zl3_wp (fun i5 c' g' => ∃ k, k ≤ j ∧ i5 = nI k ∧ T2 h j s t k g c g' c') (fun i5 _ _ => i5.toNatClampNeg) (fun K3 i5 c' g' hI ih3 => ?_) (nI j) c g ⟨j, Nat.le_refl j, rfl, ⟨fun u hu => ⟨fun i v a1 a2 => absurd a2 (by omega), fun _ => rfl⟩, fun u hu => ⟨fun i v a1 a2 => absurd a2 (by omega), fun _ => rfl⟩⟩⟩ (by rw [nI_clamp (by omega)]; omega)
      obtain ⟨k, hk, rfl, hT2⟩ := hI
      cases k with
      | zero => exact wp_t (by decide) (wp_some ⟨g, c, hT, hT2⟩)
      | succ k =>
        have emu : (nI k).toNatClampNeg < (nI (k + 1)).toNatClampNeg := by rw [nI_clamp (by omega), nI_clamp (by omega)]; omega
        have hMk := MC_lt (hlt2 k (by omega))
        have hMk1 := MC_lt (hlt2 (k + 1) hk)
        refine wp_f (show ¬ nI (k + 1) ≤ nI 0 from nI_ge (by omega) (by omega)) (wp_gd (inb_nI (by omega) (by decide)) (wp_bd ?_))
        rw [n1 k]
        refine wp_gd (inb_nI (by omega) (by decide)) (wp_bd (wp_jp ?_))
        rw [nI_clamp (show k + 1 < 2 ^ 31 by omega), nI_clamp (show k < 2 ^ 31 by omega), hw2 (k + 1) hk, hw2 k (by omega)]
        dsimp only
        rw [mod64 _ hMk1]
        have next : ∀ c'' g'', T2 h j s t k g c g'' c'' → wp (zbd (nI (k + 1) + -1) (fun x7 => K3 x7 c'' g'')) (fun r => ∃ g1 c1, T1 h j 0 goes comes g1 c1 ∧ T2 h j s t 0 g1 c1 r.2.1 r.1) := fun c'' g'' hT' => by
          refine wp_bd ?_
          rw [n2 k (by omega)]
          exact ih3 _ _ _ ⟨k, by omega, rfl, hT'⟩ emu
        rcases mc_cases (h (k + 1)) (hlt2 _ hk) with ⟨u, hu, eu, em⟩ | ⟨u, hu, eu, em⟩
        · refine wp_t (by rw [em]; exact nI_lt (b := 64) hu (by decide)) (next _ _ (T2_skip hT2 fun ⟨u', v', _, _, z⟩ => by omega))
        · rcases mc_cases (h k) (hlt2 _ (by omega)) with ⟨v, hv, ev, em2⟩ | ⟨v, hv, ev, em2⟩
          · rw [em, em2, show (64 + u) % 64 = u by omega, nI_clamp (show u < 2 ^ 31 by omega), nI_clamp (show v < 2 ^ 31 by omega)]
            refine wp_f (show ¬ nI (64 + u) < nI 64 from nI_nlt (by omega) (by omega)) (wp_f (show ¬ nI 64 ≤ nI v from nI_ge (by omega) (by omega)) ?_)
            by_cases huv : u = v
            · exact wp_t (by rw [huv]) (next _ _ (T2_skip hT2 fun ⟨u', v', z0, z1, z2⟩ => by omega))
            · have hS := T2_step hinj hT2 (by omega) huv ev eu
              refine wp_f (fun z => huv (nI_inj (by omega) (by omega) z)) (wp_jp ?_)
              have fin : ∀ g'', g'' = (if u = s then g' else upd g' u (nI v)) → wp (
if (nI v : Int32) = nI t then (
zbd (nI (k + 1) + -1) (fun x7 => K3 x7 c' g'')) else (
zbd (A := Int32) (nI u) (fun x8 =>
zgd (inb (nI v) 64) (
zbd (A := (Nat → Int32)) (upd c' v x8) (fun y10 =>
zbd (nI (k + 1) + -1) (fun x7 => K3 x7 y10 g'')))))) (fun r => ∃ g1 c1, T1 h j 0 goes comes g1 c1 ∧ T2 h j s t 0 g1 c1 r.2.1 r.1) := fun g'' hg => by
                rw [← hg] at hS
                by_cases hvt : v = t
                · rw [if_pos hvt] at hS
                  exact wp_t (by rw [hvt]) (next _ _ hS)
                · rw [if_neg hvt] at hS
                  exact wp_f (fun z => hvt (nI_inj (by omega) (by omega) z)) (wp_bd (wp_gd (inb_nI (by omega) (by decide)) (wp_bd (next _ _ hS))))
              by_cases hus : u = s
              · exact wp_t (by rw [hus]) (fin g' (if_pos hus).symm)
              · exact wp_f (fun z => hus (nI_inj (by omega) (by omega) z)) (wp_gd (inb_nI (by omega) (by decide)) (wp_bd (fin _ (if_neg hus).symm)))
          · rw [em, em2]
            exact wp_f (show ¬ nI (64 + u) < nI 64 from nI_nlt (by omega) (by omega)) (wp_t (show nI 64 ≤ nI (64 + v) from nI_le (by omega) (by omega)) (next _ _ (T2_skip hT2 fun ⟨u', v', _, z, _⟩ => by omega)))
    | succ k =>
      have emu : (nI k).toNatClampNeg < (nI (k + 1)).toNatClampNeg := by rw [nI_clamp (by omega), nI_clamp (by omega)]; omega
      have hMk := MC_lt (hlt2 k (by omega))
      have hMk1 := MC_lt (hlt2 (k + 1) hk)
      refine wp_f (show ¬ nI (k + 1) ≤ nI 0 from nI_ge (by omega) (by omega)) (wp_gd (inb_nI (by omega) (by decide)) (wp_bd ?_))
      rw [n1 k]
      refine wp_gd (inb_nI (by omega) (by decide)) (wp_bd (wp_jp ?_))
      rw [nI_clamp (show k + 1 < 2 ^ 31 by omega), nI_clamp (show k < 2 ^ 31 by omega), hw2 (k + 1) hk, hw2 k (by omega)]
      dsimp only
      rw [mod64 _ hMk]
      have next : ∀ c'' g'', T1 h j k goes comes g'' c'' → wp (zbd (nI (k + 1) + -1) (fun x17 => K2 x17 c'' g'')) (fun r => ∃ g1 c1, T1 h j 0 goes comes g1 c1 ∧ T2 h j s t 0 g1 c1 r.2.1 r.1) := fun c'' g'' hT' => by
        refine wp_bd ?_
        rw [n2 k (by omega)]
        exact ih2 _ _ _ ⟨k, by omega, rfl, hT'⟩ emu
      rcases mc_cases (h (k + 1)) (hlt2 _ hk) with ⟨v, hv, ev, em⟩ | ⟨v, hv, ev, em⟩
      · rcases mc_cases (h k) (hlt2 _ (by omega)) with ⟨u, hu, eu, em2⟩ | ⟨u, hu, eu, em2⟩
        · rw [em, em2]
          exact wp_f (show ¬ nI 64 ≤ nI v from nI_ge (by omega) (by omega)) (wp_t (show nI u < nI 64 from nI_lt (by omega) (by decide)) (next _ _ (T1_skip hT fun ⟨u', v', _, z, _⟩ => by omega)))
        · rw [em, em2, show (64 + u) % 64 = u by omega, nI_clamp (show u < 2 ^ 31 by omega), nI_clamp (show v < 2 ^ 31 by omega)]
          refine wp_f (show ¬ nI 64 ≤ nI v from nI_ge (by omega) (by omega)) (wp_f (show ¬ nI (64 + u) < nI 64 from nI_nlt (by omega) (by omega)) ?_)
          by_cases huv : u = v
          · exact wp_t (by rw [huv]) (next _ _ (T1_skip hT fun ⟨u', v', z0, z1, z2⟩ => by omega))
          · have hS := T1_step hT (by omega) huv eu ev
            rcases P_predX hP (show k < j by omega) eu with ⟨z, -⟩ | ⟨k0, k1, k2, k3, k4⟩
            · omega
            · have evk : v = u ^^^ 2 ^ k0 := by omega
              have hus : u ≠ s := fun z => (hst k (by omega)).1 (by rw [eu, z])
              have hvt : v ≠ t := fun z => by
                have := hinj (k + 1) 0 hk (by omega) (by rw [ev, p0, z])
                omega
              have hgu : g u = nI v := by
                rw [(hT.1 u hu).2 fun ⟨i, v', a1, a2, a3, a4, a5⟩ => by
                  have := hinj i k (by omega) (by omega) (a4.trans eu.symm)
                  omega, g3 u k0 k2 k1 hus k4, evk]
              have hcv : c v = nI u := by
                rw [(hT.2 v hv).2 fun ⟨i, u', a1, a2, a3, a4, a5⟩ => by
                  have := hinj (i + 1) (k + 1) (by omega) (by omega) (a5.trans ev.symm)
                  omega, g4 v (by rw [evk]; exact nb_lt hd k2 k1), evk, (f6 u k0 k2 k1 (by rw [← evk]; exact hvt)).mpr k4]
                rfl
              refine wp_f (fun z => huv (nI_inj (by omega) (by omega) z.symm)) (wp_gd (inb_nI (by omega) (by decide)) (wp_jp ?_))
              rw [hgu]
              refine wp_t rfl (wp_gd (inb_nI (by omega) (by decide)) (wp_bd (wp_gd (inb_nI (by omega) (by decide)) (wp_jp ?_))))
              rw [hcv]
              refine wp_t rfl (wp_gd (inb_nI (by omega) (by decide)) (wp_bd ?_))
              rw [nI_clamp (show u < 2 ^ 31 by omega), nI_clamp (show v < 2 ^ 31 by omega)]
              exact next _ _ hS
      · rw [em]
        exact wp_t (show nI 64 ≤ nI (64 + v) from nI_le (by omega) (by omega)) (next _ _ (T1_skip hT fun ⟨u', v', _, _, z⟩ => by omega))
  · have hjl : j < m := by omega
    have hMm := MC_lt (hlt2 m (Nat.le_refl m))
    refine wp_f (fun z => hjm (hinj j m hj (Nat.le_refl m) (MC_inj (hlt2 j hj) (hlt2 m (Nat.le_refl m)) (nI_inj (by omega) (by omega) z)))) (wp_gd (inb_nI (by omega) (by decide)) (wp_bd (wp_bd (wp_gd (inb_nI (by omega) (by decide)) (wp_bd ?_)))))
    rw [nI_clamp (show j < 2 ^ 31 by omega), nI_clamp (show MC (h j) < 2 ^ 31 by omega), hcm _ (hlt2 j hj), (hst j hjl).2.2, nI_1]
    exact ih _ _ _ ⟨j + 1, hjl, rfl, rfl, fun i hi => hw2 i (by omega)⟩ (by rw [nI_clamp (by omega), nI_clamp (by omega)]; omega)
end
