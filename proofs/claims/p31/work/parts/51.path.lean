/-! the path found, and the class's masks along it -/
def ph (cf : Nat → Option Nat) (y : Nat) : Nat → Nat
  | 0 => y
  | i + 1 => (cf (ph cf y i)).getD 0
theorem ph_tail {cf : Nat → Option Nat} {y x : Nat} (h : cf y = some x) : ∀ i, ph cf y (i + 1) = ph cf x i
  | 0 => by show (cf y).getD 0 = x; rw [h]; rfl
  | i + 1 => by
    show (cf (ph cf y (i + 1))).getD 0 = (cf (ph cf x i)).getD 0
    rw [ph_tail h i]
def PP (d : Nat) (U : Nat → Nat) (al : Nat → Bool) (s t : Nat) (cf : Nat → Option Nat) (h : Nat → Nat) (m : Nat) : Prop :=
  h 0 = 2 * t ∧ h m = 2 * s + 1 ∧ m ≤ 127 ∧ (∀ i, i < m → h i ≠ 2 * s + 1 ∧ Ed d U al s (h (i + 1)) (h i) ∧ cf (h i) = some (h (i + 1))) ∧ (∀ i, i ≤ m → h i < 2 * 2 ^ d) ∧
  ∀ i j, i ≤ m → j ≤ m → h i = h j → i = j
theorem ph_ex {d : Nat} {U : Nat → Nat} {al : Nat → Bool} {s : Nat} {B : BS} (hB : BV d U al s B) : ∀ N j y, j ≤ N → j < B.1 → B.2.2 j = y →
    ∃ (m : Nat) (ix : Nat → Nat), ix 0 = j ∧ ph B.2.1 y m = 2 * s + 1 ∧ (∀ i, i < m → ph B.2.1 y i ≠ 2 * s + 1 ∧ Ed d U al s (ph B.2.1 y (i + 1)) (ph B.2.1 y i) ∧ B.2.1 (ph B.2.1 y i) = some (ph B.2.1 y (i + 1)) ∧ ix (i + 1) < ix i) ∧ ∀ i, i ≤ m → B.2.2 (ix i) = ph B.2.1 y i ∧ ix i < B.1 ∧ ix i + i ≤ j
  | 0, j, y, hj, hjb, hy => by
    have : j = 0 := by omega
    subst this
    have : y = 2 * s + 1 := hy.symm.trans hB.2.2.2.2.2.2.1
    subst this
    exact ⟨0, fun _ => 0, rfl, rfl, fun i hi => absurd hi (Nat.not_lt_zero i), fun i hi => by
      have : i = 0 := by omega
      subst this
      exact ⟨hy, hjb, Nat.le_refl _⟩⟩
  | N + 1, j, y, hj, hjb, hy => by
    by_cases hys : y = 2 * s + 1
    · exact ⟨0, fun _ => j, rfl, hys, fun i hi => absurd hi (Nat.not_lt_zero i), fun i hi => by
        have : i = 0 := by omega
        subst this
        exact ⟨hy, hjb, Nat.le_refl _⟩⟩
    · cases hc : B.2.1 y with
      | none => exact absurd hc (hy ▸ hB.2.2.1 j hjb)
      | some x =>
        obtain ⟨he, i', j', k1, k2, k3, k4⟩ := hB.2.2.2.2.2.2.2.2 y x hys hc
        have hjj : j' = j := hB.2.2.2.1 j' j k2 hjb (k4.trans hy.symm)
        subst hjj
        obtain ⟨m, ix, a1, a2, a3, a4⟩ := ph_ex hB N i' x (by omega) (by omega) k3
        refine ⟨m + 1, fun i => if i = 0 then j' else ix (i - 1), rfl, by rw [ph_tail hc]; exact a2, fun i hi => ?_, fun i hi => ?_⟩
        · cases i with
          | zero =>
            refine ⟨hys, ?_, ?_, ?_⟩
            · rw [ph_tail hc]; exact he
            · rw [ph_tail hc]; exact hc
            · show ix 0 < j'
              omega
          | succ i =>
            obtain ⟨b1, b2, b3, b4⟩ := a3 i (by omega)
            rw [ph_tail hc, ph_tail hc]
            exact ⟨b1, b2, b3, b4⟩
        · cases i with
          | zero => exact ⟨hy, hjb, Nat.le_refl _⟩
          | succ i =>
            obtain ⟨b1, b2, b3⟩ := a4 i (by omega)
            rw [ph_tail hc]
            exact ⟨b1, b2, by show ix i + (i + 1) ≤ j'; omega⟩
theorem PP_ex {d : Nat} {U : Nat → Nat} {al : Nat → Bool} {s t : Nat} {B : BS} (hB : BV d U al s B) (ht : B.2.1 (2 * t) ≠ none) : ∃ m, PP d U al s t B.2.1 (ph B.2.1 (2 * t)) m := by
  cases hc : B.2.1 (2 * t) with
  | none => exact absurd hc ht
  | some x =>
    obtain ⟨j, j1, j2⟩ := hB.2.2.2.2.2.2.2.1 _ x hc
    have h128 := BV_le hB
    obtain ⟨m, ix, a1, a2, a3, a4⟩ := ph_ex hB j j _ (Nat.le_refl _) j1 j2
    have hdec : ∀ k i, i + k ≤ m → ix (i + k) + k ≤ ix i := fun k => by
      induction k with
      | zero => exact fun i _ => Nat.le_refl _
      | succ k ih =>
          intro i hi
          have := ih i (by omega)
          have := (a3 (i + k) (by omega)).2.2.2
          show ix (i + k + 1) + (k + 1) ≤ ix i
          omega
    refine ⟨m, rfl, a2, by have := (a4 m (Nat.le_refl m)).2.2; omega, fun i hi => ⟨(a3 i hi).1, (a3 i hi).2.1, (a3 i hi).2.2.1⟩, fun i hi => ?_, fun i k hi hk e => ?_⟩
    · obtain ⟨b1, b2, -⟩ := a4 i hi
      cases e : B.2.1 (ph B.2.1 (2 * t) i) with
      | none => exact absurd e (b1 ▸ hB.2.2.1 _ b2)
      | some w => exact (hB.2.1 _ w e).1
    · obtain ⟨b1, b2, -⟩ := a4 i hi
      obtain ⟨c1, c2, -⟩ := a4 k hk
      have hix : ix i = ix k := hB.2.2.2.1 _ _ b2 c2 (b1.trans (e.trans c1.symm))
      rcases Nat.lt_or_ge i k with q | q
      · have := hdec (k - i) i (by omega)
        rw [show i + (k - i) = k by omega] at this
        omega
      · rcases Nat.lt_or_ge k i with q2 | q2
        · have := hdec (i - k) k (by omega)
          rw [show k + (i - k) = i by omega] at this
          omega
        · omega
def upS (h : Nat → Nat) (U : Nat → Nat) : Nat → Nat → Nat
  | 0 => U
  | j + 1 => if h j / 2 = h (j + 1) / 2 then upS h U j else if h j % 2 = 0 then uN2 (upS h U j) (h (j + 1) / 2) (upS h U j (h (j + 1) / 2) ||| (h j / 2 ^^^ h (j + 1) / 2)) else uN2 (upS h U j) (h j / 2) (upS h U j (h j / 2) &&& (63 ^^^ (h j / 2 ^^^ h (j + 1) / 2)))
theorem and_off : ∀ m, m < 64 → ∀ e, e < 64 → nI m &&& (nI e ^^^ (-1 : Int32)) = nI (m &&& (63 ^^^ e)) := by decide +kernel
theorem or_nI : ∀ m, m < 64 → ∀ e, e < 64 → nI m ||| nI e = nI (m ||| e) := by decide +kernel
theorem upS_lt {d m : Nat} {h U : Nat → Nat} (hd : d ≤ 6) (hU : ∀ v, U v < 2 ^ d) (hh : ∀ i, i ≤ m → h i < 2 * 2 ^ d) : ∀ j, j ≤ m → ∀ v, upS h U j v < 2 ^ d
  | 0, _, v => hU v
  | j + 1, hj, v => by
    have ih := upS_lt hd hU hh j (by omega)
    have h1 := hh j (by omega)
    have h2 := hh (j + 1) hj
    rw [upS]
    split
    · exact ih v
    · split
      · unfold uN2
        split
        · exact Nat.or_lt_two_pow (ih _) (Nat.xor_lt_two_pow (by omega) (by omega))
        · exact ih v
      · unfold uN2
        split
        · exact Nat.lt_of_le_of_lt Nat.and_le_left (ih _)
        · exact ih v
theorem s_addPath {d s t m : Nat} {U : Nat → Nat} {al : Nat → Bool} {lv cfA : Nat → Int32} {cf : Nat → Option Nat} {h : Nat → Nat} (hd : d ≤ 6) (hs : s < 2 ^ d) (hl : CL d lv U) (hP : PP d U al s t cf h m) (hcf : ∀ y, y < 128 → cfA y = oI (cf y)) :
    wp (f_X1_addPath (nI s) (nI t) lv cfA) (fun r => CL d r (upS h U m)) := by
  have h6 := p2_le hd
  obtain ⟨p0, pm, hm, hst, hlt, hinj⟩ := hP
  have hul := upS_lt (h := h) hd hl.2 hlt
  refine wp_ob s_entry ?_
  refine zl3_wp (fun i1 i2 lv => ∃ j, j ≤ m ∧ i1 = nI (h j) ∧ i2 = nI j ∧ CL d lv (upS h U j)) (fun _ i2 _ => 1000 - i2.toNatClampNeg) (fun K i1 i2 lv hI ih => ?_) _ 0 lv ⟨0, Nat.zero_le m, by rw [p0], rfl, hl⟩ (by decide)
  obtain ⟨j, hj, rfl, rfl, hC⟩ := hI
  have hx := hlt j hj
  refine wp_f (show ¬ nI 128 ≤ nI j from nI_ge (by omega) (by decide)) (wp_ob s_exit ?_)
  by_cases hjm : j = m
  · subst hjm
    exact wp_t (by rw [pm]) (wp_some hC)
  · have hjl : j < m := by omega
    obtain ⟨n1, n2, n3⟩ := hst j hjl
    have hy := hlt (j + 1) (by omega)
    have hu := hul j hj
    refine wp_f (fun z => n1 (nI_inj (by omega) (by omega) z)) (wp_ob (s_read cfA (show h j < 128 by omega) (by decide)) ?_)
    rw [hcf _ (by omega), n3, show oI (some (h (j + 1))) = nI (h (j + 1)) from rfl]
    refine wp_bd (wp_bd (wp_jp (wp_jp ?_)))
    rw [half_2 _ (by omega), half_2 _ (by omega), nx_xor]
    have he : h j / 2 ^^^ h (j + 1) / 2 < 64 := xor_lt (by omega) (by omega)
    have hv2 : h j / 2 < 64 := by omega
    have hu2 : h (j + 1) / 2 < 64 := by omega
    have next : ∀ lv', CL d lv' (upS h U (j + 1)) → wp (zbd (nI j + 1) (fun x6 => K (nI (h (j + 1))) x6 lv')) (fun r => CL d r (upS h U m)) := fun lv' hC' => by
      refine wp_bd ?_
      rw [nI_1]
      exact ih _ _ _ ⟨j + 1, hjl, rfl, rfl, hC'⟩ (by rw [nI_clamp (by omega), nI_clamp (by omega)]; omega)
    have upd_CL : ∀ v y, v < 64 → y < 2 ^ d → CL d (upd lv v (nI y)) (uN2 (upS h U j) v y) := fun v y hv hy => by
      refine ⟨fun w hw => ?_, fun w => ?_⟩
      · unfold upd uN2
        by_cases e : w = v
        · rw [if_pos e, if_pos e]
        · rw [if_neg e, if_neg e]; exact hC.1 w hw
      · unfold uN2
        by_cases e : w = v
        · rw [if_pos e]; exact hy
        · rw [if_neg e]; exact hu w
    have hnl := hul (j + 1) (by omega)
    by_cases e1 : h j / 2 = h (j + 1) / 2
    · have es : upS h U (j + 1) = upS h U j := by rw [upS, if_pos e1]
      refine wp_t (congrArg nI e1) (wp_t (congrArg nI e1) (next lv ?_))
      rw [es]; exact hC
    · have e1' : ¬ nI (h j / 2) = nI (h (j + 1) / 2) := fun z => e1 (nI_inj (by omega) (by omega) z)
      refine wp_f e1' (wp_ob s_entry ?_)
      by_cases hev : h j % 2 = 0
      · have es : upS h U (j + 1) = uN2 (upS h U j) (h (j + 1) / 2) (upS h U j (h (j + 1) / 2) ||| (h j / 2 ^^^ h (j + 1) / 2)) := by rw [upS, if_neg e1, if_pos hev]
        have hle := hnl (h (j + 1) / 2)
        rw [es, uN2, if_pos rfl] at hle
        refine wp_t (congrArg nI (show h j = 2 * (h j / 2) by omega)) (wp_ob (s_read lv hu2 (by decide)) ?_)
        rw [hC.1 _ hu2, or_nI _ (by have := hu (h (j + 1) / 2); omega) _ he]
        refine wp_ob (s_write lv _ hu2 (by decide)) (next _ ?_)
        rw [es]
        exact upd_CL _ _ hu2 hle
      · have es : upS h U (j + 1) = uN2 (upS h U j) (h j / 2) (upS h U j (h j / 2) &&& (63 ^^^ (h j / 2 ^^^ h (j + 1) / 2))) := by rw [upS, if_neg e1, if_neg hev]
        have hle := hnl (h j / 2)
        rw [es, uN2, if_pos rfl] at hle
        refine wp_f (fun z => by have := nI_inj (a := h j) (b := 2 * (h j / 2)) (by omega) (by omega) z; omega) (wp_f e1' (wp_ob (s_read lv hv2 (by decide)) ?_))
        rw [hC.1 _ hv2, and_off _ (by have := hu (h j / 2); omega) _ he]
        refine wp_ob (s_write lv _ hv2 (by decide)) (next _ ?_)
        rw [es]
        exact upd_CL _ _ hv2 hle
