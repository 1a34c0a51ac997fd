theorem s_fillJ {n : Nat} (x : Int64) (f : Nat → Int64) (hn : n ≤ 9999) : ∃ g, f_J7_fill_d0a16 n x f = some g ∧ ∀ k, k < n → g k = x := by
  refine ⟨zp f (fun _ => x) n, ?_, fun k hk => zp_in _ _ hk⟩
  refine zbd_eq.trans ?_
  refine zl2_iter (R := Nat → Int64) n (fun j => nI j) (fun j => zp f (fun _ => x) j) hn (fun K j hj => ?_) (fun K => if_pos (nI_le (Nat.le_refl n) (by omega))) nI_0 (zp_0 _ _)
  refine (if_neg (nI_ge hj (by omega))).trans ?_
  refine (zgd_eq (inb_nI hj (by omega))).trans (zbd_eq.trans (zbd_eq.trans ?_))
  rw [nI_1, nI_clamp (by omega)]
  have e : vp_updL (zp f (fun _ => x) j) j x = zp f (fun _ => x) (j + 1) := by
    funext v
    simp only [vp_updL, zp]
    by_cases h : v = j
    · subst h; simp
    · rw [if_neg h]
      by_cases h2 : v < j
      · rw [if_pos h2, if_pos (by omega)]
      · rw [if_neg h2, if_neg (by omega)]
  rw [e]
theorem s_fillI {n : Nat} (x : Int32) (f : Nat → Int32) (hn : n ≤ 9999) : ∃ g, f_J7_fill_53178 n x f = some g ∧ ∀ k, k < n → g k = x := by
  refine ⟨zp f (fun _ => x) n, ?_, fun k hk => zp_in _ _ hk⟩
  refine zbd_eq.trans ?_
  refine zl2_iter (R := Nat → Int32) n (fun j => nI j) (fun j => zp f (fun _ => x) j) hn (fun K j hj => ?_) (fun K => if_pos (nI_le (Nat.le_refl n) (by omega))) nI_0 (zp_0 _ _)
  refine (if_neg (nI_ge hj (by omega))).trans ?_
  refine (zgd_eq (inb_nI hj (by omega))).trans (zbd_eq.trans (zbd_eq.trans ?_))
  rw [nI_1, nI_clamp (by omega), zp_succ f (fun _ => x) j]
theorem s_findVectors {d : Nat} (a : Int64) (vs : Nat → Int64) (hd1 : 1 ≤ d) (hd : d ≤ 6) : wp (f_X2_findVectors a (nI d) vs) (fun r => ∀ k, 1 ≤ k → k ≤ d → ∀ v, v < 64 → zt (r k) v = UU d (zt a) (k - 1) v) := by
  obtain ⟨g, hg, -⟩ := s_fillJ (n := 7) 0 vs (by decide)
  refine wp_ob hg ?_
  refine zl3_wp (fun o i r => ∃ j, j ≤ d ∧ i = nI (j + 1) ∧ (∀ v, v < 64 → zt o v = UU d (zt a) (j - 1) v) ∧ ∀ k, 1 ≤ k → k ≤ j → ∀ v, v < 64 → zt (r k) v = UU d (zt a) (k - 1) v) (fun _ i _ => 8 - i.toNatClampNeg) (fun K o i r hI ih => ?_) a 1 g ⟨0, by omega, rfl, fun v _ => rfl, fun k h1 h2 => by omega⟩ (by decide)
  obtain ⟨j, hj, rfl, ho, hr⟩ := hI
  have hm : j < 7 → 8 - (nI (j + 1 + 1)).toNatClampNeg < 8 - (nI (j + 1)).toNatClampNeg := fun hx => by rw [nI_clamp (by omega), nI_clamp (by omega)]; omega
  by_cases hj2 : j < d
  · refine wp_f (nI_ge (show j + 1 < 7 by omega) (by decide)) ?_
    refine wp_f (nI_nlt (by omega) (by omega)) (wp_jp ?_)
    have fin : ∀ x : Int64, (∀ v, v < 64 → zt x v = UU d (zt a) j v) → wp (zgd (inb (nI (j + 1)) 7) (zbd (vp_updL r (nI (j + 1)).toNatClampNeg x) fun y3 => zbd (nI (j + 1) + 1) fun x4 => K x x4 y3)) (fun r => ∀ k, 1 ≤ k → k ≤ d → ∀ v, v < 64 → zt (r k) v = UU d (zt a) (k - 1) v) := by
      intro x hx
      refine wp_gd (inb_nI (by omega) (by decide)) (wp_bd (wp_bd ?_))
      rw [nI_1, nI_clamp (by omega)]
      refine ih _ _ _ ⟨j + 1, by omega, rfl, fun v hv => hx v hv, fun k h1 h2 v hv => ?_⟩ (hm (by omega))
      by_cases hk : k = j + 1
      · subst hk
        simp only [vp_updL, if_true]
        exact hx v hv
      · simp only [vp_updL, if_neg hk]
        exact hr k h1 (by omega) v hv
    by_cases h0 : j = 0
    · subst h0
      refine wp_t (by decide) ?_
      exact fin o ho
    · refine wp_f (nI_ge (show 1 < j + 1 by omega) (by omega)) ?_
      have hsub : nI d - nI (j + 1) = nI (d - (j + 1)) := by
        have h : nI (d - (j + 1)) + nI (j + 1) = nI d := by rw [nI_add]; congr 1; omega
        rw [← h]; exact Int32.add_sub_cancel _ _
      rw [hsub]
      refine wp_obW (s_above o hd (by omega)) (fun u hu => wp_bd ?_)
      refine fin (u &&& a) (fun v hv => ?_)
      obtain ⟨i, rfl⟩ : ∃ i, j = i + 1 := ⟨j - 1, by omega⟩
      rw [zt_and, hu v hv, UU, Bool.and_comm]
      congr 1
      rw [fb_ct_cong (fun k hk => ho (v ^^^ 2 ^ k) (nb_64 hv (by omega)))]
      simp
  · have e : j = d := by omega
    subst e
    have hq : ∀ k, 1 ≤ k → k ≤ j → ∀ v, v < 64 → zt (r k) v = UU j (zt a) (k - 1) v := hr
    refine wp_ite (fun _ => wp_some hq) (fun h => wp_t (nI_lt (by omega) (by omega)) (wp_some hq))
def findQ (d : Nat) (al : Nat → Bool) (r : rt_X2_find) : Prop := r.1 = nI d ∧ r.2.1 = nI (rnd d al) ∧ (∀ w, w < 64 → r.2.2.1 w = nI (LV d al w)) ∧ ∀ k, 1 ≤ k → k ≤ d → ∀ v, v < 64 → zt (r.2.2.2.2 k) v = UU d al (k - 1) v
theorem s_find {d : Nat} (a : Int64) (d0 r0 : Int32) (f lb : Nat → Int32) (vs : Nat → Int64) (hd1 : 1 ≤ d) (hd : d ≤ 6) :
    wp (f_X2_find (nI d) a d0 r0 f lb vs) (findQ d (zt a)) := by
  refine wp_ob (s_startLevels a f) ?_
  have hT := rnd_lt hd (zt a)
  refine zl5_wp (fun i4 i5 cr lev _ => ∃ t, t ≤ rnd d (zt a) + 1 ∧ i4 = bI (decide (t ≤ rnd d (zt a))) ∧ i5 = nI t ∧ cr = nI (min t (rnd d (zt a))) ∧ ∀ w, w < 64 → lev w = nI (lvl d (zt a) (min t (rnd d (zt a))) w)) (fun _ i5 _ _ _ => 400 - i5.toNatClampNeg) (fun K i4 i5 cr lev lb hI ih => ?_) 1 0 0 _ lb ⟨0, by omega, by simp; rfl, rfl, by simp; rfl, fun w hw => by simp [zp_in _ _ hw, lvl]⟩ (by decide)
  obtain ⟨t, ht, rfl, rfl, rfl, hlev⟩ := hI
  have fin : ∀ (x y : Nat → Int32), (∀ w, w < 64 → x w = nI (LV d (zt a) w)) → wp (zob (f_X2_findVectors a (nI d) vs) fun u2 => some (nI d, nI (rnd d (zt a)), x, y, u2)) (findQ d (zt a)) := fun x y hx =>
    wp_obW (s_findVectors a vs hd1 hd) (fun u hu => wp_some ⟨rfl, rfl, hx, hu⟩)
  refine wp_jp ?_
  by_cases h : t ≤ rnd d (zt a)
  · refine wp_f (nI_ge (show t < 385 by omega) (by decide)) ?_
    refine wp_f (by simp [h]; decide) ?_
    have em : min t (rnd d (zt a)) = t := by omega
    rw [em] at hlev
    have hL : ∀ w, w < 64 → lvl d (zt a) t w ≤ 6 := fun w _ => Nat.le_trans (lvl_le d _ t w) hd
    refine wp_ob (s_roundChanges a hd hlev hL) (wp_bd (wp_jp ?_))
    have hm : 400 - (nI (t + 1)).toNatClampNeg < 400 - (nI t).toNatClampNeg := by rw [nI_clamp (by omega), nI_clamp (by omega)]; omega
    show wp (if bI (chg d (zt a) t) = 0 then _ else _) _
    by_cases h2 : t < rnd d (zt a)
    · rw [rnd_t h2]
      refine wp_f (by decide) (wp_bd (wp_bd ?_))
      rw [em, nI_1]
      refine ih _ _ _ _ _ ⟨t + 1, by omega, by show bI (chg d (zt a) t) = _; rw [rnd_t h2, decide_eq_true (show t + 1 ≤ rnd d (zt a) by omega)], rfl, by rw [show min (t + 1) (rnd d (zt a)) = t + 1 by omega], fun w hw => ?_⟩ hm
      refine (zp_in lev (fun v => nI (stepL d (zt a) (lvl d (zt a) t) v)) hw).trans ?_
      rw [show min (t + 1) (rnd d (zt a)) = t + 1 by omega]
      rfl
    · have e : t = rnd d (zt a) := by omega
      have hf : chg d (zt a) t = false := by rw [e]; exact rnd_f hd _
      rw [hf]
      refine wp_t (by decide) (wp_bd (wp_bd ?_))
      rw [em, nI_1]
      refine ih _ _ _ _ _ ⟨t + 1, by omega, by show bI (chg d (zt a) t) = _; rw [hf, decide_eq_false (show ¬ t + 1 ≤ rnd d (zt a) by omega)], rfl, by rw [show min (t + 1) (rnd d (zt a)) = t by omega]; exact Int32.add_zero _, fun w hw => ?_⟩ hm
      refine (zp_in lev (fun v => nI (stepL d (zt a) (lvl d (zt a) t) v)) hw).trans ?_
      rw [show min (t + 1) (rnd d (zt a)) = t by omega]
      have := zor_f hf w hw
      simp at this
      show nI (lvl d (zt a) (t + 1) w) = _
      rw [this]
  · have em : min t (rnd d (zt a)) = rnd d (zt a) := by omega
    rw [em] at hlev ⊢
    have hx := fin lev lb hlev
    refine wp_ite (fun _ => hx) (fun _ => wp_t (by simp [h]; rfl) hx)
/-! the best dimension -/
def bcmp (vl : Nat → Nat) (k : Nat) (o : Option Nat) : Bool := match o with | none => true | some b => decide (vl b < vl k)
def bst (ok : Nat → Bool) (vl : Nat → Nat) : Nat → Option Nat
  | 0 => none
  | k + 1 => if (ok k && bcmp vl k (bst ok vl k)) = true then some k else bst ok vl k
theorem bst_succ (ok : Nat → Bool) (vl : Nat → Nat) (k : Nat) : bst ok vl (k + 1) = if (ok k && bcmp vl k (bst ok vl k)) = true then some k else bst ok vl k := rfl
def bD (o : Option Nat) : Int32 := match o with | none => -1 | some b => nI b
def bV (vl : Nat → Nat) (o : Option Nat) : Int32 := match o with | none => -1 | some b => nI (vl b)
theorem bst_lt {ok : Nat → Bool} {vl : Nat → Nat} : ∀ {n b : Nat}, bst ok vl n = some b → b < n ∧ ok b = true
  | 0, b, h => by cases h
  | n + 1, b, h => by
    rw [bst_succ] at h
    by_cases hc : (ok n && bcmp vl n (bst ok vl n)) = true
    · rw [if_pos hc] at h
      cases h
      rw [Bool.and_eq_true] at hc
      exact ⟨by omega, hc.1⟩
    · rw [if_neg hc] at h
      obtain ⟨h1, h2⟩ := bst_lt h
      exact ⟨by omega, h2⟩
theorem bst_none {ok : Nat → Bool} {vl : Nat → Nat} : ∀ {n : Nat}, bst ok vl n = none ↔ ∀ k, k < n → ok k = false
  | 0 => ⟨fun _ k hk => by omega, fun _ => rfl⟩
  | n + 1 => by
    rw [bst_succ]
    constructor
    · intro h
      by_cases hc : (ok n && bcmp vl n (bst ok vl n)) = true
      · rw [if_pos hc] at h; cases h
      · rw [if_neg hc] at h
        intro k hk
        rcases Nat.lt_or_ge k n with q | q
        · exact bst_none.mp h k q
        · rw [show k = n by omega]
          rw [h] at hc
          simpa [bcmp] using hc
    · intro h
      rw [h n (by omega), Bool.false_and, if_neg (by decide)]
      exact bst_none.mpr (fun k hk => h k (by omega))
theorem bst_max {ok : Nat → Bool} {vl : Nat → Nat} : ∀ {n b : Nat}, bst ok vl n = some b → ∀ k, k < n → ok k = true → vl k ≤ vl b
  | 0, b, h => by cases h
  | n + 1, b, h => by
    intro k hk hok
    rw [bst_succ] at h
    by_cases hc : (ok n && bcmp vl n (bst ok vl n)) = true
    · rw [if_pos hc] at h
      cases h
      rcases Nat.lt_or_ge k n with q | q
      · rw [Bool.and_eq_true] at hc
        cases hb : bst ok vl n with
        | none => rw [bst_none.mp hb k q] at hok; cases hok
        | some b0 =>
          have h1 := bst_max hb k q hok
          rw [hb] at hc
          have h2 := hc.2
          simp [bcmp] at h2
          omega
      · rw [show k = n by omega]; exact Nat.le_refl _
    · rw [if_neg hc] at h
      rcases Nat.lt_or_ge k n with q | q
      · exact bst_max h k q hok
      · have e : k = n := by omega
        subst e
        rw [hok, h] at hc
        simp [bcmp] at hc
        exact hc
theorem bst_cong {ok ok' : Nat → Bool} {vl vl' : Nat → Nat} : ∀ {n : Nat}, (∀ k, k < n → ok k = ok' k) → (∀ k, k < n → ok k = true → vl k = vl' k) → bst ok vl n = bst ok' vl' n
  | 0, _, _ => rfl
  | n + 1, h1, h2 => by
    have ih := bst_cong (n := n) (fun k hk => h1 k (by omega)) (fun k hk => h2 k (by omega))
    rw [bst_succ, bst_succ, ← ih, ← h1 n (by omega)]
    cases ho : ok n with
    | false => simp
    | true =>
      have e : bcmp vl n (bst ok vl n) = bcmp vl' n (bst ok vl n) := by
        cases hb : bst ok vl n with
        | none => rfl
        | some b =>
          obtain ⟨hb1, hb2⟩ := bst_lt hb
          simp only [bcmp]
          rw [h2 b (by omega) hb2, h2 n (by omega) ho]
      rw [e]
def bestD (d : Nat) (L : Nat → Nat) (v m : Nat) : Option Nat := bst (fun k => m.testBit k) (fun k => L (v ^^^ 2 ^ k)) d
def bestV (d : Nat) (L : Nat → Nat) (v m : Nat) : Int32 := bV (fun k => L (v ^^^ 2 ^ k)) (bestD d L v m)
theorem s_bestDimension {d v m : Nat} {f : Nat → Int32} {L : Nat → Nat} (hd : d ≤ 6) (hv : v < 64) (hm : m < 64) (hf : ∀ w, w < 64 → f w = nI (L w)) (hL : ∀ w, w < 64 → L w ≤ 6) : f_X2_bestDimension (nI v) (nI m) (nI d) f = some (bD (bestD d L v m)) := by
  refine zbd_eq.trans (zbd_eq.trans ?_)
  refine zl3_iter d (fun j => bD (bestD j L v m)) (fun j => bV (fun k => L (v ^^^ 2 ^ k)) (bestD j L v m)) (fun j => nI j) (by omega) (fun K j hj => ?_) (fun K => if_pos (nI_le (Nat.le_refl d) (by omega))) rfl rfl nI_0
  have hw := nb_64 (v := v) (k := j) hv (by omega)
  have e : bestD (j + 1) L v m = if (m.testBit j && bcmp (fun k => L (v ^^^ 2 ^ k)) j (bestD j L v m)) = true then some j else bestD j L v m := rfl
  refine (if_neg (nI_ge hj (by omega))).trans ?_
  refine (zob_eq (s_hasBit m hm j (by omega))).trans (zjp_eq.trans ?_)
  cases hb : m.testBit j with
  | false =>
    refine (if_pos rfl).trans (zbd_eq.trans ?_)
    rw [hb] at e
    rw [nI_1, e]
    rfl
  | true =>
    refine (if_neg (by decide)).trans ?_
    refine (zob_eq (s_neighbour v (by omega))).trans ?_
    refine (zob_eq (s_levelOf hw hf)).trans ?_
    rw [hb, Bool.true_and] at e
    have hLw := hL _ hw
    have yes : bestD (j + 1) L v m = some j → (zob (f_X6_neighbour (nI v) (nI j)) fun u7 => zob (f_X2_levelOf u7 f) fun u8 => zbd (nI j + 1) fun x4 => K (nI j) u8 x4) = K (bD (bestD (j + 1) L v m)) (bV (fun k => L (v ^^^ 2 ^ k)) (bestD (j + 1) L v m)) (nI (j + 1)) := fun h => by
      refine (zob_eq (s_neighbour v (by omega))).trans ?_
      refine (zob_eq (s_levelOf hw hf)).trans (zbd_eq.trans ?_)
      rw [nI_1, h]
      rfl
    cases ho : bestD j L v m with
    | none =>
      rw [ho] at e
      refine (if_neg ?_).trans (yes e)
      show ¬ nI _ ≤ (-1 : Int32)
      rw [Int32.le_iff_toInt_le, nI_toInt (by omega)]
      intro h
      have : ((-1 : Int32)).toInt = -1 := by decide
      rw [this] at h
      omega
    | some b =>
      rw [ho] at e
      have hbw := nb_64 (v := v) (k := b) hv (by have := bst_lt ho; omega)
      have hLb := hL _ hbw
      by_cases hc : L (v ^^^ 2 ^ b) < L (v ^^^ 2 ^ j)
      · refine (if_neg (nI_ge hc (by omega))).trans (yes (by rw [e]; simp [bcmp, hc]))
      · refine (if_pos (nI_le (a := L (v ^^^ 2 ^ j)) (b := L (v ^^^ 2 ^ b)) (by omega) (by omega))).trans (zbd_eq.trans ?_)
        have e2 : bestD (j + 1) L v m = some b := by rw [e]; simp [bcmp, hc]
        rw [nI_1, e2]
theorem s_bestLevel {d v m : Nat} {f : Nat → Int32} {L : Nat → Nat} (hd : d ≤ 6) (hv : v < 64) (hm : m < 64) (hf : ∀ w, w < 64 → f w = nI (L w)) (hL : ∀ w, w < 64 → L w ≤ 6) : f_X2_bestLevel (nI v) (nI m) (nI d) f = some (bestV d L v m) := by
  refine (zob_eq (s_bestDimension hd hv hm hf hL)).trans ?_
  rw [bestV]
  cases hb : bestD d L v m with
  | none => exact if_pos rfl
  | some b =>
    have hb6 := (bst_lt hb).1
    refine (if_neg ?_).trans ?_
    · show ¬ nI b = -1
      intro h
      have := congrArg Int32.toInt h
      rw [nI_toInt (by omega)] at this
      have h2 : ((-1 : Int32)).toInt = -1 := by decide
      rw [h2] at this
      omega
    · refine (zob_eq (s_neighbour v (by omega))).trans ?_
      exact zob_eq (s_levelOf (nb_64 hv (by omega)) hf)
theorem s_spareOf0 : ∀ d, d < 7 → ∀ m, m < 64 → f_X2_spareOf (nI m) (nI d) = some (nI ((2 ^ d - 1) &&& (m ^^^ 63))) := by decide +kernel
def spr (d m : Nat) : Nat := (2 ^ d - 1) &&& (m ^^^ 63)
theorem spr_lt {d m : Nat} (hd : d ≤ 6) : spr d m < 64 := Nat.lt_of_le_of_lt Nat.and_le_left (by
  have : 2 ^ d ≤ 2 ^ 6 := Nat.pow_le_pow_right (by decide) hd
  have : 0 < 2 ^ d := Nat.pow_pos (by decide)
  omega)
theorem s_spareOf {d m : Nat} (hd : d ≤ 6) (hm : m < 64) : f_X2_spareOf (nI m) (nI d) = some (nI (spr d m)) := s_spareOf0 d (by omega) m hm
theorem s_bitOf {v k : Nat} (vs : Nat → Int64) (hv : v < 64) (hk : k < 7) : f_X2_bitOf (nI v) (nI k) vs = some (bI (zt (vs k) v)) := by
  refine zjp_eq.trans (zjp_eq.trans ?_)
  refine (if_neg (nI_pos (by omega))).trans ?_
  refine (if_neg (nI_ge hk (by omega))).trans ?_
  refine (zgd_eq (inb_nI hk (by decide))).trans ?_
  rw [nI_clamp (by omega)]
  refine (zob_eq (s_contains _ hv)).trans ?_
  cases zt (vs k) v <;> rfl
