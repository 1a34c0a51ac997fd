/-! shortest paths: sets that grow, and a queue -/
def rr (d : Nat) (al : Nat → Bool) (s : Nat) : Nat → Nat → Bool
  | 0 => fun v => v == s
  | n + 1 => fun v => rr d al s n v || (al v && zor (fun k => rr d al s n (v ^^^ 2 ^ k)) d)
def shd (d : Nat) (al : Nat → Bool) (s t : Nat) : Nat := zfst (fun n => rr d al s n t) 64
def shI (d : Nat) (al : Nat → Bool) (s t : Nat) : Int32 := if shd d al s t < 64 then nI (shd d al s t) else -1
def nbI (r : Int64) : Nat → Int64
  | 0 => 0
  | k + 1 => (nbI r k ||| j_lshl (r &&& lowN k) (nI (2 ^ k))) ||| (j_lushr r (nI (2 ^ k)) &&& lowN k)
theorem s_neighboursOfSet {d : Nat} (r : Int64) (hd : d ≤ 6) : f_X6_neighboursOfSet r (nI d) = some (nbI r d) := by
  refine zl2_iter d (fun j => nbI r j) (fun j => nI j) (by omega) (fun K j hj => ?_) (fun K => if_pos (nI_le (Nat.le_refl d) (by omega))) rfl nI_0
  refine (if_neg (nI_ge hj (by omega))).trans ((zob_eq (s_lowNodes (by omega))).trans (zbd_eq.trans (zbd_eq.trans (zbd_eq.trans ?_))))
  rw [p2_nI j (by omega), nI_1]
  rfl
theorem dn_bit : ∀ v, v < 64 → ∀ k, k < 6 → (decide (2 ^ k ≤ v) && !(v - 2 ^ k).testBit k) = v.testBit k := by decide +kernel
theorem dn_eq : ∀ v, v < 64 → ∀ k, k < 6 → v.testBit k = true → v - 2 ^ k = v ^^^ 2 ^ k ∧ v - 2 ^ k < 64 := by decide +kernel
theorem zt_nbI (r : Int64) : ∀ d, d ≤ 6 → ∀ v, v < 64 → zt (nbI r d) v = zor (fun k => zt r (v ^^^ 2 ^ k)) d
  | 0, _, v, hv => zt_0 v
  | k + 1, hd, v, hv => by
    have hp : 2 ^ k < 64 := Nat.pow_lt_pow_right (n := 6) (by decide) (by omega)
    rw [nbI, zt_or, zt_or, zt_nbI r k (by omega) v hv, zt_shl _ hp hv, zt_and, zt_and, zt_ushr r hp, zt_low k (by omega) v hv, zor, Bool.or_assoc]
    congr 1
    cases hb : v.testBit k with
    | true =>
      obtain ⟨e, h64⟩ := dn_eq v hv k (by omega) hb
      have h := dn_bit v hv k (by omega)
      rw [hb] at h
      rw [zt_low k (by omega) _ h64, Bool.not_true, Bool.and_false, Bool.or_false, Bool.and_comm (zt r (v - 2 ^ k)), ← Bool.and_assoc, h, Bool.true_and, e]
    | false =>
      obtain ⟨e, h64⟩ := up_bit v hv k (by omega) hb
      have h := dn_bit v hv k (by omega)
      rw [hb] at h
      rw [Bool.not_false, Bool.and_true, e]
      by_cases h1 : 2 ^ k ≤ v
      · have h2 : v - 2 ^ k < 64 := Nat.lt_of_le_of_lt (Nat.sub_le v (2 ^ k)) hv
        rw [zt_low k (by omega) _ h2, Bool.and_comm (zt r (v - 2 ^ k)), ← Bool.and_assoc, h]; simp
      · simp [h1]
def rsI (a : Int64) (d s : Nat) : Nat → Int64
  | 0 => j_lshl 1 (nI s)
  | n + 1 => rsI a d s n ||| (nbI (rsI a d s n) d &&& a)
theorem zt_rsI (a : Int64) {d s : Nat} (hd : d ≤ 6) (hs : s < 64) : ∀ n v, v < 64 → zt (rsI a d s n) v = rr d (zt a) s n v
  | 0, v, hv => by rw [rsI, zt_bit hs hv, rr]; rfl
  | n + 1, v, hv => by
    rw [rsI, zt_or, zt_and, zt_nbI _ d hd v hv, zt_rsI a hd hs n v hv, rr, Bool.and_comm]
    congr 2
    exact zor_cong (fun k hk => zt_rsI a hd hs n _ (nb_64 hv (by omega)))
theorem s_shortest {d s t : Nat} {a : Int64} (hd : d ≤ 6) (hs : s < 2 ^ d) (ht : t < 2 ^ d) (hp : f_X6_requireLivingPair (nI s) (nI t) (nI d) a = some (.inr ())) : f_X6_shortest (nI s) (nI t) (nI d) a = some (.inr (shI d (zt a) s t)) := by
  have h6 := p2_le hd
  obtain ⟨h1, h2, h3⟩ := zfst_spec (fun n => rr d (zt a) s n t) 64
  refine (zox_eq hp).trans (zbd_eq.trans ?_)
  refine zl2_iter (shd d (zt a) s t) (fun j => rsI a d s j) (fun j => nI j) (by show zfst _ 64 ≤ _; omega) (fun K j hj => ?_) (fun K => ?_) rfl nI_0
  · have hj2 : j < 64 := Nat.lt_of_lt_of_le hj h1
    have h4 : rr d (zt a) s j t = false := h2 j hj
    refine (if_neg (nI_ge hj2 (by decide))).trans ((zob_eq (s_contains _ (by omega))).trans ?_)
    rw [zt_rsI a hd (by omega) j t (by omega), h4]
    refine (if_pos rfl).trans ((zob_eq (s_neighboursOfSet _ hd)).trans (zbd_eq.trans (zbd_eq.trans ?_)))
    rw [nI_1]; rfl
  · by_cases hq : shd d (zt a) s t < 64
    · have h4 : rr d (zt a) s (shd d (zt a) s t) t = true := h3 hq
      refine (if_neg (nI_ge hq (by decide))).trans ((zob_eq (s_contains _ (by omega))).trans ?_)
      rw [zt_rsI a hd (by omega) _ t (by omega), h4, shI, if_pos hq]
      rfl
    · have e : shd d (zt a) s t = 64 := Nat.le_antisymm h1 (by omega)
      rw [shI, if_neg hq, e]
      rfl
/-! the queue -/
theorem rr_mono {d : Nat} {al : Nat → Bool} {s v : Nat} {m n : Nat} (h : m ≤ n) (hr : rr d al s m v = true) : rr d al s n v = true := by
  induction n with
  | zero => rw [show m = 0 by omega] at hr; exact hr
  | succ n ih =>
    rcases Nat.lt_or_ge m (n + 1) with q | q
    · show (rr d al s n v || _) = true
      rw [ih (by omega), Bool.true_or]
    · rw [show m = n + 1 by omega] at hr; exact hr
/-- what the queue and the times hold, before the node at place k is looked at (its first i neighbours have been) -/
def QI (d : Nat) (al : Nat → Bool) (s : Nat) (many k i : Nat) (lst at' : Nat → Int32) : Prop :=
  ∃ (P : Nat → Bool) (l A : Nat → Nat), k ≤ many ∧ 0 < many ∧ many = fb_ct P 64 ∧
    (∀ v, v < 64 → at' v = if P v = true then nI (A v) else -1) ∧
    (∀ j, j < many → l j < 2 ^ d ∧ lst j = nI (l j) ∧ P (l j) = true ∧ A (l j) ≤ j) ∧
    (∀ v, v < 64 → P v = true → ∃ j, j < many ∧ l j = v) ∧
    (∀ v, v < 64 → P v = true → rr d al s (A v) v = true ∧ ∀ n, n < A v → rr d al s n v = false) ∧
    (∀ j1 j2, j1 ≤ j2 → j2 < many → A (l j1) ≤ A (l j2)) ∧
    (∀ j, k < many → j < many → A (l j) ≤ A (l k) + 1) ∧
    (∀ j b, j < k → b < d → al (l j ^^^ 2 ^ b) = true → P (l j ^^^ 2 ^ b) = true) ∧
    (∀ b, b < i → k < many → al (l k ^^^ 2 ^ b) = true → P (l k ^^^ 2 ^ b) = true) ∧
    (k < many → ∀ v, v < 64 → rr d al s (A (l k)) v = true → P v = true)
theorem QI_next {d : Nat} {al : Nat → Bool} {s many k : Nat} {lst at' : Nat → Int32} (hd : d ≤ 6) (h : QI d al s many k d lst at') (hk : k < many) : QI d al s many (k + 1) 0 lst at' := by
  obtain ⟨P, l, A, h1, h2, h3, h4, h5, h6, h7, h8, h9, h10, h11, h12⟩ := h
  have hp2 := p2_le hd
  have h10' : ∀ j b, j < k + 1 → b < d → al (l j ^^^ 2 ^ b) = true → P (l j ^^^ 2 ^ b) = true := fun j b hj hb ha => by
    by_cases e : j = k
    · subst e; exact h11 b hb hk ha
    · exact h10 j b (by omega) hb ha
  refine ⟨P, l, A, by omega, h2, h3, h4, h5, h6, h7, h8, fun j hk1 hj => ?_, h10', fun b hb => by omega, fun hk1 v hv hr => ?_⟩
  · have a1 := h9 j hk hj
    have a2 := h8 k (k + 1) (by omega) hk1
    omega
  · have a1 := h8 k (k + 1) (by omega) hk1
    have a2 := h9 (k + 1) hk hk1
    rcases (show A (l (k + 1)) = A (l k) ∨ A (l (k + 1)) = A (l k) + 1 by omega) with e | e
    · rw [e] at hr; exact h12 hk v hv hr
    · rw [e, rr, Bool.or_eq_true] at hr
      rcases hr with hr | hr
      · exact h12 hk v hv hr
      · rw [Bool.and_eq_true] at hr
        obtain ⟨b, hb, hr2⟩ := zor_t hr.2
        have hy64 := nb_64 (v := v) (k := b) hv (by omega)
        have hPy := h12 hk _ hy64 hr2
        obtain ⟨j, hj, ej⟩ := h6 _ hy64 hPy
        have hAy : A (v ^^^ 2 ^ b) ≤ A (l k) := by
          rcases Nat.lt_or_ge (A (l k)) (A (v ^^^ 2 ^ b)) with q | q
          · have := (h7 _ hy64 hPy).2 (A (l k)) q; rw [hr2] at this; cases this
          · exact q
        have hjk : j < k + 1 := by
          rcases Nat.lt_or_ge j (k + 1) with q | q
          · exact q
          · have := h8 (k + 1) j q hj
            rw [ej] at this; omega
        have e2 : l j ^^^ 2 ^ b = v := by rw [ej, Nat.xor_assoc, Nat.xor_self, Nat.xor_zero]
        have := h10' j b hjk hb (by rw [e2]; exact hr.1)
        rw [e2] at this; exact this
theorem QI_skip {d : Nat} {al : Nat → Bool} {s many k i : Nat} {lst at' : Nat → Int32} (hd : d ≤ 6) (hi : i < d) (h : QI d al s many k i lst at') (hk : k < many) (hs : ∀ v, lst k = nI v → v < 2 ^ d → al (v ^^^ 2 ^ i) = true → at' (v ^^^ 2 ^ i) ≠ -1) : QI d al s many k (i + 1) lst at' := by
  obtain ⟨P, l, A, h1, h2, h3, h4, h5, h6, h7, h8, h9, h10, h11, h12⟩ := h
  refine ⟨P, l, A, h1, h2, h3, h4, h5, h6, h7, h8, h9, h10, fun b hb hk2 ha => ?_, h12⟩
  by_cases e : b = i
  · subst e
    have hp2 := p2_le hd
    obtain ⟨a1, a2, -, -⟩ := h5 k hk
    have := hs (l k) a2 a1 ha
    rw [h4 _ (nb_64 (by omega) (by omega))] at this
    cases hP : P (l k ^^^ 2 ^ b) with
    | true => rfl
    | false => rw [hP] at this; exact absurd rfl this
  · exact h11 b (by omega) hk2 ha
theorem QI_add {d : Nat} {al : Nat → Bool} {s many k i v : Nat} {lst at' : Nat → Int32} (hd : d ≤ 6) (hi : i < d) (h : QI d al s many k i lst at') (hk : k < many) (hv : lst k = nI v) (hv2 : v < 2 ^ d) (ha : al (v ^^^ 2 ^ i) = true) (hn : at' (v ^^^ 2 ^ i) = -1) :
    many < 64 ∧ QI d al s (many + 1) k (i + 1) (upd lst many (nI (v ^^^ 2 ^ i))) (upd at' (v ^^^ 2 ^ i) (at' v + 1)) := by
  obtain ⟨P, l, A, h1, h2, h3, h4, h5, h6, h7, h8, h9, h10, h11, h12⟩ := h
  have hp2 := p2_le hd
  obtain ⟨a1, a2, a3, a4⟩ := h5 k hk
  have ev : l k = v := by
    rw [a2] at hv; exact (nI_eq (by omega) (by omega)).mp hv
  have hmany : many ≤ 64 := by rw [h3]; exact ct_le P 64
  subst ev
  have hw := nb_lt hd a1 hi
  generalize hwe : l k ^^^ 2 ^ i = w at *
  have hPw : P w = false := by
    cases hP : P w with
    | false => rfl
    | true =>
      rw [h4 w (by omega), hP] at hn
      have hc := (h6 w (by omega) hP)
      obtain ⟨j, hj, ej⟩ := hc
      have := (h5 j hj).2.2.2
      rw [ej] at this
      exact absurd hn (nI_ne_m1 (by omega))
  have hct := fb_ct_upd P true (i := w) (n := 64) (by omega)
  rw [hPw] at hct
  simp only [Bool.false_eq_true, if_false, if_true] at hct
  have hct2 := ct_le (fun k => if k = w then true else P k) 64
  have hlt : many < 64 := by omega
  have hdist : rr d al s (A (l k) + 1) w = true := by
    rw [rr, Bool.or_eq_true, Bool.and_eq_true]
    refine Or.inr ⟨ha, ?_⟩
    have hz : ∀ n b, b < n → rr d al s (A (l k)) (w ^^^ 2 ^ b) = true → zor (fun k' => rr d al s (A (l k)) (w ^^^ 2 ^ k')) n = true := by
      intro n
      induction n with
      | zero => intro b hb; omega
      | succ n ih =>
        intro b hb hr
        rw [zor, Bool.or_eq_true]
        by_cases e : b = n
        · subst e; exact Or.inr hr
        · exact Or.inl (ih b (by omega) hr)
    refine hz d i hi ?_
    rw [← hwe, Nat.xor_assoc, Nat.xor_self, Nat.xor_zero]
    exact (h7 (l k) (by omega) a3).1
  have hfar : ∀ n, n < A (l k) + 1 → rr d al s n w = false := fun n hn2 => by
    cases hr : rr d al s n w with
    | false => rfl
    | true =>
      have := h12 hk w (by omega) (rr_mono (show n ≤ A (l k) by omega) hr)
      rw [hPw] at this; cases this
  have hlw : ∀ j, j < many → l j ≠ w := fun j hj e => by
    have := (h5 j hj).2.2.1
    rw [e, hPw] at this; cases this
  refine ⟨hlt, (fun k => if k = w then true else P k), (fun j => if j = many then w else l j), (fun v => if v = w then A (l k) + 1 else A v), by omega, by omega, by omega, fun x hx => ?_, fun j hj => ?_, fun x hx hP => ?_, fun x hx hP => ?_, fun j1 j2 h12' hj2 => ?_, fun j _ hj => ?_, fun j b hj hb hal => ?_, fun b hb _ hal => ?_, fun _ x hx hr => ?_⟩
  · by_cases e : x = w
    · subst e
      simp only [upd, if_true]
      rw [h4 (l k) (by omega), a3, if_pos rfl, nI_1]
    · simp only [upd, if_neg e]
      exact h4 x hx
  · by_cases e : j = many
    · subst e
      simp only [upd, if_true]
      exact ⟨hw, trivial, trivial, by omega⟩
    · have hj' : j < many := by omega
      obtain ⟨b1, b2, b3, b4⟩ := h5 j hj'
      simp only [upd, if_neg e, if_neg (hlw j hj')]
      exact ⟨b1, b2, b3, b4⟩
  · by_cases e : x = w
    · exact ⟨many, by omega, by simp [e]⟩
    · simp only [if_neg e] at hP
      obtain ⟨j, hj, ej⟩ := h6 x hx hP
      exact ⟨j, by omega, by simp only [if_neg (show j ≠ many by omega)]; exact ej⟩
  · by_cases e : x = w
    · subst e
      simp only [if_true]
      exact ⟨hdist, hfar⟩
    · simp only [if_neg e] at hP ⊢
      exact h7 x hx hP
  · by_cases e2 : j2 = many
    · by_cases e1 : j1 = many
      · subst e1; subst e2; exact Nat.le_refl _
      · have hj1 : j1 < many := by omega
        simp only [if_neg e1, if_neg (hlw j1 hj1), if_pos e2, if_true]
        exact h9 j1 hk hj1
    · have hj2' : j2 < many := by omega
      have hj1' : j1 < many := by omega
      simp only [if_neg (show j1 ≠ many by omega), if_neg e2, if_neg (hlw j1 hj1'), if_neg (hlw j2 hj2')]
      exact h8 j1 j2 h12' hj2'
  · simp only [if_neg (show k ≠ many by omega), if_neg (hlw k hk)]
    by_cases e : j = many
    · simp only [if_pos e, if_true]; exact Nat.le_refl _
    · have hj' : j < many := by omega
      simp only [if_neg e, if_neg (hlw j hj')]
      exact h9 j hk hj'
  · simp only [if_neg (show j ≠ many by omega)] at hal ⊢
    by_cases e : l j ^^^ 2 ^ b = w
    · simp [e]
    · simp only [if_neg e]; exact h10 j b hj hb hal
  · simp only [if_neg (show k ≠ many by omega)] at hal ⊢
    by_cases e : l k ^^^ 2 ^ b = w
    · simp [e]
    · simp only [if_neg e]
      have hbi : b < i := by
        rcases Nat.lt_or_ge b i with q | q
        · exact q
        · rw [show b = i by omega] at e; exact absurd hwe e
      exact h11 b hbi hk hal
  · simp only [if_neg (show k ≠ many by omega), if_neg (hlw k hk)] at hr
    by_cases e : x = w
    · simp [e]
    · simp only [if_neg e]; exact h12 hk x hx hr
theorem QI_end {d : Nat} {al : Nat → Bool} {s many t : Nat} {lst at' : Nat → Int32} (hd : d ≤ 6) (hs : s < 2 ^ d) (ht : t < 2 ^ d) (hs0 : at' s ≠ -1) (h : QI d al s many many 0 lst at') : at' t = shI d al s t := by
  obtain ⟨P, l, A, h1, h2, h3, h4, h5, h6, h7, h8, h9, h10, h11, h12⟩ := h
  have hp2 := p2_le hd
  have hPs : P s = true := by
    cases hP : P s with
    | true => rfl
    | false => rw [h4 s (by omega), hP] at hs0; exact absurd rfl hs0
  have hall : ∀ n v, v < 64 → rr d al s n v = true → P v = true := by
    intro n
    induction n with
    | zero =>
      intro v hv hr
      have e : v = s := by simpa [rr] using hr
      rw [e]; exact hPs
    | succ n ih =>
      intro v hv hr
      rw [rr, Bool.or_eq_true] at hr
      rcases hr with hr | hr
      · exact ih v hv hr
      · rw [Bool.and_eq_true] at hr
        obtain ⟨b, hb, hr2⟩ := zor_t hr.2
        have hy64 := nb_64 (v := v) (k := b) hv (by omega)
        obtain ⟨j, hj, ej⟩ := h6 _ hy64 (ih _ hy64 hr2)
        have e2 : l j ^^^ 2 ^ b = v := by rw [ej, Nat.xor_assoc, Nat.xor_self, Nat.xor_zero]
        have := h10 j b hj hb (by rw [e2]; exact hr.1)
        rw [e2] at this; exact this
  have hm64 : many ≤ 64 := by rw [h3]; exact ct_le P 64
  obtain ⟨z1, z2, z3⟩ := zfst_spec (fun n => rr d al s n t) 64
  rw [h4 t (by omega)]
  cases hP : P t with
  | true =>
    obtain ⟨b1, b2⟩ := h7 t (by omega) hP
    obtain ⟨j, hj, ej⟩ := h6 t (by omega) hP
    have hA : A t < 64 := by
      have := (h5 j hj).2.2.2
      rw [ej] at this; omega
    have e : shd d al s t = A t := zfst_eq (by omega) b2 (fun _ => b1)
    rw [if_pos rfl, shI, e, if_pos hA]
  | false =>
    rw [if_neg (by decide), shI, if_neg]
    intro q
    have := hall _ t (by omega) (z3 q)
    rw [hP] at this; cases this
theorem QI_start {d : Nat} {al : Nat → Bool} {s : Nat} {lst at' : Nat → Int32} (hd : d ≤ 6) (hs : s < 2 ^ d) (hat : ∀ v, v < 64 → at' v = -1) : QI d al s 1 0 0 (upd lst 0 (nI s)) (upd at' s 0) := by
  have hp2 := p2_le hd
  have hct := fb_ct_upd (fun _ => false) true (i := s) (n := 64) (by omega)
  have h0 : fb_ct (fun _ => false) 64 = 0 := fb_ct_zero.mpr (fun _ _ => rfl)
  simp only [Bool.false_eq_true, if_false, if_true] at hct
  refine ⟨(fun k => if k = s then true else false), fun _ => s, fun _ => 0, by omega, by omega, by omega, fun v hv => ?_, fun j hj => ?_, fun v hv hP => ⟨0, by omega, ?_⟩, fun v hv hP => ⟨?_, fun n hn => absurd hn (Nat.not_lt_zero n)⟩, fun _ _ _ _ => Nat.le_refl _, fun _ _ _ => Nat.zero_le _, fun j b hj => by omega, fun b hb => by omega, fun _ v hv hr => ?_⟩
  · by_cases e : v = s
    · subst e; simp [upd]; rfl
    · simp [upd, e, hat v hv]
  · have e : j = 0 := by omega
    subst e
    exact ⟨hs, by simp [upd], by simp, Nat.le_refl _⟩
  · by_cases e : v = s
    · exact e.symm
    · simp [e] at hP
  · by_cases e : v = s
    · simp [rr, e]
    · simp [e] at hP
  · have e : v = s := by simpa [rr] using hr
    simp [e]
theorem m_fillm1 {R : Type} (f : Nat → Int32) (Y : (Nat → Int32) → Option R) : zl2 (R := R) (fun k17 (i3_17 : Int32) (c_17 : Nat → Int32) => if (64 : Int32) ≤ i3_17 then Y c_17 else zbd (-1 : Int32) (fun x23 => zgd (inb i3_17 64) (zbd (upd c_17 i3_17.toNatClampNeg x23) (fun y25 => zbd (i3_17 + 1) (fun x26 => k17 x26 y25))))) zfu 0 f = Y (zp f (fun _ => -1) 64) := by
  refine zl2_iter 64 (fun j => nI j) (fun j => zp f (fun _ => -1) j) (by decide) (fun K j hj => ?_) (fun K => if_pos (by decide)) nI_0 (zp_0 _ _)
  refine (if_neg (nI_ge (show j < 64 from hj) (by decide))).trans (zbd_eq.trans ((zgd_eq (inb_nI hj (by decide))).trans (zbd_eq.trans (zbd_eq.trans ?_))))
  rw [nI_1, nI_clamp (by omega), zp_succ f (fun _ => -1) j]