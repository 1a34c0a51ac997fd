/-! messages that die, nodes that die or rise, messages that are sent, new dimensions -/
def hit (S : Nat → Bool) (c : Nat → Int32) (i : Nat) : Bool := S (c (68 + 5 * i)).toNatClampNeg || S (c (69 + 5 * i)).toNatClampNeg
def nwS (S : Nat → Bool) (c : Nat → Int32) (i : Nat) : Int32 := if c (67 + 5 * i) = 0 ∧ hit S c i = true then 2 else c (67 + 5 * i)
def dcnt (S : Nat → Bool) (c : Nat → Int32) (n : Nat) : Nat := fb_ct (fun i => decide (c (67 + 5 * i) = 0) && hit S c i) n
def DS (n : Nat) (S : Nat → Bool) (c e : Nat → Int32) : Prop := (∀ i, i < 3 → e i = c i) ∧ (∀ v, v < 64 → e (3 + v) = if S v = true then 1 else c (3 + v)) ∧
  ∀ i, i < 24 → e (67 + 5 * i) = (if i < n then nwS S c i else c (67 + 5 * i)) ∧ e (68 + 5 * i) = c (68 + 5 * i) ∧ e (69 + 5 * i) = c (69 + 5 * i) ∧ e (70 + 5 * i) = c (70 + 5 * i) ∧ e (71 + 5 * i) = c (71 + 5 * i)
theorem nI_addc {a b c : Nat} (h : a + b = c) : nI a + nI b = nI c := by rw [nI_add, h]
theorem s_letDie {n d : Nat} {bits a : Int64} {s : Sl} {c : Nat → Int32} (hn : n ≤ 24) (hd : d ≤ 6) (h : ∀ i, i < n → RM d s c i) :
    f_X3_letDie bits a (nI n) s.2.2.2.2.1 s.2.2.2.2.2.1 s.2.2.2.2.2.2.1 = some (nI (dcnt (zt bits) c n), a &&& (bits ^^^ (-1)), zp s.2.2.2.2.1 (nwS (zt bits) c) n) := by
  have h6 := p2_le hd
  refine zbd_eq.trans ?_
  refine zl3_iter n (fun j => nI (dcnt (zt bits) c j)) (fun j => nI j) (fun j => zp s.2.2.2.2.1 (nwS (zt bits) c) j) (by omega) (fun K j hj => ?_) (fun K => if_pos (nI_le (Nat.le_refl n) (by omega))) rfl nI_0 (zp_0 _ _)
  obtain ⟨a1, a2, a3, -, -, p, g, hp, hg, e1, e2⟩ := h j hj
  have hst : zp s.2.2.2.2.1 (nwS (zt bits) c) j j = c (67 + 5 * j) := by
    rw [zp, if_neg (by omega)]; exact a1
  have hh : hit (zt bits) c j = (zt bits p || zt bits g) := by rw [hit, e1, e2, nI_clamp (by omega), nI_clamp (by omega)]
  have es : dcnt (zt bits) c (j + 1) = dcnt (zt bits) c j + (if (decide (c (67 + 5 * j) = 0) && hit (zt bits) c j) = true then 1 else 0) := rfl
  have no : ¬ (c (67 + 5 * j) = 0 ∧ hit (zt bits) c j = true) → K (nI (dcnt (zt bits) c j)) (nI j + 1) (zp s.2.2.2.2.1 (nwS (zt bits) c) j) = K (nI (dcnt (zt bits) c (j + 1))) (nI (j + 1)) (zp s.2.2.2.2.1 (nwS (zt bits) c) (j + 1)) := fun hno => by
    rw [es, if_neg (by simpa using hno), nI_1, ← zp_skip _ _ j (by rw [nwS, if_neg hno]; exact a1.symm)]
    rfl
  have yes : hit (zt bits) c j = true → (zob (f_X6_read 24 (nI j) (zp s.2.2.2.2.1 (nwS (zt bits) c) j)) fun u5 =>
        if u5 = 0 then zob (f_X6_write 24 (nI j) 2 (zp s.2.2.2.2.1 (nwS (zt bits) c) j)) fun u6 => zbd (nI (dcnt (zt bits) c j) + 1) fun x7 => zbd (nI j + 1) fun x4 => K x7 x4 u6
        else zbd (nI j + 1) fun x4 => K (nI (dcnt (zt bits) c j)) x4 (zp s.2.2.2.2.1 (nwS (zt bits) c) j)) = K (nI (dcnt (zt bits) c (j + 1))) (nI (j + 1)) (zp s.2.2.2.2.1 (nwS (zt bits) c) (j + 1)) := fun hy => by
    refine (zob_eq (s_read _ (show j < 24 by omega) (by decide))).trans ?_
    rw [hst]
    by_cases h0 : c (67 + 5 * j) = 0
    · refine (if_pos h0).trans ((zob_eq (s_write _ _ (show j < 24 by omega) (by decide))).trans (zbd_eq.trans (zbd_eq.trans ?_)))
      rw [es, if_pos (by simp [h0, hy]), nI_1, nI_1, ← zp_succ]
      congr 2
      rw [nwS, if_pos ⟨h0, hy⟩]
    · exact (if_neg h0).trans (zbd_eq.trans (no (fun q => h0 q.1)))
  refine (if_neg (nI_ge hj (by omega))).trans ((zob_eq (s_read _ (show j < 24 by omega) (by decide))).trans ?_)
  rw [a2, e1]
  refine (zob_eq (s_contains _ (by omega))).trans (zjp_eq.trans (zjp_eq.trans ?_))
  cases hzp : zt bits p with
  | true =>
    refine (if_neg (by decide)).trans (zjp_eq.trans ((if_neg (by decide)).trans ?_))
    exact yes (by rw [hh, hzp]; rfl)
  | false =>
    refine (if_pos rfl).trans ((zob_eq (s_read _ (show j < 24 by omega) (by decide))).trans ?_)
    rw [a3, e2]
    refine (zob_eq (s_contains _ (by omega))).trans ?_
    cases hzg : zt bits g with
    | true =>
      refine (if_neg (by decide)).trans (zjp_eq.trans ((if_neg (by decide)).trans ?_))
      exact yes (by rw [hh, hzp, hzg]; rfl)
    | false =>
      refine (if_pos rfl).trans (zjp_eq.trans ((if_pos rfl).trans (zbd_eq.trans ?_)))
      exact no (fun q => by rw [hh, hzp, hzg] at q; exact absurd q.2 (by decide))
theorem DS_step {n : Nat} {S : Nat → Bool} {c e : Nat → Int32} (h : DS n S c e) (hn : n < 24) : DS (n + 1) S c (upd e (67 + 5 * n) (nwS S c n)) := by
  obtain ⟨h1, h2, h3⟩ := h
  refine ⟨fun i hi => ?_, fun v hv => ?_, fun i hi => ?_⟩
  · rw [upd, if_neg (by omega)]; exact h1 i hi
  · rw [upd, if_neg (by omega)]; exact h2 v hv
  · obtain ⟨a0, a1, a2, a3, a4⟩ := h3 i hi
    refine ⟨?_, ?_, ?_, ?_, ?_⟩
    · by_cases e1 : i = n
      · subst e1
        rw [upd, if_pos rfl, if_pos (by omega)]
      · rw [upd, if_neg (by omega), a0]
        by_cases e2 : i < n
        · rw [if_pos e2, if_pos (by omega)]
        · rw [if_neg e2, if_neg (by omega)]
    · rw [upd, if_neg (by omega)]; exact a1
    · rw [upd, if_neg (by omega)]; exact a2
    · rw [upd, if_neg (by omega)]; exact a3
    · rw [upd, if_neg (by omega)]; exact a4
theorem upd_self (f : Nat → Int32) (n : Nat) (x : Int32) (h : f n = x) : upd f n x = f := by
  funext i
  unfold upd
  by_cases e : i = n
  · rw [if_pos e, e, h]
  · rw [if_neg e]
theorem DS_skip {n : Nat} {S : Nat → Bool} {c e : Nat → Int32} (h : DS n S c e) (hn : n < 24) (hs : nwS S c n = c (67 + 5 * n)) : DS (n + 1) S c e := by
  have := DS_step h hn
  rwa [upd_self] at this
  rw [hs, (h.2.2 n hn).1, if_neg (by omega)]
def MB (c : Nat → Int32) (n d : Nat) : Prop := c 2 = nI n ∧ n ≤ 24 ∧ d ≤ 6 ∧ ∀ i, i < n → ∃ p g, p < 2 ^ d ∧ g < 2 ^ d ∧ c (68 + 5 * i) = nI p ∧ c (69 + 5 * i) = nI g