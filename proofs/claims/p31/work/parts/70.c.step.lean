/-! steps: each message moves to a neighbour or stays -/
def MQ1 (d : Nat) (bg go : Nat → Int32) (i T : Nat) (q : QS) : Prop := ∃ b p g m x j, b < 2 ^ d ∧ p < 2 ^ d ∧ g < 2 ^ d ∧ x < 3 ∧ bg i = nI b ∧ q.2.1 i = nI p ∧ go i = nI g ∧ q.2.2.1 i = nI m ∧ q.1 i = nI x ∧ m ≤ T ∧ m = pc (b ^^^ p) + 2 * j
theorem MQ1.mono {d : Nat} {bg go : Nat → Int32} {i T : Nat} {q : QS} (h : MQ1 d bg go i T q) : MQ1 d bg go i (T + 1) q := by
  obtain ⟨b, p, g, m, x, j, h1, h2, h3, h4, h5, h6, h7, h8, h9, h10, h11⟩ := h
  exact ⟨b, p, g, m, x, j, h1, h2, h3, h4, h5, h6, h7, h8, h9, by omega, h11⟩
theorem MQ1.at' {d : Nat} {bg go : Nat → Int32} {i T : Nat} {q r : QS} (h : MQ1 d bg go i T q) (e1 : r.1 i = q.1 i) (e2 : r.2.1 i = q.2.1 i) (e3 : r.2.2.1 i = q.2.2.1 i) : MQ1 d bg go i T r := by
  obtain ⟨b, p, g, m, x, j, h1, h2, h3, h4, h5, h6, h7, h8, h9, h10⟩ := h
  exact ⟨b, p, g, m, x, j, h1, h2, h3, h4, h5, e2.trans h6, h7, e3.trans h8, e1.trans h9, h10⟩
def QSA (i : Nat) (q r : QS) : Prop := r.1 i = q.1 i ∧ r.2.1 i = q.2.1 i ∧ r.2.2.1 i = q.2.2.1 i
theorem cmv_ok {d i T : Nat} {L : Nat → Nat} {al : Nat → Bool} {bg go : Nat → Int32} {S : CS} (hd : d ≤ 6) (hT : T < 1000) (h : MQ1 d bg go i T S.2.2) :
    MQ1 d bg go i (T + 1) (cmv d L al go i S).2.2 ∧ (∀ k, k ≠ i → QSA k S.2.2 (cmv d L al go i S).2.2) ∧ ((cmv d L al go i S).1 = S.1 ∨ ((cmv d L al go i S).1 = S.1 + 1 ∧ S.2.2.1 i = 0)) ∧ ((cmv d L al go i S).2.2.1 i = 0 → S.2.2.1 i = 0) := by
  have h6 := p2_le hd
  have hsame : MQ1 d bg go i (T + 1) S.2.2 ∧ (∀ k, k ≠ i → QSA k S.2.2 S.2.2) ∧ (S.1 = S.1 ∨ (S.1 = S.1 + 1 ∧ S.2.2.1 i = 0)) ∧ (S.2.2.1 i = 0 → S.2.2.1 i = 0) := ⟨h.mono, fun k _ => ⟨rfl, rfl, rfl⟩, Or.inl rfl, fun q => q⟩
  obtain ⟨b, p, g, m, x, j, h1, h2, h3, h4, h5, h6', h7, h8, h9, h10, h11⟩ := h
  rw [cmv_at (n := 0) hd h2 h3 h6' h7]
  by_cases h0 : S.2.2.1 i = 0
  · rw [if_pos h0]
    cases hw : wyO d L al p g (S.2.2.2.2.2 i) with
    | none => exact hsame
    | some bt =>
      obtain ⟨k, t⟩ := bt
      show MQ1 d bg go i (T + 1) (if (S.2.1 p).testBit k = true then S else cgo p g k i t S).2.2 ∧ _
      by_cases hu : (S.2.1 p).testBit k = true
      · simp only [if_pos hu]
        exact ⟨hsame.1, hsame.2.1, Or.inl trivial, hsame.2.2.2⟩
      · simp only [if_neg hu]
        obtain ⟨hk, -⟩ := wyO_lt hw
        have hp' := nb_lt hd h2 hk
        have hx : b ^^^ p < 64 := xor_lt (by omega) (by omega)
        have hf := pc_flip (b ^^^ p) hx k (by omega)
        rw [Nat.xor_assoc] at hf
        have hmv : (cgo p g k i t S).2.2.2.2.1 i = nI (m + 1) := by
          show upd S.2.2.2.2.1 i (S.2.2.2.2.1 i + 1) i = nI (m + 1)
          rw [upd_in, show S.2.2.2.2.1 i = nI m from h8, nI_1]
        have hpo : (cgo p g k i t S).2.2.2.1 i = nI (p ^^^ 2 ^ k) := upd_in _ _ _
        have hst : ∃ y, y < 2 ∧ (cgo p g k i t S).2.2.1 i = nI y := by
          show ∃ y, y < 2 ∧ (if p ^^^ 2 ^ k = g then upd S.2.2.1 i 1 else S.2.2.1) i = nI y
          by_cases e : p ^^^ 2 ^ k = g
          · rw [if_pos e]; exact ⟨1, by decide, upd_in _ _ _⟩
          · rw [if_neg e]; exact ⟨0, by decide, h0⟩
        obtain ⟨y, hy, hst⟩ := hst
        refine ⟨?_, fun l hl => ⟨?_, upd_out _ _ hl, upd_out _ _ hl⟩, Or.inr ⟨rfl, h0⟩, fun _ => h0⟩
        · by_cases q : (b ^^^ p).testBit k = true
          · have hpos := pc_pos (b ^^^ p) hx k (by omega) q
            rw [if_pos q] at hf
            exact ⟨b, p ^^^ 2 ^ k, g, m + 1, y, j + 1, h1, hp', h3, by omega, h5, hpo, h7, hmv, hst, by omega, by omega⟩
          · rw [if_neg q] at hf
            exact ⟨b, p ^^^ 2 ^ k, g, m + 1, y, j, h1, hp', h3, by omega, h5, hpo, h7, hmv, hst, by omega, by omega⟩
        · show (if p ^^^ 2 ^ k = g then upd S.2.2.1 i 1 else S.2.2.1) l = S.2.2.1 l
          by_cases e : p ^^^ 2 ^ k = g
          · rw [if_pos e]; exact upd_out _ _ hl
          · rw [if_neg e]
  · rw [if_neg h0]; exact hsame
theorem cit_ok {d n T : Nat} {L : Nat → Nat} {al : Nat → Bool} {bg go : Nat → Int32} {S : CS} (hd : d ≤ 6) (hT : T < 1000) (h : ∀ i, i < n → MQ1 d bg go i T S.2.2) : ∀ j, j ≤ n →
    (∀ i, i < j → MQ1 d bg go i (T + 1) (cit d L al go j S).2.2 ∧ ((cit d L al go j S).2.2.1 i = 0 → S.2.2.1 i = 0)) ∧ (∀ i, j ≤ i → QSA i S.2.2 (cit d L al go j S).2.2) ∧ (cit d L al go j S).1 ≤ S.1 + fb_ct (fun i => decide (S.2.2.1 i = 0)) j
  | 0, _ => ⟨fun i hi => absurd hi (Nat.not_lt_zero i), fun i _ => ⟨rfl, rfl, rfl⟩, Nat.le_refl _⟩
  | j + 1, hj => by
    obtain ⟨i1, i2, i3⟩ := cit_ok hd hT h (L := L) (al := al) j (by omega)
    have hq := i2 j (Nat.le_refl j)
    have hm : MQ1 d bg go j T (cit d L al go j S).2.2 := (h j (by omega)).at' hq.1 hq.2.1 hq.2.2
    obtain ⟨c1, c2, c3, c4⟩ := cmv_ok (L := L) (al := al) (S := cit d L al go j S) hd hT hm
    have e : cit d L al go (j + 1) S = cmv d L al go j (cit d L al go j S) := rfl
    rw [e]
    refine ⟨fun i hi => ?_, fun i hi => ?_, ?_⟩
    · by_cases q : i = j
      · subst q
        exact ⟨c1, fun z => by have := c4 z; rw [hq.1] at this; exact this⟩
      · obtain ⟨a1, a2⟩ := i1 i (by omega)
        obtain ⟨b1, b2, b3⟩ := c2 i q
        exact ⟨a1.at' b1 b2 b3, fun z => a2 (by rw [← b1]; exact z)⟩
    · obtain ⟨a1, a2, a3⟩ := i2 i (by omega)
      obtain ⟨b1, b2, b3⟩ := c2 i (by omega)
      exact ⟨b1.trans a1, b2.trans a2, b3.trans a3⟩
    · rw [fb_ct_succ]
      rcases c3 with z | ⟨z1, z2⟩
      · rw [z]; omega
      · rw [z1]
        rw [hq.1] at z2
        rw [if_pos (decide_eq_true z2)]
        omega
theorem csN_ok {d n T : Nat} {L : Nat → Nat} {al : Nat → Bool} {bg go : Nat → Int32} {q : QS} (hd : d ≤ 6) (h : ∀ i, i < n → MQ1 d bg go i T q) : ∀ k, T + k < 1000 →
    (∀ i, i < n → MQ1 d bg go i (T + k) (csN d n L al go k q).2 ∧ ((csN d n L al go k q).2.1 i = 0 → q.1 i = 0)) ∧ (csN d n L al go k q).1 ≤ k * fb_ct (fun i => decide (q.1 i = 0)) n
  | 0, _ => ⟨fun i hi => ⟨h i hi, fun z => z⟩, by show 0 ≤ _; omega⟩
  | k + 1, hk => by
    obtain ⟨i1, i2⟩ := csN_ok hd h (L := L) (al := al) k (by omega)
    obtain ⟨c1, -, c3⟩ := cit_ok (L := L) (al := al) (S := (0, fun _ => 0, (csN d n L al go k q).2)) hd (show T + k < 1000 by omega) (fun i hi => (i1 i hi).1) n (Nat.le_refl n)
    have hsub : fb_ct (fun i => decide ((csN d n L al go k q).2.1 i = 0)) n ≤ fb_ct (fun i => decide (q.1 i = 0)) n := fb_ct_sub (fun i hi z => decide_eq_true ((i1 i hi).2 (of_decide_eq_true z)))
    refine ⟨fun i hi => ⟨(c1 i hi).1, fun z => (i1 i hi).2 ((c1 i hi).2 z)⟩, ?_⟩
    show (csN d n L al go k q).1 + (cit d L al go n (0, fun _ => 0, (csN d n L al go k q).2)).1 ≤ (k + 1) * _
    have c4 : (cit d L al go n (0, fun _ => 0, (csN d n L al go k q).2)).1 ≤ 0 + fb_ct (fun i => decide ((csN d n L al go k q).2.1 i = 0)) n := c3
    rw [Nat.succ_mul]
    omega
set_option maxRecDepth 100000 in
theorem o_step {d n T N : Nat} {bg : Nat → Int32} {cu : CU} (h : INV d n T bg cu) (hN1 : 1 ≤ N) (hN : N ≤ 20) (hT : T + N < 1000) : wp (F_step (nI N) cu) (fun u => (∃ q, q ≤ N * fb_ct (fun i => decide (cu.1.2.2.2.2.1 i = 0)) n ∧ u.1 = nI q) ∧ INV d n (T + N) bg u.2 ∧ LAST u.2.2.1 cu.1 ∧ ∀ i, i < n → u.2.1.2.2.2.2.1 i = 0 → cu.1.2.2.2.2.1 i = 0) := by
  obtain ⟨⟨s1, a, st, s4, Tm⟩, g, ⟨t1, t2, t3, t4, t5⟩, bc, pk', uw⟩ := cu
  obtain ⟨⟨h1, hd, hn, e1, e2, ha, hf⟩, hM, k, z, hk, hz, ek, ez⟩ := id h
  have h6 := p2_le hd
  replace e1 : s1 = nI d := e1
  replace e2 : s4 = nI n := e2
  have ht1 : t1 = nI d := hf.1
  subst e1 e2 ht1
  have hsv := s_save' (s0 := g.2.2.1) (s1 := g.2.2.2.1) (s2 := g.2.2.2.2.1) (s3 := g.2.2.2.2.2) (n := (nI d, a, st, nI n, Tm)) hk hz
  replace ek : g.1 = nI k := ek
  replace ez : g.2.1 = nI z := ez
  rw [← ek, ← ez] at hsv
  have hMQ : ∀ i, i < n → MQ1 d bg Tm.2.2.1 i T (Tm.1, Tm.2.1, Tm.2.2.2.1, Tm.2.2.2.2) := fun i hi => hM i hi
  have hVQ : VQ d n Tm.2.2.1 (Tm.1, Tm.2.1, Tm.2.2.2.1, Tm.2.2.2.2) := fun i hi => by
    obtain ⟨b, p, g, m, x, j, q1, q2, q3, q4, q5, q6, q7, -⟩ := hM i hi
    exact ⟨p, g, q2, q3, q6, q7⟩
  obtain ⟨c1, c2⟩ := csN_ok (L := LV d (zt a)) (al := zt a) hd hMQ N hT
  refine wp_imp (xO_step (Q := fun u => (∃ q, q ≤ N * fb_ct (fun i => decide (Tm.1 i = 0)) n ∧ u.1 = nI q) ∧ CORE d n (N_step ((nI d, a, st, nI n, Tm), g, (nI d, t2, t3, t4, t5), bc, pk', uw) u) ∧ MSG d n (T + N) bg (N_step ((nI d, a, st, nI n, Tm), g, (nI d, t2, t3, t4, t5), bc, pk', uw) u).1 ∧ LAST (N_step ((nI d, a, st, nI n, Tm), g, (nI d, t2, t3, t4, t5), bc, pk', uw) u).2.1 (nI d, a, st, nI n, Tm) ∧ ∀ i, i < n → (N_step ((nI d, a, st, nI n, Tm), g, (nI d, t2, t3, t4, t5), bc, pk', uw) u).1.2.2.2.2.1 i = 0 → Tm.1 i = 0) ?_) ?_
  · refine wp_jp (wp_f (nI_nlt (a := N) (b := 1) hN1 (by omega)) (wp_t (nI_le (b := 20) hN (by decide)) (wp_obW hsv (fun u3 hu3 => ?_))))
    refine s_steps (T := (Tm.1, Tm.2.1, Tm.2.2.2.1, Tm.2.2.2.2)) _ h1 hd hn hN hVQ hf.2.2.1 (fun uw2 => wp_some ⟨_, rfl, ⟨_, c2, rfl⟩, ⟨h1, hd, hn, rfl, rfl, ha, hf⟩, fun i hi => (c1 i hi).1, hu3, fun i hi => (c1 i hi).2⟩)
  · rintro r ⟨u, ⟨q, hC, hM', hL, hr⟩, rfl⟩
    exact ⟨q, ⟨hC, hM', hL.pst⟩, hL, hr⟩
