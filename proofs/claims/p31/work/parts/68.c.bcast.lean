/-! the broadcast comes as far as it is; decisions are counted together -/
def BT (d : Nat) (al : Nat → Bool) (a : Nat) (s : BSt) : Prop :=
  (∀ w, s.2.1 w ≠ -1 → (∃ j, j < s.1 ∧ s.2.2.2 j = w) ∧ w < 2 ^ d ∧ al w = true ∧ s.2.1 w = nI (pc (a ^^^ w))) ∧
  (∀ j, j < s.1 → s.2.1 (s.2.2.2 j) ≠ -1 ∧ ∀ b, (s.2.2.1 (s.2.2.2 j)).testBit b = true → (a ^^^ s.2.2.2 j).testBit b = false) ∧
  s.1 = fb_ct (fun w => decide (s.2.1 w ≠ -1)) 64 ∧ s.2.1 a = 0
theorem BT_send {d k v m b : Nat} {al : Nat → Bool} {a : Nat} {s : BSt} (hd : d ≤ 6) (hav : a < 2 ^ d) (hj : BJ d k v m s) (hb : b < d) (ht : m.testBit b = true) (hm : ∀ i, m.testBit i = true → (a ^^^ v).testBit i = false) (hal : al (v ^^^ 2 ^ b) = true) (h : BT d al a s) : BT d al a (snd1 v (m ^^^ 2 ^ b) (v ^^^ 2 ^ b) s) := by
  have h6 := p2_le hd
  obtain ⟨-, -, hne⟩ := BJ_send hd hj hb ht
  obtain ⟨hv, hmd, hk, hs64, ev⟩ := BJ_lt hj
  obtain ⟨t1, t2, t3, t4⟩ := h
  have hw : v ^^^ 2 ^ b < 2 ^ d := nb_lt hd hv hb
  have hw1 : s.2.1 (v ^^^ 2 ^ b) = -1 := Decidable.byContradiction (fun q => by
    obtain ⟨⟨j, hj1, hj2⟩, -⟩ := t1 _ q
    exact hne j hj1 hj2)
  have hvt : s.2.1 v ≠ -1 := by have := (t2 k hk).1; rw [ev] at this; exact this
  have htv : s.2.1 v = nI (pc (a ^^^ v)) := (t1 v hvt).2.2.2
  have hax : a ^^^ v < 64 := xor_lt (by omega) (by omega)
  have hbit : (a ^^^ v).testBit b = false := hm b ht
  have hpc : pc (a ^^^ (v ^^^ 2 ^ b)) = pc (a ^^^ v) + 1 := by
    rw [← Nat.xor_assoc, pc_flip _ hax b (by omega), hbit]; rfl
  have haw : a ≠ v ^^^ 2 ^ b := fun q => by rw [← q, t4] at hw1; exact absurd hw1 (by decide)
  refine ⟨fun w hwq => ?_, fun j hjq => ?_, ?_, ?_⟩
  · by_cases e : w = v ^^^ 2 ^ b
    · subst e
      refine ⟨⟨s.1, Nat.lt_succ_self _, if_pos rfl⟩, hw, hal, ?_⟩
      show upd s.2.1 (v ^^^ 2 ^ b) (s.2.1 v + 1) (v ^^^ 2 ^ b) = _
      rw [upd, if_pos rfl, htv, hpc, nI_1]
    · have e1 : (snd1 v (m ^^^ 2 ^ b) (v ^^^ 2 ^ b) s).2.1 w = s.2.1 w := if_neg e
      rw [e1] at hwq ⊢
      obtain ⟨⟨j, hj1, hj2⟩, hr⟩ := t1 w hwq
      exact ⟨⟨j, Nat.lt_succ_of_lt hj1, (if_neg (by omega)).trans hj2⟩, hr⟩
  · have hjs : j < s.1 + 1 := hjq
    by_cases e : j = s.1
    · have eq : (snd1 v (m ^^^ 2 ^ b) (v ^^^ 2 ^ b) s).2.2.2 j = v ^^^ 2 ^ b := if_pos e
      rw [eq]
      refine ⟨?_, fun i hi => ?_⟩
      · show upd s.2.1 (v ^^^ 2 ^ b) (s.2.1 v + 1) (v ^^^ 2 ^ b) ≠ -1
        rw [upd, if_pos rfl, htv, nI_1]
        exact nI_ne_m1 (by have := pc_le (a ^^^ v); omega)
      · have hi2 : (m ^^^ 2 ^ b).testBit i = true := by
          have : (snd1 v (m ^^^ 2 ^ b) (v ^^^ 2 ^ b) s).2.2.1 (v ^^^ 2 ^ b) = m ^^^ 2 ^ b := if_pos rfl
          rw [this] at hi; exact hi
        rw [tb_off ht, Bool.and_eq_true] at hi2
        have hib : ¬ i = b := by have := hi2.2; simpa using this
        rw [← Nat.xor_assoc, Nat.testBit_xor, hm i hi2.1, Nat.testBit_two_pow_of_ne (fun q => hib q.symm)]; rfl
    · have hjl : j < s.1 := by omega
      have eq : (snd1 v (m ^^^ 2 ^ b) (v ^^^ 2 ^ b) s).2.2.2 j = s.2.2.2 j := if_neg e
      rw [eq]
      have hn := hne j hjl
      have e1 : (snd1 v (m ^^^ 2 ^ b) (v ^^^ 2 ^ b) s).2.1 (s.2.2.2 j) = s.2.1 (s.2.2.2 j) := if_neg hn
      have e2 : (snd1 v (m ^^^ 2 ^ b) (v ^^^ 2 ^ b) s).2.2.1 (s.2.2.2 j) = s.2.2.1 (s.2.2.2 j) := if_neg hn
      rw [e1, e2]
      exact t2 j hjl
  · have hct := fb_ct_upd (fun w => decide (s.2.1 w ≠ -1)) true (i := v ^^^ 2 ^ b) (n := 64) (by omega)
    have e0 : decide (s.2.1 (v ^^^ 2 ^ b) ≠ -1) = false := by rw [hw1]; rfl
    rw [e0] at hct
    have e1 : fb_ct (fun w => decide ((snd1 v (m ^^^ 2 ^ b) (v ^^^ 2 ^ b) s).2.1 w ≠ -1)) 64 = fb_ct (fun w => if w = v ^^^ 2 ^ b then true else decide (s.2.1 w ≠ -1)) 64 := fb_ct_cong (fun w _ => by
      by_cases e : w = v ^^^ 2 ^ b
      · rw [if_pos e]
        subst e
        show decide (upd s.2.1 (v ^^^ 2 ^ b) (s.2.1 v + 1) (v ^^^ 2 ^ b) ≠ -1) = true
        rw [upd, if_pos rfl, htv, nI_1, decide_eq_true_eq]
        exact nI_ne_m1 (by have := pc_le (a ^^^ v); omega)
      · rw [if_neg e]
        have : (snd1 v (m ^^^ 2 ^ b) (v ^^^ 2 ^ b) s).2.1 w = s.2.1 w := if_neg e
        rw [this])
    show s.1 + 1 = _
    rw [e1]
    have : fb_ct (fun w => if w = v ^^^ 2 ^ b then true else decide (s.2.1 w ≠ -1)) 64 = fb_ct (fun w => decide (s.2.1 w ≠ -1)) 64 + 1 := by simpa using hct
    rw [this, ← t3]
  · have : (snd1 v (m ^^^ 2 ^ b) (v ^^^ 2 ^ b) s).2.1 a = s.2.1 a := if_neg haw
    rw [this]; exact t4
theorem pss_BT {d k v : Nat} {L : Nat → Nat} {al : Nat → Bool} {a : Nat} (hd : d ≤ 6) (hav : a < 2 ^ d) : ∀ n m s, BJ d k v m s → (∀ i, m.testBit i = true → (a ^^^ v).testBit i = false) → BT d al a s → ∃ m', BJ d k v m' (pss d L al v n m s) ∧ BT d al a (pss d L al v n m s)
  | 0, m, s, hj, hm, h => ⟨m, hj, h⟩
  | n + 1, m, s, hj, hm, h => by
    cases hb : bestD d L v m with
    | none =>
      have e : pss d L al v (n + 1) m s = s := by rw [pss, hb]
      rw [e]
      exact ⟨m, hj, h⟩
    | some b =>
      obtain ⟨hbd, hbt⟩ := bst_lt hb
      have hm' : ∀ i, (m ^^^ 2 ^ b).testBit i = true → (a ^^^ v).testBit i = false := fun i hi => by
        rw [tb_off hbt, Bool.and_eq_true] at hi
        exact hm i hi.1
      have e : pss d L al v (n + 1) m s = pss d L al v n (m ^^^ 2 ^ b) (if al (v ^^^ 2 ^ b) then snd1 v (m ^^^ 2 ^ b) (v ^^^ 2 ^ b) s else s) := by rw [pss, hb]
      rw [e]
      by_cases hal : al (v ^^^ 2 ^ b) = true
      · rw [if_pos hal]
        exact pss_BT hd hav n _ _ (BJ_send hd hj hbd hbt).1 hm' (BT_send hd hav hj hbd hbt hm hal h)
      · rw [if_neg hal]
        exact pss_BT hd hav n _ _ (BJ_keep hd hj hbd hbt) hm' h
theorem brn_BT {d : Nat} {L : Nat → Nat} {al : Nat → Bool} {a : Nat} (hd : d ≤ 6) (hav : a < 2 ^ d) : ∀ n k s, BO d k s → BT d al a s → BT d al a (brn d L al n k s)
  | 0, k, s, ho, h => h
  | n + 1, k, s, ho, h => by
    unfold brn
    by_cases q : k < s.1
    · rw [if_pos q]
      obtain ⟨m', h1, h2⟩ := pss_BT (L := L) hd hav 6 _ _ (BO_in ho q) (h.2.1 k q).2 h
      exact brn_BT hd hav n (k + 1) _ (BJ_out h1) h2
    · rw [if_neg q]; exact h
theorem BR_BT {d a : Nat} {L : Nat → Nat} {al : Nat → Bool} (hd : d ≤ 6) (ha : a < 2 ^ d) (hal : al a = true) : BT d al a (BR d L al a) := by
  have h6 := p2_le hd
  refine brn_BT hd ha 64 0 _ (BO_start hd ha _) ⟨fun w hw => ?_, fun j hj => ?_, ?_, if_pos rfl⟩
  · by_cases e : w = a
    · subst e
      exact ⟨⟨0, Nat.one_pos, (show (if (0 : Nat) = 0 then w else 0) = w from if_pos rfl)⟩, ha, hal, by
        rw [Nat.xor_self]
        show (if w = w then (0 : Int32) else -1) = nI (pc 0)
        rw [if_pos rfl]; decide⟩
    · exact absurd (if_neg e) hw
  · have : j = 0 := Nat.lt_one_iff.mp hj
    subst this
    have eq : (uN2 (fun _ => 0) 0 a : Nat → Nat) 0 = a := if_pos rfl
    show upd (fun _ => -1) a 0 (uN2 (fun _ => 0) 0 a 0) ≠ -1 ∧ ∀ b, (uN2 (fun _ => 0) a (2 ^ d - 1) (uN2 (fun _ => 0) 0 a 0)).testBit b = true → (a ^^^ uN2 (fun _ => 0) 0 a 0).testBit b = false
    rw [eq]
    refine ⟨?_, fun b _ => by rw [Nat.xor_self, Nat.zero_testBit]⟩
    rw [upd, if_pos rfl]; decide
  · have hct := fb_ct_upd (fun _ => false) true (i := a) (n := 64) (by omega)
    have h0 : fb_ct (fun _ => false) 64 = 0 := fb_ct_zero.mpr (fun _ _ => rfl)
    have e1 : fb_ct (fun w => decide (upd (fun _ => -1) a 0 w ≠ (-1 : Int32))) 64 = fb_ct (fun w => if w = a then true else false) 64 := fb_ct_cong (fun w _ => by
      by_cases e : w = a
      · rw [upd, if_pos e, if_pos e]; rfl
      · rw [upd, if_neg e, if_neg e]; rfl)
    rw [h0] at hct
    show 1 = fb_ct (fun w => decide (upd (fun _ => -1) a 0 w ≠ (-1 : Int32))) 64
    rw [e1]
    simpa using hct.symm
theorem rch_sum {d s : Nat} {L : Nat → Nat} {al : Nat → Bool} (hd : d ≤ 6) (hs : s < 2 ^ d) : ∀ n, n ≤ 2 ^ d → rch d L al s 0 n + rch d L al s 1 n + rch d L al s 2 n = fb_ct (fun t => if t = s then false else al t) n
  | 0, _ => rfl
  | n + 1, h => by
    have ih := rch_sum (L := L) (al := al) hd hs n (by omega)
    have h2 : dcs d L s n ≤ 2 := dcs_le hd hs (show n < 2 ^ d by omega)
    unfold rch at ih ⊢
    rw [fb_ct_succ, fb_ct_succ, fb_ct_succ, fb_ct_succ, ← ih]
    by_cases e : n = s
    · simp [e] <;> omega
    · cases al n with
      | false => simp [e] <;> omega
      | true =>
        rcases (show dcs d L s n = 0 ∨ dcs d L s n = 1 ∨ dcs d L s n = 2 by omega) with q | q | q <;> simp [e, q] <;> omega
theorem rch_all {d s : Nat} {L : Nat → Nat} {al : Nat → Bool} (hd : d ≤ 6) (hs : s < 2 ^ d) (hal : al s = true) : rch d L al s 0 (2 ^ d) + rch d L al s 1 (2 ^ d) + rch d L al s 2 (2 ^ d) + 1 = fb_ct al (2 ^ d) := by
  rw [rch_sum hd hs _ (Nat.le_refl _)]
  have := fb_ct_upd al false (i := s) (n := 2 ^ d) hs
  rw [hal] at this
  simpa using this
section
variable {d n : Nat} {cu : CU}
theorem p_isBroadcast (h : CORE d n cu) (h5 : d ≤ 5) {s : Nat} (hs : s < 2 ^ d) (as : zt cu.1.2.1 s = true) : wp (f_L_isBroadcast (nI d) (nI s) cu) (fun r => r.1 = 1 ∧ SAME cu r.2) := by
  obtain ⟨h1, hd, hn, e1, e2, ha, hf⟩ := id h
  have h32 := p2_32 h5
  obtain ⟨b1, b2, b3, b4⟩ := BR_BT (L := LV d (zt cu.1.2.1)) (al := zt cu.1.2.1) hd hs as
  have hct : fb_ct (fun w => decide ((BR d (LV d (zt cu.1.2.1)) (zt cu.1.2.1) s).2.1 w ≠ -1)) (2 ^ d) = (BR d (LV d (zt cu.1.2.1)) (zt cu.1.2.1) s).1 := by
    rw [b3]
    exact ct_cut (p2_le hd) (fun w hw _ => decide_eq_false (fun q => by have := (b1 w q).2.1; omega))
  unfold f_L_isBroadcast
  refine zl4_wpF (2 ^ d) (fun j i3 i4 i5 c => i3 = nI (fb_ct (fun w => decide ((BR d (LV d (zt cu.1.2.1)) (zt cu.1.2.1) s).2.1 w ≠ -1)) j) ∧ i4 = 1 ∧ i5 = nI j ∧ SAME cu c) (by omega) (fun K j i3 i4 i5 c hj hI kk => ?_) (fun K i3 i4 i5 c hI => ?_) ⟨nI_0.symm, rfl, nI_0.symm, SAME.rfl'⟩
  · obtain ⟨rfl, rfl, rfl, hc⟩ := hI
    have hC := h.same hc
    refine wp_jp (wp_jp (wp_f (by rw [p2_nI d (by omega)]; exact nI_ge hj (by omega)) (wp_f (by decide) ?_)))
    have hbt := e_btime hC (s := s) (t := j) hs hj (by rw [hc.1]; exact as)
    rw [hc.1] at hbt
    refine wp_obW hbt (fun u hu => wp_bd (wp_jp (wp_jp ?_)))
    rw [hu.1]
    have hS := SAME.trans' hc hu.2
    by_cases q : (BR d (LV d (zt cu.1.2.1)) (zt cu.1.2.1) s).2.1 j = -1
    · refine wp_t q (wp_jp (wp_t (by rw [q]; decide) (wp_bd (wp_bd (kk _ _ _ _ ⟨?_, rfl, nI_1 _, hS⟩)))))
      rw [fb_ct_succ, decide_eq_false (fun z => z q), Int32.add_zero]; rfl
    · obtain ⟨-, -, g3, g4⟩ := b1 j q
      have hp := pc_le (s ^^^ j)
      have hx : s ^^^ j < 64 := xor_lt (by omega) (by omega)
      rw [g4]
      refine wp_f (nI_ne_m1 (by omega)) ?_
      rw [nx_xor]
      refine wp_ob (p_ones _ hx) (wp_jp (wp_t rfl ?_))
      have hA := e_isAlive (hC.same hu.2) hj
      rw [hu.2.1, hc.1, g3] at hA
      refine wp_ob hA (wp_t rfl (wp_jp (wp_f (nI_pos (n := pc (s ^^^ j)) (by omega)) (wp_bd (wp_bd (kk _ _ _ _ ⟨?_, rfl, nI_1 _, hS⟩))))))
      rw [fb_ct_succ, decide_eq_true q, nI_1]; rfl
  · obtain ⟨rfl, rfl, rfl, hc⟩ := hI
    have hC := h.same hc
    have hal : zt c.1.2.1 s = true := by rw [hc.1]; exact as
    refine wp_jp (wp_t (by rw [p2_nI d (by omega)]; exact nI_le (Nat.le_refl _) (by omega)) (wp_jp (wp_f (show ¬ (1 : Int32) = 0 by decide) ?_)))
    have hbs := e_bsize hC hs hal
    rw [hc.1] at hbs
    refine wp_obW hbs (fun u hu => wp_t (by rw [hu.1, hct]) ?_)
    have hC1 := hC.same hu.2
    have hbt := e_btime hC1 (s := s) (t := s) hs hs (by rw [hu.2.1, hc.1]; exact as)
    rw [hu.2.1, hc.1] at hbt
    refine wp_obW hbt (fun w hw => wp_t (by rw [hw.1]; exact b4) ?_)
    have hC2 := hC1.same hw.2
    have hal2 : zt w.2.1.2.1 s = true := by rw [hw.2.1, hu.2.1, hc.1]; exact as
    refine wp_ob (e_reach hC2 (x := 0) hs (by omega) hal2) (wp_ob (e_reach hC2 (x := 1) hs (by omega) hal2) (wp_ob (e_reach hC2 (x := 2) hs (by omega) hal2) (wp_ob (p_alive hC2 h5) (wp_t ?_ (wp_some ⟨rfl, SAME.trans' hc (SAME.trans' hu.2 hw.2)⟩)))))
    have hr := rch_all (L := LV d (zt w.2.1.2.1)) (al := zt w.2.1.2.1) hd hs hal2
    rw [nI_add, nI_add, show nI (fb_ct (zt w.2.1.2.1) (2 ^ d)) - (1 : Int32) = nI (fb_ct (zt w.2.1.2.1) (2 ^ d) - 1) from nI_sub (b := 1) (by omega)]
    congr 1
    omega
end
