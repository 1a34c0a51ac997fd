/-! the law: small words, a new dimension, one round of it -/
theorem wp_jq {T R : Type} {K : T} {f : T → Option R} {Q : R → Prop} (P : T → Prop) (hK : P K) (kk : ∀ K, P K → wp (f K) Q) : wp (zjp K f) Q := kk K hK
theorem p_cell {L j : Nat} (hL : L ≤ 260) (hj : j < 1000) (xs : Nat → Int32) : ∃ x, f_L_cell L (nI j) xs = some x := by
  unfold f_L_cell
  by_cases h : (Int32.ofNat L) ≤ nI j
  · exact ⟨_, if_pos h⟩
  · have hjL : j < L := by
      rcases Nat.lt_or_ge j L with q | q
      · exact q
      · exact absurd (nI_le q (by omega)) h
    exact ⟨_, (if_neg h).trans (zgd_eq (inb_nI hjL (by omega)))⟩
theorem and_31 (x : Int32) : ∃ y, y < 2 ^ 31 ∧ x &&& (2147483647 : Int32) = nI y := by
  refine ⟨(x.toBitVec &&& 2147483647#32).toNat, ?_, ?_⟩
  · rw [BitVec.toNat_and]
    exact Nat.lt_of_le_of_lt Nat.and_le_right (by decide)
  · apply Int32.toBitVec_inj.mp
    rw [Int32.toBitVec_and]
    show x.toBitVec &&& 2147483647#32 = BitVec.ofNat 32 (x.toBitVec &&& 2147483647#32).toNat
    rw [BitVec.ofNat_toNat, BitVec.setWidth_eq]
theorem p_low (x : Int32) {m : Nat} (h0 : 0 < m) (hm : m < 2 ^ 31) : ∃ r, r < m ∧ f_L_low x (nI m) = some (nI r) := by
  obtain ⟨y, hy, e⟩ := and_31 x
  refine ⟨y % m, Nat.mod_lt _ h0, ?_⟩
  unfold f_L_low
  rw [e]
  refine (zgd_eq (decide_eq_true (nI_ne0 h0 hm))).trans ?_
  have h1 : y / m * m ≤ y := Nat.div_mul_le_self y m
  rw [pk_div hy h0 hm, nI_mul, nI_sub h1]
  have h2 := Nat.div_add_mod y m
  rw [Nat.mul_comm] at h2
  congr 2
  omega
theorem ct3 {st : Nat → Int32} : ∀ {n : Nat}, (∀ i, i < n → ∃ x, x < 3 ∧ st i = nI x) → fb_ct (fun i => decide (st i = nI 0)) n + fb_ct (fun i => decide (st i = nI 1)) n + fb_ct (fun i => decide (st i = nI 2)) n = n
  | 0, _ => rfl
  | n + 1, h => by
    have ih := ct3 (n := n) (fun i hi => h i (by omega))
    obtain ⟨x, hx, e⟩ := h n (Nat.lt_succ_self n)
    rw [fb_ct_succ, fb_ct_succ, fb_ct_succ, e]
    rcases (show x = 0 ∨ x = 1 ∨ x = 2 by omega) with rfl | rfl | rfl
    · rw [if_pos (by decide), if_neg (by decide), if_neg (by decide)]; omega
    · rw [if_neg (by decide), if_pos (by decide), if_neg (by decide)]; omega
    · rw [if_neg (by decide), if_neg (by decide), if_pos (by decide)]; omega
section
variable {d n T : Nat} {bg : Nat → Int32} {cu : CU}
theorem o_setDim {e : Nat} (h : INV d n T bg cu) (he1 : 1 ≤ e) (he6 : e ≤ 6) : wp (F_setDimension (nI e) cu) (fun u => u.1 = nI d ∧ INV e 0 0 bg u.2) := by
  obtain ⟨⟨h1, hd, hn, e1, e2, ha, hf⟩, hM, k, z, hk, hz, ek, ez⟩ := id h
  have hsv := s_save' (s0 := cu.2.1.2.2.1) (s1 := cu.2.1.2.2.2.1) (s2 := cu.2.1.2.2.2.2.1) (s3 := cu.2.1.2.2.2.2.2) (n := cu.1) hk hz
  rw [← ek, ← ez] at hsv
  have hrf := s_refresh (d := e) (j_lushr (-1) ((64 : Int32) - ((1 : Int32) <<< (nI e &&& 31)))) cu.2.2.1 he1 he6
  refine wp_imp (xO_setDimension (Q := fun u => u.1 = nI d ∧ CORE e 0 (N_setDimension cu u) ∧ LAST (N_setDimension cu u).2.1 cu.1) ?_) ?_
  · refine wp_jp (wp_f (nI_nlt (a := e) (b := 1) he1 (by omega)) (wp_t (nI_le (b := 6) he6 (by decide)) (wp_obW hsv (fun u3 hu3 => wp_ob (a := (nI e, j_lushr (-1) ((64 : Int32) - ((1 : Int32) <<< (nI e &&& 31))), 0, 0)) rfl (wp_obW hrf (fun u6 hu6 => wp_some ⟨_, rfl, e1, ⟨he1, he6, Nat.zero_le _, rfl, rfl, fun w hw => ?_, hu6⟩, hu3⟩))))))
    show zt (j_lushr (-1) ((64 : Int32) - ((1 : Int32) <<< (nI e &&& 31)))) w = false
    rcases Nat.lt_or_ge w 64 with q | q
    · rw [zt_mask e (by omega) w q]; exact decide_eq_false (by omega)
    · exact zt_big q
  · rintro r ⟨u, ⟨e1', hC, hL⟩, rfl⟩
    exact ⟨e1', hC, fun i hi => absurd hi (Nat.not_lt_zero i), hL.pst⟩
/-- behind the operation of a round -/
def P516 (d n j : Nat) (bg : Nat → Int32) (cu : CU) (i4 i5 i14 i15 : Int32) (bg' : Nat → Int32) (cu' : CU) : Prop :=
  i5 = 1 ∧ ((i14 = -2000 ∧ i4 = nI n ∧ bg' = bg ∧ cu' = cu) ∨ ∃ q k, q < 2 ^ 30 ∧ k ≤ 1 ∧ i14 = nI q ∧ i15 = nI k ∧ i4 = nI (n + k) ∧ INV d (n + k) (3 * j + 3) bg' cu' ∧ LAST cu'.2.1 cu.1 ∧ ∀ i, i < n → bg' i = bg i)
theorem op_kill {R : Type} {Q : R → Prop} {j a : Nat} {lv : Int32} (h : INV d n (3 * j) bg cu) (ha : a < 2 ^ d) (hlv : lv = bI (zt cu.1.2.1 a)) (K : Int32 → Int32 → Int32 → Int32 → (Nat → Int32) → CU → Option R) (hK : ∀ i4 i5 i14 i15 bg' cu', P516 d n j bg cu i4 i5 i14 i15 bg' cu' → wp (K i4 i5 i14 i15 bg' cu') Q) :
    wp (zob (F_kill (nI a) cu) (fun u34 => zbd (A := Int32) u34.1 (fun x35 => zjp (T := Int32 → Option R) (fun (s0_263 : Int32) => K (nI n) s0_263 x35 0 bg u34.2) (fun K263 =>
if (lv : Int32) = 0 then (
if (x35 : Int32) = (-2000) then (
K263 1) else (
K263 0)) else (
zjp (T := Option R) (
K263 0) (fun K246 =>
if (x35 : Int32) < 0 then (
K246) else (
zob (F_isAlive (nI a) u34.2) (fun u36 =>
if (u36 : Int32) = 0 then (
if (nI n : Int32) < x35 then (
K246) else (
K263 1)) else (
K246))))))))) Q := by
  have hn : n ≤ 24 := h.1.2.2.1
  cases hl : zt cu.1.2.1 a with
  | false =>
    rw [hl] at hlv
    refine wp_ob (o_kill_no h ha hl) (wp_bd (wp_jp (wp_t hlv (wp_t rfl (hK _ _ _ _ _ _ ⟨rfl, Or.inl ⟨rfl, rfl, rfl, rfl⟩⟩)))))
  | true =>
    rw [hl] at hlv
    refine wp_obW (o_kill h ha hl) (fun u hu => ?_)
    obtain ⟨⟨q, hq, e⟩, hI, hL, hz⟩ := hu
    have hA := e_isAlive hI.1 ha
    rw [hz] at hA
    rw [e]
    refine wp_bd (wp_jp (wp_f (by rw [hlv]; decide) (wp_jp (wp_f (nI_pos (by omega)) (wp_ob hA (wp_t rfl (wp_f (nI_nlt hq (by omega)) (hK _ _ _ _ _ _ ⟨rfl, Or.inr ⟨q, 0, by omega, by omega, rfl, rfl, rfl, hI.mono (by omega), hL, fun _ _ => rfl⟩⟩))))))))
theorem op_revive {R : Type} {Q : R → Prop} {j a : Nat} {lv : Int32} (h : INV d n (3 * j) bg cu) (h5 : d ≤ 5) (ha : a < 2 ^ d) (hlv : lv = bI (zt cu.1.2.1 a)) (K : Int32 → Int32 → Int32 → Int32 → (Nat → Int32) → CU → Option R) (hK : ∀ i4 i5 i14 i15 bg' cu', P516 d n j bg cu i4 i5 i14 i15 bg' cu' → wp (K i4 i5 i14 i15 bg' cu') Q) :
    wp (zob (F_revive (nI a) cu) (fun u45 =>
zbd (A := Int32) u45.1 (fun x46 =>
zjp (T := Int32 → Option R) (fun (s0_326 : Int32) =>
K (nI n) s0_326 x46 0 bg u45.2) (fun K326 =>
if (lv : Int32) = 0 then (
zob (f_L_alive (nI d) u45.2) (fun u47 =>
zjp (T := Option R) (
K326 0) (fun K325 =>
if (x46 : Int32) = (((1 : Int32) <<< (nI d &&& 31)) - u47) then (
zob (F_isAlive (nI a) u45.2) (fun u48 =>
if (u48 : Int32) = 1 then (
K326 1) else (
K325))) else (
K325)))) else (
if (x46 : Int32) = (-2000) then (
K326 1) else (
K326 0)))))) Q := by
  have hd : d ≤ 6 := by omega
  have h6 := p2_le hd
  cases hl : zt cu.1.2.1 a with
  | true =>
    rw [hl] at hlv
    refine wp_ob (o_revive_no h ha hl) (wp_bd (wp_jp (wp_f (by rw [hlv]; decide) (wp_t rfl (hK _ _ _ _ _ _ ⟨rfl, Or.inl ⟨rfl, rfl, rfl, rfl⟩⟩)))))
  | false =>
    rw [hl] at hlv
    refine wp_obW (o_revive h ha hl) (fun u hu => ?_)
    obtain ⟨e, hI, hL, hz⟩ := hu
    have hA := e_isAlive hI.1 ha
    rw [hz] at hA
    have hcl := ct_le (zt u.2.1.2.1) (2 ^ d)
    rw [e]
    refine wp_bd (wp_jp (wp_t hlv (wp_ob (p_alive hI.1 h5) (wp_jp (wp_t ?_ (wp_ob hA (wp_t rfl (hK _ _ _ _ _ _ ⟨rfl, Or.inr ⟨_, 0, by omega, by omega, rfl, rfl, rfl, hI.mono (by omega), hL, fun _ _ => rfl⟩⟩))))))))
    rw [p2_nI d (by omega), nI_sub hcl]
theorem op_send {R : Type} {Q : R → Prop} {j a b : Nat} {bo : Int32} (h : INV d n (3 * j) bg cu) (ha : a < 2 ^ d) (hb : b < 2 ^ d) (hbo : bo = bI (zt cu.1.2.1 a && zt cu.1.2.1 b)) (K : Int32 → Int32 → Int32 → Int32 → (Nat → Int32) → CU → Option R) (hK : ∀ i4 i5 i14 i15 bg' cu', P516 d n j bg cu i4 i5 i14 i15 bg' cu' → wp (K i4 i5 i14 i15 bg' cu') Q) :
    wp (zob (F_send (nI a) (nI b) cu) (fun u37 =>
zbd (A := Int32) u37.1 (fun x38 =>
zjp (T := Int32 → Int32 → Option R) (fun (s0_363 : Int32) (s1_363 : Int32) =>
zjp (T := Int32 → Option R) (fun (s0_371 : Int32) =>
zjp (T := Int32 → Option R) (fun (s0_383 : Int32) =>
if (s0_383 : Int32) = 1 then (
zgd (inb (nI n) 24) (
zbd (A := (Nat → Int32)) (upd bg (nI n : Int32).toNatClampNeg (nI a)) (fun y40 =>
zbd (A := Int32) (nI n + 1) (fun x41 =>
zjp (T := Int32 → Option R) (fun (s0_451 : Int32) =>
K x41 s0_451 x38 s0_383 y40 u37.2) (fun K451 =>
zjp (T := Option R) (
K451 0) (fun K450 =>
if (s0_371 : Int32) = 0 then (
K450) else (
zob (F_state x38 u37.2) (fun u42 =>
zjp (T := Int32 → Int32 → Option R) (fun (s0_423 : Int32) (s1_423 : Int32) =>
if (s0_423 : Int32) = s1_423 then (
zob (F_position x38 u37.2) (fun u43 =>
if (u43 : Int32) = nI a then (
zob (F_moves x38 u37.2) (fun u44 =>
if (u44 : Int32) = 0 then (
K451 1) else (
K450))) else (
K450))) else (
K450)) (fun K423 =>
if (nI a : Int32) = nI b then (
K423 u42 1) else (
K423 u42 0)))))))))) else (
K (nI n) s0_371 x38 s0_383 bg u37.2)) (fun K383 =>
if (x38 : Int32) < 0 then (
K383 0) else (
K383 1))) (fun K371 =>
if (s0_363 : Int32) = s1_363 then (
K371 1) else (
K371 0))) (fun K363 =>
zjp (T := Int32 → Option R) (fun (s0_360 : Int32) =>
K363 s0_360 (-2000)) (fun K360 =>
if (bo : Int32) = 0 then (
K360 x38) else (
if (24 : Int32) ≤ nI n then (
K360 x38) else (
K363 x38 (nI n)))))))) Q := by
  obtain ⟨h1, hd, hn, e1, e2, hal, hf⟩ := id h.1
  have h6 := p2_le hd
  by_cases q : (zt cu.1.2.1 a = true ∧ zt cu.1.2.1 b = true) ∧ n < 24
  · obtain ⟨⟨as, at'⟩, hn24⟩ := q
    rw [as, at'] at hbo
    refine wp_obW (o_send h ha hb as at' hn24) (fun u hu => ?_)
    obtain ⟨e, hI, hL, g1, g2, g3⟩ := hu
    rw [e]
    refine wp_bd (wp_jq (fun K363 => wp (K363 (nI n) (nI n)) Q) ?_ (fun K363 hk => wp_jp (wp_f (by rw [hbo]; decide) (wp_f (nI_ge (b := 24) hn24 (by decide)) hk))))
    refine wp_jq (fun K371 => wp (K371 1) Q) ?_ (fun K371 hk => wp_t rfl hk)
    refine wp_jq (fun K383 => wp (K383 1) Q) ?_ (fun K383 hk => wp_f (nI_pos (by omega)) hk)
    refine wp_t rfl (wp_gd (inb_nI hn24 (by decide)) (wp_bd (wp_bd ?_)))
    rw [nI_clamp (by omega), nI_1]
    refine wp_jp (wp_jp (wp_f (show ¬ (1 : Int32) = 0 by decide) (wp_ob (e_state hI.1 (Nat.lt_succ_self n)) ?_)))
    rw [g1]
    refine wp_jq (fun K423 => ∀ y : Int32, y = (if a = b then 1 else 0) → wp (K423 (if a = b then 1 else 0) y) Q) (fun y hy => ?_) (fun K423 hk => ?_)
    · refine wp_t hy.symm (wp_ob (e_position hI.1 (Nat.lt_succ_self n)) (wp_t g2 (wp_ob (e_moves hI.1 (Nat.lt_succ_self n)) (wp_t g3 ?_))))
      exact hK _ _ _ _ _ _ ⟨rfl, Or.inr ⟨n, 1, by omega, by omega, rfl, rfl, rfl, hI.mono (by omega), hL, fun i hi => upd_out _ _ (by omega)⟩⟩
    · by_cases z : a = b
      · exact wp_t (by rw [z]) (hk 1 (by rw [if_pos z]))
      · exact wp_f (fun y => z (nI_inj (by omega) (by omega) y)) (hk 0 (by rw [if_neg z]))
  · refine wp_ob (o_send_no h ha hb q) (wp_bd ?_)
    refine wp_jq (fun K363 => wp (K363 (-2000) (-2000)) Q) ?_ (fun K363 hk => wp_jp ?_)
    · refine wp_jq (fun K371 => wp (K371 1) Q) ?_ (fun K371 hk => wp_t rfl hk)
      refine wp_jq (fun K383 => wp (K383 0) Q) ?_ (fun K383 hk => wp_t (show (-2000 : Int32) < 0 by decide) hk)
      exact wp_f (show ¬ (0 : Int32) = 1 by decide) (hK _ _ _ _ _ _ ⟨rfl, Or.inl ⟨rfl, rfl, rfl, rfl⟩⟩)
    · by_cases z : bo = 0
      · exact wp_t z hk
      · refine wp_f z (wp_t ?_ hk)
        have hab : zt cu.1.2.1 a = true ∧ zt cu.1.2.1 b = true := by
          cases h1 : zt cu.1.2.1 a <;> cases h2 : zt cu.1.2.1 b <;> rw [h1, h2] at hbo <;> first | exact ⟨rfl, rfl⟩ | exact absurd hbo z
        exact nI_le (a := 24) (by
          rcases Nat.lt_or_ge n 24 with y | y
          · exact absurd ⟨hab, y⟩ q
          · exact y) (by omega)
theorem op_step {R : Type} {Q : R → Prop} {j : Nat} {x : Int32} (h : INV d n (3 * j) bg cu) (hj : j < 36) (K : Int32 → Int32 → Int32 → Int32 → (Nat → Int32) → CU → Option R) (hK : ∀ i4 i5 i14 i15 bg' cu', P516 d n j bg cu i4 i5 i14 i15 bg' cu' → wp (K i4 i5 i14 i15 bg' cu') Q) :
    wp (zob (F_count 0 cu) (fun u49 =>
zob (f_L_low x 3) (fun u50 =>
zbd (A := Int32) ((1 : Int32) + u50) (fun x51 =>
zob (F_step x51 cu) (fun u52 =>
zbd (A := Int32) u52.1 (fun x53 =>
zjp (T := Int32 → Option R) (fun (s0_514 : Int32) =>
K (nI n) s0_514 x53 0 bg u52.2) (fun K514 =>
zjp (T := Option R) (
K514 0) (fun K513 =>
if (x53 : Int32) < 0 then (
K513) else (
if ((x51 * u49) : Int32) < x53 then (
K513) else (
zob (F_count 0 u52.2) (fun u54 =>
if (u49 : Int32) < u54 then (
K513) else (
K514 1)))))))))))) Q := by
  obtain ⟨h1, hd, hn, e1, e2, hal, hf⟩ := id h.1
  have hc := e_count h.1 (x := 0) (by omega)
  obtain ⟨r, hr, elow⟩ := p_low x (m := 3) (by omega) (by omega)
  have hcl := ct_le (fun i => decide (cu.1.2.2.2.2.1 i = nI 0)) n
  refine wp_ob hc (wp_ob elow (wp_bd ?_))
  rw [show (1 : Int32) + nI r = nI (1 + r) from nI_add 1 r]
  refine wp_obW (o_step h (N := 1 + r) (by omega) (by omega) (by omega)) (fun u hu => ?_)
  obtain ⟨⟨q, hq, e⟩, hI, hL, hst⟩ := hu
  have hq' : q ≤ (1 + r) * fb_ct (fun i => decide (cu.1.2.2.2.2.1 i = nI 0)) n := hq
  have hb : (1 + r) * fb_ct (fun i => decide (cu.1.2.2.2.2.1 i = nI 0)) n ≤ 3 * 24 := Nat.mul_le_mul (by omega) (by omega)
  have hc2 := e_count hI.1 (x := 0) (by omega)
  have hle : fb_ct (fun i => decide (u.2.1.2.2.2.2.1 i = nI 0)) n ≤ fb_ct (fun i => decide (cu.1.2.2.2.2.1 i = nI 0)) n := fb_ct_sub (fun i hi z => decide_eq_true (hst i hi (of_decide_eq_true z)))
  rw [e]
  refine wp_bd (wp_jp (wp_jp (wp_f (nI_pos (by omega)) (wp_f ?_ (wp_ob hc2 (wp_f (nI_nlt hle (by omega)) (hK _ _ _ _ _ _ ⟨rfl, Or.inr ⟨q, 0, by omega, by omega, rfl, rfl, rfl, hI.mono (by omega), hL, fun _ _ => rfl⟩⟩)))))))
  rw [nI_mul]
  exact nI_nlt hq' (by omega)
end
