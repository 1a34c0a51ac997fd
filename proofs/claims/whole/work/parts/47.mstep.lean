/-! messages that move: the reference, and many steps -/
def UWR (d : Nat) (U : Nat → Nat) (us : Nat → Int32) : Prop := ∀ v, v < 2 ^ d → ∀ k, k < d → us (64 * v + (v ^^^ 2 ^ k)) = bI ((U v).testBit k)
def stS (d n : Nat) (a : Int64) (stp : Int32) (go : Nat → Int32) (T : (Nat → Int32) × (Nat → Int32) × (Nat → Int32) × (Nat → Int32)) : Sl := (nI d, a, stp, nI n, T.1, T.2.1, go, T.2.2.1, T.2.2.2)
def mgo (c : Nat → Int32) (i w : Nat) (t : Bool) (x : Int32) : Nat → Int32 := upd (upd (upd (upd c (68 + 5 * i) (nI w)) (70 + 5 * i) (c (70 + 5 * i) + 1)) (71 + 5 * i) (c (71 + 5 * i) + bI t)) (67 + 5 * i) x
theorem RN_go {d n i p g b : Nat} {t : Bool} {a : Int64} {stp : Int32} {go c : Nat → Int32} {S : CS} (hd : d ≤ 6) (h : RN (stS d n a stp go S.2.2) c) (hn : n ≤ 24) (hi : i < n) (hp : p < 2 ^ d) (hb : b < d) (eg : c (69 + 5 * i) = nI g) (hg : g < 2 ^ d) (h0 : c (67 + 5 * i) = 0) :
    RN (stS d n a stp go (cgo p g b i t S).2.2) (mgo c i (p ^^^ 2 ^ b) t (if p ^^^ 2 ^ b = g then 1 else 0)) := by
  obtain ⟨d', n', hd1, hd', hn', h1, h2, h3, h4, h5, h6, h7, h8⟩ := h
  have : d = d' := nI_inj (by omega) (by omega) h1
  subst this
  have : n = n' := nI_inj (by omega) (by omega) h6
  subst this
  have h64 := p2_le hd
  have ho : ∀ j, (j < 67 + 5 * i ∨ 71 + 5 * i < j) → mgo c i (p ^^^ 2 ^ b) t (if p ^^^ 2 ^ b = g then 1 else 0) j = c j := fun j hj => by
    simp only [mgo, upd]
    rw [if_neg (by omega), if_neg (by omega), if_neg (by omega), if_neg (by omega)]
  refine ⟨d, n, hd1, hd, hn, rfl, (ho 0 (by omega)).trans h2, fun v hv => by rw [ho _ (by omega)]; exact h3 v hv, h4, h5.trans (ho 1 (by omega)).symm, rfl, (ho 2 (by omega)).trans h7, fun j hj => ?_⟩
  by_cases e : j = i
  · subst e
    obtain ⟨a1, a2, a3, a4, a5, -⟩ := h8 j hj
    have k0 : mgo c j (p ^^^ 2 ^ b) t (if p ^^^ 2 ^ b = g then 1 else 0) (67 + 5 * j) = if p ^^^ 2 ^ b = g then 1 else 0 := if_pos rfl
    have k1 : mgo c j (p ^^^ 2 ^ b) t (if p ^^^ 2 ^ b = g then 1 else 0) (68 + 5 * j) = nI (p ^^^ 2 ^ b) := by
      simp only [mgo, upd]
      rw [if_neg (by omega), if_neg (by omega), if_neg (by omega)]
      exact if_pos trivial
    have k2 : mgo c j (p ^^^ 2 ^ b) t (if p ^^^ 2 ^ b = g then 1 else 0) (69 + 5 * j) = c (69 + 5 * j) := by
      simp only [mgo, upd]
      rw [if_neg (by omega), if_neg (by omega), if_neg (by omega), if_neg (by omega)]
    have k3 : mgo c j (p ^^^ 2 ^ b) t (if p ^^^ 2 ^ b = g then 1 else 0) (70 + 5 * j) = c (70 + 5 * j) + 1 := by
      simp only [mgo, upd]
      rw [if_neg (by omega), if_neg (by omega)]
      exact if_pos trivial
    have k4 : mgo c j (p ^^^ 2 ^ b) t (if p ^^^ 2 ^ b = g then 1 else 0) (71 + 5 * j) = c (71 + 5 * j) + bI t := by
      simp only [mgo, upd]
      rw [if_neg (by omega)]
      exact if_pos trivial
    unfold RM
    rw [k0, k1, k2, k3, k4]
    refine ⟨?_, if_pos rfl, a3, ?_, ?_, p ^^^ 2 ^ b, g, nb_lt hd hp hb, hg, rfl, eg⟩
    · show (if p ^^^ 2 ^ b = g then upd S.2.2.1 j 1 else S.2.2.1) j = _
      by_cases q : p ^^^ 2 ^ b = g
      · rw [if_pos q, if_pos q]; exact if_pos rfl
      · rw [if_neg q, if_neg q]; exact a1.trans h0
    · show upd S.2.2.2.2.1 j (S.2.2.2.2.1 j + 1) j = _
      rw [upd, if_pos rfl]; exact congrArg (· + 1) a4
    · show (if t = true then upd S.2.2.2.2.2 j (S.2.2.2.2.2 j + 1) else S.2.2.2.2.2) j = _
      cases t with
      | true => rw [if_pos rfl, upd, if_pos rfl]; exact congrArg (· + 1) a5
      | false => rw [if_neg (by decide)]; exact a5.trans (Int32.add_zero _).symm
  · have := h8 j hj
    unfold RM at *
    rw [ho _ (by omega), ho _ (by omega), ho _ (by omega), ho _ (by omega), ho _ (by omega)]
    obtain ⟨a1, a2, a3, a4, a5, a6⟩ := this
    refine ⟨?_, (if_neg e).trans a2, a3, (if_neg e).trans a4, ?_, a6⟩
    · show (if p ^^^ 2 ^ b = g then upd S.2.2.1 i 1 else S.2.2.1) j = _
      split
      · exact (if_neg e).trans a1
      · exact a1
    · show (if t = true then upd S.2.2.2.2.2 i (S.2.2.2.2.2 i + 1) else S.2.2.2.2.2) j = _
      split
      · exact (if_neg e).trans a5
      · exact a5
theorem xor_bit_inj {v b k : Nat} (h : v ^^^ 2 ^ b = v ^^^ 2 ^ k) : b = k := by
  have := congrArg (fun x => (v ^^^ x).testBit b) h
  simp only [← Nat.xor_assoc, Nat.xor_self, Nat.zero_xor, Nat.testBit_two_pow_self] at this
  rw [Nat.testBit_two_pow] at this
  exact (by simpa using this : k = b).symm
theorem or_tb : ∀ m, m < 64 → ∀ b, b < 6 → ∀ k, k < 6 → (m ||| 2 ^ b).testBit k = (m.testBit k || decide (k = b)) := by decide +kernel
theorem UWR_go {d p b : Nat} {U : Nat → Nat} {us : Nat → Int32} (hd : d ≤ 6) (h : UWR d U us) (hU : ∀ v, U v < 64) (hp : p < 2 ^ d) (hb : b < d) : UWR d (uN2 U p (U p ||| 2 ^ b)) (upd us (64 * p + (p ^^^ 2 ^ b)) 1) := fun v hv k hk => by
  have h6 := p2_le hd
  have h1 := nb_lt hd hp hb
  have h2 := nb_lt hd hv hk
  unfold upd uN2
  by_cases e : v = p
  · subst e
    rw [if_pos rfl, or_tb _ (hU v) b (by omega) k (by omega)]
    by_cases e2 : k = b
    · rw [e2, if_pos rfl, decide_eq_true rfl, Bool.or_true]; rfl
    · rw [if_neg (fun q => e2 (xor_bit_inj (v := v) (by omega))), decide_eq_false e2, Bool.or_false]
      exact h v hv k hk
  · rw [if_neg e, if_neg (by omega)]
    exact h v hv k hk
theorem m_bestA {c g : Nat → Int32} {d v m : Nat} {al : Nat → Bool} {L : Nat → Nat} (h : MN c d al) (hv : v < 2 ^ d) (hm : m < 64) (hg : ∀ w, w < 2 ^ d → g w = nI (L w)) (hL : ∀ w, w < 2 ^ d → L w ≤ 6) : f_X7_best (nI v) (nI m) 1 c g = some (bW v (bstA d L al v m)) := m_best true h hv hm hg hL
theorem m_goesOn {d n i : Nat} {a : Int64} {stp : Int32} {go c lv us : Nat → Int32} {S : CS} (h : RN (stS d n a stp go S.2.2) c) (hd : d ≤ 6) (hn : n ≤ 24) (hi : i < n) (h0 : c (67 + 5 * i) = 0) (hU : ∀ v, S.2.1 v < 64) (hu : UWR d S.2.1 us) (hlv : ∀ w, w < 2 ^ d → lv w = nI (LV d (zt a) w)) :
    wp (f_X7_goesOn (nI (67 + 5 * i)) c lv us) (fun r => (∀ x, nI (x + S.1) + r.1 = nI (x + (cmv d (LV d (zt a)) (zt a) go i S).1)) ∧ RN (stS d n a stp go (cmv d (LV d (zt a)) (zt a) go i S).2.2) r.2.1 ∧ UWR d (cmv d (LV d (zt a)) (zt a) go i S).2.1 r.2.2) := by
  obtain ⟨d', n', e1, e2, hM, ha, hB, hR⟩ := RN_MN h
  have : d = d' := nI_inj (by omega) (by have := hB.2.2.1; omega) e1
  subst this
  have : n = n' := nI_inj (by omega) (by have := hB.2.1; omega) e2
  subst this
  have h6 := p2_le hd
  have hL : ∀ w, w < 2 ^ d → LV d (zt a) w ≤ 6 := fun w _ => Nat.le_trans (lvl_le d (zt a) _ w) hd
  obtain ⟨a1, a2, a3, a4, a5, p, g, hp, hg, c1, c2⟩ := hR i hi
  have hs0 : S.2.2.1 i = 0 := a1.trans h0
  replace hM : MN c d (zt a) := hM
  replace a2 : S.2.2.2.1 i = c (68 + 5 * i) := a2
  replace a3 : go i = c (69 + 5 * i) := a3
  replace a5 : S.2.2.2.2.2 i = c (71 + 5 * i) := a5
  rw [cmv_at (n := n) hd hp hg (a2.trans c1) (a3.trans c2), if_pos hs0]
  have hx : p ^^^ g < 2 ^ d := Nat.xor_lt_two_pow hp hg
  have same : (∀ x, nI (x + S.1) + 0 = nI (x + S.1)) ∧ RN (stS d n a stp go S.2.2) c ∧ UWR d S.2.1 us := ⟨fun x => Int32.add_zero _, h, hu⟩
  unfold f_X7_goesOn
  rw [show nI (67 + 5 * i) + (1 : Int32) = nI (68 + 5 * i) from nI_addc (b := 1) (by omega), show nI (67 + 5 * i) + (2 : Int32) = nI (69 + 5 * i) from nI_addc (b := 2) (by omega), show nI (67 + 5 * i) + (3 : Int32) = nI (70 + 5 * i) from nI_addc (b := 3) (by omega), show nI (67 + 5 * i) + (4 : Int32) = nI (71 + 5 * i) from nI_addc (b := 4) (by omega), nI_clamp (show 68 + 5 * i < 2 ^ 31 by omega), nI_clamp (show 69 + 5 * i < 2 ^ 31 by omega), nI_clamp (show 70 + 5 * i < 2 ^ 31 by omega), nI_clamp (show 71 + 5 * i < 2 ^ 31 by omega)]
  refine wp_gd (inb_nI (by omega) (by decide)) (wp_bd (wp_gd (inb_nI (by omega) (by decide)) (wp_bd ?_)))
  rw [c1, c2, nx_xor]
  refine wp_ob (m_bestA hM hp (by omega) hlv hL) (wp_jp ?_)
  have stay : ∀ D : CS, D = S → (∀ x, nI (x + S.1) + (0 : Int32) = nI (x + D.1)) ∧ RN (stS d n a stp go D.2.2) c ∧ UWR d D.2.1 us := fun D hD => by rw [hD]; exact same
  have way : ∀ (b : Nat) (t : Bool), b < d → ∀ D : CS, D = (if (S.2.1 p).testBit b = true then S else cgo p g b i t S) → wp (
zgd (inb (((64 : Int32) * nI p) + nI (p ^^^ 2 ^ b)) 4096) (
if ((us ((((64 : Int32) * nI p) + nI (p ^^^ 2 ^ b)) : Int32).toNatClampNeg) : Int32) = 0 then (
zgd (inb (((64 : Int32) * nI p) + nI (p ^^^ 2 ^ b)) 4096) (
zbd (A := (Nat → Int32)) (upd us ((((64 : Int32) * nI p) + nI (p ^^^ 2 ^ b)) : Int32).toNatClampNeg (vp_nar .boolean 1)) (fun y8 =>
zgd (inb (nI (68 + 5 * i)) 187) (
zbd (A := (Nat → Int32)) (upd c (68 + 5 * i) (nI (p ^^^ 2 ^ b))) (fun y10 =>
zgd (inb (nI (70 + 5 * i)) 187) (
zbd (A := Int32) ((y10 (70 + 5 * i)) + (1 : Int32)) (fun x12 =>
zgd (inb (nI (70 + 5 * i)) 187) (
zbd (A := (Nat → Int32)) (upd y10 (70 + 5 * i) x12) (fun y14 =>
zgd (inb (nI (71 + 5 * i)) 187) (
zjp (T := Int32 → Int32 → Int32 → Option rt_X7_goesOn) (fun (s1_150 : Int32) (s2_150 : Int32) (s3_150 : Int32) =>
zbd (A := Int32) (s2_150 + s3_150) (fun x16 =>
zgd (inb s1_150 187) (
zbd (A := (Nat → Int32)) (upd y14 (s1_150 : Int32).toNatClampNeg x16) (fun y18 =>
zjp (T := Int32 → Int32 → Option rt_X7_goesOn) (fun (s1_168 : Int32) (s2_168 : Int32) =>
zgd (inb s1_168 187) (
zbd (A := (Nat → Int32)) (upd y18 (s1_168 : Int32).toNatClampNeg s2_168) (fun y20 =>
some (1, y20, y8)))) (fun K168 =>
if (nI (p ^^^ 2 ^ b) : Int32) = nI g then (
K168 (nI (67 + 5 * i)) 1) else (
K168 (nI (67 + 5 * i)) 0)))))) (fun K150 =>
if (bI t : Int32) = 0 then (
K150 (nI (71 + 5 * i)) (y14 (71 + 5 * i)) 0) else (
K150 (nI (71 + 5 * i)) (y14 (71 + 5 * i)) 1)))))))))))) else (
some (0, c, us)))) (fun r => (∀ x, nI (x + S.1) + r.1 = nI (x + D.1)) ∧ RN (stS d n a stp go D.2.2) r.2.1 ∧ UWR d D.2.1 r.2.2) := fun b t hb D hD => by
    have hw : p ^^^ 2 ^ b < 2 ^ d := nb_lt hd hp hb
    rw [show (64 : Int32) * nI p + nI (p ^^^ 2 ^ b) = nI (64 * p + (p ^^^ 2 ^ b)) by rw [show (64 : Int32) * nI p = nI (64 * p) from nI_mul 64 p, nI_add], nI_clamp (show 64 * p + (p ^^^ 2 ^ b) < 2 ^ 31 by omega), hu p hp b hb]
    refine wp_gd (inb_nI (by omega) (by decide)) ?_
    cases hbt : (S.2.1 p).testBit b with
    | true =>
      rw [hbt, if_pos rfl] at hD
      exact wp_f (show ¬ bI true = 0 by decide) (wp_some (stay D hD))
    | false =>
      rw [hbt, if_neg (by decide)] at hD
      rw [hD]
      have z1 : upd c (68 + 5 * i) (nI (p ^^^ 2 ^ b)) (70 + 5 * i) = c (70 + 5 * i) := if_neg (by omega)
      have z2 : upd (upd c (68 + 5 * i) (nI (p ^^^ 2 ^ b))) (70 + 5 * i) (c (70 + 5 * i) + 1) (71 + 5 * i) = c (71 + 5 * i) := (if_neg (by omega)).trans (if_neg (by omega))
      refine wp_t rfl (wp_gd (inb_nI (by omega) (by decide)) (wp_bd (wp_gd (inb_nI (by omega) (by decide)) (wp_bd (wp_gd (inb_nI (by omega) (by decide)) (wp_bd (wp_gd (inb_nI (by omega) (by decide)) (wp_bd (wp_gd (inb_nI (by omega) (by decide)) (wp_jp ?_))))))))))
      dsimp only
      rw [z1, z2]
      have fin : ∀ x : Int32, x = bI t → wp (zbd (A := Int32) (c (71 + 5 * i) + x) (fun x16 =>
zgd (inb (nI (71 + 5 * i)) 187) (
zbd (A := (Nat → Int32)) (upd (upd (upd c (68 + 5 * i) (nI (p ^^^ 2 ^ b))) (70 + 5 * i) (c (70 + 5 * i) + 1)) (nI (71 + 5 * i) : Int32).toNatClampNeg x16) (fun y18 =>
zjp (T := Int32 → Int32 → Option rt_X7_goesOn) (fun (s1_168 : Int32) (s2_168 : Int32) =>
zgd (inb s1_168 187) (
zbd (A := (Nat → Int32)) (upd y18 (s1_168 : Int32).toNatClampNeg s2_168) (fun y20 =>
some (1, y20, (upd us (64 * p + (p ^^^ 2 ^ b)) (vp_nar .boolean 1)))))) (fun K168 =>
if (nI (p ^^^ 2 ^ b) : Int32) = nI g then (
K168 (nI (67 + 5 * i)) 1) else (
K168 (nI (67 + 5 * i)) 0)))))) (fun r => (∀ x, nI (x + S.1) + r.1 = nI (x + (cgo p g b i t S).1)) ∧ RN (stS d n a stp go (cgo p g b i t S).2.2) r.2.1 ∧ UWR d (cgo p g b i t S).2.1 r.2.2) := fun x hx => by
        refine wp_bd (wp_gd (inb_nI (by omega) (by decide)) (wp_bd (wp_jp ?_)))
        dsimp only
        rw [nI_clamp (show 71 + 5 * i < 2 ^ 31 by omega), nI_clamp (show 67 + 5 * i < 2 ^ 31 by omega), hx]
        have hRN := RN_go (b := b) (t := t) hd h hn hi hp hb c2 hg h0
        have hUW : UWR d (cgo p g b i t S).2.1 (upd us (64 * p + (p ^^^ 2 ^ b)) 1) := UWR_go hd hu hU hp hb
        have hc : ∀ x, nI (x + S.1) + 1 = nI (x + (cgo p g b i t S).1) := fun x => by rw [nI_1]; rfl
        by_cases q : p ^^^ 2 ^ b = g
        · rw [if_pos q] at hRN
          exact wp_t (by rw [q]) (wp_gd (inb_nI (by omega) (by decide)) (wp_bd (wp_some ⟨hc, hRN, hUW⟩)))
        · rw [if_neg q] at hRN
          exact wp_f (fun q2 => q (nI_inj (by omega) (by omega) q2)) (wp_gd (inb_nI (by omega) (by decide)) (wp_bd (wp_some ⟨hc, hRN, hUW⟩)))
      cases t with
      | true => exact wp_f (by decide) (fin 1 rfl)
      | false => exact wp_t rfl (fin 0 rfl)
  cases hb0 : bstA d (LV d (zt a)) (zt a) p (p ^^^ g) with
  | some b =>
    have hwy : wyO d (LV d (zt a)) (zt a) p g (S.2.2.2.2.2 i) = some (b, false) := by rw [wyO, hb0]
    have hbd := (bst_lt hb0).1
    have hw : p ^^^ 2 ^ b < 2 ^ d := nb_lt hd hp hbd
    rw [hwy]
    refine wp_f (show ¬ nI (p ^^^ 2 ^ b) = -1 from nI_ne_m1 (by omega)) (wp_jp (wp_t rfl (wp_f (show ¬ nI (p ^^^ 2 ^ b) = -1 from nI_ne_m1 (by omega)) ?_)))
    exact way b false hbd _ rfl
  | none =>
    refine wp_t rfl (wp_jp (wp_f (by decide) (wp_gd (inb_nI (by omega) (by decide)) ?_)))
    rw [← a5]
    by_cases h2 : (2 : Int32) ≤ S.2.2.2.2.2 i
    · have hwy : wyO d (LV d (zt a)) (zt a) p g (S.2.2.2.2.2 i) = none := by rw [wyO, hb0]; exact if_pos h2
      rw [hwy]
      exact wp_t h2 (wp_t rfl (wp_some (stay _ rfl)))
    · refine wp_f h2 (wp_ob (m_spare hM hp hg) (wp_ob (m_bestA hM hp (spr_lt hd) hlv hL) ?_))
      cases hb1 : bstA d (LV d (zt a)) (zt a) p (spr d (p ^^^ g)) with
      | some b =>
        have hwy : wyO d (LV d (zt a)) (zt a) p g (S.2.2.2.2.2 i) = some (b, true) := by
          rw [wyO, hb0]
          dsimp only
          rw [if_neg h2, hb1]
        have hbd := (bst_lt hb1).1
        have hw : p ^^^ 2 ^ b < 2 ^ d := nb_lt hd hp hbd
        rw [hwy]
        refine wp_f (show ¬ nI (p ^^^ 2 ^ b) = -1 from nI_ne_m1 (by omega)) ?_
        exact way b true hbd _ rfl
      | none =>
        have hwy : wyO d (LV d (zt a)) (zt a) p g (S.2.2.2.2.2 i) = none := by
          rw [wyO, hb0]
          dsimp only
          rw [if_neg h2, hb1]
        rw [hwy]
        exact wp_t rfl (wp_some (stay _ rfl))
