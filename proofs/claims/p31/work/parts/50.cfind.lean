/-! the search of the class -/
theorem s_exit {v : Nat} : f_X1_exit (nI v) = some (nI (2 * v + 1)) := by
  unfold f_X1_exit
  rw [show (2 : Int32) * nI v = nI (2 * v) from nI_mul 2 v, nI_1]
theorem s_entry {v : Nat} : f_X1_entry (nI v) = some (nI (2 * v)) := by
  unfold f_X1_entry
  rw [show (2 : Int32) * nI v = nI (2 * v) from nI_mul 2 v]
theorem half_2 : ∀ x, x < 128 → nI x / (2 : Int32) = nI (x / 2) := by decide +kernel
def CL (d : Nat) (lv : Nat → Int32) (U : Nat → Nat) : Prop := (∀ v, v < 64 → lv v = nI (U v)) ∧ ∀ v, U v < 2 ^ d
theorem s_searchX {d v s : Nat} {U : Nat → Nat} {a : Int64} {lv cf q : Nat → Int32} {m : Int32} {B : BS} (hd : d ≤ 6) (hv : v < 2 ^ d) (hs : s < 2 ^ d) (hl : CL d lv U) (hB : BV d U (zt a) s B) (hx : B.2.1 (2 * v + 1) ≠ none) (h : CB m cf q B) :
    wp (f_X1_searchFromExit (nI v) m (nI s) (nI d) a lv cf q) (fun r => CB r.1 r.2.1 r.2.2 (expX d U (zt a) s v B)) := by
  have h6 := p2_le hd
  have hUv := hl.2 v
  refine wp_ob (s_read lv (show v < 64 by omega) (by decide)) ?_
  rw [hl.1 v (by omega)]
  refine zl4_wp (fun i3 m cf q => ∃ k, k ≤ d ∧ i3 = nI k ∧ CB m cf q (exX U (zt a) s v k B)) (fun i3 _ _ _ => 100 - i3.toNatClampNeg) (fun K i3 m cf q hI ih => ?_) 0 m cf q ⟨0, Nat.zero_le d, rfl, h⟩ (by decide)
  obtain ⟨k, hk, rfl, hC⟩ := hI
  by_cases hkd : k < d
  · have hw := nb_lt hd hv hkd
    have emu : 100 - (nI (k + 1)).toNatClampNeg < 100 - (nI k).toNatClampNeg := by
      rw [nI_clamp (by omega), nI_clamp (by omega)]; omega
    obtain ⟨b1, b2⟩ := exX_ok hd hv hB hx k hk
    have es : exX U (zt a) s v (k + 1) B = if (U v).testBit k = false ∧ v ^^^ 2 ^ k ≠ s ∧ zt a (v ^^^ 2 ^ k) = true then dsc (2 * v + 1) (2 * (v ^^^ 2 ^ k)) (exX U (zt a) s v k B) else exX U (zt a) s v k B := rfl
    refine wp_f (nI_ge hkd (by omega)) (wp_ob (s_neighbour v (by omega)) (wp_ob (s_hasBit _ (by omega) k (by omega)) (wp_jp ?_)))
    have no : ¬ ((U v).testBit k = false ∧ v ^^^ 2 ^ k ≠ s ∧ zt a (v ^^^ 2 ^ k) = true) → wp (K (nI k + 1) m cf q) (fun r => CB r.1 r.2.1 r.2.2 (expX d U (zt a) s v B)) := fun hno => by
      rw [nI_1]
      exact ih _ _ _ _ ⟨k + 1, hkd, rfl, by rw [es, if_neg hno]; exact hC⟩ emu
    cases hb : (U v).testBit k with
    | true => exact wp_f (show ¬ bI true = 0 by decide) (wp_bd (no (fun z => by rw [hb] at z; exact absurd z.1 (by decide))))
    | false =>
      refine wp_t rfl ?_
      by_cases hws : v ^^^ 2 ^ k = s
      · exact wp_t (by rw [hws]) (wp_bd (no (fun z => z.2.1 hws)))
      · refine wp_f (fun z => hws (nI_inj (by omega) (by omega) z)) (wp_ob (s_contains a (by omega)) ?_)
        cases ha : zt a (v ^^^ 2 ^ k) with
        | false => exact wp_t rfl (wp_bd (no (fun z => by rw [ha] at z; exact absurd z.2.2 (by decide))))
        | true =>
          refine wp_f (show ¬ bI true = 0 by decide) (wp_ob s_entry (wp_ob s_exit (wp_obW (s_discover hd b1 (by omega) hC) (fun r hr => wp_bd ?_))))
          rw [nI_1]
          exact ih _ _ _ _ ⟨k + 1, hkd, rfl, by rw [es, if_pos ⟨hb, hws, ha⟩]; exact hr⟩ emu
  · have : k = d := by omega
    subst this
    obtain ⟨b1, b2⟩ := exX_ok hd hv hB hx k (Nat.le_refl k)
    refine wp_t (nI_le (Nat.le_refl _) (by omega)) ?_
    unfold expX
    by_cases hvs : v = s
    · refine wp_t (by rw [hvs]) (wp_some ?_)
      rw [if_neg (fun z => z.1 hvs)]
      exact hC
    · refine wp_f (fun z => hvs (nI_inj (by omega) (by omega) z)) ?_
      by_cases hu0 : U v = 0
      · refine wp_t (by rw [hu0]; rfl) (wp_some ?_)
        rw [if_neg (fun z => z.2 hu0)]
        exact hC
      · refine wp_f (nI_ne0 (by omega) (by omega)) (wp_ob s_entry (wp_ob s_exit (wp_obW (s_discover hd b1 (by omega) hC) (fun r hr => wp_some ?_))))
        rw [if_pos ⟨hvs, hu0⟩]
        exact hr
theorem s_searchE {d v s : Nat} {U : Nat → Nat} {a : Int64} {lv cf q : Nat → Int32} {m : Int32} {B : BS} (hd : d ≤ 6) (hv : v < 2 ^ d) (hl : CL d lv U) (hB : BV d U (zt a) s B) (hx : B.2.1 (2 * v) ≠ none) (h : CB m cf q B) :
    wp (f_X1_searchFromEntry (nI v) m (nI d) lv cf q) (fun r => CB r.1 r.2.1 r.2.2 (expE d U v B)) := by
  have h6 := p2_le hd
  have hUv := hl.2 v
  refine wp_ob (s_read lv (show v < 64 by omega) (by decide)) ?_
  rw [hl.1 v (by omega)]
  obtain ⟨e1, e2⟩ := expE1_ok hd hv hB hx
  have main : ∀ m cf q, CB m cf q (if U v = 0 then dsc (2 * v) (2 * v + 1) B else B) → wp (
zl4 (R := rt_X1_searchFromEntry) (fun k25 (i2_25 : Int32) (v_this_found_25 : Int32) (c_this_cameFrom_25 : (Nat → Int32)) (c_this_queue_25 : (Nat → Int32)) =>
if (nI d : Int32) ≤ i2_25 then (
some (v_this_found_25, c_this_cameFrom_25, c_this_queue_25)) else (
zob (f_X6_neighbour (nI v) i2_25) (fun u2 =>
zob (f_X6_read 64 u2 lv) (fun u3 =>
zob (f_X6_hasBit u3 i2_25) (fun u4 =>
zjp (T := Int32 → (Nat → Int32) → (Nat → Int32) → Option rt_X1_searchFromEntry) (fun (v_this_found_66 : Int32) (c_this_cameFrom_66 : (Nat → Int32)) (c_this_queue_66 : (Nat → Int32)) =>
zbd (A := Int32) (i2_25 + 1) (fun x5 =>
k25 x5 v_this_found_66 c_this_cameFrom_66 c_this_queue_66)) (fun K66 =>
if (u4 : Int32) = 0 then (
K66 v_this_found_25 c_this_cameFrom_25 c_this_queue_25) else (
zob (f_X1_exit u2) (fun u6 =>
zob (f_X1_entry (nI v)) (fun u7 =>
zob (f_X1_discover u6 u7 v_this_found_25 c_this_cameFrom_25 c_this_queue_25) (fun u8 =>
K66 u8.1 u8.2.1 u8.2.2)))))))))) zfu 0 m cf q) (fun r => CB r.1 r.2.1 r.2.2 (expE d U v B)) := fun m cf q h => by
    refine zl4_wp (fun i3 m cf q => ∃ k, k ≤ d ∧ i3 = nI k ∧ CB m cf q (exE U v k (if U v = 0 then dsc (2 * v) (2 * v + 1) B else B))) (fun i3 _ _ _ => 100 - i3.toNatClampNeg) (fun K i3 m cf q hI ih => ?_) 0 m cf q ⟨0, Nat.zero_le d, rfl, h⟩ (by decide)
    obtain ⟨k, hk, rfl, hC⟩ := hI
    by_cases hkd : k < d
    · have hw := nb_lt hd hv hkd
      have emu : 100 - (nI (k + 1)).toNatClampNeg < 100 - (nI k).toNatClampNeg := by
        rw [nI_clamp (by omega), nI_clamp (by omega)]; omega
      obtain ⟨b1, b2⟩ := exE_ok hd hv e1 (BL_some e2 hx) k hk
      have es : exE U v (k + 1) (if U v = 0 then dsc (2 * v) (2 * v + 1) B else B) = if (U (v ^^^ 2 ^ k)).testBit k = true then dsc (2 * v) (2 * (v ^^^ 2 ^ k) + 1) (exE U v k (if U v = 0 then dsc (2 * v) (2 * v + 1) B else B)) else exE U v k (if U v = 0 then dsc (2 * v) (2 * v + 1) B else B) := rfl
      have hUw := hl.2 (v ^^^ 2 ^ k)
      refine wp_f (nI_ge hkd (by omega)) (wp_ob (s_neighbour v (by omega)) (wp_ob (s_read lv (show v ^^^ 2 ^ k < 64 by omega) (by decide)) ?_))
      rw [hl.1 _ (by omega)]
      refine wp_ob (s_hasBit _ (by omega) k (by omega)) (wp_jp ?_)
      cases hb : (U (v ^^^ 2 ^ k)).testBit k with
      | false =>
        refine wp_t rfl (wp_bd ?_)
        rw [nI_1]
        exact ih _ _ _ _ ⟨k + 1, hkd, rfl, by rw [es, hb, if_neg (by decide)]; exact hC⟩ emu
      | true =>
        refine wp_f (show ¬ bI true = 0 by decide) (wp_ob s_exit (wp_ob s_entry (wp_obW (s_discover hd b1 (by omega) hC) (fun r hr => wp_bd ?_))))
        rw [nI_1]
        exact ih _ _ _ _ ⟨k + 1, hkd, rfl, by rw [es, if_pos hb]; exact hr⟩ emu
    · have : k = d := by omega
      subst this
      exact wp_t (nI_le (Nat.le_refl _) (by omega)) (wp_some hC)
  refine wp_jp ?_
  by_cases hu0 : U v = 0
  · refine wp_t (by rw [hu0]; rfl) (wp_ob s_exit (wp_ob s_entry (wp_obW (s_discover hd hB (by omega) h) (fun r hr => ?_))))
    exact main _ _ _ (by rw [if_pos hu0]; exact hr)
  · refine wp_f (nI_ne0 (by omega) (by omega)) ?_
    exact main _ _ _ (by rw [if_neg hu0]; exact h)
def fpQ (d : Nat) (U : Nat → Nat) (al : Nat → Bool) (s t : Nat) (r : rt_X1_findsPath) : Prop := (r.1 = 1 ∧ ∃ i, (bs d U al s i).2.1 (2 * t) ≠ none ∧ CB r.2.1 r.2.2.1 r.2.2.2 (bs d U al s i)) ∨ (r.1 = 0 ∧ ∃ i, (bs d U al s i).1 ≤ i ∧ (bs d U al s i).2.1 (2 * t) = none)
theorem s_findsPath {d s t : Nat} {U : Nat → Nat} {a : Int64} {lv cf q : Nat → Int32} {m : Int32} (hd : d ≤ 6) (hs : s < 2 ^ d) (ht : t < 2 ^ d) (hl : CL d lv U) :
    wp (f_X1_findsPath m (nI s) (nI t) (nI d) a lv cf q) (fpQ d U (zt a) s t) := by
  have h6 := p2_le hd
  obtain ⟨c0, e0, hc0⟩ := s_fillI (n := 128) (-1) cf (by decide)
  refine wp_ob e0 (wp_ob s_exit (wp_ob s_exit ?_))
  have hd0 : f_X1_discover (nI (2 * s + 1)) (nI (2 * s + 1)) 0 c0 q = some (nI 1, upd c0 (2 * s + 1) (nI (2 * s + 1)), upd q 0 (nI (2 * s + 1))) := by
    refine (zob_eq (s_read c0 (show 2 * s + 1 < 128 by omega) (by decide))).trans ?_
    rw [hc0 _ (by omega)]
    exact (if_pos rfl).trans ((zob_eq (s_write c0 _ (show 2 * s + 1 < 128 by omega) (by decide))).trans ((zob_eq (s_write (j := 0) q _ (by decide) (by decide))).trans rfl))
  refine wp_ob hd0 ?_
  have hC0 : CB (nI 1) (upd c0 (2 * s + 1) (nI (2 * s + 1))) (upd q 0 (nI (2 * s + 1))) (bs d U (zt a) s 0) := by
    refine ⟨rfl, fun y hy => ?_, fun j hj => ?_⟩
    · show upd c0 _ _ y = oI (if y = 2 * s + 1 then some (2 * s + 1) else none)
      unfold upd
      by_cases e : y = 2 * s + 1
      · rw [if_pos e, if_pos e]; rfl
      · rw [if_neg e, if_neg e]; exact hc0 y hy
    · have : j = 0 := Nat.lt_one_iff.mp hj
      subst this
      show upd q 0 _ 0 = nI (uN2 (fun _ => 0) 0 (2 * s + 1) 0)
      rw [upd, if_pos rfl, uN2, if_pos rfl]
  refine zl4_wp (fun i1 m cf q => ∃ i, i1 = nI i ∧ i ≤ (bs d U (zt a) s i).1 ∧ CB m cf q (bs d U (zt a) s i) ∧ ∀ j, j < i → (bs d U (zt a) s i).2.2 j ≠ 2 * t) (fun i1 _ _ _ => 1000 - i1.toNatClampNeg) (fun K i1 m cf q hI ih => ?_) 0 _ _ _ ⟨0, rfl, Nat.zero_le _, hC0, fun j hj => absurd hj (Nat.not_lt_zero j)⟩ (by decide)
  obtain ⟨i, rfl, hi, hC, hn⟩ := hI
  have hB := bs_ok (U := U) (al := zt a) hd hs i
  have h128 := BV_le hB
  by_cases him : i < (bs d U (zt a) s i).1
  · rw [hC.1]
    refine wp_f (nI_ge him (by omega)) (wp_f (show ¬ nI 128 ≤ nI i from nI_ge (by omega) (by decide)) (wp_gd (inb_nI (by omega) (by decide)) (wp_bd (wp_ob s_entry ?_))))
    rw [nI_clamp (show i < 2 ^ 31 by omega), hC.2.2 i him]
    have hx := hB.2.2.1 i him
    have hxl : (bs d U (zt a) s i).2.2 i < 2 * 2 ^ d := by
      cases e : (bs d U (zt a) s i).2.1 ((bs d U (zt a) s i).2.2 i) with
      | none => exact absurd e hx
      | some w => exact (hB.2.1 _ w e).1
    by_cases hxt : (bs d U (zt a) s i).2.2 i = 2 * t
    · refine wp_t (by rw [hxt]) (wp_some (Or.inl ⟨rfl, i, ?_, ?_⟩))
      · rw [← hxt]; exact hx
      · rw [← hC.1]; exact hC
    · refine wp_f (fun z => hxt (nI_inj (by omega) (by omega) z)) ?_
      rw [half_2 _ (by omega)]
      refine wp_ob s_entry (wp_jp ?_)
      have es : bs d U (zt a) s (i + 1) = expd d U (zt a) s ((bs d U (zt a) s i).2.2 i) (bs d U (zt a) s i) := by rw [bs, if_pos him]
      have hle := bs_le (U := U) (al := zt a) hd hs i 1
      have next : ∀ m cf q, CB m cf q (bs d U (zt a) s (i + 1)) → wp (K (nI i + 1) m cf q) (fpQ d U (zt a) s t) := fun m cf q hC' => by
        rw [nI_1]
        refine ih _ _ _ _ ⟨i + 1, rfl, Nat.le_trans him hle.1, hC', fun j hj => ?_⟩ (by rw [nI_clamp (by omega), nI_clamp (by omega)]; omega)
        rw [hle.2.2 j (by omega)]
        by_cases e : j = i
        · rw [e]; exact hxt
        · exact hn j (by omega)
      rw [← hC.1]
      by_cases hev : (bs d U (zt a) s i).2.2 i % 2 = 0
      · have e2x : 2 * ((bs d U (zt a) s i).2.2 i / 2) = (bs d U (zt a) s i).2.2 i := by omega
        refine wp_t (congrArg nI e2x.symm) (wp_obW (s_searchE (v := (bs d U (zt a) s i).2.2 i / 2) hd (by omega) hl hB (by rw [e2x]; exact hx) hC) (fun r hr => wp_bd (next _ _ _ ?_)))
        rw [es, expd, if_pos hev]
        exact hr
      · have e2x : 2 * ((bs d U (zt a) s i).2.2 i / 2) + 1 = (bs d U (zt a) s i).2.2 i := by omega
        refine wp_f (fun z => by have := nI_inj (a := (bs d U (zt a) s i).2.2 i) (b := 2 * ((bs d U (zt a) s i).2.2 i / 2)) (by omega) (by omega) z; omega) (wp_obW (s_searchX (v := (bs d U (zt a) s i).2.2 i / 2) hd (by omega) hs hl hB (by rw [e2x]; exact hx) hC) (fun r hr => wp_bd (next _ _ _ ?_)))
        rw [es, expd, if_neg hev]
        exact hr
  · rw [hC.1]
    refine wp_t (nI_le (by omega) (by omega)) (wp_some (Or.inr ⟨rfl, i, by omega, ?_⟩))
    cases e : (bs d U (zt a) s i).2.1 (2 * t) with
    | none => rfl
    | some w =>
      obtain ⟨j, j1, j2⟩ := hB.2.2.2.2.2.2.2.1 _ w e
      exact absurd j2 (hn j (by omega))
