/-! the search of the reference -/
def MC (x : Nat) : Nat := if x % 2 = 0 then x / 2 else 64 + x / 2
theorem MC_e (v : Nat) : MC (2 * v) = v := by unfold MC; rw [if_pos (by omega)]; omega
theorem MC_x (v : Nat) : MC (2 * v + 1) = 64 + v := by unfold MC; rw [if_neg (by omega)]; omega
theorem MC_lt {x : Nat} (h : x < 128) : MC x < 128 := by unfold MC; split <;> omega
theorem MC_inj {x y : Nat} (hx : x < 128) (hy : y < 128) (h : MC x = MC y) : x = y := by
  unfold MC at h
  split at h <;> split at h <;> omega
def oM (o : Option Nat) : Int32 := match o with | none => -1 | some x => nI (MC x)
def CM (m : Int32) (cm hv : Nat → Int32) (B : BS) : Prop := m = nI B.1 ∧ (∀ x, x < 128 → cm (MC x) = oM (B.2.1 x)) ∧ ∀ j, j < B.1 → hv j = nI (MC (B.2.2 j))
theorem oM_none (o : Option Nat) (h : ∀ x, o = some x → x < 128) : oM o = -1 ↔ o = none := by
  cases o with
  | none => exact ⟨fun _ => rfl, fun _ => rfl⟩
  | some x =>
    have := MC_lt (h x rfl)
    exact ⟨fun q => absurd q (nI_ne_m1 (n := MC x) (by omega)), fun q => by cases q⟩
theorem BV_128 {d : Nat} {U : Nat → Nat} {al : Nat → Bool} {s : Nat} {B : BS} (hd : d ≤ 6) (hB : BV d U al s B) (y x : Nat) (e : B.2.1 y = some x) : x < 128 := by
  have h128 := p2_2 hd
  cases e2 : B.2.1 x with
  | none => exact absurd e2 (hB.2.1 y x e).2
  | some z => have := (hB.2.1 x z e2).1; omega
theorem m_comesTo {d : Nat} {U : Nat → Nat} {al : Nat → Bool} {s x y : Nat} {m : Int32} {cm hv : Nat → Int32} {B : BS} {X Y : Int32} (hd : d ≤ 6) (hB : BV d U al s B) (hy : y < 2 * 2 ^ d) (h : CM m cm hv B) (eY : Y = nI (MC y)) (eX : X = nI (MC x)) :
    wp (f_X7_comesTo Y X m cm hv) (fun r => CM r.1 r.2.1 r.2.2 (dsc x y B)) := by
  subst eY eX
  have h128 := p2_2 hd
  have hM := MC_lt (x := y) (by omega)
  refine wp_gd (inb_nI hM (by decide)) ?_
  rw [nI_clamp (show MC y < 2 ^ 31 by omega), h.2.1 y (by omega)]
  by_cases hn : B.2.1 y = none
  · have hroom := BV_room hd hB hy hn
    refine wp_t ((oM_none _ (BV_128 hd hB y)).mpr hn) (wp_gd (inb_nI hM (by decide)) (wp_bd ?_))
    rw [h.1]
    refine wp_gd (inb_nI hroom (by decide)) (wp_bd (wp_bd (wp_some ?_)))
    rw [nI_clamp (show B.1 < 2 ^ 31 by omega), nI_1, dsc, if_pos hn]
    refine ⟨rfl, fun z hz => ?_, fun j hj => ?_⟩
    · show upd cm (MC y) (nI (MC x)) (MC z) = oM (if z = y then some x else B.2.1 z)
      unfold upd
      by_cases e : z = y
      · rw [if_pos e, if_pos (by rw [e])]; rfl
      · rw [if_neg e, if_neg (fun q => e (MC_inj hz (by omega) q))]; exact h.2.1 z hz
    · have hj2 : j < B.1 + 1 := hj
      show upd hv B.1 (nI (MC y)) j = nI (MC (uN2 B.2.2 B.1 y j))
      unfold upd uN2
      by_cases e : j = B.1
      · rw [if_pos e, if_pos e]
      · rw [if_neg e, if_neg e]; exact h.2.2 j (by omega)
  · refine wp_f (fun e => hn ((oM_none _ (BV_128 hd hB y)).mp e)) (wp_some ?_)
    rw [dsc, if_neg hn]
    exact h
def GR (d s t : Nat) (U : Nat → Nat) (C : Nat → Option Nat) (dir : Bool) (goes comes : Nat → Int32) : Prop :=
  goes s = -1 ∧ (∀ u, u < 2 ^ d → u ≠ s → U u = 0 → goes u = -1) ∧ (∀ u k, u < 2 ^ d → k < d → u ≠ s → (U u).testBit k = true → goes u = nI (u ^^^ 2 ^ k)) ∧
  (∀ v, v < 2 ^ d → comes v = oI (C v)) ∧ ∀ k, k < d → s ^^^ 2 ^ k = t → dir = (U s).testBit k
theorem mod64 : ∀ y, y < 128 → nI y - nI y / (64 : Int32) * (64 : Int32) = nI (y % 64) := by decide +kernel
theorem exE_none {U : Nat → Nat} {v : Nat} {B : BS} : ∀ n, (∀ k, k < n → (U (v ^^^ 2 ^ k)).testBit k = false) → exE U v n B = B
  | 0, _ => rfl
  | n + 1, h => by rw [exE, exE_none n (fun k hk => h k (by omega)), h n (by omega), if_neg (by decide)]
theorem exE_one {U : Nat → Nat} {v k0 : Nat} {B : BS} : ∀ n, k0 < n → (∀ k, k < n → ((U (v ^^^ 2 ^ k)).testBit k = true ↔ k = k0)) → exE U v n B = dsc (2 * v) (2 * (v ^^^ 2 ^ k0) + 1) B
  | 0, h, _ => absurd h (Nat.not_lt_zero _)
  | n + 1, hk, h => by
    rw [exE]
    by_cases e : n = k0
    · subst e
      rw [if_pos ((h n (by omega)).mpr rfl), exE_none n (fun k hk2 => by
        cases q : (U (v ^^^ 2 ^ k)).testBit k with
        | false => rfl
        | true => have := (h k (by omega)).mp q; omega)]
    · rw [if_neg (fun q => e ((h n (by omega)).mp q)), exE_one n (by omega) (fun k hk2 => h k (by omega))]
def mpQ (d : Nat) (U : Nat → Nat) (al : Nat → Bool) (s t : Nat) (r : rt_X7_searches) : Prop := (r.1 = 1 ∧ ∃ i, (bs d U al s i).2.1 (2 * t) ≠ none ∧ CM r.2.1 r.2.2.1 r.2.2.2 (bs d U al s i)) ∨ (r.1 = 0 ∧ ∃ i, (bs d U al s i).1 ≤ i ∧ (bs d U al s i).2.1 (2 * t) = none)
theorem m_fill128 {R : Type} (f : Nat → Int32) (Y : (Nat → Int32) → Option R) : zl2 (R := R) (fun k3 (i4_3 : Int32) (c_3 : Nat → Int32) => if (128 : Int32) ≤ i4_3 then Y c_3 else zbd (-1 : Int32) (fun x22 => zgd (inb i4_3 128) (zbd (upd c_3 i4_3.toNatClampNeg x22) (fun y24 => zbd (i4_3 + 1) (fun x25 => k3 x25 y24))))) zfu 0 f = Y (zp f (fun _ => -1) 128) := by
  refine zl2_iter 128 (fun j => nI j) (fun j => zp f (fun _ => -1) j) (by decide) (fun K j hj => ?_) (fun K => if_pos (by decide)) nI_0 (zp_0 _ _)
  refine (if_neg (nI_ge (show j < 128 from hj) (by decide))).trans (zbd_eq.trans ((zgd_eq (inb_nI hj (by decide))).trans (zbd_eq.trans (zbd_eq.trans ?_))))
  rw [nI_1, nI_clamp (by omega), zp_succ f (fun _ => -1) j]
theorem m_searches {d s t : Nat} {U : Nat → Nat} {C : Nat → Option Nat} {al : Nat → Bool} {dir : Bool} {c goes comes cm hv : Nat → Int32} {hm : Int32} (hM : MN c d al) (hs : s < 2 ^ d) (ht : t < 2 ^ d) (hst : s ≠ t) (hF : FI d s t U C) (hG : GR d s t U C dir goes comes) :
    wp (f_X7_searches (nI s) (nI t) (bI dir) hm c comes goes cm hv) (mpQ d U al s t) := by
  obtain ⟨hd1, hd, hc0, hcc⟩ := id hM
  have h6 := p2_le hd
  have h128 := p2_2 hd
  obtain ⟨f1, f2, f3, f4, f5, f6, f7, f8⟩ := hF
  obtain ⟨g1, g2, g3, g4, g5⟩ := hG
  refine wp_of_eq (m_fill128 cm _) ?_
  have e64 : ∀ v, (64 : Int32) + nI v = nI (MC (2 * v + 1)) := fun v => by rw [MC_x]; exact nI_add 64 v
  have hstart : f_X7_comesTo ((64 : Int32) + nI s) ((64 : Int32) + nI s) 0 (zp cm (fun _ => -1) 128) hv = some (nI 1, upd (zp cm (fun _ => -1) 128) (MC (2 * s + 1)) (nI (MC (2 * s + 1))), upd hv 0 (nI (MC (2 * s + 1)))) := by
    rw [e64]
    have := MC_lt (x := 2 * s + 1) (by omega)
    unfold f_X7_comesTo
    rw [nI_clamp (by omega)]
    exact (zgd_eq (inb_nI (by omega) (by decide))).trans ((if_pos (zp_in _ _ (by omega))).trans ((zgd_eq (inb_nI (by omega) (by decide))).trans rfl))
  refine wp_ob hstart ?_
  have hC0 : CM (nI 1) (upd (zp cm (fun _ => -1) 128) (MC (2 * s + 1)) (nI (MC (2 * s + 1)))) (upd hv 0 (nI (MC (2 * s + 1)))) (bs d U al s 0) := by
    refine ⟨rfl, fun y hy => ?_, fun j hj => ?_⟩
    · show upd (zp cm (fun _ => -1) 128) (MC (2 * s + 1)) _ (MC y) = oM (if y = 2 * s + 1 then some (2 * s + 1) else none)
      unfold upd
      by_cases e : y = 2 * s + 1
      · rw [if_pos e, if_pos (by rw [e])]; rfl
      · rw [if_neg e, if_neg (fun q => e (MC_inj hy (by omega) q))]; exact zp_in _ _ (MC_lt hy)
    · have : j = 0 := Nat.lt_one_iff.mp hj
      subst this
      show upd hv 0 _ 0 = nI (MC (uN2 (fun _ => 0) 0 (2 * s + 1) 0))
      rw [upd, if_pos rfl, uN2, if_pos rfl]
  refine zl4_wp (fun i4 m cm hv => ∃ i, i4 = nI i ∧ i ≤ (bs d U al s i).1 ∧ CM m cm hv (bs d U al s i)) (fun i1 _ _ _ => 1000 - i1.toNatClampNeg) (fun K i4 m cm hv hI ih => ?_) 0 _ _ _ ⟨0, rfl, Nat.zero_le _, hC0⟩ (by decide)
  obtain ⟨i, rfl, hi, hC⟩ := hI
  have hB := bs_ok (U := U) (al := al) hd hs i
  have hle128 := BV_le hB
  have ecm : cm (nI t : Int32).toNatClampNeg = oM ((bs d U al s i).2.1 (2 * t)) := by
    rw [nI_clamp (by omega)]
    have := hC.2.1 (2 * t) (by omega)
    rwa [MC_e] at this
  have eno := oM_none _ (BV_128 hd hB (2 * t))
  refine wp_jp ?_
  rw [ecm]
  by_cases him : i < (bs d U al s i).1
  · rw [hC.1]
    refine wp_f (nI_ge him (by omega)) (wp_gd (inb_nI (by omega) (by decide)) ?_)
    by_cases hnt : (bs d U al s i).2.1 (2 * t) = none
    · refine wp_t (eno.mpr hnt) (wp_gd (inb_nI (by omega) (by decide)) (wp_bd ?_))
      rw [nI_clamp (show i < 2 ^ 31 by omega), hC.2.2 i him]
      have hx := hB.2.2.1 i him
      have hle := bs_le (U := U) (al := al) hd hs i 1
      have es : bs d U al s (i + 1) = expd d U al s ((bs d U al s i).2.2 i) (bs d U al s i) := by rw [bs, if_pos him]
      have next : ∀ m cm hv, CM m cm hv (bs d U al s (i + 1)) → wp (K (nI i + 1) m cm hv) (mpQ d U al s t) := fun m cm hv hC' => by
        rw [nI_1]
        exact ih _ _ _ _ ⟨i + 1, rfl, Nat.le_trans him hle.1, hC'⟩ (by rw [nI_clamp (by omega), nI_clamp (by omega)]; omega)
      rw [← hC.1]
      rw [es] at next
      have hxl : (bs d U al s i).2.2 i < 2 * 2 ^ d := by
        cases e : (bs d U al s i).2.1 ((bs d U al s i).2.2 i) with
        | none => exact absurd e hx
        | some w => exact (hB.2.1 _ w e).1
      generalize (bs d U al s i).2.2 i = x at *
      generalize bs d U al s i = B at *
      obtain ⟨v, hv2, hx2⟩ : ∃ v, v < 2 ^ d ∧ (x = 2 * v ∨ x = 2 * v + 1) := ⟨x / 2, by omega, by omega⟩
      refine wp_bd (wp_jp ?_)
      rcases hx2 with rfl | rfl
      · have hvs : v ≠ s := fun q => by
          subst q
          cases e : B.2.1 (2 * v) with
          | none => exact hx e
          | some w =>
            rcases (hB.2.2.2.2.2.2.2.2 _ w (by omega) e).1 with ⟨u, k, a1, a2, a3, a4, a5, a6, a7⟩ | ⟨u, a1, a3, a4, a5, a6⟩ | ⟨u, a1, a3, a4, a5⟩ | ⟨u, k, a1, a2, a3, a4, a5⟩
            · exact a6 (by omega)
            · exact a5 (by omega)
            · omega
            · omega
        have hvt : v ≠ t := fun q => hx (by rw [q]; exact hnt)
        rw [MC_e, mod64 v (by omega), show v % 64 = v by omega]
        have e1 : expd d U al s (2 * v) B = expE d U v B := by
          rw [expd, if_pos (by omega), show 2 * v / 2 = v by omega]
        rw [e1] at next
        refine wp_t (show nI v < nI 64 from nI_lt (by omega) (by decide)) (wp_gd (inb_nI (by omega) (by decide)) ?_)
        rw [nI_clamp (show v < 2 ^ 31 by omega)]
        obtain ⟨b1, b2⟩ := expE1_ok hd hv2 hB hx
        by_cases hU : U v = 0
        · have hCv := (f8 v hv2 hvs hvt).mp hU
          refine wp_t (g2 v hv2 hvs hU) (wp_obW (m_comesTo (x := 2 * v) (y := 2 * v + 1) hd hB (by omega) hC (e64 v) (by rw [MC_e])) (fun r hr => wp_bd (next _ _ _ ?_)))
          rw [expE, if_pos hU, exE_none d (fun k hk => ?_)]
          · exact hr
          · cases q : (U (v ^^^ 2 ^ k)).testBit k with
            | false => rfl
            | true =>
              have hw := nb_lt hd hv2 hk
              have e2 : v ^^^ 2 ^ k ^^^ 2 ^ k = v := by rw [Nat.xor_assoc, Nat.xor_self, Nat.xor_zero]
              have := (f6 (v ^^^ 2 ^ k) k hw hk (by rw [e2]; exact hvt)).mpr q
              rw [e2, hCv] at this; cases this
        · obtain ⟨k, k1, k2⟩ := bit_ne0 (f1 v) hU
          have hwk := nb_lt hd hv2 k1
          refine wp_f (by rw [g3 v k hv2 k1 hvs k2]; exact nI_ne_m1 (by omega)) (wp_gd (inb_nI (by omega) (by decide)) ?_)
          rw [g4 v hv2]
          cases hCv : C v with
          | none => exact absurd ((f8 v hv2 hvs hvt).mpr hCv) hU
          | some u =>
            obtain ⟨k0, q1, q2, q3⟩ := f7 v u hCv
            have q4 := nb_sym q3
            have hone : ∀ k, k < d → ((U (v ^^^ 2 ^ k)).testBit k = true ↔ k = k0) := fun k hk => by
              have hw := nb_lt hd hv2 hk
              have e2 : v ^^^ 2 ^ k ^^^ 2 ^ k = v := by rw [Nat.xor_assoc, Nat.xor_self, Nat.xor_zero]
              have := f6 (v ^^^ 2 ^ k) k hw hk (by rw [e2]; exact hvt)
              rw [e2, hCv] at this
              rw [← this]
              constructor
              · intro z; cases z; exact xor_bit_inj (v := v) q4
              · intro z; rw [z, ← q4]
            have eX : expE d U v B = dsc (2 * v) (2 * u + 1) B := by
              rw [expE, if_neg hU, exE_one d q1 hone, ← q4]
            rw [eX] at next
            by_cases hus : u = s
            · refine wp_t (by rw [hus]; rfl) (wp_bd (next _ _ _ ?_))
              rw [dsc, if_neg (by rw [hus, hB.2.2.2.2.1]; exact fun z => by cases z)]
              exact hC
            · refine wp_f (fun z => hus (nI_inj (a := u) (b := s) (by omega) (by omega) z)) (wp_gd (inb_nI (by omega) (by decide)) ?_)
              exact wp_obW (m_comesTo (x := 2 * v) (y := 2 * u + 1) hd hB (by omega) hC (e64 u) (by rw [MC_e])) (fun r hr => wp_bd (next _ _ _ hr))
      · rw [MC_x, mod64 (64 + v) (by omega), show (64 + v) % 64 = v by omega]
        have e1 : expd d U al s (2 * v + 1) B = expX d U al s v B := by
          rw [expd, if_neg (by omega), show (2 * v + 1) / 2 = v by omega]
        rw [e1] at next
        refine wp_f (show ¬ nI (64 + v) < nI 64 from nI_nlt (by omega) (by omega)) ?_
        refine zl4_wp (fun i7 m cm hv => ∃ k, k ≤ d ∧ i7 = nI k ∧ CM m cm hv (exX U al s v k B)) (fun i7 _ _ _ => 100 - i7.toNatClampNeg) (fun K2 i7 m cm hv hI ih2 => ?_) 0 m cm hv ⟨0, Nat.zero_le d, rfl, hC⟩ (by decide)
        obtain ⟨k, hk, rfl, hC2⟩ := hI
        obtain ⟨b1, b2⟩ := exX_ok hd hv2 hB hx k hk
        refine wp_gd rfl ?_
        rw [show c (0 : Int32).toNatClampNeg = nI d from hc0]
        by_cases hkd : k < d
        · have hw := nb_lt hd hv2 hkd
          have emu : 100 - (nI (k + 1)).toNatClampNeg < 100 - (nI k).toNatClampNeg := by
            rw [nI_clamp (by omega), nI_clamp (by omega)]; omega
          have es2 : exX U al s v (k + 1) B = if (U v).testBit k = false ∧ v ^^^ 2 ^ k ≠ s ∧ al (v ^^^ 2 ^ k) = true then dsc (2 * v + 1) (2 * (v ^^^ 2 ^ k)) (exX U al s v k B) else exX U al s v k B := rfl
          refine wp_f (nI_ge hkd (by omega)) (wp_bd ?_)
          rw [nb_nI v (by omega)]
          refine wp_jp ?_
          have no : ¬ ((U v).testBit k = false ∧ v ^^^ 2 ^ k ≠ s ∧ al (v ^^^ 2 ^ k) = true) → wp (K2 (nI k + 1) m cm hv) (mpQ d U al s t) := fun hno => by
            rw [nI_1]
            exact ih2 _ _ _ _ ⟨k + 1, hkd, rfl, by rw [es2, if_neg hno]; exact hC2⟩ emu
          have go : ∀ b : Bool, b = (U v).testBit k → wp (zob (f_X7_lives (nI (v ^^^ 2 ^ k)) c) (fun u17 =>
zjp (T := Int32 → (Nat → Int32) → (Nat → Int32) → Option rt_X7_searches) (fun (v_this_halfMany_190 : Int32) (c_this_cameFrom_190 : (Nat → Int32)) (c_this_halves_190 : (Nat → Int32)) =>
zbd (A := Int32) (nI k + 1) (fun x18 =>
K2 x18 v_this_halfMany_190 c_this_cameFrom_190 c_this_halves_190)) (fun K190 =>
if (u17 : Int32) = 0 then (
K190 m cm hv) else (
if (nI (v ^^^ 2 ^ k) : Int32) = nI s then (
K190 m cm hv) else (
if (bI b : Int32) = 0 then (
zob (f_X7_comesTo (nI (v ^^^ 2 ^ k)) (nI (64 + v)) m cm hv) (fun u19 =>
K190 u19.1 u19.2.1 u19.2.2)) else (
K190 m cm hv)))))) (mpQ d U al s t) := fun b hb => by
            refine wp_ob (m_lives hM hw) (wp_jp ?_)
            cases ha : al (v ^^^ 2 ^ k) with
            | false => exact wp_t rfl (wp_bd (no (fun z => by rw [ha] at z; exact absurd z.2.2 (by decide))))
            | true =>
              refine wp_f (show ¬ bI true = 0 by decide) ?_
              by_cases hws : v ^^^ 2 ^ k = s
              · exact wp_t (by rw [hws]) (wp_bd (no (fun z => z.2.1 hws)))
              · refine wp_f (fun z => hws (nI_inj (by omega) (by omega) z)) ?_
                cases hbb : b with
                | true => exact wp_f (show ¬ bI true = 0 by decide) (wp_bd (no (fun z => by rw [← hb, hbb] at z; exact absurd z.1 (by decide))))
                | false =>
                  refine wp_t rfl (wp_obW (m_comesTo (x := 2 * v + 1) (y := 2 * (v ^^^ 2 ^ k)) hd b1 (by omega) hC2 (by rw [MC_e]) (by rw [MC_x])) (fun r hr => wp_bd ?_))
                  rw [nI_1]
                  exact ih2 _ _ _ _ ⟨k + 1, hkd, rfl, by rw [es2, if_pos ⟨by rw [← hb, hbb], hws, ha⟩]; exact hr⟩ emu
          refine wp_jp ?_
          by_cases hvs : v = s
          · refine wp_t (by rw [hvs]) ?_
            by_cases hwt : v ^^^ 2 ^ k = t
            · exact wp_t (by rw [hwt]) (go dir (by rw [hvs] at hwt ⊢; exact g5 k hkd hwt))
            · refine wp_f (fun z => hwt (nI_inj (by omega) (by omega) z)) (wp_gd (inb_nI (by omega) (by decide)) (wp_jp ?_))
              rw [nI_clamp (show v < 2 ^ 31 by omega), nI_clamp (show v ^^^ 2 ^ k < 2 ^ 31 by omega)]
              refine wp_f (by rw [hvs, g1]; exact fun z => nI_ne_m1 (n := s ^^^ 2 ^ k) (by rw [← hvs]; omega) z.symm) (wp_jp (wp_t (by rw [hvs]) (wp_gd (inb_nI (by omega) (by decide)) ?_)))
              rw [g4 _ hw]
              have hiff := f6 v k hv2 hkd hwt
              by_cases hbk : (U v).testBit k = true
              · rw [hiff.mpr hbk]
                exact wp_t (by rw [hvs]; rfl) (go true hbk.symm)
              · refine wp_f (fun z => hbk (hiff.mp ?_)) (go false (Bool.eq_false_iff.mpr hbk).symm)
                cases hCw : C (v ^^^ 2 ^ k) with
                | none => rw [hCw] at z; exact absurd z.symm (nI_ne_m1 (n := s) (by omega))
                | some u =>
                  rw [hCw] at z
                  obtain ⟨k0, q1, q2, q3⟩ := f7 _ u hCw
                  rw [nI_inj (a := u) (b := s) (by omega) (by omega) z, hvs]
          · refine wp_f (fun z => hvs (nI_inj (by omega) (by omega) z)) (wp_gd (inb_nI (by omega) (by decide)) (wp_jp ?_))
            rw [nI_clamp (show v < 2 ^ 31 by omega)]
            by_cases hbk : (U v).testBit k = true
            · exact wp_t (g3 v k hv2 hkd hvs hbk) (go true hbk.symm)
            · refine wp_f (fun z => ?_) (wp_jp (wp_f (fun z => hvs (nI_inj (by omega) (by omega) z)) (go false (Bool.eq_false_iff.mpr hbk).symm)))
              by_cases hU : U v = 0
              · rw [g2 v hv2 hvs hU] at z
                exact nI_ne_m1 (n := v ^^^ 2 ^ k) (by omega) z.symm
              · obtain ⟨k', k1, k2⟩ := bit_ne0 (f1 v) hU
                have hw' := nb_lt hd hv2 k1
                rw [g3 v k' hv2 k1 hvs k2] at z
                have := xor_bit_inj (nI_inj (a := v ^^^ 2 ^ k') (b := v ^^^ 2 ^ k) (by omega) (by omega) z)
                subst this
                exact hbk k2
        · have : k = d := by omega
          subst this
          refine wp_t (nI_le (Nat.le_refl _) (by omega)) ?_
          by_cases hvs : v = s
          · refine wp_t (by rw [hvs]) (wp_bd (next _ _ _ ?_))
            rw [expX, if_neg (fun z => z.1 hvs)]
            exact hC2
          · refine wp_f (fun z => hvs (nI_inj (by omega) (by omega) z)) (wp_gd (inb_nI (by omega) (by decide)) ?_)
            rw [nI_clamp (show v < 2 ^ 31 by omega)]
            by_cases hU : U v = 0
            · refine wp_t (g2 v hv2 hvs hU) (wp_bd (next _ _ _ ?_))
              rw [expX, if_neg (fun z => z.2 hU)]
              exact hC2
            · obtain ⟨k', k1, k2⟩ := bit_ne0 (f1 v) hU
              have hw' := nb_lt hd hv2 k1
              refine wp_f (by rw [g3 v k' hv2 k1 hvs k2]; exact nI_ne_m1 (by omega)) (wp_obW (m_comesTo (x := 2 * v + 1) (y := 2 * v) hd b1 (by omega) hC2 (by rw [MC_e]) (by rw [MC_x])) (fun r hr => wp_bd (next _ _ _ ?_)))
              rw [expX, if_pos ⟨hvs, hU⟩]
              exact hr
    · refine wp_f (fun z => hnt (eno.mp z)) (wp_gd (inb_nI (by omega) (by decide)) (wp_f (fun z => hnt (eno.mp z)) (wp_some (Or.inl ⟨rfl, i, hnt, ?_⟩))))
      rw [← hC.1]; exact hC
  · rw [hC.1]
    refine wp_t (nI_le (by omega) (by omega)) (wp_gd (inb_nI (by omega) (by decide)) ?_)
    by_cases hnt : (bs d U al s i).2.1 (2 * t) = none
    · exact wp_t (eno.mpr hnt) (wp_some (Or.inr ⟨rfl, i, by omega, hnt⟩))
    · refine wp_f (fun z => hnt (eno.mp z)) (wp_some (Or.inl ⟨rfl, i, hnt, ?_⟩))
      rw [← hC.1]; exact hC
