/-! the search for a path of halves: an abstract run, element by element of the queue -/
abbrev BS : Type := Nat × (Nat → Option Nat) × (Nat → Nat)
def dsc (x y : Nat) (B : BS) : BS := if B.2.1 y = none then (B.1 + 1, (fun z => if z = y then some x else B.2.1 z), uN2 B.2.2 B.1 y) else B
def exX (U : Nat → Nat) (al : Nat → Bool) (s v : Nat) : Nat → BS → BS
  | 0, B => B
  | k + 1, B => if (U v).testBit k = false ∧ v ^^^ 2 ^ k ≠ s ∧ al (v ^^^ 2 ^ k) = true then dsc (2 * v + 1) (2 * (v ^^^ 2 ^ k)) (exX U al s v k B) else exX U al s v k B
def expX (d : Nat) (U : Nat → Nat) (al : Nat → Bool) (s v : Nat) (B : BS) : BS := if v ≠ s ∧ U v ≠ 0 then dsc (2 * v + 1) (2 * v) (exX U al s v d B) else exX U al s v d B
def exE (U : Nat → Nat) (v : Nat) : Nat → BS → BS
  | 0, B => B
  | k + 1, B => if (U (v ^^^ 2 ^ k)).testBit k = true then dsc (2 * v) (2 * (v ^^^ 2 ^ k) + 1) (exE U v k B) else exE U v k B
def expE (d : Nat) (U : Nat → Nat) (v : Nat) (B : BS) : BS := exE U v d (if U v = 0 then dsc (2 * v) (2 * v + 1) B else B)
def expd (d : Nat) (U : Nat → Nat) (al : Nat → Bool) (s x : Nat) (B : BS) : BS := if x % 2 = 0 then expE d U (x / 2) B else expX d U al s (x / 2) B
def bs (d : Nat) (U : Nat → Nat) (al : Nat → Bool) (s : Nat) : Nat → BS
  | 0 => (1, (fun z => if z = 2 * s + 1 then some (2 * s + 1) else none), uN2 (fun _ => 0) 0 (2 * s + 1))
  | i + 1 => if i < (bs d U al s i).1 then expd d U al s ((bs d U al s i).2.2 i) (bs d U al s i) else bs d U al s i
def Ed (d : Nat) (U : Nat → Nat) (al : Nat → Bool) (s x y : Nat) : Prop :=
  (∃ u k, k < d ∧ u < 2 ^ d ∧ x = 2 * u + 1 ∧ y = 2 * (u ^^^ 2 ^ k) ∧ (U u).testBit k = false ∧ u ^^^ 2 ^ k ≠ s ∧ al (u ^^^ 2 ^ k) = true) ∨
  (∃ v, v < 2 ^ d ∧ x = 2 * v + 1 ∧ y = 2 * v ∧ v ≠ s ∧ U v ≠ 0) ∨ (∃ v, v < 2 ^ d ∧ x = 2 * v ∧ y = 2 * v + 1 ∧ U v = 0) ∨
  (∃ v k, k < d ∧ v < 2 ^ d ∧ x = 2 * v ∧ y = 2 * (v ^^^ 2 ^ k) + 1 ∧ (U (v ^^^ 2 ^ k)).testBit k = true)
def BV (d : Nat) (U : Nat → Nat) (al : Nat → Bool) (s : Nat) (B : BS) : Prop :=
  B.1 = fb_ct (fun y => (B.2.1 y).isSome) 128 ∧ (∀ y x, B.2.1 y = some x → y < 2 * 2 ^ d ∧ B.2.1 x ≠ none) ∧ (∀ j, j < B.1 → B.2.1 (B.2.2 j) ≠ none) ∧
  (∀ i j, i < B.1 → j < B.1 → B.2.2 i = B.2.2 j → i = j) ∧ B.2.1 (2 * s + 1) = some (2 * s + 1) ∧ 0 < B.1 ∧ B.2.2 0 = 2 * s + 1 ∧
  (∀ y x, B.2.1 y = some x → ∃ j, j < B.1 ∧ B.2.2 j = y) ∧
  ∀ y x, y ≠ 2 * s + 1 → B.2.1 y = some x → Ed d U al s x y ∧ ∃ i j, i < j ∧ j < B.1 ∧ B.2.2 i = x ∧ B.2.2 j = y
def BL (B D : BS) : Prop := B.1 ≤ D.1 ∧ (∀ y x, B.2.1 y = some x → D.2.1 y = some x) ∧ ∀ j, j < B.1 → D.2.2 j = B.2.2 j
theorem BL_refl (B : BS) : BL B B := ⟨Nat.le_refl _, fun _ _ h => h, fun _ _ => rfl⟩
theorem BL_trans {B D E : BS} (h : BL B D) (k : BL D E) : BL B E := ⟨Nat.le_trans h.1 k.1, fun y x e => k.2.1 y x (h.2.1 y x e), fun j hj => (k.2.2 j (Nat.lt_of_lt_of_le hj h.1)).trans (h.2.2 j hj)⟩
theorem BL_some {B D : BS} (h : BL B D) {y : Nat} (hy : B.2.1 y ≠ none) : D.2.1 y ≠ none := by
  cases e : B.2.1 y with
  | none => exact absurd e hy
  | some x => rw [h.2.1 y x e]; exact fun q => by cases q
theorem p2_2 {d : Nat} (hd : d ≤ 6) : 2 * 2 ^ d ≤ 128 := by have := p2_le hd; omega
theorem BV_room {d : Nat} {U : Nat → Nat} {al : Nat → Bool} {s y : Nat} {B : BS} (hd : d ≤ 6) (h : BV d U al s B) (hy : y < 2 * 2 ^ d) (hn : B.2.1 y = none) : B.1 < 128 := by
  have h2 := p2_2 hd
  have hct := fb_ct_upd (fun y => (B.2.1 y).isSome) true (i := y) (n := 128) (by omega)
  have hle := ct_le (fun k => if k = y then true else (B.2.1 k).isSome) 128
  rw [show ((B.2.1 y).isSome) = false by rw [hn]; rfl] at hct
  have h1 := h.1
  rw [if_neg (by decide), if_pos rfl] at hct
  omega
theorem dsc_ok {d : Nat} {U : Nat → Nat} {al : Nat → Bool} {s x y : Nat} {B : BS} (hd : d ≤ 6) (h : BV d U al s B) (hx : B.2.1 x ≠ none) (he : Ed d U al s x y) (hy : y < 2 * 2 ^ d) : BV d U al s (dsc x y B) ∧ BL B (dsc x y B) := by
  unfold dsc
  by_cases hn : B.2.1 y = none
  · rw [if_pos hn]
    obtain ⟨h1, h2, h3, h4, h5, h6, h7, h8, h9⟩ := id h
    have hL : BL B (B.1 + 1, (fun z => if z = y then some x else B.2.1 z), uN2 B.2.2 B.1 y) := ⟨Nat.le_succ _, fun z w e => by
      show (if z = y then some x else B.2.1 z) = some w
      rw [if_neg (fun q => by rw [q, hn] at e; cases e)]; exact e, fun j hj => if_neg (by omega)⟩
    have h128 := p2_2 hd
    refine ⟨⟨?_, fun z w e => ?_, fun j hj => ?_, fun i j hi hj e => ?_, hL.2.1 _ _ h5, Nat.succ_pos _, (hL.2.2 0 h6).trans h7, fun z w e => ?_, fun z w hz e => ?_⟩, hL⟩
    · have hct := fb_ct_upd (fun y => (B.2.1 y).isSome) true (i := y) (n := 128) (by omega)
      rw [show ((B.2.1 y).isSome) = false by rw [hn]; rfl] at hct
      show B.1 + 1 = fb_ct (fun z => (if z = y then some x else B.2.1 z).isSome) 128
      rw [show (fun z => (if z = y then some x else B.2.1 z).isSome) = (fun k => if k = y then true else (B.2.1 k).isSome) from funext fun z => by split <;> rfl]
      rw [if_neg (by decide), if_pos rfl] at hct
      omega
    · by_cases q : z = y
      · have e2 : (if z = y then some x else B.2.1 z) = some w := e
        rw [if_pos q] at e2
        cases e2
        exact ⟨by omega, BL_some hL hx⟩
      · have e2 : (if z = y then some x else B.2.1 z) = some w := e
        rw [if_neg q] at e2
        exact ⟨(h2 z w e2).1, BL_some hL (h2 z w e2).2⟩
    · by_cases q : j = B.1
      · subst q
        have e0 : uN2 B.2.2 B.1 y B.1 = y := if_pos rfl
        show (if uN2 B.2.2 B.1 y B.1 = y then some x else B.2.1 (uN2 B.2.2 B.1 y B.1)) ≠ none
        rw [e0, if_pos rfl]; exact fun q => by cases q
      · have hj2 : j < B.1 := by have : j < B.1 + 1 := hj; omega
        rw [hL.2.2 j hj2]
        exact BL_some hL (h3 j hj2)
    · have hi2 : i < B.1 + 1 := hi
      have hj2 : j < B.1 + 1 := hj
      have e2 : uN2 B.2.2 B.1 y i = uN2 B.2.2 B.1 y j := e
      unfold uN2 at e2
      by_cases qi : i = B.1
      · by_cases qj : j = B.1
        · omega
        · rw [if_pos qi, if_neg qj] at e2
          exact absurd (e2 ▸ hn) (h3 j (by omega))
      · by_cases qj : j = B.1
        · rw [if_neg qi, if_pos qj] at e2
          exact absurd (e2.symm ▸ hn) (h3 i (by omega))
        · rw [if_neg qi, if_neg qj] at e2
          exact h4 i j (by omega) (by omega) e2
    · by_cases q : z = y
      · exact ⟨B.1, Nat.lt_succ_self _, (if_pos rfl).trans q.symm⟩
      · have e2 : (if z = y then some x else B.2.1 z) = some w := e
        rw [if_neg q] at e2
        obtain ⟨j, j1, j2⟩ := h8 z w e2
        exact ⟨j, Nat.lt_succ_of_lt j1, (hL.2.2 j j1).trans j2⟩
    · by_cases q : z = y
      · have e2 : (if z = y then some x else B.2.1 z) = some w := e
        rw [if_pos q] at e2
        cases e2
        subst q
        cases ex : B.2.1 x with
        | none => exact absurd ex hx
        | some x' =>
          obtain ⟨i, i1, i2⟩ := h8 x x' ex
          exact ⟨he, i, B.1, i1, Nat.lt_succ_self _, (hL.2.2 i i1).trans i2, if_pos rfl⟩
      · have e2 : (if z = y then some x else B.2.1 z) = some w := e
        rw [if_neg q] at e2
        obtain ⟨k1, i, j, k2, k3, k4, k5⟩ := h9 z w hz e2
        exact ⟨k1, i, j, k2, Nat.lt_succ_of_lt k3, (hL.2.2 i (by omega)).trans k4, (hL.2.2 j k3).trans k5⟩
  · rw [if_neg hn]
    exact ⟨h, BL_refl B⟩
theorem exX_ok {d : Nat} {U : Nat → Nat} {al : Nat → Bool} {s v : Nat} {B : BS} (hd : d ≤ 6) (hv : v < 2 ^ d) (h : BV d U al s B) (hx : B.2.1 (2 * v + 1) ≠ none) : ∀ k, k ≤ d → BV d U al s (exX U al s v k B) ∧ BL B (exX U al s v k B)
  | 0, _ => ⟨h, BL_refl B⟩
  | k + 1, hk => by
    obtain ⟨h1, h2⟩ := exX_ok hd hv h hx k (by omega)
    rw [exX]
    split
    · rename_i hc
      have hw := nb_lt hd hv (show k < d by omega)
      obtain ⟨k1, k2⟩ := dsc_ok hd h1 (BL_some h2 hx) (Or.inl ⟨v, k, hk, hv, rfl, rfl, hc⟩) (by omega)
      exact ⟨k1, BL_trans h2 k2⟩
    · exact ⟨h1, h2⟩
theorem expX_ok {d : Nat} {U : Nat → Nat} {al : Nat → Bool} {s v : Nat} {B : BS} (hd : d ≤ 6) (hv : v < 2 ^ d) (h : BV d U al s B) (hx : B.2.1 (2 * v + 1) ≠ none) : BV d U al s (expX d U al s v B) ∧ BL B (expX d U al s v B) := by
  obtain ⟨h1, h2⟩ := exX_ok hd hv h hx d (Nat.le_refl d)
  rw [expX]
  split
  · rename_i hc
    obtain ⟨k1, k2⟩ := dsc_ok hd h1 (BL_some h2 hx) (Or.inr (Or.inl ⟨v, hv, rfl, rfl, hc⟩)) (by omega)
    exact ⟨k1, BL_trans h2 k2⟩
  · exact ⟨h1, h2⟩
theorem exE_ok {d : Nat} {U : Nat → Nat} {al : Nat → Bool} {s v : Nat} {B : BS} (hd : d ≤ 6) (hv : v < 2 ^ d) (h : BV d U al s B) (hx : B.2.1 (2 * v) ≠ none) : ∀ k, k ≤ d → BV d U al s (exE U v k B) ∧ BL B (exE U v k B)
  | 0, _ => ⟨h, BL_refl B⟩
  | k + 1, hk => by
    obtain ⟨h1, h2⟩ := exE_ok hd hv h hx k (by omega)
    rw [exE]
    split
    · rename_i hc
      have hw := nb_lt hd hv (show k < d by omega)
      obtain ⟨k1, k2⟩ := dsc_ok hd h1 (BL_some h2 hx) (Or.inr (Or.inr (Or.inr ⟨v, k, hk, hv, rfl, rfl, hc⟩))) (by omega)
      exact ⟨k1, BL_trans h2 k2⟩
    · exact ⟨h1, h2⟩
theorem expE1_ok {d : Nat} {U : Nat → Nat} {al : Nat → Bool} {s v : Nat} {B : BS} (hd : d ≤ 6) (hv : v < 2 ^ d) (h : BV d U al s B) (hx : B.2.1 (2 * v) ≠ none) : BV d U al s (if U v = 0 then dsc (2 * v) (2 * v + 1) B else B) ∧ BL B (if U v = 0 then dsc (2 * v) (2 * v + 1) B else B) := by
  split
  · rename_i hc
    exact dsc_ok hd h hx (Or.inr (Or.inr (Or.inl ⟨v, hv, rfl, rfl, hc⟩))) (by omega)
  · exact ⟨h, BL_refl B⟩
theorem expE_ok {d : Nat} {U : Nat → Nat} {al : Nat → Bool} {s v : Nat} {B : BS} (hd : d ≤ 6) (hv : v < 2 ^ d) (h : BV d U al s B) (hx : B.2.1 (2 * v) ≠ none) : BV d U al s (expE d U v B) ∧ BL B (expE d U v B) := by
  obtain ⟨h1, h2⟩ := expE1_ok hd hv h hx
  obtain ⟨h3, h4⟩ := exE_ok hd hv h1 (BL_some h2 hx) d (Nat.le_refl d)
  exact ⟨h3, BL_trans h2 h4⟩
theorem expd_ok {d : Nat} {U : Nat → Nat} {al : Nat → Bool} {s x : Nat} {B : BS} (hd : d ≤ 6) (h : BV d U al s B) (hx : B.2.1 x ≠ none) : BV d U al s (expd d U al s x B) ∧ BL B (expd d U al s x B) := by
  have hlt : x < 2 * 2 ^ d := by
    cases e : B.2.1 x with
    | none => exact absurd e hx
    | some w => exact (h.2.1 x w e).1
  unfold expd
  split
  · rename_i q
    refine expE_ok hd (by omega) h ?_
    rwa [show 2 * (x / 2) = x by omega]
  · rename_i q
    refine expX_ok hd (by omega) h ?_
    rwa [show 2 * (x / 2) + 1 = x by omega]
theorem bs_0 {d : Nat} {U : Nat → Nat} {al : Nat → Bool} {s : Nat} (hd : d ≤ 6) (hs : s < 2 ^ d) : BV d U al s (bs d U al s 0) := by
  have h128 := p2_2 hd
  refine ⟨?_, fun y x e => ?_, fun j hj => ?_, fun i j hi hj _ => ?_, if_pos rfl, Nat.one_pos, (show uN2 (fun _ => 0) 0 (2 * s + 1) 0 = 2 * s + 1 from if_pos rfl), fun y x e => ?_, fun y x hy e => ?_⟩
  · have hct := fb_ct_upd (fun _ => false) true (i := 2 * s + 1) (n := 128) (by omega)
    have h0 : fb_ct (fun _ => false) 128 = 0 := fb_ct_zero.mpr (fun _ _ => rfl)
    show 1 = fb_ct (fun z => (if z = 2 * s + 1 then some (2 * s + 1) else none).isSome) 128
    rw [show (fun z => (if z = 2 * s + 1 then some (2 * s + 1) else none).isSome) = (fun k => if k = 2 * s + 1 then true else false) from funext fun z => by split <;> rfl]
    rw [if_neg (by decide), if_pos rfl] at hct
    omega
  · have e2 : (if y = 2 * s + 1 then some (2 * s + 1) else none) = some x := e
    split at e2
    · cases e2
      exact ⟨by omega, fun q => by have : (if 2 * s + 1 = 2 * s + 1 then some (2 * s + 1) else none) = none := q; rw [if_pos rfl] at this; cases this⟩
    · cases e2
  · have : j = 0 := Nat.lt_one_iff.mp hj
    subst this
    intro q
    have : (if (2 * s + 1) = 2 * s + 1 then some (2 * s + 1) else none) = none := q
    rw [if_pos rfl] at this
    cases this
  · have h1 : i = 0 := Nat.lt_one_iff.mp hi
    have h2 : j = 0 := Nat.lt_one_iff.mp hj
    omega
  · have e2 : (if y = 2 * s + 1 then some (2 * s + 1) else none) = some x := e
    split at e2
    · rename_i q
      exact ⟨0, Nat.one_pos, (show uN2 (fun _ => 0) 0 (2 * s + 1) 0 = 2 * s + 1 from if_pos rfl).trans q.symm⟩
    · cases e2
  · have e2 : (if y = 2 * s + 1 then some (2 * s + 1) else none) = some x := e
    rw [if_neg hy] at e2
    cases e2
theorem bs_ok {d : Nat} {U : Nat → Nat} {al : Nat → Bool} {s : Nat} (hd : d ≤ 6) (hs : s < 2 ^ d) : ∀ i, BV d U al s (bs d U al s i)
  | 0 => bs_0 hd hs
  | i + 1 => by
    rw [bs]
    split
    · rename_i q
      exact (expd_ok hd (bs_ok hd hs i) ((bs_ok hd hs i).2.2.1 i q)).1
    · exact bs_ok hd hs i
theorem bs_le {d : Nat} {U : Nat → Nat} {al : Nat → Bool} {s : Nat} (hd : d ≤ 6) (hs : s < 2 ^ d) (i : Nat) : ∀ j, BL (bs d U al s i) (bs d U al s (i + j))
  | 0 => BL_refl _
  | j + 1 => by
    refine BL_trans (bs_le hd hs i j) ?_
    show BL _ (bs d U al s ((i + j) + 1))
    rw [bs]
    split
    · rename_i q
      exact (expd_ok hd (bs_ok hd hs (i + j)) ((bs_ok hd hs (i + j)).2.2.1 (i + j) q)).2
    · exact BL_refl _
theorem BV_le {d : Nat} {U : Nat → Nat} {al : Nat → Bool} {s : Nat} {B : BS} (h : BV d U al s B) : B.1 ≤ 128 := by rw [h.1]; exact ct_le _ 128
/-! the search of the class -/
def oI (o : Option Nat) : Int32 := match o with | none => -1 | some x => nI x
def CB (m : Int32) (cf q : Nat → Int32) (B : BS) : Prop := m = nI B.1 ∧ (∀ y, y < 128 → cf y = oI (B.2.1 y)) ∧ ∀ j, j < B.1 → q j = nI (B.2.2 j)
theorem oI_none {d : Nat} {U : Nat → Nat} {al : Nat → Bool} {s y : Nat} {B : BS} (hd : d ≤ 6) (h : BV d U al s B) : oI (B.2.1 y) = -1 ↔ B.2.1 y = none := by
  cases e : B.2.1 y with
  | none => exact ⟨fun _ => rfl, fun _ => rfl⟩
  | some x =>
    have hx : x < 2 * 2 ^ d := by
      cases e2 : B.2.1 x with
      | none => exact absurd e2 (h.2.1 y x e).2
      | some z => exact (h.2.1 x z e2).1
    have := p2_2 hd
    exact ⟨fun q => absurd q (nI_ne_m1 (by omega)), fun q => by cases q⟩
theorem CB_dsc {m : Int32} {cf q : Nat → Int32} {B : BS} {x y : Nat} (h : CB m cf q B) (hn : B.2.1 y = none) : CB (m + 1) (upd cf y (nI x)) (upd q B.1 (nI y)) (dsc x y B) := by
  obtain ⟨h1, h2, h3⟩ := h
  rw [dsc, if_pos hn]
  refine ⟨by rw [h1, nI_1], fun z hz => ?_, fun j hj => ?_⟩
  · show upd cf y (nI x) z = oI (if z = y then some x else B.2.1 z)
    unfold upd
    by_cases e : z = y
    · rw [if_pos e, if_pos e]; rfl
    · rw [if_neg e, if_neg e]; exact h2 z hz
  · have hj2 : j < B.1 + 1 := hj
    show upd q B.1 (nI y) j = nI (uN2 B.2.2 B.1 y j)
    unfold upd uN2
    by_cases e : j = B.1
    · rw [if_pos e, if_pos e]
    · rw [if_neg e, if_neg e]; exact h3 j (by omega)
theorem s_discover {d : Nat} {U : Nat → Nat} {al : Nat → Bool} {s x y : Nat} {m : Int32} {cf q : Nat → Int32} {B : BS} (hd : d ≤ 6) (hB : BV d U al s B) (hy : y < 2 * 2 ^ d) (h : CB m cf q B) :
    wp (f_X1_discover (nI y) (nI x) m cf q) (fun r => CB r.1 r.2.1 r.2.2 (dsc x y B)) := by
  have h128 := p2_2 hd
  refine wp_ob (s_read cf (show y < 128 by omega) (by decide)) ?_
  rw [h.2.1 y (by omega)]
  by_cases hn : B.2.1 y = none
  · have hroom := BV_room hd hB hy hn
    refine wp_t ((oI_none hd hB).mpr hn) (wp_ob (s_write cf _ (show y < 128 by omega) (by decide)) ?_)
    rw [h.1]
    refine wp_ob (s_write q _ hroom (by decide)) (wp_bd (wp_some ?_))
    rw [← h.1]
    exact CB_dsc h hn
  · refine wp_f (fun e => hn ((oI_none hd hB).mp e)) (wp_some ?_)
    rw [dsc, if_neg hn]
    exact h
