/-! messages that move -/
theorem newL_pos {d : Nat} (hd1 : 1 ≤ d) (L : Nat → Nat) (v : Nat) : 1 ≤ newL d L v := by
  have h := (zfst_spec (fun k => decide (k < cnL d L v k)) d).2.2
  rcases Nat.eq_zero_or_pos (newL d L v) with q | q
  · unfold newL at q
    rw [q] at h
    have := h (by omega)
    rw [cnL_0] at this
    simp at this
  · exact q
theorem lvl_pos {d : Nat} (hd1 : 1 ≤ d) {al : Nat → Bool} {v : Nat} (h : al v = true) : ∀ t, 1 ≤ lvl d al t v
  | 0 => by
    show 1 ≤ if al v = true then d else 0
    rw [if_pos h]; exact hd1
  | t + 1 => by
    show 1 ≤ stepL d al (lvl d al t) v
    rw [stepL, if_pos h]; exact newL_pos hd1 _ _
theorem LV_alive {d : Nat} (hd1 : 1 ≤ d) (al : Nat → Bool) (w : Nat) : (al w = true → 1 ≤ LV d al w) ∧ (al w = false → LV d al w = 0) :=
  ⟨fun h => lvl_pos hd1 h _, fun h => lvl_dead _ _ h⟩
def bstA (d : Nat) (L : Nat → Nat) (al : Nat → Bool) (v m : Nat) : Option Nat := bst (fun k => m.testBit k && al (v ^^^ 2 ^ k)) (fun k => L (v ^^^ 2 ^ k)) d
theorem bA_ind {ok al : Nat → Bool} {vl : Nat → Nat} (h : ∀ k, (al k = true → 1 ≤ vl k) ∧ (al k = false → vl k = 0)) : ∀ n,
    (∃ b, bst ok vl n = some b ∧ 1 ≤ vl b ∧ bst (fun k => ok k && al k) vl n = some b) ∨ ((bst ok vl n = none ∨ ∃ b, bst ok vl n = some b ∧ vl b = 0) ∧ bst (fun k => ok k && al k) vl n = none)
  | 0 => Or.inr ⟨Or.inl rfl, rfl⟩
  | n + 1 => by
    rw [bst_succ, bst_succ]
    obtain ⟨h1, h2⟩ := h n
    rcases bA_ind (ok := ok) h n with ⟨b, e1, e2, e3⟩ | ⟨e1, e3⟩
    · rw [e1, e3]
      simp only [bcmp]
      cases hok : ok n with
      | false => simp; exact e2
      | true =>
        cases hal : al n with
        | false =>
          have h0 := h2 hal
          simp [h0]
          exact e2
        | true =>
          by_cases hlt : vl b < vl n
          · simp [hlt]; exact h1 hal
          · simp [hlt]; exact e2
    · rw [e3]
      simp only [bcmp]
      cases hok : ok n with
      | false => simp; exact e1
      | true =>
        cases hal : al n with
        | false =>
          have h0 := h2 hal
          right
          rcases e1 with e1 | ⟨b, e1, e2⟩
          · rw [e1]; simp [h0]
          · rw [e1]; simp [h0, e2]
        | true =>
          have h0 := h1 hal
          left
          rcases e1 with e1 | ⟨b, e1, e2⟩
          · rw [e1]; simp [h0]
          · rw [e1]
            have : vl b < vl n := by omega
            simp [this, h0]
theorem bA {d v m : Nat} {L : Nat → Nat} {al : Nat → Bool} (hL6 : ∀ w, L w ≤ 6) (h : ∀ w, (al w = true → 1 ≤ L w) ∧ (al w = false → L w = 0)) :
    (∃ b, bestD d L v m = some b ∧ b < d ∧ (1 : Int32) ≤ bestV d L v m ∧ bstA d L al v m = some b) ∨ (¬ (1 : Int32) ≤ bestV d L v m ∧ bstA d L al v m = none) := by
  rcases bA_ind (ok := fun k => m.testBit k) (al := fun k => al (v ^^^ 2 ^ k)) (vl := fun k => L (v ^^^ 2 ^ k)) (fun k => h _) d with ⟨b, e1, e2, e3⟩ | ⟨e1, e3⟩
  · left
    refine ⟨b, e1, (bst_lt e1).1, ?_, e3⟩
    have e1' : bestD d L v m = some b := e1
    rw [bestV, e1']
    exact nI_le (a := 1) e2 (Nat.lt_of_le_of_lt (hL6 _) (by decide))
  · right
    refine ⟨?_, e3⟩
    rcases e1 with e1 | ⟨b, e1, e2⟩
    · have e1' : bestD d L v m = none := e1
      rw [bestV, e1']
      exact (by decide : ¬ (1 : Int32) ≤ -1)
    · have e1' : bestD d L v m = some b := e1
      rw [bestV, e1']
      show ¬ (1 : Int32) ≤ nI (L (v ^^^ 2 ^ b))
      rw [show L (v ^^^ 2 ^ b) = 0 from e2]
      decide
def wyO (d : Nat) (L : Nat → Nat) (al : Nat → Bool) (p g : Nat) (x : Int32) : Option (Nat × Bool) :=
  match bstA d L al p (p ^^^ g) with
  | some b => some (b, false)
  | none => if 2 ≤ x then none else match bstA d L al p (spr d (p ^^^ g)) with
    | some b => some (b, true)
    | none => none
theorem wyO_lt {d : Nat} {L : Nat → Nat} {al : Nat → Bool} {p g : Nat} {x : Int32} {b : Nat} {t : Bool} (h : wyO d L al p g x = some (b, t)) : b < d ∧ al (p ^^^ 2 ^ b) = true := by
  unfold wyO at h
  cases h1 : bstA d L al p (p ^^^ g) with
  | some b' =>
    rw [h1] at h
    cases h
    have := bst_lt h1
    rw [Bool.and_eq_true] at this
    exact ⟨this.1, this.2.2⟩
  | none =>
    rw [h1] at h
    dsimp only at h
    split at h
    · cases h
    · cases h2 : bstA d L al p (spr d (p ^^^ g)) with
      | some b' =>
        rw [h2] at h
        cases h
        have := bst_lt h2
        rw [Bool.and_eq_true] at this
        exact ⟨this.1, this.2.2⟩
      | none => rw [h2] at h; cases h
abbrev CS : Type := Nat × (Nat → Nat) × (Nat → Int32) × (Nat → Int32) × (Nat → Int32) × (Nat → Int32)
def cgo (p g b i : Nat) (t : Bool) (S : CS) : CS :=
  (S.1 + 1, uN2 S.2.1 p (S.2.1 p ||| 2 ^ b), if p ^^^ 2 ^ b = g then upd S.2.2.1 i 1 else S.2.2.1, upd S.2.2.2.1 i (nI (p ^^^ 2 ^ b)), upd S.2.2.2.2.1 i (S.2.2.2.2.1 i + 1), if t = true then upd S.2.2.2.2.2 i (S.2.2.2.2.2 i + 1) else S.2.2.2.2.2)
def cmv (d : Nat) (L : Nat → Nat) (al : Nat → Bool) (go : Nat → Int32) (i : Nat) (S : CS) : CS :=
  if S.2.2.1 i = 0 then
    match wyO d L al (S.2.2.2.1 i).toNatClampNeg (go i).toNatClampNeg (S.2.2.2.2.2 i) with
    | none => S
    | some (b, t) => if (S.2.1 (S.2.2.2.1 i).toNatClampNeg).testBit b = true then S else cgo (S.2.2.2.1 i).toNatClampNeg (go i).toNatClampNeg b i t S
  else S
def cit (d : Nat) (L : Nat → Nat) (al : Nat → Bool) (go : Nat → Int32) : Nat → CS → CS
  | 0, S => S
  | j + 1, S => cmv d L al go j (cit d L al go j S)
def VC (d n : Nat) (go : Nat → Int32) (S : CS) : Prop := (∀ v, S.2.1 v < 64) ∧ ∀ i, i < n → ∃ p g, p < 2 ^ d ∧ g < 2 ^ d ∧ S.2.2.2.1 i = nI p ∧ go i = nI g
theorem or_bit : ∀ m, m < 64 → ∀ b, b < 6 → nI m ||| nI (2 ^ b) = nI (m ||| 2 ^ b) ∧ m ||| 2 ^ b < 64 := by decide +kernel
theorem VC_go {d n p g b i : Nat} {t : Bool} {go : Nat → Int32} {S : CS} (hd : d ≤ 6) (h : VC d n go S) (hp : p < 2 ^ d) (hb : b < d) : VC d n go (cgo p g b i t S) := by
  obtain ⟨h1, h2⟩ := h
  refine ⟨fun v => ?_, fun j hj => ?_⟩
  · show uN2 S.2.1 p _ v < 64
    unfold uN2
    by_cases e : v = p
    · rw [if_pos e]; exact (or_bit _ (h1 p) b (by omega)).2
    · rw [if_neg e]; exact h1 v
  · obtain ⟨p', g', a1, a2, a3, a4⟩ := h2 j hj
    by_cases e : j = i
    · exact ⟨p ^^^ 2 ^ b, g', nb_lt hd hp hb, a2, if_pos e, a4⟩
    · exact ⟨p', g', a1, a2, (if_neg e).trans a3, a4⟩
theorem cmv_at {d n i : Nat} {L : Nat → Nat} {al : Nat → Bool} {go : Nat → Int32} {S : CS} {p g : Nat} (hd : d ≤ 6) (hp : p < 2 ^ d) (hg : g < 2 ^ d) (e1 : S.2.2.2.1 i = nI p) (e2 : go i = nI g) :
    cmv d L al go i S = if S.2.2.1 i = 0 then (match wyO d L al p g (S.2.2.2.2.2 i) with | none => S | some (b, t) => if (S.2.1 p).testBit b = true then S else cgo p g b i t S) else S := by
  have h6 := p2_le hd
  rw [cmv, e1, e2, nI_clamp (by omega), nI_clamp (by omega)]
theorem VC_mv {d n i : Nat} {L : Nat → Nat} {al : Nat → Bool} {go : Nat → Int32} {S : CS} (hd : d ≤ 6) (h : VC d n go S) (hi : i < n) : VC d n go (cmv d L al go i S) := by
  obtain ⟨p, g, a1, a2, a3, a4⟩ := h.2 i hi
  rw [cmv_at (n := n) hd a1 a2 a3 a4]
  split
  · cases hw : wyO d L al p g (S.2.2.2.2.2 i) with
    | none => exact h
    | some bt =>
      obtain ⟨b, t⟩ := bt
      dsimp only
      split
      · exact h
      · exact VC_go hd h a1 (wyO_lt hw).1
  · exact h
theorem VC_it {d n : Nat} {L : Nat → Nat} {al : Nat → Bool} {go : Nat → Int32} {S : CS} (hd : d ≤ 6) (h : VC d n go S) : ∀ j, j ≤ n → VC d n go (cit d L al go j S)
  | 0, _ => h
  | j + 1, hj => VC_mv hd (VC_it hd h j (by omega)) hj
theorem s_move {i w g : Nat} {t : Bool} {st po go mv de : Nat → Int32} (hi : i < 24) (hw : w < 64) (hg : g < 64) (eg : go i = nI g) :
    f_X4_move (nI i) (nI w) (bI t) st po go mv de = some (if w = g then upd st i 1 else st, upd po i (nI w), upd mv i (mv i + 1), if t = true then upd de i (de i + 1) else de) := by
  refine (zob_eq (s_write po _ hi (by decide))).trans ((zob_eq (s_read mv hi (by decide))).trans ((zob_eq (s_write mv _ hi (by decide))).trans (zjp_eq.trans ?_)))
  have k : ∀ x : Nat → Int32, (zob (f_X6_read 24 (nI i) go) fun u4 => if nI w = u4 then zob (f_X6_write 24 (nI i) 1 st) fun u5 => some (u5, upd po i (nI w), upd mv i (mv i + 1), x) else some (st, upd po i (nI w), upd mv i (mv i + 1), x)) = some (if w = g then upd st i 1 else st, upd po i (nI w), upd mv i (mv i + 1), x) := fun x => by
    refine (zob_eq (s_read go hi (by decide))).trans ?_
    rw [eg]
    by_cases e : w = g
    · refine (if_pos (by rw [e])).trans ((zob_eq (s_write st _ hi (by decide))).trans ?_)
      rw [if_pos e]
    · refine (if_neg (fun q => e (nI_inj (by omega) (by omega) q))).trans ?_
      rw [if_neg e]
  cases t with
  | false => exact (if_pos rfl).trans (k de)
  | true => exact (if_neg (by decide)).trans ((zob_eq (s_read de hi (by decide))).trans ((zob_eq (s_write de _ hi (by decide))).trans (k _)))
def mvQ (C : CS) (D : CS) (r : rt_X4_moved) : Prop := ((r.1 = 0 ∧ D.1 = C.1) ∨ (r.1 = 1 ∧ D.1 = C.1 + 1)) ∧ (∀ v, v < 64 → r.2.1 v = nI (D.2.1 v)) ∧ r.2.2.1 = D.2.2.1 ∧ r.2.2.2.1 = D.2.2.2.1 ∧ r.2.2.2.2.1 = D.2.2.2.2.1 ∧ r.2.2.2.2.2 = D.2.2.2.2.2
theorem s_moved {d n i : Nat} {al : Nat → Bool} {uw go f : Nat → Int32} {S : CS} (hd1 : 1 ≤ d) (hd : d ≤ 6) (hn : n ≤ 24) (h : VC d n go S) (hi : i < n) (hs : S.2.2.1 i = 0) (hu : ∀ v, v < 64 → uw v = nI (S.2.1 v)) (hf : ∀ w, w < 64 → f w = nI (LV d al w)) :
    wp (f_X4_moved (nI i) uw S.2.2.1 S.2.2.2.1 go S.2.2.2.2.1 S.2.2.2.2.2 (nI d) f) (mvQ S (cmv d (LV d al) al go i S)) := by
  have h6 := p2_le hd
  have hL6 : ∀ w, LV d al w ≤ 6 := fun w => Nat.le_trans (lvl_le d al _ w) hd
  have hL : ∀ w, w < 64 → LV d al w ≤ 6 := fun w _ => hL6 w
  obtain ⟨p, g, hp, hg, ep, eg⟩ := h.2 i hi
  rw [cmv_at (n := n) hd hp hg ep eg, if_pos hs]
  have hx : p ^^^ g < 2 ^ d := Nat.xor_lt_two_pow hp hg
  have same : mvQ S S (0, uw, S.2.2.1, S.2.2.2.1, S.2.2.2.2.1, S.2.2.2.2.2) := ⟨Or.inl ⟨rfl, rfl⟩, hu, rfl, rfl, rfl, rfl⟩
  refine wp_ob (s_read _ (show i < 24 by omega) (by decide)) (wp_ob (s_read _ (show i < 24 by omega) (by decide)) (wp_bd ?_))
  rw [ep, eg, nx_xor]
  refine wp_ob (s_bestLevel hd (by omega) (by omega) hf hL) (wp_jp ?_)
  have way : ∀ (m b : Nat) (t : Bool), m < 64 → bestD d (LV d al) p m = some b → b < d → (1 : Int32) ≤ bestV d (LV d al) p m → ∀ (D : CS), D = (if (S.2.1 p).testBit b = true then S else cgo p g b i t S) →
      wp (zob (f_X2_bestLevel (nI p) (nI m) (nI d) f) (fun u5 =>
if (1 : Int32) ≤ u5 then (
zob (f_X2_bestDimension (nI p) (nI m) (nI d) f) (fun u6 =>
zob (f_X6_read 64 (nI p) uw) (fun u7 =>
zob (f_X6_hasBit u7 u6) (fun u8 =>
if (u8 : Int32) = 0 then (
zob (f_X6_read 64 (nI p) uw) (fun u9 =>
zob (f_X6_write 64 (nI p) (u9 ||| ((1 : Int32) <<< (u6 &&& 31))) uw) (fun u10 =>
zob (f_X6_neighbour (nI p) u6) (fun u11 =>
zob (f_X4_move (nI i) u11 (bI t) S.2.2.1 S.2.2.2.1 go S.2.2.2.2.1 S.2.2.2.2.2) (fun u12 =>
some (1, u10, u12.1, u12.2.1, u12.2.2.1, u12.2.2.2)))))) else (
some (0, uw, S.2.2.1, S.2.2.2.1, S.2.2.2.2.1, S.2.2.2.2.2)))))) else (
some (0, uw, S.2.2.1, S.2.2.2.1, S.2.2.2.2.1, S.2.2.2.2.2)))) (mvQ S D) := fun m b t hm hb hbd hge D hD => by
    refine wp_ob (s_bestLevel hd (by omega) hm hf hL) (wp_t hge (wp_ob (s_bestDimension hd (by omega) hm hf hL) (wp_ob (s_read uw (show p < 64 by omega) (by decide)) ?_)))
    rw [hb, hu p (by omega)]
    refine wp_ob (s_hasBit _ (h.1 p) b (by omega)) ?_
    cases hbt : (S.2.1 p).testBit b with
    | true =>
      rw [hbt, if_pos rfl] at hD
      rw [hD]
      exact wp_f (show ¬ bI true = 0 by decide) (wp_some same)
    | false =>
      rw [hbt, if_neg (by decide)] at hD
      rw [hD]
      refine wp_t rfl (wp_ob (s_read uw (show p < 64 by omega) (by decide)) ?_)
      have hob := or_bit _ (h.1 p) b (by omega)
      rw [hu p (by omega), show bD (some b) = nI b from rfl, p2_nI b (by omega), hob.1]
      refine wp_ob (s_write uw _ (show p < 64 by omega) (by decide)) (wp_ob (s_neighbour p (by omega)) ?_)
      have hw : p ^^^ 2 ^ b < 64 := nb_64 (by omega) (by omega)
      refine wp_ob (s_move (by omega) hw (by omega) eg) (wp_some ⟨Or.inr ⟨rfl, rfl⟩, fun v hv => ?_, rfl, rfl, rfl, rfl⟩)
      show upd uw p _ v = nI (uN2 S.2.1 p _ v)
      unfold upd uN2
      by_cases e : v = p
      · rw [if_pos e, if_pos e]
      · rw [if_neg e, if_neg e]; exact hu v hv
  rcases bA (d := d) (v := p) (m := p ^^^ g) hL6 (LV_alive hd1 al) with ⟨b, e1, hbd, e2, e3⟩ | ⟨e2, e3⟩
  · have hwy : wyO d (LV d al) al p g (S.2.2.2.2.2 i) = some (b, false) := by rw [wyO, e3]
    rw [hwy]
    refine wp_t e2 (wp_jp (wp_t rfl (wp_jp (wp_t rfl ?_))))
    exact way (p ^^^ g) b false (by omega) e1 hbd e2 _ rfl
  · refine wp_f e2 (wp_jp (wp_f (by decide) (wp_ob (s_spareOf hd (by omega)) (wp_jp (wp_f (by decide) (wp_ob (s_read _ (show i < 24 by omega) (by decide)) ?_))))))
    by_cases h2 : (2 : Int32) ≤ S.2.2.2.2.2 i
    · have hwy : wyO d (LV d al) al p g (S.2.2.2.2.2 i) = none := by rw [wyO, e3]; exact if_pos h2
      rw [hwy]
      exact wp_t h2 (wp_some same)
    · refine wp_f h2 ?_
      rcases bA (d := d) (v := p) (m := spr d (p ^^^ g)) hL6 (LV_alive hd1 al) with ⟨b, f1, hbd, f2, f3⟩ | ⟨f2, f3⟩
      · have hwy : wyO d (LV d al) al p g (S.2.2.2.2.2 i) = some (b, true) := by
          rw [wyO, e3]
          dsimp only
          rw [if_neg h2, f3]
        rw [hwy]
        exact way (spr d (p ^^^ g)) b true (spr_lt hd) f1 hbd f2 _ rfl
      · have hwy : wyO d (LV d al) al p g (S.2.2.2.2.2 i) = none := by
          rw [wyO, e3]
          dsimp only
          rw [if_neg h2, f3]
        rw [hwy]
        exact wp_ob (s_bestLevel hd (by omega) (spr_lt hd) hf hL) (wp_f f2 (wp_some same))
theorem s_oneStep {d n : Nat} {al : Nat → Bool} {uw go f : Nat → Int32} {st po mv de : Nat → Int32} {steps : Int32} (hd1 : 1 ≤ d) (hd : d ≤ 6) (hn : n ≤ 24) (h : ∀ i, i < n → ∃ p g, p < 2 ^ d ∧ g < 2 ^ d ∧ po i = nI p ∧ go i = nI g) (hf : ∀ w, w < 64 → f w = nI (LV d al w)) :
    wp (f_X4_oneStep uw steps (nI n) st po go mv de (nI d) f) (fun r => r.1 = nI (cit d (LV d al) al go n (0, fun _ => 0, st, po, mv, de)).1 ∧ r.2.2.1 = steps + 1 ∧ r.2.2.2 = (cit d (LV d al) al go n (0, fun _ => 0, st, po, mv, de)).2.2) := by
  have hV : VC d n go (0, fun _ => 0, st, po, mv, de) := ⟨fun _ => (by decide : 0 < 64), h⟩
  obtain ⟨u0, e0, hu0⟩ := s_fillI (n := 64) 0 uw (by decide)
  refine wp_ob e0 ?_
  refine zl7_wp (fun i3 i4 uw st' po' mv' de' => ∃ j, j ≤ n ∧ i4 = nI j ∧ i3 = nI (cit d (LV d al) al go j (0, fun _ => 0, st, po, mv, de)).1 ∧ (∀ v, v < 64 → uw v = nI ((cit d (LV d al) al go j (0, fun _ => 0, st, po, mv, de)).2.1 v)) ∧ (st', po', mv', de') = (cit d (LV d al) al go j (0, fun _ => 0, st, po, mv, de)).2.2) (fun _ i4 _ _ _ _ _ => 100 - i4.toNatClampNeg) (fun K i3 i4 uw st' po' mv' de' hI ih => ?_) 0 0 u0 st po mv de ⟨0, Nat.zero_le n, rfl, rfl, hu0, rfl⟩ (by decide)
  obtain ⟨j, hj, rfl, rfl, hu, he⟩ := hI
  generalize hC : cit d (LV d al) al go j (0, fun _ => 0, st, po, mv, de) = C at *
  obtain ⟨rfl, rfl, rfl, rfl⟩ : st' = C.2.2.1 ∧ po' = C.2.2.2.1 ∧ mv' = C.2.2.2.2.1 ∧ de' = C.2.2.2.2.2 := by
    obtain ⟨c0, c1, c2, c3, c4, c5⟩ := C
    simp only [Prod.mk.injEq] at he
    exact he
  by_cases hjn : j < n
  · refine wp_f (nI_ge hjn (by omega)) (wp_ob (s_read _ (show j < 24 by omega) (by decide)) (wp_jp ?_))
    have hVj : VC d n go C := hC ▸ VC_it hd hV j hj
    have es : cit d (LV d al) al go (j + 1) (0, fun _ => 0, st, po, mv, de) = cmv d (LV d al) al go j C := by rw [cit, hC]
    have emu : 100 - (nI (j + 1)).toNatClampNeg < 100 - (nI j).toNatClampNeg := by
      rw [nI_clamp (by omega), nI_clamp (by omega)]; omega
    by_cases hs : C.2.2.1 j = 0
    · refine wp_t hs (wp_obW (s_moved hd1 hd hn hVj hjn hs hu hf) (fun r hr => ?_))
      obtain ⟨r1, r2, r3, r4, r5, r6⟩ := hr
      rcases r1 with ⟨r0, rC⟩ | ⟨r0, rC⟩
      · refine wp_t r0 (wp_bd ?_)
        rw [nI_1]
        refine ih _ _ _ _ _ _ _ ⟨j + 1, hjn, rfl, by rw [es, rC], by rw [es]; exact r2, by rw [es, r3, r4, r5, r6]⟩ emu
      · refine wp_f (by rw [r0]; decide) (wp_bd (wp_bd ?_))
        rw [nI_1, nI_1]
        refine ih _ _ _ _ _ _ _ ⟨j + 1, hjn, rfl, by rw [es, rC], by rw [es]; exact r2, by rw [es, r3, r4, r5, r6]⟩ emu
    · refine wp_f hs (wp_bd ?_)
      have em : cmv d (LV d al) al go j C = C := by rw [cmv, if_neg hs]
      rw [nI_1]
      exact ih _ _ _ _ _ _ _ ⟨j + 1, hjn, rfl, by rw [es, em], by rw [es, em]; exact hu, by rw [es, em]⟩ emu
  · have : j = n := by omega
    subst this
    refine wp_t (nI_le (Nat.le_refl _) (by omega)) (wp_bd (wp_some ?_))
    rw [hC]
    exact ⟨rfl, rfl, rfl⟩
