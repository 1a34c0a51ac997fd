/-! the search of the reference -/
def MC (x : Nat) : Nat := if x % 2 = 0 then x / 2 else 64 + x / 2
theorem MC_e (v : Nat) : MC (2 * v) = v := by unfold MC; rw [if_pos (by omega)]; omega
theorem MC_x (v : Nat) : MC (2 * v + 1) = 64 + v := by unfold MC; rw [if_neg (by omega)]; omega
theorem MC_lt {x : Nat} (h : x < 128) : MC x < 128 := by unfold MC; split <;> omega
theorem MC_inj {x y : Nat} (hx : x < 128) (hy : y < 128) (h : MC x = MC y) : x = y := by
  unfold MC at h
  split at h <;> split at h <;> omega
def oM (o : Option Nat) : Int32 := match o with | none => -1 | some x => nI (MC x)
def CM (m : Int32) (cm hv : Nat → Int32) (B : BS) : Prop := m = nI B.1 ∧ (∀ x, x < 128 → cm (MC x) = oM (B.2.1 x)) ∧ ∀ j, j < B.1 → hv j = nI (MC (B.2.2 j))
theorem oM_none (o : Option Nat) (h : ∀ x, o = some x → x < 128) : oM o = -1 ↔ o = none := by
  cases o with
  | none => exact ⟨fun _ => rfl, fun _ => rfl⟩
  | some x =>
    have := MC_lt (h x rfl)
    exact ⟨fun q => absurd q (nI_ne_m1 (n := MC x) (by omega)), fun q => by cases q⟩
theorem BV_128 {d : Nat} {U : Nat → Nat} {al : Nat → Bool} {s : Nat} {B : BS} (hd : d ≤ 6) (hB : BV d U al s B) (y x : Nat) (e : B.2.1 y = some x) : x < 128 := by
  have h128 := p2_2 hd
  cases e2 : B.2.1 x with
  | none => exact absurd e2 (hB.2.1 y x e).2
  | some z => have := (hB.2.1 x z e2).1; omega
def GR (d s t : Nat) (U : Nat → Nat) (C : Nat → Option Nat) (dir : Bool) (goes comes : Nat → Int32) : Prop :=
  goes s = -1 ∧ (∀ u, u < 2 ^ d → u ≠ s → U u = 0 → goes u = -1) ∧ (∀ u k, u < 2 ^ d → k < d → u ≠ s → (U u).testBit k = true → goes u = nI (u ^^^ 2 ^ k)) ∧
  (∀ v, v < 2 ^ d → comes v = oI (C v)) ∧ ∀ k, k < d → s ^^^ 2 ^ k = t → dir = (U s).testBit k
theorem mod64 : ∀ y, y < 128 → nI y - nI y / (64 : Int32) * (64 : Int32) = nI (y % 64) := by decide +kernel
theorem exE_none {U : Nat → Nat} {v : Nat} {B : BS} : ∀ n, (∀ k, k < n → (U (v ^^^ 2 ^ k)).testBit k = false) → exE U v n B = B
  | 0, _ => rfl
  | n + 1, h => by rw [exE, exE_none n (fun k hk => h k (by omega)), h n (by omega), if_neg (by decide)]
theorem exE_one {U : Nat → Nat} {v k0 : Nat} {B : BS} : ∀ n, k0 < n → (∀ k, k < n → ((U (v ^^^ 2 ^ k)).testBit k = true ↔ k = k0)) → exE U v n B = dsc (2 * v) (2 * (v ^^^ 2 ^ k0) + 1) B
  | 0, h, _ => absurd h (Nat.not_lt_zero _)
  | n + 1, hk, h => by
    rw [exE]
    by_cases e : n = k0
    · subst e
      rw [if_pos ((h n (by omega)).mpr rfl), exE_none n (fun k hk2 => by
        cases q : (U (v ^^^ 2 ^ k)).testBit k with
        | false => rfl
        | true => have := (h k (by omega)).mp q; omega)]
    · rw [if_neg (fun q => e ((h n (by omega)).mp q)), exE_one n (by omega) (fun k hk2 => h k (by omega))]
theorem m_fill128 {R : Type} (f : Nat → Int32) (Y : (Nat → Int32) → Option R) : zl2 (R := R) (fun k3 (i4_3 : Int32) (c_3 : Nat → Int32) => if (128 : Int32) ≤ i4_3 then Y c_3 else zbd (-1 : Int32) (fun x22 => zgd (inb i4_3 128) (zbd (upd c_3 i4_3.toNatClampNeg x22) (fun y24 => zbd (i4_3 + 1) (fun x25 => k3 x25 y24))))) zfu 0 f = Y (zp f (fun _ => -1) 128) := by
  refine zl2_iter 128 (fun j => nI j) (fun j => zp f (fun _ => -1) j) (by decide) (fun K j hj => ?_) (fun K => if_pos (by decide)) nI_0 (zp_0 _ _)
  refine (if_neg (nI_ge (show j < 128 from hj) (by decide))).trans (zbd_eq.trans ((zgd_eq (inb_nI hj (by decide))).trans (zbd_eq.trans (zbd_eq.trans ?_))))
  rw [nI_1, nI_clamp (by omega), zp_succ f (fun _ => -1) j]