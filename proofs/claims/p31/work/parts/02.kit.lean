/-! own words: the pure side (zob, zgd, zbd, zjp, lp..), what every contract takes as given (ev_ok), calls and ends in one row -/
def zob {A R : Type} (x : Option A) (f : A → Option R) : Option R := match x with
  | some a => f a
  | none => none
def zgd {R : Type} (b : Bool) (x : Option R) : Option R := match b with
  | true => x
  | false => none
def zbd {A R : Type} (e : A) (f : A → Option R) : Option R := f e
def zjp {T R : Type} (k : T) (body : T → Option R) : Option R := body k
def zox {A R : Type} (x : Option (String ⊕ A)) (f : A → Option (String ⊕ R)) : Option (String ⊕ R) := match x with
  | some (.inr a) => f a
  | some (.inl E) => some (.inl E)
  | none => none
def zcx {A R : Type} (x : Option (String ⊕ A)) (h : String → Option R) (f : A → Option R) : Option R := match x with
  | some (.inr a) => f a
  | some (.inl E) => h E
  | none => none
theorem zcx_split {A R : Type} {x : Option (String ⊕ A)} {h : String → Option R} {f : A → Option R} {r : R} (hf : zcx x h f = some r) : ∃ a, x = some a ∧ zcx (some a) h f = some r := by
  cases x with
  | none => cases hf
  | some a => exact ⟨a, rfl, hf⟩
theorem zcx_inr {A R : Type} {a : A} {h : String → Option R} {f : A → Option R} {r : R} (hf : zcx (some (.inr a)) h f = some r) : f a = some r := hf
theorem zcx_inl {A R : Type} {E : String} {h : String → Option R} {f : A → Option R} {r : R} (hf : zcx (some (.inl E)) h f = some r) : h E = some r := hf
def inb (i : Int32) (n : Nat) : Bool := decide (0 ≤ i.toInt) && decide (i.toInt < n)
def zfu : Nat := 10000
theorem inb_in {i : Int32} {n : Nat} (h : inb i n = true) : vp_in i n := by
  rw [inb, Bool.and_eq_true] at h
  exact vp_in_iff.mpr ⟨of_decide_eq_true h.1, of_decide_eq_true h.2⟩
theorem zob_some {A R : Type} {x : Option A} {f : A → Option R} {r : R} (h : zob x f = some r) : ∃ a, x = some a ∧ f a = some r := by
  cases x with
  | none => cases h
  | some a => exact ⟨a, rfl, h⟩
theorem zox_split {A R : Type} {x : Option (String ⊕ A)} {f : A → Option (String ⊕ R)} {r : String ⊕ R} (h : zox x f = some r) : ∃ a, x = some a ∧ zox (some a) f = some r := by
  cases x with
  | none => cases h
  | some a => exact ⟨a, rfl, h⟩
theorem zox_inr {A R : Type} {a : A} {f : A → Option (String ⊕ R)} {r : String ⊕ R} (h : zox (some (.inr a)) f = some r) : f a = some r := h
theorem zox_inl {A R : Type} {E : String} {f : A → Option (String ⊕ R)} {r : String ⊕ R} (h : zox (some (.inl E)) f = some r) : r = .inl E := (Option.some.inj h).symm
theorem zgd_some {R : Type} {b : Bool} {x : Option R} {r : R} (h : zgd b x = some r) : b = true ∧ x = some r := by
  cases b with
  | false => cases h
  | true => exact ⟨rfl, h⟩
theorem zbd_of {A R : Type} {e x : A} {f : A → Option R} {r : R} (ex : x = e) (h : zbd e f = some r) : f x = some r := by
  subst ex
  exact h
theorem zjp_some {T R : Type} {k : T} {body : T → Option R} {r : R} (h : zjp k body = some r) : ∃ K, K = k ∧ body K = some r := ⟨k, rfl, h⟩
theorem zite_t {R : Type} {c : Prop} [Decidable c] {x y : Option R} {r : R} (h : c) (hf : (if c then x else y) = some r) : x = some r := by
  rw [if_pos h] at hf
  exact hf
theorem zite_f {R : Type} {c : Prop} [Decidable c] {x y : Option R} {r : R} (h : ¬ c) (hf : (if c then x else y) = some r) : y = some r := by
  rw [if_neg h] at hf
  exact hf
def zl0 {R : Type} (F : (Option R) → Option R) : Nat → Option R
  | 0 => none
  | n + 1 => F (zl0 F n) 
theorem zl0_some {R : Type} {F : (Option R) → Option R} {n : Nat}  {r : R} (h : zl0 F n  = some r) : ∃ F', F' = F ∧ zl0 F' n  = some r := ⟨F, rfl, h⟩
theorem zl0_zero {R : Type} {F : (Option R) → Option R}  {r : R} (h : zl0 F 0  = some r) : False := by cases h
theorem zl0_step {R : Type} {F G : (Option R) → Option R} {n : Nat}  {r : R} (e : F = G) (h : zl0 F (n + 1)  = some r) : G (zl0 F n)  = some r := by
  subst e
  exact h
theorem zap0 {R : Type} {K L : Option R}  {r : R} (e : K = L) (h : K  = some r) : L  = some r := by
  subst e
  exact h
def zl1 {A0 R : Type} (F : (A0 → Option R) → A0 → Option R) : Nat → A0 → Option R
  | 0, _ => none
  | n + 1, a0 => F (zl1 F n) a0
theorem zl1_some {A0 R : Type} {F : (A0 → Option R) → A0 → Option R} {n : Nat} {a0 : A0} {r : R} (h : zl1 F n a0 = some r) : ∃ F', F' = F ∧ zl1 F' n a0 = some r := ⟨F, rfl, h⟩
theorem zl1_zero {A0 R : Type} {F : (A0 → Option R) → A0 → Option R} {a0 : A0} {r : R} (h : zl1 F 0 a0 = some r) : False := by cases h
theorem zl1_step {A0 R : Type} {F G : (A0 → Option R) → A0 → Option R} {n : Nat} {a0 : A0} {r : R} (e : F = G) (h : zl1 F (n + 1) a0 = some r) : G (zl1 F n) a0 = some r := by
  subst e
  exact h
theorem zap1 {A0 R : Type} {K L : A0 → Option R} {a0 : A0} {r : R} (e : K = L) (h : K a0 = some r) : L a0 = some r := by
  subst e
  exact h
def zl2 {A0 A1 R : Type} (F : (A0 → A1 → Option R) → A0 → A1 → Option R) : Nat → A0 → A1 → Option R
  | 0, _, _ => none
  | n + 1, a0, a1 => F (zl2 F n) a0 a1
theorem zl2_some {A0 A1 R : Type} {F : (A0 → A1 → Option R) → A0 → A1 → Option R} {n : Nat} {a0 : A0} {a1 : A1} {r : R} (h : zl2 F n a0 a1 = some r) : ∃ F', F' = F ∧ zl2 F' n a0 a1 = some r := ⟨F, rfl, h⟩
theorem zl2_zero {A0 A1 R : Type} {F : (A0 → A1 → Option R) → A0 → A1 → Option R} {a0 : A0} {a1 : A1} {r : R} (h : zl2 F 0 a0 a1 = some r) : False := by cases h
theorem zl2_step {A0 A1 R : Type} {F G : (A0 → A1 → Option R) → A0 → A1 → Option R} {n : Nat} {a0 : A0} {a1 : A1} {r : R} (e : F = G) (h : zl2 F (n + 1) a0 a1 = some r) : G (zl2 F n) a0 a1 = some r := by
  subst e
  exact h
theorem zap2 {A0 A1 R : Type} {K L : A0 → A1 → Option R} {a0 : A0} {a1 : A1} {r : R} (e : K = L) (h : K a0 a1 = some r) : L a0 a1 = some r := by
  subst e
  exact h
def zl3 {A0 A1 A2 R : Type} (F : (A0 → A1 → A2 → Option R) → A0 → A1 → A2 → Option R) : Nat → A0 → A1 → A2 → Option R
  | 0, _, _, _ => none
  | n + 1, a0, a1, a2 => F (zl3 F n) a0 a1 a2
theorem zl3_some {A0 A1 A2 R : Type} {F : (A0 → A1 → A2 → Option R) → A0 → A1 → A2 → Option R} {n : Nat} {a0 : A0} {a1 : A1} {a2 : A2} {r : R} (h : zl3 F n a0 a1 a2 = some r) : ∃ F', F' = F ∧ zl3 F' n a0 a1 a2 = some r := ⟨F, rfl, h⟩
theorem zl3_zero {A0 A1 A2 R : Type} {F : (A0 → A1 → A2 → Option R) → A0 → A1 → A2 → Option R} {a0 : A0} {a1 : A1} {a2 : A2} {r : R} (h : zl3 F 0 a0 a1 a2 = some r) : False := by cases h
theorem zl3_step {A0 A1 A2 R : Type} {F G : (A0 → A1 → A2 → Option R) → A0 → A1 → A2 → Option R} {n : Nat} {a0 : A0} {a1 : A1} {a2 : A2} {r : R} (e : F = G) (h : zl3 F (n + 1) a0 a1 a2 = some r) : G (zl3 F n) a0 a1 a2 = some r := by
  subst e
  exact h
theorem zap3 {A0 A1 A2 R : Type} {K L : A0 → A1 → A2 → Option R} {a0 : A0} {a1 : A1} {a2 : A2} {r : R} (e : K = L) (h : K a0 a1 a2 = some r) : L a0 a1 a2 = some r := by
  subst e
  exact h
def zl4 {A0 A1 A2 A3 R : Type} (F : (A0 → A1 → A2 → A3 → Option R) → A0 → A1 → A2 → A3 → Option R) : Nat → A0 → A1 → A2 → A3 → Option R
  | 0, _, _, _, _ => none
  | n + 1, a0, a1, a2, a3 => F (zl4 F n) a0 a1 a2 a3
theorem zl4_some {A0 A1 A2 A3 R : Type} {F : (A0 → A1 → A2 → A3 → Option R) → A0 → A1 → A2 → A3 → Option R} {n : Nat} {a0 : A0} {a1 : A1} {a2 : A2} {a3 : A3} {r : R} (h : zl4 F n a0 a1 a2 a3 = some r) : ∃ F', F' = F ∧ zl4 F' n a0 a1 a2 a3 = some r := ⟨F, rfl, h⟩
theorem zl4_zero {A0 A1 A2 A3 R : Type} {F : (A0 → A1 → A2 → A3 → Option R) → A0 → A1 → A2 → A3 → Option R} {a0 : A0} {a1 : A1} {a2 : A2} {a3 : A3} {r : R} (h : zl4 F 0 a0 a1 a2 a3 = some r) : False := by cases h
theorem zl4_step {A0 A1 A2 A3 R : Type} {F G : (A0 → A1 → A2 → A3 → Option R) → A0 → A1 → A2 → A3 → Option R} {n : Nat} {a0 : A0} {a1 : A1} {a2 : A2} {a3 : A3} {r : R} (e : F = G) (h : zl4 F (n + 1) a0 a1 a2 a3 = some r) : G (zl4 F n) a0 a1 a2 a3 = some r := by
  subst e
  exact h
theorem zap4 {A0 A1 A2 A3 R : Type} {K L : A0 → A1 → A2 → A3 → Option R} {a0 : A0} {a1 : A1} {a2 : A2} {a3 : A3} {r : R} (e : K = L) (h : K a0 a1 a2 a3 = some r) : L a0 a1 a2 a3 = some r := by
  subst e
  exact h
def zl5 {A0 A1 A2 A3 A4 R : Type} (F : (A0 → A1 → A2 → A3 → A4 → Option R) → A0 → A1 → A2 → A3 → A4 → Option R) : Nat → A0 → A1 → A2 → A3 → A4 → Option R
  | 0, _, _, _, _, _ => none
  | n + 1, a0, a1, a2, a3, a4 => F (zl5 F n) a0 a1 a2 a3 a4
theorem zl5_some {A0 A1 A2 A3 A4 R : Type} {F : (A0 → A1 → A2 → A3 → A4 → Option R) → A0 → A1 → A2 → A3 → A4 → Option R} {n : Nat} {a0 : A0} {a1 : A1} {a2 : A2} {a3 : A3} {a4 : A4} {r : R} (h : zl5 F n a0 a1 a2 a3 a4 = some r) : ∃ F', F' = F ∧ zl5 F' n a0 a1 a2 a3 a4 = some r := ⟨F, rfl, h⟩
theorem zl5_zero {A0 A1 A2 A3 A4 R : Type} {F : (A0 → A1 → A2 → A3 → A4 → Option R) → A0 → A1 → A2 → A3 → A4 → Option R} {a0 : A0} {a1 : A1} {a2 : A2} {a3 : A3} {a4 : A4} {r : R} (h : zl5 F 0 a0 a1 a2 a3 a4 = some r) : False := by cases h
theorem zl5_step {A0 A1 A2 A3 A4 R : Type} {F G : (A0 → A1 → A2 → A3 → A4 → Option R) → A0 → A1 → A2 → A3 → A4 → Option R} {n : Nat} {a0 : A0} {a1 : A1} {a2 : A2} {a3 : A3} {a4 : A4} {r : R} (e : F = G) (h : zl5 F (n + 1) a0 a1 a2 a3 a4 = some r) : G (zl5 F n) a0 a1 a2 a3 a4 = some r := by
  subst e
  exact h
theorem zap5 {A0 A1 A2 A3 A4 R : Type} {K L : A0 → A1 → A2 → A3 → A4 → Option R} {a0 : A0} {a1 : A1} {a2 : A2} {a3 : A3} {a4 : A4} {r : R} (e : K = L) (h : K a0 a1 a2 a3 a4 = some r) : L a0 a1 a2 a3 a4 = some r := by
  subst e
  exact h
def zl6 {A0 A1 A2 A3 A4 A5 R : Type} (F : (A0 → A1 → A2 → A3 → A4 → A5 → Option R) → A0 → A1 → A2 → A3 → A4 → A5 → Option R) : Nat → A0 → A1 → A2 → A3 → A4 → A5 → Option R
  | 0, _, _, _, _, _, _ => none
  | n + 1, a0, a1, a2, a3, a4, a5 => F (zl6 F n) a0 a1 a2 a3 a4 a5
theorem zl6_some {A0 A1 A2 A3 A4 A5 R : Type} {F : (A0 → A1 → A2 → A3 → A4 → A5 → Option R) → A0 → A1 → A2 → A3 → A4 → A5 → Option R} {n : Nat} {a0 : A0} {a1 : A1} {a2 : A2} {a3 : A3} {a4 : A4} {a5 : A5} {r : R} (h : zl6 F n a0 a1 a2 a3 a4 a5 = some r) : ∃ F', F' = F ∧ zl6 F' n a0 a1 a2 a3 a4 a5 = some r := ⟨F, rfl, h⟩
theorem zl6_zero {A0 A1 A2 A3 A4 A5 R : Type} {F : (A0 → A1 → A2 → A3 → A4 → A5 → Option R) → A0 → A1 → A2 → A3 → A4 → A5 → Option R} {a0 : A0} {a1 : A1} {a2 : A2} {a3 : A3} {a4 : A4} {a5 : A5} {r : R} (h : zl6 F 0 a0 a1 a2 a3 a4 a5 = some r) : False := by cases h
theorem zl6_step {A0 A1 A2 A3 A4 A5 R : Type} {F G : (A0 → A1 → A2 → A3 → A4 → A5 → Option R) → A0 → A1 → A2 → A3 → A4 → A5 → Option R} {n : Nat} {a0 : A0} {a1 : A1} {a2 : A2} {a3 : A3} {a4 : A4} {a5 : A5} {r : R} (e : F = G) (h : zl6 F (n + 1) a0 a1 a2 a3 a4 a5 = some r) : G (zl6 F n) a0 a1 a2 a3 a4 a5 = some r := by
  subst e
  exact h
theorem zap6 {A0 A1 A2 A3 A4 A5 R : Type} {K L : A0 → A1 → A2 → A3 → A4 → A5 → Option R} {a0 : A0} {a1 : A1} {a2 : A2} {a3 : A3} {a4 : A4} {a5 : A5} {r : R} (e : K = L) (h : K a0 a1 a2 a3 a4 a5 = some r) : L a0 a1 a2 a3 a4 a5 = some r := by
  subst e
  exact h
def zl7 {A0 A1 A2 A3 A4 A5 A6 R : Type} (F : (A0 → A1 → A2 → A3 → A4 → A5 → A6 → Option R) → A0 → A1 → A2 → A3 → A4 → A5 → A6 → Option R) : Nat → A0 → A1 → A2 → A3 → A4 → A5 → A6 → Option R
  | 0, _, _, _, _, _, _, _ => none
  | n + 1, a0, a1, a2, a3, a4, a5, a6 => F (zl7 F n) a0 a1 a2 a3 a4 a5 a6
theorem zl7_some {A0 A1 A2 A3 A4 A5 A6 R : Type} {F : (A0 → A1 → A2 → A3 → A4 → A5 → A6 → Option R) → A0 → A1 → A2 → A3 → A4 → A5 → A6 → Option R} {n : Nat} {a0 : A0} {a1 : A1} {a2 : A2} {a3 : A3} {a4 : A4} {a5 : A5} {a6 : A6} {r : R} (h : zl7 F n a0 a1 a2 a3 a4 a5 a6 = some r) : ∃ F', F' = F ∧ zl7 F' n a0 a1 a2 a3 a4 a5 a6 = some r := ⟨F, rfl, h⟩
theorem zl7_zero {A0 A1 A2 A3 A4 A5 A6 R : Type} {F : (A0 → A1 → A2 → A3 → A4 → A5 → A6 → Option R) → A0 → A1 → A2 → A3 → A4 → A5 → A6 → Option R} {a0 : A0} {a1 : A1} {a2 : A2} {a3 : A3} {a4 : A4} {a5 : A5} {a6 : A6} {r : R} (h : zl7 F 0 a0 a1 a2 a3 a4 a5 a6 = some r) : False := by cases h
theorem zl7_step {A0 A1 A2 A3 A4 A5 A6 R : Type} {F G : (A0 → A1 → A2 → A3 → A4 → A5 → A6 → Option R) → A0 → A1 → A2 → A3 → A4 → A5 → A6 → Option R} {n : Nat} {a0 : A0} {a1 : A1} {a2 : A2} {a3 : A3} {a4 : A4} {a5 : A5} {a6 : A6} {r : R} (e : F = G) (h : zl7 F (n + 1) a0 a1 a2 a3 a4 a5 a6 = some r) : G (zl7 F n) a0 a1 a2 a3 a4 a5 a6 = some r := by
  subst e
  exact h
theorem zap7 {A0 A1 A2 A3 A4 A5 A6 R : Type} {K L : A0 → A1 → A2 → A3 → A4 → A5 → A6 → Option R} {a0 : A0} {a1 : A1} {a2 : A2} {a3 : A3} {a4 : A4} {a5 : A5} {a6 : A6} {r : R} (e : K = L) (h : K a0 a1 a2 a3 a4 a5 a6 = some r) : L a0 a1 a2 a3 a4 a5 a6 = some r := by
  subst e
  exact h
def zl8 {A0 A1 A2 A3 A4 A5 A6 A7 R : Type} (F : (A0 → A1 → A2 → A3 → A4 → A5 → A6 → A7 → Option R) → A0 → A1 → A2 → A3 → A4 → A5 → A6 → A7 → Option R) : Nat → A0 → A1 → A2 → A3 → A4 → A5 → A6 → A7 → Option R
  | 0, _, _, _, _, _, _, _, _ => none
  | n + 1, a0, a1, a2, a3, a4, a5, a6, a7 => F (zl8 F n) a0 a1 a2 a3 a4 a5 a6 a7
theorem zl8_some {A0 A1 A2 A3 A4 A5 A6 A7 R : Type} {F : (A0 → A1 → A2 → A3 → A4 → A5 → A6 → A7 → Option R) → A0 → A1 → A2 → A3 → A4 → A5 → A6 → A7 → Option R} {n : Nat} {a0 : A0} {a1 : A1} {a2 : A2} {a3 : A3} {a4 : A4} {a5 : A5} {a6 : A6} {a7 : A7} {r : R} (h : zl8 F n a0 a1 a2 a3 a4 a5 a6 a7 = some r) : ∃ F', F' = F ∧ zl8 F' n a0 a1 a2 a3 a4 a5 a6 a7 = some r := ⟨F, rfl, h⟩
theorem zl8_zero {A0 A1 A2 A3 A4 A5 A6 A7 R : Type} {F : (A0 → A1 → A2 → A3 → A4 → A5 → A6 → A7 → Option R) → A0 → A1 → A2 → A3 → A4 → A5 → A6 → A7 → Option R} {a0 : A0} {a1 : A1} {a2 : A2} {a3 : A3} {a4 : A4} {a5 : A5} {a6 : A6} {a7 : A7} {r : R} (h : zl8 F 0 a0 a1 a2 a3 a4 a5 a6 a7 = some r) : False := by cases h
theorem zl8_step {A0 A1 A2 A3 A4 A5 A6 A7 R : Type} {F G : (A0 → A1 → A2 → A3 → A4 → A5 → A6 → A7 → Option R) → A0 → A1 → A2 → A3 → A4 → A5 → A6 → A7 → Option R} {n : Nat} {a0 : A0} {a1 : A1} {a2 : A2} {a3 : A3} {a4 : A4} {a5 : A5} {a6 : A6} {a7 : A7} {r : R} (e : F = G) (h : zl8 F (n + 1) a0 a1 a2 a3 a4 a5 a6 a7 = some r) : G (zl8 F n) a0 a1 a2 a3 a4 a5 a6 a7 = some r := by
  subst e
  exact h
theorem zap8 {A0 A1 A2 A3 A4 A5 A6 A7 R : Type} {K L : A0 → A1 → A2 → A3 → A4 → A5 → A6 → A7 → Option R} {a0 : A0} {a1 : A1} {a2 : A2} {a3 : A3} {a4 : A4} {a5 : A5} {a6 : A6} {a7 : A7} {r : R} (e : K = L) (h : K a0 a1 a2 a3 a4 a5 a6 a7 = some r) : L a0 a1 a2 a3 a4 a5 a6 a7 = some r := by
  subst e
  exact h
def zl9 {A0 A1 A2 A3 A4 A5 A6 A7 A8 R : Type} (F : (A0 → A1 → A2 → A3 → A4 → A5 → A6 → A7 → A8 → Option R) → A0 → A1 → A2 → A3 → A4 → A5 → A6 → A7 → A8 → Option R) : Nat → A0 → A1 → A2 → A3 → A4 → A5 → A6 → A7 → A8 → Option R
  | 0, _, _, _, _, _, _, _, _, _ => none
  | n + 1, a0, a1, a2, a3, a4, a5, a6, a7, a8 => F (zl9 F n) a0 a1 a2 a3 a4 a5 a6 a7 a8
theorem zl9_some {A0 A1 A2 A3 A4 A5 A6 A7 A8 R : Type} {F : (A0 → A1 → A2 → A3 → A4 → A5 → A6 → A7 → A8 → Option R) → A0 → A1 → A2 → A3 → A4 → A5 → A6 → A7 → A8 → Option R} {n : Nat} {a0 : A0} {a1 : A1} {a2 : A2} {a3 : A3} {a4 : A4} {a5 : A5} {a6 : A6} {a7 : A7} {a8 : A8} {r : R} (h : zl9 F n a0 a1 a2 a3 a4 a5 a6 a7 a8 = some r) : ∃ F', F' = F ∧ zl9 F' n a0 a1 a2 a3 a4 a5 a6 a7 a8 = some r := ⟨F, rfl, h⟩
theorem zl9_zero {A0 A1 A2 A3 A4 A5 A6 A7 A8 R : Type} {F : (A0 → A1 → A2 → A3 → A4 → A5 → A6 → A7 → A8 → Option R) → A0 → A1 → A2 → A3 → A4 → A5 → A6 → A7 → A8 → Option R} {a0 : A0} {a1 : A1} {a2 : A2} {a3 : A3} {a4 : A4} {a5 : A5} {a6 : A6} {a7 : A7} {a8 : A8} {r : R} (h : zl9 F 0 a0 a1 a2 a3 a4 a5 a6 a7 a8 = some r) : False := by cases h
theorem zl9_step {A0 A1 A2 A3 A4 A5 A6 A7 A8 R : Type} {F G : (A0 → A1 → A2 → A3 → A4 → A5 → A6 → A7 → A8 → Option R) → A0 → A1 → A2 → A3 → A4 → A5 → A6 → A7 → A8 → Option R} {n : Nat} {a0 : A0} {a1 : A1} {a2 : A2} {a3 : A3} {a4 : A4} {a5 : A5} {a6 : A6} {a7 : A7} {a8 : A8} {r : R} (e : F = G) (h : zl9 F (n + 1) a0 a1 a2 a3 a4 a5 a6 a7 a8 = some r) : G (zl9 F n) a0 a1 a2 a3 a4 a5 a6 a7 a8 = some r := by
  subst e
  exact h
theorem zap9 {A0 A1 A2 A3 A4 A5 A6 A7 A8 R : Type} {K L : A0 → A1 → A2 → A3 → A4 → A5 → A6 → A7 → A8 → Option R} {a0 : A0} {a1 : A1} {a2 : A2} {a3 : A3} {a4 : A4} {a5 : A5} {a6 : A6} {a7 : A7} {a8 : A8} {r : R} (e : K = L) (h : K a0 a1 a2 a3 a4 a5 a6 a7 a8 = some r) : L a0 a1 a2 a3 a4 a5 a6 a7 a8 = some r := by
  subst e
  exact h
def zl10 {A0 A1 A2 A3 A4 A5 A6 A7 A8 A9 R : Type} (F : (A0 → A1 → A2 → A3 → A4 → A5 → A6 → A7 → A8 → A9 → Option R) → A0 → A1 → A2 → A3 → A4 → A5 → A6 → A7 → A8 → A9 → Option R) : Nat → A0 → A1 → A2 → A3 → A4 → A5 → A6 → A7 → A8 → A9 → Option R
  | 0, _, _, _, _, _, _, _, _, _, _ => none
  | n + 1, a0, a1, a2, a3, a4, a5, a6, a7, a8, a9 => F (zl10 F n) a0 a1 a2 a3 a4 a5 a6 a7 a8 a9
theorem zl10_some {A0 A1 A2 A3 A4 A5 A6 A7 A8 A9 R : Type} {F : (A0 → A1 → A2 → A3 → A4 → A5 → A6 → A7 → A8 → A9 → Option R) → A0 → A1 → A2 → A3 → A4 → A5 → A6 → A7 → A8 → A9 → Option R} {n : Nat} {a0 : A0} {a1 : A1} {a2 : A2} {a3 : A3} {a4 : A4} {a5 : A5} {a6 : A6} {a7 : A7} {a8 : A8} {a9 : A9} {r : R} (h : zl10 F n a0 a1 a2 a3 a4 a5 a6 a7 a8 a9 = some r) : ∃ F', F' = F ∧ zl10 F' n a0 a1 a2 a3 a4 a5 a6 a7 a8 a9 = some r := ⟨F, rfl, h⟩
theorem zl10_zero {A0 A1 A2 A3 A4 A5 A6 A7 A8 A9 R : Type} {F : (A0 → A1 → A2 → A3 → A4 → A5 → A6 → A7 → A8 → A9 → Option R) → A0 → A1 → A2 → A3 → A4 → A5 → A6 → A7 → A8 → A9 → Option R} {a0 : A0} {a1 : A1} {a2 : A2} {a3 : A3} {a4 : A4} {a5 : A5} {a6 : A6} {a7 : A7} {a8 : A8} {a9 : A9} {r : R} (h : zl10 F 0 a0 a1 a2 a3 a4 a5 a6 a7 a8 a9 = some r) : False := by cases h
theorem zl10_step {A0 A1 A2 A3 A4 A5 A6 A7 A8 A9 R : Type} {F G : (A0 → A1 → A2 → A3 → A4 → A5 → A6 → A7 → A8 → A9 → Option R) → A0 → A1 → A2 → A3 → A4 → A5 → A6 → A7 → A8 → A9 → Option R} {n : Nat} {a0 : A0} {a1 : A1} {a2 : A2} {a3 : A3} {a4 : A4} {a5 : A5} {a6 : A6} {a7 : A7} {a8 : A8} {a9 : A9} {r : R} (e : F = G) (h : zl10 F (n + 1) a0 a1 a2 a3 a4 a5 a6 a7 a8 a9 = some r) : G (zl10 F n) a0 a1 a2 a3 a4 a5 a6 a7 a8 a9 = some r := by
  subst e
  exact h
theorem zap10 {A0 A1 A2 A3 A4 A5 A6 A7 A8 A9 R : Type} {K L : A0 → A1 → A2 → A3 → A4 → A5 → A6 → A7 → A8 → A9 → Option R} {a0 : A0} {a1 : A1} {a2 : A2} {a3 : A3} {a4 : A4} {a5 : A5} {a6 : A6} {a7 : A7} {a8 : A8} {a9 : A9} {r : R} (e : K = L) (h : K a0 a1 a2 a3 a4 a5 a6 a7 a8 a9 = some r) : L a0 a1 a2 a3 a4 a5 a6 a7 a8 a9 = some r := by
  subst e
  exact h
def zl11 {A0 A1 A2 A3 A4 A5 A6 A7 A8 A9 A10 R : Type} (F : (A0 → A1 → A2 → A3 → A4 → A5 → A6 → A7 → A8 → A9 → A10 → Option R) → A0 → A1 → A2 → A3 → A4 → A5 → A6 → A7 → A8 → A9 → A10 → Option R) : Nat → A0 → A1 → A2 → A3 → A4 → A5 → A6 → A7 → A8 → A9 → A10 → Option R
  | 0, _, _, _, _, _, _, _, _, _, _, _ => none
  | n + 1, a0, a1, a2, a3, a4, a5, a6, a7, a8, a9, a10 => F (zl11 F n) a0 a1 a2 a3 a4 a5 a6 a7 a8 a9 a10
theorem zl11_some {A0 A1 A2 A3 A4 A5 A6 A7 A8 A9 A10 R : Type} {F : (A0 → A1 → A2 → A3 → A4 → A5 → A6 → A7 → A8 → A9 → A10 → Option R) → A0 → A1 → A2 → A3 → A4 → A5 → A6 → A7 → A8 → A9 → A10 → Option R} {n : Nat} {a0 : A0} {a1 : A1} {a2 : A2} {a3 : A3} {a4 : A4} {a5 : A5} {a6 : A6} {a7 : A7} {a8 : A8} {a9 : A9} {a10 : A10} {r : R} (h : zl11 F n a0 a1 a2 a3 a4 a5 a6 a7 a8 a9 a10 = some r) : ∃ F', F' = F ∧ zl11 F' n a0 a1 a2 a3 a4 a5 a6 a7 a8 a9 a10 = some r := ⟨F, rfl, h⟩
theorem zl11_zero {A0 A1 A2 A3 A4 A5 A6 A7 A8 A9 A10 R : Type} {F : (A0 → A1 → A2 → A3 → A4 → A5 → A6 → A7 → A8 → A9 → A10 → Option R) → A0 → A1 → A2 → A3 → A4 → A5 → A6 → A7 → A8 → A9 → A10 → Option R} {a0 : A0} {a1 : A1} {a2 : A2} {a3 : A3} {a4 : A4} {a5 : A5} {a6 : A6} {a7 : A7} {a8 : A8} {a9 : A9} {a10 : A10} {r : R} (h : zl11 F 0 a0 a1 a2 a3 a4 a5 a6 a7 a8 a9 a10 = some r) : False := by cases h
theorem zl11_step {A0 A1 A2 A3 A4 A5 A6 A7 A8 A9 A10 R : Type} {F G : (A0 → A1 → A2 → A3 → A4 → A5 → A6 → A7 → A8 → A9 → A10 → Option R) → A0 → A1 → A2 → A3 → A4 → A5 → A6 → A7 → A8 → A9 → A10 → Option R} {n : Nat} {a0 : A0} {a1 : A1} {a2 : A2} {a3 : A3} {a4 : A4} {a5 : A5} {a6 : A6} {a7 : A7} {a8 : A8} {a9 : A9} {a10 : A10} {r : R} (e : F = G) (h : zl11 F (n + 1) a0 a1 a2 a3 a4 a5 a6 a7 a8 a9 a10 = some r) : G (zl11 F n) a0 a1 a2 a3 a4 a5 a6 a7 a8 a9 a10 = some r := by
  subst e
  exact h
theorem zap11 {A0 A1 A2 A3 A4 A5 A6 A7 A8 A9 A10 R : Type} {K L : A0 → A1 → A2 → A3 → A4 → A5 → A6 → A7 → A8 → A9 → A10 → Option R} {a0 : A0} {a1 : A1} {a2 : A2} {a3 : A3} {a4 : A4} {a5 : A5} {a6 : A6} {a7 : A7} {a8 : A8} {a9 : A9} {a10 : A10} {r : R} (e : K = L) (h : K a0 a1 a2 a3 a4 a5 a6 a7 a8 a9 a10 = some r) : L a0 a1 a2 a3 a4 a5 a6 a7 a8 a9 a10 = some r := by
  subst e
  exact h
def zl12 {A0 A1 A2 A3 A4 A5 A6 A7 A8 A9 A10 A11 R : Type} (F : (A0 → A1 → A2 → A3 → A4 → A5 → A6 → A7 → A8 → A9 → A10 → A11 → Option R) → A0 → A1 → A2 → A3 → A4 → A5 → A6 → A7 → A8 → A9 → A10 → A11 → Option R) : Nat → A0 → A1 → A2 → A3 → A4 → A5 → A6 → A7 → A8 → A9 → A10 → A11 → Option R
  | 0, _, _, _, _, _, _, _, _, _, _, _, _ => none
  | n + 1, a0, a1, a2, a3, a4, a5, a6, a7, a8, a9, a10, a11 => F (zl12 F n) a0 a1 a2 a3 a4 a5 a6 a7 a8 a9 a10 a11
theorem zl12_some {A0 A1 A2 A3 A4 A5 A6 A7 A8 A9 A10 A11 R : Type} {F : (A0 → A1 → A2 → A3 → A4 → A5 → A6 → A7 → A8 → A9 → A10 → A11 → Option R) → A0 → A1 → A2 → A3 → A4 → A5 → A6 → A7 → A8 → A9 → A10 → A11 → Option R} {n : Nat} {a0 : A0} {a1 : A1} {a2 : A2} {a3 : A3} {a4 : A4} {a5 : A5} {a6 : A6} {a7 : A7} {a8 : A8} {a9 : A9} {a10 : A10} {a11 : A11} {r : R} (h : zl12 F n a0 a1 a2 a3 a4 a5 a6 a7 a8 a9 a10 a11 = some r) : ∃ F', F' = F ∧ zl12 F' n a0 a1 a2 a3 a4 a5 a6 a7 a8 a9 a10 a11 = some r := ⟨F, rfl, h⟩
theorem zl12_zero {A0 A1 A2 A3 A4 A5 A6 A7 A8 A9 A10 A11 R : Type} {F : (A0 → A1 → A2 → A3 → A4 → A5 → A6 → A7 → A8 → A9 → A10 → A11 → Option R) → A0 → A1 → A2 → A3 → A4 → A5 → A6 → A7 → A8 → A9 → A10 → A11 → Option R} {a0 : A0} {a1 : A1} {a2 : A2} {a3 : A3} {a4 : A4} {a5 : A5} {a6 : A6} {a7 : A7} {a8 : A8} {a9 : A9} {a10 : A10} {a11 : A11} {r : R} (h : zl12 F 0 a0 a1 a2 a3 a4 a5 a6 a7 a8 a9 a10 a11 = some r) : False := by cases h
theorem zl12_step {A0 A1 A2 A3 A4 A5 A6 A7 A8 A9 A10 A11 R : Type} {F G : (A0 → A1 → A2 → A3 → A4 → A5 → A6 → A7 → A8 → A9 → A10 → A11 → Option R) → A0 → A1 → A2 → A3 → A4 → A5 → A6 → A7 → A8 → A9 → A10 → A11 → Option R} {n : Nat} {a0 : A0} {a1 : A1} {a2 : A2} {a3 : A3} {a4 : A4} {a5 : A5} {a6 : A6} {a7 : A7} {a8 : A8} {a9 : A9} {a10 : A10} {a11 : A11} {r : R} (e : F = G) (h : zl12 F (n + 1) a0 a1 a2 a3 a4 a5 a6 a7 a8 a9 a10 a11 = some r) : G (zl12 F n) a0 a1 a2 a3 a4 a5 a6 a7 a8 a9 a10 a11 = some r := by
  subst e
  exact h
theorem zap12 {A0 A1 A2 A3 A4 A5 A6 A7 A8 A9 A10 A11 R : Type} {K L : A0 → A1 → A2 → A3 → A4 → A5 → A6 → A7 → A8 → A9 → A10 → A11 → Option R} {a0 : A0} {a1 : A1} {a2 : A2} {a3 : A3} {a4 : A4} {a5 : A5} {a6 : A6} {a7 : A7} {a8 : A8} {a9 : A9} {a10 : A10} {a11 : A11} {r : R} (e : K = L) (h : K a0 a1 a2 a3 a4 a5 a6 a7 a8 a9 a10 a11 = some r) : L a0 a1 a2 a3 a4 a5 a6 a7 a8 a9 a10 a11 = some r := by
  subst e
  exact h
def zl13 {A0 A1 A2 A3 A4 A5 A6 A7 A8 A9 A10 A11 A12 R : Type} (F : (A0 → A1 → A2 → A3 → A4 → A5 → A6 → A7 → A8 → A9 → A10 → A11 → A12 → Option R) → A0 → A1 → A2 → A3 → A4 → A5 → A6 → A7 → A8 → A9 → A10 → A11 → A12 → Option R) : Nat → A0 → A1 → A2 → A3 → A4 → A5 → A6 → A7 → A8 → A9 → A10 → A11 → A12 → Option R
  | 0, _, _, _, _, _, _, _, _, _, _, _, _, _ => none
  | n + 1, a0, a1, a2, a3, a4, a5, a6, a7, a8, a9, a10, a11, a12 => F (zl13 F n) a0 a1 a2 a3 a4 a5 a6 a7 a8 a9 a10 a11 a12
theorem zl13_some {A0 A1 A2 A3 A4 A5 A6 A7 A8 A9 A10 A11 A12 R : Type} {F : (A0 → A1 → A2 → A3 → A4 → A5 → A6 → A7 → A8 → A9 → A10 → A11 → A12 → Option R) → A0 → A1 → A2 → A3 → A4 → A5 → A6 → A7 → A8 → A9 → A10 → A11 → A12 → Option R} {n : Nat} {a0 : A0} {a1 : A1} {a2 : A2} {a3 : A3} {a4 : A4} {a5 : A5} {a6 : A6} {a7 : A7} {a8 : A8} {a9 : A9} {a10 : A10} {a11 : A11} {a12 : A12} {r : R} (h : zl13 F n a0 a1 a2 a3 a4 a5 a6 a7 a8 a9 a10 a11 a12 = some r) : ∃ F', F' = F ∧ zl13 F' n a0 a1 a2 a3 a4 a5 a6 a7 a8 a9 a10 a11 a12 = some r := ⟨F, rfl, h⟩
theorem zl13_zero {A0 A1 A2 A3 A4 A5 A6 A7 A8 A9 A10 A11 A12 R : Type} {F : (A0 → A1 → A2 → A3 → A4 → A5 → A6 → A7 → A8 → A9 → A10 → A11 → A12 → Option R) → A0 → A1 → A2 → A3 → A4 → A5 → A6 → A7 → A8 → A9 → A10 → A11 → A12 → Option R} {a0 : A0} {a1 : A1} {a2 : A2} {a3 : A3} {a4 : A4} {a5 : A5} {a6 : A6} {a7 : A7} {a8 : A8} {a9 : A9} {a10 : A10} {a11 : A11} {a12 : A12} {r : R} (h : zl13 F 0 a0 a1 a2 a3 a4 a5 a6 a7 a8 a9 a10 a11 a12 = some r) : False := by cases h
theorem zl13_step {A0 A1 A2 A3 A4 A5 A6 A7 A8 A9 A10 A11 A12 R : Type} {F G : (A0 → A1 → A2 → A3 → A4 → A5 → A6 → A7 → A8 → A9 → A10 → A11 → A12 → Option R) → A0 → A1 → A2 → A3 → A4 → A5 → A6 → A7 → A8 → A9 → A10 → A11 → A12 → Option R} {n : Nat} {a0 : A0} {a1 : A1} {a2 : A2} {a3 : A3} {a4 : A4} {a5 : A5} {a6 : A6} {a7 : A7} {a8 : A8} {a9 : A9} {a10 : A10} {a11 : A11} {a12 : A12} {r : R} (e : F = G) (h : zl13 F (n + 1) a0 a1 a2 a3 a4 a5 a6 a7 a8 a9 a10 a11 a12 = some r) : G (zl13 F n) a0 a1 a2 a3 a4 a5 a6 a7 a8 a9 a10 a11 a12 = some r := by
  subst e
  exact h
theorem zap13 {A0 A1 A2 A3 A4 A5 A6 A7 A8 A9 A10 A11 A12 R : Type} {K L : A0 → A1 → A2 → A3 → A4 → A5 → A6 → A7 → A8 → A9 → A10 → A11 → A12 → Option R} {a0 : A0} {a1 : A1} {a2 : A2} {a3 : A3} {a4 : A4} {a5 : A5} {a6 : A6} {a7 : A7} {a8 : A8} {a9 : A9} {a10 : A10} {a11 : A11} {a12 : A12} {r : R} (e : K = L) (h : K a0 a1 a2 a3 a4 a5 a6 a7 a8 a9 a10 a11 a12 = some r) : L a0 a1 a2 a3 a4 a5 a6 a7 a8 a9 a10 a11 a12 = some r := by
  subst e
  exact h
def zl14 {A0 A1 A2 A3 A4 A5 A6 A7 A8 A9 A10 A11 A12 A13 R : Type} (F : (A0 → A1 → A2 → A3 → A4 → A5 → A6 → A7 → A8 → A9 → A10 → A11 → A12 → A13 → Option R) → A0 → A1 → A2 → A3 → A4 → A5 → A6 → A7 → A8 → A9 → A10 → A11 → A12 → A13 → Option R) : Nat → A0 → A1 → A2 → A3 → A4 → A5 → A6 → A7 → A8 → A9 → A10 → A11 → A12 → A13 → Option R
  | 0, _, _, _, _, _, _, _, _, _, _, _, _, _, _ => none
  | n + 1, a0, a1, a2, a3, a4, a5, a6, a7, a8, a9, a10, a11, a12, a13 => F (zl14 F n) a0 a1 a2 a3 a4 a5 a6 a7 a8 a9 a10 a11 a12 a13
theorem zl14_some {A0 A1 A2 A3 A4 A5 A6 A7 A8 A9 A10 A11 A12 A13 R : Type} {F : (A0 → A1 → A2 → A3 → A4 → A5 → A6 → A7 → A8 → A9 → A10 → A11 → A12 → A13 → Option R) → A0 → A1 → A2 → A3 → A4 → A5 → A6 → A7 → A8 → A9 → A10 → A11 → A12 → A13 → Option R} {n : Nat} {a0 : A0} {a1 : A1} {a2 : A2} {a3 : A3} {a4 : A4} {a5 : A5} {a6 : A6} {a7 : A7} {a8 : A8} {a9 : A9} {a10 : A10} {a11 : A11} {a12 : A12} {a13 : A13} {r : R} (h : zl14 F n a0 a1 a2 a3 a4 a5 a6 a7 a8 a9 a10 a11 a12 a13 = some r) : ∃ F', F' = F ∧ zl14 F' n a0 a1 a2 a3 a4 a5 a6 a7 a8 a9 a10 a11 a12 a13 = some r := ⟨F, rfl, h⟩
theorem zl14_zero {A0 A1 A2 A3 A4 A5 A6 A7 A8 A9 A10 A11 A12 A13 R : Type} {F : (A0 → A1 → A2 → A3 → A4 → A5 → A6 → A7 → A8 → A9 → A10 → A11 → A12 → A13 → Option R) → A0 → A1 → A2 → A3 → A4 → A5 → A6 → A7 → A8 → A9 → A10 → A11 → A12 → A13 → Option R} {a0 : A0} {a1 : A1} {a2 : A2} {a3 : A3} {a4 : A4} {a5 : A5} {a6 : A6} {a7 : A7} {a8 : A8} {a9 : A9} {a10 : A10} {a11 : A11} {a12 : A12} {a13 : A13} {r : R} (h : zl14 F 0 a0 a1 a2 a3 a4 a5 a6 a7 a8 a9 a10 a11 a12 a13 = some r) : False := by cases h
theorem zl14_step {A0 A1 A2 A3 A4 A5 A6 A7 A8 A9 A10 A11 A12 A13 R : Type} {F G : (A0 → A1 → A2 → A3 → A4 → A5 → A6 → A7 → A8 → A9 → A10 → A11 → A12 → A13 → Option R) → A0 → A1 → A2 → A3 → A4 → A5 → A6 → A7 → A8 → A9 → A10 → A11 → A12 → A13 → Option R} {n : Nat} {a0 : A0} {a1 : A1} {a2 : A2} {a3 : A3} {a4 : A4} {a5 : A5} {a6 : A6} {a7 : A7} {a8 : A8} {a9 : A9} {a10 : A10} {a11 : A11} {a12 : A12} {a13 : A13} {r : R} (e : F = G) (h : zl14 F (n + 1) a0 a1 a2 a3 a4 a5 a6 a7 a8 a9 a10 a11 a12 a13 = some r) : G (zl14 F n) a0 a1 a2 a3 a4 a5 a6 a7 a8 a9 a10 a11 a12 a13 = some r := by
  subst e
  exact h
theorem zap14 {A0 A1 A2 A3 A4 A5 A6 A7 A8 A9 A10 A11 A12 A13 R : Type} {K L : A0 → A1 → A2 → A3 → A4 → A5 → A6 → A7 → A8 → A9 → A10 → A11 → A12 → A13 → Option R} {a0 : A0} {a1 : A1} {a2 : A2} {a3 : A3} {a4 : A4} {a5 : A5} {a6 : A6} {a7 : A7} {a8 : A8} {a9 : A9} {a10 : A10} {a11 : A11} {a12 : A12} {a13 : A13} {r : R} (e : K = L) (h : K a0 a1 a2 a3 a4 a5 a6 a7 a8 a9 a10 a11 a12 a13 = some r) : L a0 a1 a2 a3 a4 a5 a6 a7 a8 a9 a10 a11 a12 a13 = some r := by
  subst e
  exact h
def zl15 {A0 A1 A2 A3 A4 A5 A6 A7 A8 A9 A10 A11 A12 A13 A14 R : Type} (F : (A0 → A1 → A2 → A3 → A4 → A5 → A6 → A7 → A8 → A9 → A10 → A11 → A12 → A13 → A14 → Option R) → A0 → A1 → A2 → A3 → A4 → A5 → A6 → A7 → A8 → A9 → A10 → A11 → A12 → A13 → A14 → Option R) : Nat → A0 → A1 → A2 → A3 → A4 → A5 → A6 → A7 → A8 → A9 → A10 → A11 → A12 → A13 → A14 → Option R
  | 0, _, _, _, _, _, _, _, _, _, _, _, _, _, _, _ => none
  | n + 1, a0, a1, a2, a3, a4, a5, a6, a7, a8, a9, a10, a11, a12, a13, a14 => F (zl15 F n) a0 a1 a2 a3 a4 a5 a6 a7 a8 a9 a10 a11 a12 a13 a14
theorem zl15_some {A0 A1 A2 A3 A4 A5 A6 A7 A8 A9 A10 A11 A12 A13 A14 R : Type} {F : (A0 → A1 → A2 → A3 → A4 → A5 → A6 → A7 → A8 → A9 → A10 → A11 → A12 → A13 → A14 → Option R) → A0 → A1 → A2 → A3 → A4 → A5 → A6 → A7 → A8 → A9 → A10 → A11 → A12 → A13 → A14 → Option R} {n : Nat} {a0 : A0} {a1 : A1} {a2 : A2} {a3 : A3} {a4 : A4} {a5 : A5} {a6 : A6} {a7 : A7} {a8 : A8} {a9 : A9} {a10 : A10} {a11 : A11} {a12 : A12} {a13 : A13} {a14 : A14} {r : R} (h : zl15 F n a0 a1 a2 a3 a4 a5 a6 a7 a8 a9 a10 a11 a12 a13 a14 = some r) : ∃ F', F' = F ∧ zl15 F' n a0 a1 a2 a3 a4 a5 a6 a7 a8 a9 a10 a11 a12 a13 a14 = some r := ⟨F, rfl, h⟩
theorem zl15_zero {A0 A1 A2 A3 A4 A5 A6 A7 A8 A9 A10 A11 A12 A13 A14 R : Type} {F : (A0 → A1 → A2 → A3 → A4 → A5 → A6 → A7 → A8 → A9 → A10 → A11 → A12 → A13 → A14 → Option R) → A0 → A1 → A2 → A3 → A4 → A5 → A6 → A7 → A8 → A9 → A10 → A11 → A12 → A13 → A14 → Option R} {a0 : A0} {a1 : A1} {a2 : A2} {a3 : A3} {a4 : A4} {a5 : A5} {a6 : A6} {a7 : A7} {a8 : A8} {a9 : A9} {a10 : A10} {a11 : A11} {a12 : A12} {a13 : A13} {a14 : A14} {r : R} (h : zl15 F 0 a0 a1 a2 a3 a4 a5 a6 a7 a8 a9 a10 a11 a12 a13 a14 = some r) : False := by cases h
theorem zl15_step {A0 A1 A2 A3 A4 A5 A6 A7 A8 A9 A10 A11 A12 A13 A14 R : Type} {F G : (A0 → A1 → A2 → A3 → A4 → A5 → A6 → A7 → A8 → A9 → A10 → A11 → A12 → A13 → A14 → Option R) → A0 → A1 → A2 → A3 → A4 → A5 → A6 → A7 → A8 → A9 → A10 → A11 → A12 → A13 → A14 → Option R} {n : Nat} {a0 : A0} {a1 : A1} {a2 : A2} {a3 : A3} {a4 : A4} {a5 : A5} {a6 : A6} {a7 : A7} {a8 : A8} {a9 : A9} {a10 : A10} {a11 : A11} {a12 : A12} {a13 : A13} {a14 : A14} {r : R} (e : F = G) (h : zl15 F (n + 1) a0 a1 a2 a3 a4 a5 a6 a7 a8 a9 a10 a11 a12 a13 a14 = some r) : G (zl15 F n) a0 a1 a2 a3 a4 a5 a6 a7 a8 a9 a10 a11 a12 a13 a14 = some r := by
  subst e
  exact h
theorem zap15 {A0 A1 A2 A3 A4 A5 A6 A7 A8 A9 A10 A11 A12 A13 A14 R : Type} {K L : A0 → A1 → A2 → A3 → A4 → A5 → A6 → A7 → A8 → A9 → A10 → A11 → A12 → A13 → A14 → Option R} {a0 : A0} {a1 : A1} {a2 : A2} {a3 : A3} {a4 : A4} {a5 : A5} {a6 : A6} {a7 : A7} {a8 : A8} {a9 : A9} {a10 : A10} {a11 : A11} {a12 : A12} {a13 : A13} {a14 : A14} {r : R} (e : K = L) (h : K a0 a1 a2 a3 a4 a5 a6 a7 a8 a9 a10 a11 a12 a13 a14 = some r) : L a0 a1 a2 a3 a4 a5 a6 a7 a8 a9 a10 a11 a12 a13 a14 = some r := by
  subst e
  exact h
def zl16 {A0 A1 A2 A3 A4 A5 A6 A7 A8 A9 A10 A11 A12 A13 A14 A15 R : Type} (F : (A0 → A1 → A2 → A3 → A4 → A5 → A6 → A7 → A8 → A9 → A10 → A11 → A12 → A13 → A14 → A15 → Option R) → A0 → A1 → A2 → A3 → A4 → A5 → A6 → A7 → A8 → A9 → A10 → A11 → A12 → A13 → A14 → A15 → Option R) : Nat → A0 → A1 → A2 → A3 → A4 → A5 → A6 → A7 → A8 → A9 → A10 → A11 → A12 → A13 → A14 → A15 → Option R
  | 0, _, _, _, _, _, _, _, _, _, _, _, _, _, _, _, _ => none
  | n + 1, a0, a1, a2, a3, a4, a5, a6, a7, a8, a9, a10, a11, a12, a13, a14, a15 => F (zl16 F n) a0 a1 a2 a3 a4 a5 a6 a7 a8 a9 a10 a11 a12 a13 a14 a15
theorem zl16_some {A0 A1 A2 A3 A4 A5 A6 A7 A8 A9 A10 A11 A12 A13 A14 A15 R : Type} {F : (A0 → A1 → A2 → A3 → A4 → A5 → A6 → A7 → A8 → A9 → A10 → A11 → A12 → A13 → A14 → A15 → Option R) → A0 → A1 → A2 → A3 → A4 → A5 → A6 → A7 → A8 → A9 → A10 → A11 → A12 → A13 → A14 → A15 → Option R} {n : Nat} {a0 : A0} {a1 : A1} {a2 : A2} {a3 : A3} {a4 : A4} {a5 : A5} {a6 : A6} {a7 : A7} {a8 : A8} {a9 : A9} {a10 : A10} {a11 : A11} {a12 : A12} {a13 : A13} {a14 : A14} {a15 : A15} {r : R} (h : zl16 F n a0 a1 a2 a3 a4 a5 a6 a7 a8 a9 a10 a11 a12 a13 a14 a15 = some r) : ∃ F', F' = F ∧ zl16 F' n a0 a1 a2 a3 a4 a5 a6 a7 a8 a9 a10 a11 a12 a13 a14 a15 = some r := ⟨F, rfl, h⟩
theorem zl16_zero {A0 A1 A2 A3 A4 A5 A6 A7 A8 A9 A10 A11 A12 A13 A14 A15 R : Type} {F : (A0 → A1 → A2 → A3 → A4 → A5 → A6 → A7 → A8 → A9 → A10 → A11 → A12 → A13 → A14 → A15 → Option R) → A0 → A1 → A2 → A3 → A4 → A5 → A6 → A7 → A8 → A9 → A10 → A11 → A12 → A13 → A14 → A15 → Option R} {a0 : A0} {a1 : A1} {a2 : A2} {a3 : A3} {a4 : A4} {a5 : A5} {a6 : A6} {a7 : A7} {a8 : A8} {a9 : A9} {a10 : A10} {a11 : A11} {a12 : A12} {a13 : A13} {a14 : A14} {a15 : A15} {r : R} (h : zl16 F 0 a0 a1 a2 a3 a4 a5 a6 a7 a8 a9 a10 a11 a12 a13 a14 a15 = some r) : False := by cases h
theorem zl16_step {A0 A1 A2 A3 A4 A5 A6 A7 A8 A9 A10 A11 A12 A13 A14 A15 R : Type} {F G : (A0 → A1 → A2 → A3 → A4 → A5 → A6 → A7 → A8 → A9 → A10 → A11 → A12 → A13 → A14 → A15 → Option R) → A0 → A1 → A2 → A3 → A4 → A5 → A6 → A7 → A8 → A9 → A10 → A11 → A12 → A13 → A14 → A15 → Option R} {n : Nat} {a0 : A0} {a1 : A1} {a2 : A2} {a3 : A3} {a4 : A4} {a5 : A5} {a6 : A6} {a7 : A7} {a8 : A8} {a9 : A9} {a10 : A10} {a11 : A11} {a12 : A12} {a13 : A13} {a14 : A14} {a15 : A15} {r : R} (e : F = G) (h : zl16 F (n + 1) a0 a1 a2 a3 a4 a5 a6 a7 a8 a9 a10 a11 a12 a13 a14 a15 = some r) : G (zl16 F n) a0 a1 a2 a3 a4 a5 a6 a7 a8 a9 a10 a11 a12 a13 a14 a15 = some r := by
  subst e
  exact h
theorem zap16 {A0 A1 A2 A3 A4 A5 A6 A7 A8 A9 A10 A11 A12 A13 A14 A15 R : Type} {K L : A0 → A1 → A2 → A3 → A4 → A5 → A6 → A7 → A8 → A9 → A10 → A11 → A12 → A13 → A14 → A15 → Option R} {a0 : A0} {a1 : A1} {a2 : A2} {a3 : A3} {a4 : A4} {a5 : A5} {a6 : A6} {a7 : A7} {a8 : A8} {a9 : A9} {a10 : A10} {a11 : A11} {a12 : A12} {a13 : A13} {a14 : A14} {a15 : A15} {r : R} (e : K = L) (h : K a0 a1 a2 a3 a4 a5 a6 a7 a8 a9 a10 a11 a12 a13 a14 a15 = some r) : L a0 a1 a2 a3 a4 a5 a6 a7 a8 a9 a10 a11 a12 a13 a14 a15 = some r := by
  subst e
  exact h
def nwM : List (String × Nat × MethodName × String) := [(RX6, 9, yX3_init, RX6), (RX5, 17, yX3_init, RX6), (RX6, 25, yX2_init, RX6), (RX6, 32, yX0_init, RX6), (RX6, 39, yX1_init, RX6), (RX6, 46, yX4_init, RX6), (RX2, 40, yX6_contains, RX6), (RX2, 44, yX6_write, RX6), (RX2, 66, yX6_neighbour, RX6), (RX2, 58, yX6_read, RX6), (RX3, 53, yX6_read, RX6), (RX3, 57, yX6_contains, RX6), (RX3, 49, yX6_write, RX6), (RX4, 30, yX6_read, RX6), (RX2, 79, yX6_hasBit, RX6), (RX4, 63, yX6_hasBit, RX6), (RX4, 67, yX6_write, RX6), (RX4, 71, yX6_neighbour, RX6), (RX0, 63, yX6_write, RX6), (RX0, 41, yX6_read, RX6), (RX0, 53, yX6_neighbour, RX6), (RX0, 56, yX6_contains, RX6), (RX1, 69, yX6_read, RX6), (RX1, 85, yX6_write, RX6), (RX1, 73, yX6_neighbour, RX6), (RX1, 77, yX6_hasBit, RX6), (RX1, 81, yX6_contains, RX6)]
def nwF : List (String × Nat × String × String × String × String) := [(RX6, 65, "FaultyCube$Situation", "dimension", "I", RX6), (RX6, 83, "FaultyCube$Situation", "alive", "J", RX6), (RX4, 38, "FaultyCube$Situation", "steps", "I", RX6), (RX4, 21, "FaultyCube$Situation", "messages", "I", RX6), (RX6, 171, "FaultyCube$Situation", "messages", "I", RX6), (RX4, 27, "FaultyCube$Situation", "states", "[I", RX6), (RX6, 188, "FaultyCube$Situation", "states", "[I", RX6), (RX4, 41, "FaultyCube$Situation", "positions", "[I", RX6), (RX6, 196, "FaultyCube$Situation", "positions", "[I", RX6), (RX4, 44, "FaultyCube$Situation", "goals", "[I", RX6), (RX4, 78, "FaultyCube$Situation", "moveCounts", "[I", RX6), (RX6, 199, "FaultyCube$Situation", "moveCounts", "[I", RX6), (RX4, 57, "FaultyCube$Situation", "detourCounts", "[I", RX6), (RX6, 204, "FaultyCube$UndoStack", "size", "I", RX6), (RX6, 123, "FaultyCube$Safety", "changingRounds", "I", RX6), (RX6, 153, "FaultyCube$Broadcast", "receivers", "I", RX6)]
def stA : List (String × Nat × String) := [(RX6, 60, "the dimension is not 1 to 6"), (RX6, 245, "there is no such node"), (RX6, 247, "the node is dead"), (RX6, 93, "the node is alive already"), (RX6, 174, "there are 24 messages already"), (RX6, 179, "the number of steps is not 1 to 20"), (RX6, 249, "there is no such message"), (RX6, 202, "there is no such state"), (RX6, 207, "there is no saved state"), (RX6, 126, "the safety vector has no such bit"), (RX6, 138, "the index is negative"), (RX6, 144, "there is no such decision"), (RX6, 165, "the two nodes are the same"), (RX6, 156, "there are no subcubes of this dimension")]
def lowN : Nat → Int64
  | 0 => 6148914691236517205
  | 1 => 3689348814741910323
  | 2 => 1085102592571150095
  | 3 => 71777214294589695
  | 4 => 281470681808895
  | _ => 4294967295
def rg4 (a b c d : Nat) : Nat → Option Nat
  | 0 => some a
  | 1 => some b
  | 2 => some c
  | 3 => some d
  | _ => none
def sel4 (r : Int32) (a b c d : Nat) : Option Nat := bif inb r 4 then rg4 a b c d r.toNatClampNeg else none
theorem inb_of {i : Int32} {n : Nat} (h : inb i n = true) : inb i n = true := h
theorem sel4_in {r : Int32} {a b c d : Nat} (h : inb r 4 = true) : rg4 a b c d r.toNatClampNeg = sel4 r a b c d := by
  rw [sel4, h]; rfl
theorem sel4_no {r : Int32} {a b c d : Nat} (h0 : ¬ r = 0) (h1 : ¬ r = 1) (h2 : ¬ r = 2) (h3 : ¬ r = 3) : sel4 r a b c d = none := by
  cases h : inb r 4 with
  | false => rw [sel4, h]; rfl
  | true =>
    obtain ⟨j, hj, rfl⟩ := vp_in_of (inb_in h) (by decide)
    rcases (show j = 0 ∨ j = 1 ∨ j = 2 ∨ j = 3 by omega) with rfl | rfl | rfl | rfl
    · exact absurd rfl h0
    · exact absurd rfl h1
    · exact absurd rfl h2
    · exact absurd rfl h3

def dcA : List MethodName := [⟨"java/lang/RuntimeException", "<init>", "(Ljava/lang/String;)V"⟩, ⟨"java/lang/Exception", "<init>", "(Ljava/lang/String;)V"⟩, ⟨"java/lang/Throwable", "<init>", "(Ljava/lang/String;)V"⟩]
def exA : List String := ["java/lang/IllegalArgumentException", "java/lang/IllegalStateException"]
/-- what every contract takes as given: links to nest mates, the texts of exceptions, Throwable's two statics, the table of low nodes -/
def ev_ok (A : Nat → Prop) (U : State) : Prop := (∀ q ∈ nwM, va_Nw (.methodLinkNest q.1 q.2.1 q.2.2.1 q.2.2.2) U) ∧ (∀ q ∈ nwF, va_Nw (.fieldLinkNest q.1 q.2.1 q.2.2.1 q.2.2.2.1 q.2.2.2.2.1 q.2.2.2.2.2) U) ∧ (∀ q ∈ stA, ∃ a : Nat, vk_R q.1 q.2.1 q.2.2 a U) ∧ vx_Zq Bundle.tN "UNASSIGNED_STACK" Bundle.steD A U U.heap ∧ vx_Zq Bundle.tN "SUPPRESSED_SENTINEL" Bundle.listD A U U.heap ∧ (∀ q ∈ exA, va_Nw (.castable q q) U) ∧ (∀ y ∈ dcA, va_Nw (.declares y) U) ∧ va_AO RX3 U ∧ va_Nc "java/lang/IllegalStateException" "java/lang/IllegalArgumentException" U ∧ ∃ t : Nat, va_Z RX6 "LOW_NODES" "[J" (.ref t) A U U.heap ∧ va_T .long t 6 (fun j => .long (lowN j)) A U U.heap
theorem ev_warm {A B : Nat → Prop} {s U : State} {H : Heap} {locs : List Loc} (h : ev_ok A s) (hS : va_S A s.heap H locs) (hAB : ∀ q, B q → A q) (hU : U.heap = H) (hW : s.WarmedH U.vm) : ev_ok B U := by
  obtain ⟨h1, h2, h3, h4, h5, h8, h9, h10, h11, t, h6, h7⟩ := h
  have hk : ∀ a : Nat, a < s.heap.size → ¬ A a → H[a]? = s.heap[a]? := hS.2.1
  rw [ev_ok, hU]
  exact ⟨fun q hq => va_Nw.warmM hW (h1 q hq), fun q hq => va_Nw.warmF hW (h2 q hq), fun q hq => (h3 q hq).imp (fun a ha => vk_R.warm hW ha),
    ((h4.kept hk).narrow hAB).moved hW.alike, ((h5.kept hk).narrow hAB).moved hW.alike, fun q hq => va_Nw.warmC hW (h8 q hq), fun q hq => va_Nw.warmD hW (h9 q hq), h10.moved hW.alike, h11.moved hW.alike, t, ((h6.kept hk).narrow hAB).moved hW.alike, ((h7.kept hk).narrow hAB).moved hW.alike⟩
theorem ev_call {A : Nat → Prop} {U : State} {g : JFrame} {mk : MethodId} {a : Array Value} (h : ev_ok A U) : ev_ok A (U.calling g mk a) := by
  obtain ⟨h1, h2, h3, h4, h5, h8, h9, h10, h11, t, h6, h7⟩ := h
  exact ⟨fun q hq => va_Nw.same rfl (u := U) (U := U.calling g mk a) rfl (h1 q hq), fun q hq => va_Nw.same rfl (u := U) (U := U.calling g mk a) rfl (h2 q hq), fun q hq => (h3 q hq).imp (fun x hx => vk_R.same (u := U) (U := U.calling g mk a) rfl hx),
    h4.moved (u := U) (U := U.calling g mk a) (Vm.Alike.refl U.vm), h5.moved (u := U) (U := U.calling g mk a) (Vm.Alike.refl U.vm), fun q hq => va_Nw.same rfl (u := U) (U := U.calling g mk a) rfl (h8 q hq), fun q hq => va_Nw.same rfl (u := U) (U := U.calling g mk a) rfl (h9 q hq), h10.moved (u := U) (U := U.calling g mk a) (Vm.Alike.refl U.vm), h11.moved (u := U) (U := U.calling g mk a) (Vm.Alike.refl U.vm), t, h6.moved (u := U) (U := U.calling g mk a) (Vm.Alike.refl U.vm), h7.moved (u := U) (U := U.calling g mk a) (Vm.Alike.refl U.vm)⟩
theorem ev_A {A B : Nat → Prop} {s : State} (h : ev_ok A s) (hAB : ∀ q, B q → A q) : ev_ok B s := ev_warm h (va_S.rf (H0 := s.heap)) hAB rfl (State.WarmedH.refl s)
/-- a contract's start -/
def kP (D : va_G) (av : List Value) (ws : va_W) (tys : List (ClassId × FieldType)) (sz : Nat) : Array Value → State → Prop := va_Pc av (fun U => U.heap.size = sz ∧ va_P D vwCl ws U.heap ∧ va_K D vwCl tys U ∧ va_D (fun _ => True) ws ∧ ev_ok (va_A ws sz) U)
/-- the world behind it -/
def kB (D : va_G) (A : Nat → Prop) (tys : List (ClassId × FieldType)) (ws : va_W) (t : State) : Prop := va_P D vwCl ws t.heap ∧ va_K D vwCl tys t ∧ va_D A ws
abbrev kQi (D : va_G) (A : Nat → Prop) (tys : List (ClassId × FieldType)) (v : Int32) (w1 : va_W) : Array Value → State → Outcome → State → Prop := va_Qi (fun (r : Int32) (_ : Unit) => r = v) (fun _ t => kB D A tys w1 t) A
abbrev kQl (D : va_G) (A : Nat → Prop) (tys : List (ClassId × FieldType)) (v : Int64) (w1 : va_W) : Array Value → State → Outcome → State → Prop := va_Ql (fun (r : Int64) (_ : Unit) => r = v) (fun _ t => kB D A tys w1 t) A
abbrev kQq (D : va_G) (A : Nat → Prop) (tys : List (ClassId × FieldType)) (v : Option Nat) (w1 : va_W) : Array Value → State → Outcome → State → Prop := va_Qq (fun (r : Option Nat) (_ : Unit) => r = v) (fun _ t => kB D A tys w1 t) A
abbrev kQv (D : va_G) (A : Nat → Prop) (tys : List (ClassId × FieldType)) (w1 : va_W) : Array Value → State → Outcome → State → Prop := va_Qv (fun (_ : Unit) => True) (fun _ t => kB D A tys w1 t) A
theorem kP_blind {D : va_G} {av : List Value} {ws : va_W} {tys : List (ClassId × FieldType)} {sz : Nat} : FrameBlind (kP D av ws tys sz) := fun a U g mk q => by
  obtain ⟨q0, q1, qP, qK, qD, qE⟩ := q
  exact ⟨q0, q1, qP, va_K.moved (u := U) (U := U.calling g mk a) (Vm.Alike.refl U.vm) qK, qD, ev_call qE⟩
section KD
variable {p : Program} {l : Launch} {e : Env} {R : Room} {s : State} {m : MethodId} {args : Array Value} {below : List Frame} {meth : Method} {c : Code} {H : Heap} {locs : List Loc} {cells slots mc ms : Nat} {Q : State → Prop}
variable {D : va_G} {A : Nat → Prop} {ws wc w1 ws2 : va_W} {tys tyc : List (ClassId × FieldType)} {pc : Nat} {ls : Array Slot} {st0 rest : List Value} {av : List Value} {a : Array Value} {cc : ByteArray}
theorem kd_fr (hD : va_D A ws) (hS : va_S A s.heap H locs) (hA : ∀ q, s.heap.size ≤ q → A q) (isC : List Nat) (hC : isC.map (fun i => ws[i]?) = wc.map some) : ∀ q, va_A wc H.size q → A q := va_free hD hS hA isC hC
theorem kd_pre (hK : va_K D vwCl tys s) (hP : va_P D vwCl ws H) (hD : va_D A ws) (hS : va_S A s.heap H locs) (hA : ∀ q, s.heap.size ≤ q → A q) (hE : ev_ok A s) (isC isT : List Nat) (hC : isC.map (fun i => ws[i]?) = wc.map some) (hC2 : isC.filterMap (fun i => ws[i]?) = wc) (hn : va_nd isC = true) (hT : isT.filterMap (fun i => tys[i]?) = tyc) :
    ∀ U : State, U.heap = H → s.WarmedH U.vm → kP D av wc tyc H.size av.toArray U := fun U hU hW =>
  ⟨rfl, by rw [hU], by rw [hU]; exact hP.sub isC hC2, va_K.moved hW.alike (hK.sub isT hT), (hD.sub isC hn hC).weaken (fun _ _ _ _ => trivial), ev_warm hE hS (va_free hD hS hA isC hC) hU hW⟩
theorem kd_back {H1 : Heap} {t : State} (hP : va_P D vwCl ws H) (hD : va_D A ws) (hS : va_S A s.heap H locs) (hA : ∀ q, s.heap.size ≤ q → A q) (isC isR isP : List Nat) (hC : isC.map (fun i => ws[i]?) = wc.map some) (hR : isR.map (fun i => ws[i]?) = (isR.filterMap (fun i => ws[i]?)).map some) (hn : va_nd isR = true) (hdis : isR.all (fun i => !isC.contains i) = true)
    (hW1 : isP.filterMap (fun i => (isR.filterMap (fun i => ws[i]?) ++ w1)[i]?) = ws2) (hW2 : isP.map (fun i => (isR.filterMap (fun i => ws[i]?) ++ w1)[i]?) = ws2.map some) (hn2 : va_nd isP = true)
    (ht : t.heap = H1) (hk : ∀ q : Nat, q < H.size → ¬ va_A wc H.size q → H1[q]? = H[q]?) (hB : kB D (va_A wc H.size) tyc w1 t) : va_P D vwCl ws2 H1 ∧ va_D A ws2 := by
  obtain ⟨hP1, -, hD1⟩ := hB
  rw [ht] at hP1
  obtain ⟨hP, hD⟩ := va_join (wr := isR.filterMap (fun i => ws[i]?)) (w1 := w1) hP hD isC isR hC hR hn (fun i hi hc => by
    have := List.all_eq_true.mp hdis i hi
    simp at this
    exact this hc) hk (va_free hD hS hA isC hC) hP1 hD1
  exact ⟨hP.sub isP hW1, hD.sub isP hn2 hW2⟩
theorem kd_q {v : Option Nat} (hK : va_K D vwCl tys s) (hP : va_P D vwCl ws H) (hD : va_D A ws) (hS : va_S A s.heap H locs) (hA : ∀ q, s.heap.size ≤ q → A q) (hE : ev_ok A s) (isC isT isR isP : List Nat)
    (hrun : FrameBlind (kP D av wc tyc H.size) → (∀ U : State, U.heap = H → s.WarmedH U.vm → kP D av wc tyc H.size av.toArray U) → va_Run p l e R s m args below meth c H locs cells slots mc ms (F0 m pc ls st0) rest (kQq D (va_A wc H.size) tyc v w1 a) (va_A wc H.size))
    (hC : isC.map (fun i => ws[i]?) = wc.map some) (hC2 : isC.filterMap (fun i => ws[i]?) = wc) (hnC : va_nd isC = true) (hT : isT.filterMap (fun i => tys[i]?) = tyc) (hR : isR.map (fun i => ws[i]?) = (isR.filterMap (fun i => ws[i]?)).map some) (hn : va_nd isR = true) (hdis : isR.all (fun i => !isC.contains i) = true)
    (hW1 : isP.filterMap (fun i => (isR.filterMap (fun i => ws[i]?) ++ w1)[i]?) = ws2) (hW2 : isP.map (fun i => (isR.filterMap (fun i => ws[i]?) ++ w1)[i]?) = ws2.map some) (hn2 : va_nd isP = true)
    (kk : ∀ (H1 : Heap) (locs1 : List Loc), va_P D vwCl ws2 H1 → va_D A ws2 → va_S A s.heap H1 locs1 → W p l e R s m args below meth c H1 locs1 (cells + mc) (slots + ms) Q (F0 m (pc + 3) ls (va_rf v :: rest))) : W p l e R s m args below meth c H locs cells slots Q (F0 m pc ls st0) := by
  have hF := va_free hD hS hA isC hC
  refine va_callq (hrun kP_blind (kd_pre hK hP hD hS hA hE isC isT hC hC2 hnC hT)) hS (fun q _ h => hF q h) hF (fun r u t H1 locs1 ht hvm hw hB hz hk hS => ?_)
  obtain ⟨hP, hD⟩ := kd_back hP hD (by assumption) hA isC isR isP hC hR hn hdis hW1 hW2 hn2 ht hk hB
  subst hw
  exact kk H1 locs1 hP hD hS
theorem kd_i {v : Int32} (hK : va_K D vwCl tys s) (hP : va_P D vwCl ws H) (hD : va_D A ws) (hS : va_S A s.heap H locs) (hA : ∀ q, s.heap.size ≤ q → A q) (hE : ev_ok A s) (isC isT isR isP : List Nat)
    (hrun : FrameBlind (kP D av wc tyc H.size) → (∀ U : State, U.heap = H → s.WarmedH U.vm → kP D av wc tyc H.size av.toArray U) → va_Run p l e R s m args below meth c H locs cells slots mc ms (F0 m pc ls st0) rest (kQi D (va_A wc H.size) tyc v w1 a) (va_A wc H.size))
    (hC : isC.map (fun i => ws[i]?) = wc.map some) (hC2 : isC.filterMap (fun i => ws[i]?) = wc) (hnC : va_nd isC = true) (hT : isT.filterMap (fun i => tys[i]?) = tyc) (hR : isR.map (fun i => ws[i]?) = (isR.filterMap (fun i => ws[i]?)).map some) (hn : va_nd isR = true) (hdis : isR.all (fun i => !isC.contains i) = true)
    (hW1 : isP.filterMap (fun i => (isR.filterMap (fun i => ws[i]?) ++ w1)[i]?) = ws2) (hW2 : isP.map (fun i => (isR.filterMap (fun i => ws[i]?) ++ w1)[i]?) = ws2.map some) (hn2 : va_nd isP = true)
    (kk : ∀ (H1 : Heap) (locs1 : List Loc), va_P D vwCl ws2 H1 → va_D A ws2 → va_S A s.heap H1 locs1 → W p l e R s m args below meth c H1 locs1 (cells + mc) (slots + ms) Q (F0 m (pc + 3) ls (.int v :: rest))) : W p l e R s m args below meth c H locs cells slots Q (F0 m pc ls st0) := by
  have hF := va_free hD hS hA isC hC
  refine va_calli (hrun kP_blind (kd_pre hK hP hD hS hA hE isC isT hC hC2 hnC hT)) hS (fun q _ h => hF q h) hF (fun r u t H1 locs1 ht hvm hw hB hz hk hS => ?_)
  obtain ⟨hP, hD⟩ := kd_back hP hD (by assumption) hA isC isR isP hC hR hn hdis hW1 hW2 hn2 ht hk hB
  subst hw
  exact kk H1 locs1 hP hD hS
theorem kd_l {v : Int64} (hK : va_K D vwCl tys s) (hP : va_P D vwCl ws H) (hD : va_D A ws) (hS : va_S A s.heap H locs) (hA : ∀ q, s.heap.size ≤ q → A q) (hE : ev_ok A s) (isC isT isR isP : List Nat)
    (hrun : FrameBlind (kP D av wc tyc H.size) → (∀ U : State, U.heap = H → s.WarmedH U.vm → kP D av wc tyc H.size av.toArray U) → va_Run p l e R s m args below meth c H locs cells slots mc ms (F0 m pc ls st0) rest (kQl D (va_A wc H.size) tyc v w1 a) (va_A wc H.size))
    (hC : isC.map (fun i => ws[i]?) = wc.map some) (hC2 : isC.filterMap (fun i => ws[i]?) = wc) (hnC : va_nd isC = true) (hT : isT.filterMap (fun i => tys[i]?) = tyc) (hR : isR.map (fun i => ws[i]?) = (isR.filterMap (fun i => ws[i]?)).map some) (hn : va_nd isR = true) (hdis : isR.all (fun i => !isC.contains i) = true)
    (hW1 : isP.filterMap (fun i => (isR.filterMap (fun i => ws[i]?) ++ w1)[i]?) = ws2) (hW2 : isP.map (fun i => (isR.filterMap (fun i => ws[i]?) ++ w1)[i]?) = ws2.map some) (hn2 : va_nd isP = true)
    (kk : ∀ (H1 : Heap) (locs1 : List Loc), va_P D vwCl ws2 H1 → va_D A ws2 → va_S A s.heap H1 locs1 → W p l e R s m args below meth c H1 locs1 (cells + mc) (slots + ms) Q (F0 m (pc + 3) ls (.long v :: rest))) : W p l e R s m args below meth c H locs cells slots Q (F0 m pc ls st0) := by
  have hF := va_free hD hS hA isC hC
  refine va_calll (hrun kP_blind (kd_pre hK hP hD hS hA hE isC isT hC hC2 hnC hT)) hS (fun q _ h => hF q h) hF (fun r u t H1 locs1 ht hvm hw hB hz hk hS => ?_)
  obtain ⟨hP, hD⟩ := kd_back hP hD (by assumption) hA isC isR isP hC hR hn hdis hW1 hW2 hn2 ht hk hB
  subst hw
  exact kk H1 locs1 hP hD hS
theorem kd_v (hK : va_K D vwCl tys s) (hP : va_P D vwCl ws H) (hD : va_D A ws) (hS : va_S A s.heap H locs) (hA : ∀ q, s.heap.size ≤ q → A q) (hE : ev_ok A s) (isC isT isR isP : List Nat)
    (hrun : FrameBlind (kP D av wc tyc H.size) → (∀ U : State, U.heap = H → s.WarmedH U.vm → kP D av wc tyc H.size av.toArray U) → va_Run p l e R s m args below meth c H locs cells slots mc ms (F0 m pc ls st0) rest (kQv D (va_A wc H.size) tyc w1 a) (va_A wc H.size))
    (hC : isC.map (fun i => ws[i]?) = wc.map some) (hC2 : isC.filterMap (fun i => ws[i]?) = wc) (hnC : va_nd isC = true) (hT : isT.filterMap (fun i => tys[i]?) = tyc) (hR : isR.map (fun i => ws[i]?) = (isR.filterMap (fun i => ws[i]?)).map some) (hn : va_nd isR = true) (hdis : isR.all (fun i => !isC.contains i) = true)
    (hW1 : isP.filterMap (fun i => (isR.filterMap (fun i => ws[i]?) ++ w1)[i]?) = ws2) (hW2 : isP.map (fun i => (isR.filterMap (fun i => ws[i]?) ++ w1)[i]?) = ws2.map some) (hn2 : va_nd isP = true)
    (kk : ∀ (H1 : Heap) (locs1 : List Loc), va_P D vwCl ws2 H1 → va_D A ws2 → va_S A s.heap H1 locs1 → W p l e R s m args below meth c H1 locs1 (cells + mc) (slots + ms) Q (F0 m (pc + 3) ls (rest))) : W p l e R s m args below meth c H locs cells slots Q (F0 m pc ls st0) := by
  have hF := va_free hD hS hA isC hC
  refine va_callv (hrun kP_blind (kd_pre hK hP hD hS hA hE isC isT hC hC2 hnC hT)) hS (fun q _ h => hF q h) hF (fun u t H1 locs1 ht hvm hw hB hz hk hS => ?_)
  obtain ⟨hP, hD⟩ := kd_back hP hD (by assumption) hA isC isR isP hC hR hn hdis hW1 hW2 hn2 ht hk hB
  
  exact kk H1 locs1 hP hD hS
theorem kr_i {v : Int32} (hx : p.tables.exec = Jvm.exec) (hb : c.code = cc) (hr : meth.sig.returnType = some .int) (hlocks : meth.locks = false) (hK : va_K D vwCl tys s) (hP : va_P D vwCl w1 H) (hD : va_D A w1) (hS : va_S A s.heap H locs) (hdg : decode cc pc = .ok (.ireturn, 1)) :
    W p l e R s m args below meth c H locs cells slots (MQ below (kQi D A tys v w1) args s cells slots A) (F0 m pc ls [.int v]) :=
  W.iret hx hb hr (fun t ht hW => ⟨⟨v, (), rfl, rfl, by rw [ht]; exact hP, va_K.moved hW.alike hK, hD⟩, hS.F ht⟩) hS.2.2 hdg hlocks
theorem kr_q {v v' : Option Nat} {C : String} (hv : v = v') (hx : p.tables.exec = Jvm.exec) (hb : c.code = cc) (hr : meth.sig.returnType = some (.object C)) (hlocks : meth.locks = false) (hK : va_K D vwCl tys s) (hP : va_P D vwCl w1 H) (hD : va_D A w1) (hS : va_S A s.heap H locs) (hdg : decode cc pc = .ok (.areturn, 1)) :
    W p l e R s m args below meth c H locs cells slots (MQ below (kQq D A tys v' w1) args s cells slots A) (F0 m pc ls [va_rf v]) := by
  subst hv
  refine W.aret hx hb hr (Or.inl ⟨_, rfl⟩) ?_ (fun t ht hW => ⟨⟨v, (), rfl, rfl, by rw [ht]; exact hP, va_K.moved hW.alike hK, hD⟩, hS.F ht⟩) hS.2.2 hdg hlocks
  cases v with
  | none => exact Or.inl rfl
  | some q => exact Or.inr ⟨q, rfl⟩
theorem kr_z {v : Int32} (hx : p.tables.exec = Jvm.exec) (hb : c.code = cc) (hr : meth.sig.returnType = some .boolean) (hv : narrow .boolean (.int v) = .int v) (hlocks : meth.locks = false) (hK : va_K D vwCl tys s) (hP : va_P D vwCl w1 H) (hD : va_D A w1) (hS : va_S A s.heap H locs) (hdg : decode cc pc = .ok (.ireturn, 1)) :
    W p l e R s m args below meth c H locs cells slots (MQ below (kQi D A tys v w1) args s cells slots A) (F0 m pc ls [.int v]) :=
  W.zret hx hb hr hv (fun t ht hW => ⟨⟨v, (), rfl, rfl, by rw [ht]; exact hP, va_K.moved hW.alike hK, hD⟩, hS.F ht⟩) hS.2.2 hdg hlocks
theorem kr_l {v : Int64} (hx : p.tables.exec = Jvm.exec) (hb : c.code = cc) (hr : meth.sig.returnType = some .long) (hlocks : meth.locks = false) (hK : va_K D vwCl tys s) (hP : va_P D vwCl w1 H) (hD : va_D A w1) (hS : va_S A s.heap H locs) (hdg : decode cc pc = .ok (.lreturn, 1)) :
    W p l e R s m args below meth c H locs cells slots (MQ below (kQl D A tys v w1) args s cells slots A) (F0 m pc ls [.long v]) :=
  W.lret hx hb hr (fun t ht hW => ⟨⟨v, (), rfl, rfl, by rw [ht]; exact hP, va_K.moved hW.alike hK, hD⟩, hS.F ht⟩) hS.2.2 hdg hlocks
theorem kr_v (hx : p.tables.exec = Jvm.exec) (hb : c.code = cc) (hr : meth.sig.returnType = none) (hlocks : meth.locks = false) (hK : va_K D vwCl tys s) (hP : va_P D vwCl w1 H) (hD : va_D A w1) (hS : va_S A s.heap H locs) (hdg : decode cc pc = .ok (.return_, 1)) :
    W p l e R s m args below meth c H locs cells slots (MQ below (kQv D A tys w1) args s cells slots A) (F0 m pc ls []) :=
  W.vret hx hb hr (fun t ht hW => ⟨⟨(), rfl, trivial, by rw [ht]; exact hP, va_K.moved hW.alike hK, hD⟩, hS.F ht⟩) hS.2.2 hdg hlocks
theorem kgen {g : JFrame} (k : ∀ Q', Q' = Q → W p l e R s m args below meth c H locs cells slots Q' g) : W p l e R s m args below meth c H locs cells slots Q g := k Q rfl
theorem kent {n : Nat} (hargs : args = av.toArray) (hn : (lg_sl av).length ≤ n) (k : ∀ ls : Array Slot, lv_has ls n (lv_args 0 av) → W p l e R s m args below meth c H locs cells slots Q (F0 m 0 ls [])) : W p l e R s m args below meth c H locs cells slots Q (entryFrame m args n) := by
  rw [hargs] at k ⊢
  rw [lg_entry_eq]
  exact k _ (lv_entry av hn)
end KD
def isb (v : Int32) : Bool := v == 0 || v == 1
theorem nar_0 : narrow .boolean (.int (0 : Int32)) = .int 0 := rfl
theorem nar_1 : narrow .boolean (.int (1 : Int32)) = .int 1 := rfl
theorem isb_ok {v : Int32} (h : isb v = true) : narrow .boolean (.int v) = .int v := by
  rw [isb, Bool.or_eq_true] at h
  rcases h with h | h
  · rw [eq_of_beq h]; rfl
  · rw [eq_of_beq h]; rfl
def j_iushr (x y : Int32) : Int32 := (x.toUInt32 >>> (y.toUInt32 &&& Int32.toUInt32 31)).toInt32
def j_lshl (x : Int64) (y : Int32) : Int64 := x <<< (y.toInt64 &&& 63)
def j_lushr (x : Int64) (y : Int32) : Int64 := (x.toUInt64 >>> (y.toInt64.toUInt64 &&& Int64.toUInt64 63)).toInt64
/-- a contract's ends, of a method that returns or throws -/
abbrev kYi {Rt : Type} (D : va_G) (A : Nat → Prop) (tys : List (ClassId × FieldType)) (res : String ⊕ Rt) (vl : Rt → Int32) (wl : Rt → va_W) : Array Value → State → Outcome → State → Prop := va_Qi (fun (r : Int32) (u : Rt) => res = .inr u ∧ r = vl u) (fun u t => kB D A tys (wl u) t) A
abbrev kYl {Rt : Type} (D : va_G) (A : Nat → Prop) (tys : List (ClassId × FieldType)) (res : String ⊕ Rt) (vl : Rt → Int64) (wl : Rt → va_W) : Array Value → State → Outcome → State → Prop := va_Ql (fun (r : Int64) (u : Rt) => res = .inr u ∧ r = vl u) (fun u t => kB D A tys (wl u) t) A
abbrev kYv {Rt : Type} (D : va_G) (A : Nat → Prop) (tys : List (ClassId × FieldType)) (res : String ⊕ Rt) (wl : Rt → va_W) : Array Value → State → Outcome → State → Prop := va_Qv (fun (u : Rt) => res = .inr u) (fun u t => kB D A tys (wl u) t) A
abbrev kYx {Rt : Type} (D : va_G) (A : Nat → Prop) (tys : List (ClassId × FieldType)) (res : String ⊕ Rt) (w0 : va_W) : String → State → State → Prop := vx_X (fun _ : Unit => True) (fun E _ t => res = .inl E ∧ kB D A tys w0 t) A
abbrev ex_nm : List String := ["java/lang/RuntimeException", "java/lang/Exception"]
theorem ex_ot_a : ∀ w ∈ Cond.classLink RX6 58 "java/lang/IllegalArgumentException" :: Cond.initialized "java/lang/IllegalArgumentException" :: vx_atS RX6 62 "java/lang/IllegalArgumentException" ex_nm, vx_ot w = true := by decide +kernel
theorem ex_ot_s : ∀ w ∈ Cond.classLink RX6 91 "java/lang/IllegalStateException" :: Cond.initialized "java/lang/IllegalStateException" :: vx_atS RX6 95 "java/lang/IllegalStateException" ex_nm, vx_ot w = true := by decide +kernel
theorem ex_ng_a : ∀ w ∈ (vx_atS RX6 62 "java/lang/IllegalArgumentException" ex_nm).filter (fun w => !goodWord w), w ∈ Cond.castable "java/lang/IllegalArgumentException" "java/lang/IllegalArgumentException" :: dcA.map Cond.declares := by decide +kernel
theorem ex_ng_s : ∀ w ∈ (vx_atS RX6 95 "java/lang/IllegalStateException" ex_nm).filter (fun w => !goodWord w), w ∈ Cond.castable "java/lang/IllegalStateException" "java/lang/IllegalStateException" :: dcA.map Cond.declares := by decide +kernel
theorem ex_fit : ∀ n ∈ ex_nm, Bundle.fit n = true := by decide +kernel
section KX
variable {p : Program} {l : Launch} {e : Env} {R : Room} {s : State} {m : MethodId} {args : Array Value} {below : List Frame} {meth : Method} {c : Code} {H : Heap} {locs : List Loc} {cells slots mc ms mc0 ms0 : Nat} {Q : State → Prop}
variable {D : va_G} {A : Nat → Prop} {ws wc : va_W} {tys tyc : List (ClassId × FieldType)} {pc : Nat} {ls : Array Slot} {st0 rest : List Value} {av : List Value} {a : Array Value} {cc : ByteArray}
variable {Rt Ru : Type} {rs : String ⊕ Rt} {res : String ⊕ Ru} {Qc : Array Value → State → Outcome → State → Prop}
theorem ex_hat {cls : String} {ic : Nat} {names : List String} {W0 : List Cond} (hts : ∀ w ∈ W0, w.before args s = true) (hin : ∀ w ∈ (vx_atS RX6 ic cls names).filter goodWord, w ∈ W0) (hng : ∀ w ∈ (vx_atS RX6 ic cls names).filter (fun w => !goodWord w), w ∈ Cond.castable cls cls :: dcA.map Cond.declares) (hE : ev_ok A s) (hc : cls ∈ exA) : ∀ w ∈ vx_atS RX6 ic cls names, w.before args s = true :=
  vx_hat (B := Cond.castable cls cls :: dcA.map Cond.declares) (fun w hw => hts w (hin w hw)) hng (fun w hw => by
    rcases List.mem_cons.mp hw with rfl | hw
    · exact va_Nw.use rfl (hE.2.2.2.2.2.1 cls hc)
    · obtain ⟨y, hy, rfl⟩ := List.mem_map.mp hw
      exact va_Nw.use rfl (hE.2.2.2.2.2.2.1 y hy))
theorem kth {cls text : String} {names : List String} {ik is ic : Nat} {w0 : va_W} (eQ : Q = vx_MQ below Qc (kYx D A tys res w0) args s mc ms A) (hl0 : l.stackTraces = false) (hx : p.tables.exec = Jvm.exec) (hb : c.code = cc) (hown : s.vm.findClass RX6 = some m.cls) (hcls : Bundle.fit cls = true) (hnames : ∀ n ∈ names, Bundle.fit n = true)
    (hk : (Cond.classLink RX6 ik cls).before args s = true) (hini : (Cond.initialized cls).before args s = true) (hstr : (RX6, is, text) ∈ stA) (hat : ∀ w ∈ vx_atS RX6 ic cls names, w.before args s = true)
    (hgood : ∀ w ∈ Cond.classLink RX6 ik cls :: Cond.initialized cls :: vx_atS RX6 ic cls names, vx_ot w = true) (hE : ev_ok A s) (hK : va_K D vwCl tys s) (hP : va_P D vwCl w0 H) (hD : va_D A w0) (hS : va_S A s.heap H locs) (hsize : ls.size = c.maxLocals)
    (d0 : decode cc pc = .ok (.new ik, 3)) (d3 : decode cc (pc + 3) = .ok (.dup, 1)) (d4 : decode cc (pc + 4) = .ok (.ldc is, 2)) (d6 : decode cc (pc + 6) = .ok (.invokespecial ic, 3)) (d9 : decode cc (pc + 9) = .ok (.athrow, 1))
    (hout : ∀ (pc : Nat), ∀ x ∈ c.exceptionTable.toList, covers x pc = false) (hRf : names.length + 3 < R.frames) (hRl : (rest.map fun v => v.category).sum + (13 * (names.length + 1) + 43) ≤ R.locals) (hRc : cells + 1 ≤ R.cells) (hRs : slots + 6 ≤ R.slots) (hlocks : meth.locks = false) (hc : cells + 1 ≤ mc) (hs : slots + 6 ≤ ms) (hr : res = .inl cls) :
    W p l e R s m args below meth c H locs cells slots Q (F0 m pc ls rest) := by
  obtain ⟨h1, h2, h3, h4, h5, h8, -⟩ := id hE
  obtain ⟨sa, hsa⟩ := h3 _ hstr
  subst eQ
  refine vx_throwS hx hb hl0 hown hcls hnames hk hini hsa hat hgood h4 h5 hS hsize d0 d3 d4 d6 d9 (hout _) hRf hRl hRc hRs hlocks (fun t hvm hz hq => ?_) hS.2.2 hc hs
  refine ⟨(), trivial, ⟨hr, fun k q hk => (hP k q hk).kept (hq q.1 (hP k q hk).lt), va_K.moved hvm hK, hD⟩, Nat.le_trans hS.1 hz, fun q h1 h2 => ?_⟩
  rw [hq q (Nat.lt_of_lt_of_le h1 hS.1)]
  exact hS.2.1 q h1 h2
theorem kdx_i {vl : Rt → Int32} {w1 ws2 : Rt → va_W} (eQ : Q = vx_MQ below Qc (kYx D A tys res ws) args s mc0 ms0 A) (hc0 : cells + mc ≤ mc0) (hs0 : slots + ms ≤ ms0) (hout : ∀ (pc : Nat), ∀ x ∈ c.exceptionTable.toList, covers x pc = false) (hlocks : meth.locks = false) (hK : va_K D vwCl tys s) (hP : va_P D vwCl ws H) (hD : va_D A ws) (hS : va_S A s.heap H locs) (hA : ∀ q, s.heap.size ≤ q → A q) (hE : ev_ok A s) (isC isT isR isP : List Nat)
    (hrun : FrameBlind (kP D av wc tyc H.size) → (∀ U : State, U.heap = H → s.WarmedH U.vm → kP D av wc tyc H.size av.toArray U) → vx_Run p l e R s m args below meth c H locs cells slots mc ms (F0 m pc ls st0) rest (kYi D (va_A wc H.size) tyc rs vl w1 av.toArray) (kYx D (va_A wc H.size) tyc rs wc) (va_A wc H.size))
    (hC : isC.map (fun i => ws[i]?) = wc.map some) (hC2 : isC.filterMap (fun i => ws[i]?) = wc) (hnC : va_nd isC = true) (hT : isT.filterMap (fun i => tys[i]?) = tyc) (hR : isR.map (fun i => ws[i]?) = (isR.filterMap (fun i => ws[i]?)).map some) (hn : va_nd isR = true) (hdis : isR.all (fun i => !isC.contains i) = true) (hn2 : va_nd isP = true)
    (hW1 : ∀ u, isP.filterMap (fun i => (isR.filterMap (fun i => ws[i]?) ++ w1 u)[i]?) = ws2 u) (hW2 : ∀ u, isP.map (fun i => (isR.filterMap (fun i => ws[i]?) ++ w1 u)[i]?) = (ws2 u).map some) (hX1 : isP.filterMap (fun i => (isR.filterMap (fun i => ws[i]?) ++ wc)[i]?) = ws) (hX2 : isP.map (fun i => (isR.filterMap (fun i => ws[i]?) ++ wc)[i]?) = ws.map some)
    (kE : ∀ E : String, rs = .inl E → res = .inl E)
    (kk : ∀ u : Rt, rs = .inr u → ∀ (H1 : Heap) (locs1 : List Loc), va_P D vwCl (ws2 u) H1 → va_D A (ws2 u) → va_S A s.heap H1 locs1 → W p l e R s m args below meth c H1 locs1 (cells + mc) (slots + ms) Q (F0 m (pc + 3) ls (.int (vl u) :: rest))) : W p l e R s m args below meth c H locs cells slots Q (F0 m pc ls st0) := by
  have hF := va_free hD hS hA isC hC
  refine vx_calli (hrun kP_blind (kd_pre hK hP hD hS hA hE isC isT hC hC2 hnC hT)) hS (fun q _ h => hF q h) hF (fun q _ h => hF q h) (fun E ce q9 u t H1 locs1 ht hvm _ hB hz hk hS1 hce hcv hcl => ?_) (fun r u t H1 locs1 ht hvm hw hB hz hk hS => ?_)
  · obtain ⟨hP1, hD1⟩ := kd_back hP hD hS hA isC isR isP hC hR hn hdis hX1 hX2 hn2 ht hk hB.2
    have hr := kE E hB.1
    subst eQ
    refine vx_out (hout pc) hlocks hce hcv hcl (fun t1 ht1 hv1 => ?_) hS1.2.2 hc0 hs0
    exact ⟨(), trivial, ⟨hr, by rw [ht1]; exact hP1, va_K.moved hv1 hK, hD1⟩, hS1.F ht1⟩
  · obtain ⟨hw, hv⟩ := hw
    obtain ⟨hP1, hD1⟩ := kd_back hP hD (by assumption) hA isC isR isP hC hR hn hdis (hW1 u) (hW2 u) hn2 ht hk hB
    subst hv
    exact kk u hw H1 locs1 hP1 hD1 hS
theorem kdx_l {vl : Rt → Int64} {w1 ws2 : Rt → va_W} (eQ : Q = vx_MQ below Qc (kYx D A tys res ws) args s mc0 ms0 A) (hc0 : cells + mc ≤ mc0) (hs0 : slots + ms ≤ ms0) (hout : ∀ (pc : Nat), ∀ x ∈ c.exceptionTable.toList, covers x pc = false) (hlocks : meth.locks = false) (hK : va_K D vwCl tys s) (hP : va_P D vwCl ws H) (hD : va_D A ws) (hS : va_S A s.heap H locs) (hA : ∀ q, s.heap.size ≤ q → A q) (hE : ev_ok A s) (isC isT isR isP : List Nat)
    (hrun : FrameBlind (kP D av wc tyc H.size) → (∀ U : State, U.heap = H → s.WarmedH U.vm → kP D av wc tyc H.size av.toArray U) → vx_Run p l e R s m args below meth c H locs cells slots mc ms (F0 m pc ls st0) rest (kYl D (va_A wc H.size) tyc rs vl w1 av.toArray) (kYx D (va_A wc H.size) tyc rs wc) (va_A wc H.size))
    (hC : isC.map (fun i => ws[i]?) = wc.map some) (hC2 : isC.filterMap (fun i => ws[i]?) = wc) (hnC : va_nd isC = true) (hT : isT.filterMap (fun i => tys[i]?) = tyc) (hR : isR.map (fun i => ws[i]?) = (isR.filterMap (fun i => ws[i]?)).map some) (hn : va_nd isR = true) (hdis : isR.all (fun i => !isC.contains i) = true) (hn2 : va_nd isP = true)
    (hW1 : ∀ u, isP.filterMap (fun i => (isR.filterMap (fun i => ws[i]?) ++ w1 u)[i]?) = ws2 u) (hW2 : ∀ u, isP.map (fun i => (isR.filterMap (fun i => ws[i]?) ++ w1 u)[i]?) = (ws2 u).map some) (hX1 : isP.filterMap (fun i => (isR.filterMap (fun i => ws[i]?) ++ wc)[i]?) = ws) (hX2 : isP.map (fun i => (isR.filterMap (fun i => ws[i]?) ++ wc)[i]?) = ws.map some)
    (kE : ∀ E : String, rs = .inl E → res = .inl E)
    (kk : ∀ u : Rt, rs = .inr u → ∀ (H1 : Heap) (locs1 : List Loc), va_P D vwCl (ws2 u) H1 → va_D A (ws2 u) → va_S A s.heap H1 locs1 → W p l e R s m args below meth c H1 locs1 (cells + mc) (slots + ms) Q (F0 m (pc + 3) ls (.long (vl u) :: rest))) : W p l e R s m args below meth c H locs cells slots Q (F0 m pc ls st0) := by
  have hF := va_free hD hS hA isC hC
  refine vx_calll (hrun kP_blind (kd_pre hK hP hD hS hA hE isC isT hC hC2 hnC hT)) hS (fun q _ h => hF q h) hF (fun q _ h => hF q h) (fun E ce q9 u t H1 locs1 ht hvm _ hB hz hk hS1 hce hcv hcl => ?_) (fun r u t H1 locs1 ht hvm hw hB hz hk hS => ?_)
  · obtain ⟨hP1, hD1⟩ := kd_back hP hD hS hA isC isR isP hC hR hn hdis hX1 hX2 hn2 ht hk hB.2
    have hr := kE E hB.1
    subst eQ
    refine vx_out (hout pc) hlocks hce hcv hcl (fun t1 ht1 hv1 => ?_) hS1.2.2 hc0 hs0
    exact ⟨(), trivial, ⟨hr, by rw [ht1]; exact hP1, va_K.moved hv1 hK, hD1⟩, hS1.F ht1⟩
  · obtain ⟨hw, hv⟩ := hw
    obtain ⟨hP1, hD1⟩ := kd_back hP hD (by assumption) hA isC isR isP hC hR hn hdis (hW1 u) (hW2 u) hn2 ht hk hB
    subst hv
    exact kk u hw H1 locs1 hP1 hD1 hS
theorem kdx_v {w1 ws2 : Rt → va_W} (eQ : Q = vx_MQ below Qc (kYx D A tys res ws) args s mc0 ms0 A) (hc0 : cells + mc ≤ mc0) (hs0 : slots + ms ≤ ms0) (hout : ∀ (pc : Nat), ∀ x ∈ c.exceptionTable.toList, covers x pc = false) (hlocks : meth.locks = false) (hK : va_K D vwCl tys s) (hP : va_P D vwCl ws H) (hD : va_D A ws) (hS : va_S A s.heap H locs) (hA : ∀ q, s.heap.size ≤ q → A q) (hE : ev_ok A s) (isC isT isR isP : List Nat)
    (hrun : FrameBlind (kP D av wc tyc H.size) → (∀ U : State, U.heap = H → s.WarmedH U.vm → kP D av wc tyc H.size av.toArray U) → vx_Run p l e R s m args below meth c H locs cells slots mc ms (F0 m pc ls st0) rest (kYv D (va_A wc H.size) tyc rs w1 av.toArray) (kYx D (va_A wc H.size) tyc rs wc) (va_A wc H.size))
    (hC : isC.map (fun i => ws[i]?) = wc.map some) (hC2 : isC.filterMap (fun i => ws[i]?) = wc) (hnC : va_nd isC = true) (hT : isT.filterMap (fun i => tys[i]?) = tyc) (hR : isR.map (fun i => ws[i]?) = (isR.filterMap (fun i => ws[i]?)).map some) (hn : va_nd isR = true) (hdis : isR.all (fun i => !isC.contains i) = true) (hn2 : va_nd isP = true)
    (hW1 : ∀ u, isP.filterMap (fun i => (isR.filterMap (fun i => ws[i]?) ++ w1 u)[i]?) = ws2 u) (hW2 : ∀ u, isP.map (fun i => (isR.filterMap (fun i => ws[i]?) ++ w1 u)[i]?) = (ws2 u).map some) (hX1 : isP.filterMap (fun i => (isR.filterMap (fun i => ws[i]?) ++ wc)[i]?) = ws) (hX2 : isP.map (fun i => (isR.filterMap (fun i => ws[i]?) ++ wc)[i]?) = ws.map some)
    (kE : ∀ E : String, rs = .inl E → res = .inl E)
    (kk : ∀ u : Rt, rs = .inr u → ∀ (H1 : Heap) (locs1 : List Loc), va_P D vwCl (ws2 u) H1 → va_D A (ws2 u) → va_S A s.heap H1 locs1 → W p l e R s m args below meth c H1 locs1 (cells + mc) (slots + ms) Q (F0 m (pc + 3) ls (rest))) : W p l e R s m args below meth c H locs cells slots Q (F0 m pc ls st0) := by
  have hF := va_free hD hS hA isC hC
  refine vx_callv (hrun kP_blind (kd_pre hK hP hD hS hA hE isC isT hC hC2 hnC hT)) hS (fun q _ h => hF q h) hF (fun q _ h => hF q h) (fun E ce q9 u t H1 locs1 ht hvm _ hB hz hk hS1 hce hcv hcl => ?_) (fun u t H1 locs1 ht hvm hw hB hz hk hS => ?_)
  · obtain ⟨hP1, hD1⟩ := kd_back hP hD hS hA isC isR isP hC hR hn hdis hX1 hX2 hn2 ht hk hB.2
    have hr := kE E hB.1
    subst eQ
    refine vx_out (hout pc) hlocks hce hcv hcl (fun t1 ht1 hv1 => ?_) hS1.2.2 hc0 hs0
    exact ⟨(), trivial, ⟨hr, by rw [ht1]; exact hP1, va_K.moved hv1 hK, hD1⟩, hS1.F ht1⟩
  · skip
    obtain ⟨hP1, hD1⟩ := kd_back hP hD (by assumption) hA isC isR isP hC hR hn hdis (hW1 u) (hW2 u) hn2 ht hk hB
    
    exact kk u hw H1 locs1 hP1 hD1 hS
theorem krx_i {u : Ru} {w1 : Ru → va_W} {vl : Ru → Int32} {XC : String → State → State → Prop} (hx : p.tables.exec = Jvm.exec) (hb : c.code = cc) (hr : meth.sig.returnType = some .int) (hlocks : meth.locks = false) (hK : va_K D vwCl tys s) (hP : va_P D vwCl (w1 u) H) (hD : va_D A (w1 u)) (hS : va_S A s.heap H locs) (hdg : decode cc pc = .ok (.ireturn, 1)) (hc : cells ≤ mc) (hs : slots ≤ ms) :
    W p l e R s m args below meth c H locs cells slots (vx_MQ below (kYi D A tys (.inr u : String ⊕ Ru) vl w1) XC args s mc ms A) (F0 m pc ls [.int (vl u)]) := by
  refine vx_ret (W.widen hc hs ?_)
  exact W.iret hx hb hr (fun t ht hW => ⟨⟨vl u, u, rfl, ⟨rfl, rfl⟩, by rw [ht]; exact hP, va_K.moved hW.alike hK, hD⟩, hS.F ht⟩) hS.2.2 hdg hlocks
theorem krx_z {u : Ru} {w1 : Ru → va_W} {vl : Ru → Int32} {XC : String → State → State → Prop} (hx : p.tables.exec = Jvm.exec) (hb : c.code = cc) (hr : meth.sig.returnType = some .boolean) (hz : narrow .boolean (.int (vl u)) = .int (vl u)) (hlocks : meth.locks = false) (hK : va_K D vwCl tys s) (hP : va_P D vwCl (w1 u) H) (hD : va_D A (w1 u)) (hS : va_S A s.heap H locs) (hdg : decode cc pc = .ok (.ireturn, 1)) (hc : cells ≤ mc) (hs : slots ≤ ms) :
    W p l e R s m args below meth c H locs cells slots (vx_MQ below (kYi D A tys (.inr u : String ⊕ Ru) vl w1) XC args s mc ms A) (F0 m pc ls [.int (vl u)]) := by
  refine vx_ret (W.widen hc hs ?_)
  exact W.zret hx hb hr hz (fun t ht hW => ⟨⟨vl u, u, rfl, ⟨rfl, rfl⟩, by rw [ht]; exact hP, va_K.moved hW.alike hK, hD⟩, hS.F ht⟩) hS.2.2 hdg hlocks
theorem krx_l {u : Ru} {w1 : Ru → va_W} {vl : Ru → Int64} {XC : String → State → State → Prop} (hx : p.tables.exec = Jvm.exec) (hb : c.code = cc) (hr : meth.sig.returnType = some .long) (hlocks : meth.locks = false) (hK : va_K D vwCl tys s) (hP : va_P D vwCl (w1 u) H) (hD : va_D A (w1 u)) (hS : va_S A s.heap H locs) (hdg : decode cc pc = .ok (.lreturn, 1)) (hc : cells ≤ mc) (hs : slots ≤ ms) :
    W p l e R s m args below meth c H locs cells slots (vx_MQ below (kYl D A tys (.inr u : String ⊕ Ru) vl w1) XC args s mc ms A) (F0 m pc ls [.long (vl u)]) := by
  refine vx_ret (W.widen hc hs ?_)
  exact W.lret hx hb hr (fun t ht hW => ⟨⟨vl u, u, rfl, ⟨rfl, rfl⟩, by rw [ht]; exact hP, va_K.moved hW.alike hK, hD⟩, hS.F ht⟩) hS.2.2 hdg hlocks
theorem krx_v {u : Ru} {w1 : Ru → va_W} {XC : String → State → State → Prop} (hx : p.tables.exec = Jvm.exec) (hb : c.code = cc) (hr : meth.sig.returnType = none) (hlocks : meth.locks = false) (hK : va_K D vwCl tys s) (hP : va_P D vwCl (w1 u) H) (hD : va_D A (w1 u)) (hS : va_S A s.heap H locs) (hdg : decode cc pc = .ok (.return_, 1)) (hc : cells ≤ mc) (hs : slots ≤ ms) :
    W p l e R s m args below meth c H locs cells slots (vx_MQ below (kYv D A tys (.inr u : String ⊕ Ru) w1) XC args s mc ms A) (F0 m pc ls []) := by
  refine vx_ret (W.widen hc hs ?_)
  exact W.vret hx hb hr (fun t ht hW => ⟨⟨u, rfl, rfl, by rw [ht]; exact hP, va_K.moved hW.alike hK, hD⟩, hS.F ht⟩) hS.2.2 hdg hlocks
def zI : Nat → Int32 := fun _ => 0
def zJ : Nat → Int64 := fun _ => 0
def adl (l : List Nat) : Nat → Nat := fun k => l.getD k 0
abbrev kQn {S : Type} (D : va_G) (A : Nat → Prop) (ty1 : S → List (ClassId × FieldType)) (w1 : S → va_W) : Array Value → State → Outcome → State → Prop := va_Qv (fun (_ : S) => True) (fun u t => kB D A (ty1 u) (w1 u) t) A
theorem kdn {S : Type} {w1 ws2 : S → va_W} {ty1 : S → List (ClassId × FieldType)} (hK : va_K D vwCl tys s) (hP : va_P D vwCl ws H) (hD : va_D A ws) (hS : va_S A s.heap H locs) (hA : ∀ q, s.heap.size ≤ q → A q) (hE : ev_ok A s) (isC isT isR isP : List Nat)
    (hrun : FrameBlind (kP D av wc tyc H.size) → (∀ U : State, U.heap = H → s.WarmedH U.vm → kP D av wc tyc H.size av.toArray U) → va_Run p l e R s m args below meth c H locs cells slots mc ms (F0 m pc ls st0) rest (kQn D (va_A wc H.size) ty1 w1 a) (va_A wc H.size))
    (hC : isC.map (fun i => ws[i]?) = wc.map some) (hC2 : isC.filterMap (fun i => ws[i]?) = wc) (hnC : va_nd isC = true) (hT : isT.filterMap (fun i => tys[i]?) = tyc) (hR : isR.map (fun i => ws[i]?) = (isR.filterMap (fun i => ws[i]?)).map some) (hn : va_nd isR = true) (hdis : isR.all (fun i => !isC.contains i) = true)
    (hW1 : ∀ u, isP.filterMap (fun i => (isR.filterMap (fun i => ws[i]?) ++ w1 u)[i]?) = ws2 u) (hW2 : ∀ u, isP.map (fun i => (isR.filterMap (fun i => ws[i]?) ++ w1 u)[i]?) = (ws2 u).map some) (hn2 : va_nd isP = true)
    (kk : ∀ (u : S) (H1 : Heap) (locs1 : List Loc), va_K D vwCl (tys ++ ty1 u) s → va_P D vwCl (ws2 u) H1 → va_D A (ws2 u) → va_S A s.heap H1 locs1 → W p l e R s m args below meth c H1 locs1 (cells + mc) (slots + ms) Q (F0 m (pc + 3) ls rest)) : W p l e R s m args below meth c H locs cells slots Q (F0 m pc ls st0) := by
  have hF := va_free hD hS hA isC hC
  refine va_callv (hrun kP_blind (kd_pre hK hP hD hS hA hE isC isT hC hC2 hnC hT)) hS (fun q _ h => hF q h) hF (fun u t H1 locs1 ht hvm hw hB hz hk hS => ?_)
  obtain ⟨hP, hD⟩ := kd_back hP hD (by assumption) hA isC isR isP hC hR hn hdis (hW1 u) (hW2 u) hn2 ht hk hB
  exact kk u H1 locs1 (hK.app (va_K.moved hvm.symm hB.2.1)) hP hD hS
theorem krn {S : Type} {w1 : S → va_W} {ty1 : S → List (ClassId × FieldType)} (u : S) (hx : p.tables.exec = Jvm.exec) (hb : c.code = cc) (hr : meth.sig.returnType = none) (hlocks : meth.locks = false) (hK : va_K D vwCl (ty1 u) s) (hP : va_P D vwCl (w1 u) H) (hD : va_D A (w1 u)) (hS : va_S A s.heap H locs) (hdg : decode cc pc = .ok (.return_, 1)) :
    W p l e R s m args below meth c H locs cells slots (MQ below (kQn D A ty1 w1) args s cells slots A) (F0 m pc ls []) :=
  W.vret hx hb hr (fun t ht hW => ⟨⟨u, rfl, trivial, by rw [ht]; exact hP, va_K.moved hW.alike hK, hD⟩, hS.F ht⟩) hS.2.2 hdg hlocks
theorem kdh_i {vl : Rt → Int32} {w1 ws2 : Rt → va_W} (hK : va_K D vwCl tys s) (hP : va_P D vwCl ws H) (hD : va_D A ws) (hS : va_S A s.heap H locs) (hA : ∀ q, s.heap.size ≤ q → A q) (hE : ev_ok A s) (isC isT isR isP : List Nat)
    (hrun : FrameBlind (kP D av wc tyc H.size) → (∀ U : State, U.heap = H → s.WarmedH U.vm → kP D av wc tyc H.size av.toArray U) → vx_Run p l e R s m args below meth c H locs cells slots mc ms (F0 m pc ls st0) rest (kYi D (va_A wc H.size) tyc rs vl w1 av.toArray) (kYx D (va_A wc H.size) tyc rs wc) (va_A wc H.size))
    (hC : isC.map (fun i => ws[i]?) = wc.map some) (hC2 : isC.filterMap (fun i => ws[i]?) = wc) (hnC : va_nd isC = true) (hT : isT.filterMap (fun i => tys[i]?) = tyc) (hR : isR.map (fun i => ws[i]?) = (isR.filterMap (fun i => ws[i]?)).map some) (hn : va_nd isR = true) (hdis : isR.all (fun i => !isC.contains i) = true) (hn2 : va_nd isP = true)
    (hW1 : ∀ u, isP.filterMap (fun i => (isR.filterMap (fun i => ws[i]?) ++ w1 u)[i]?) = ws2 u) (hW2 : ∀ u, isP.map (fun i => (isR.filterMap (fun i => ws[i]?) ++ w1 u)[i]?) = (ws2 u).map some) (hX1 : isP.filterMap (fun i => (isR.filterMap (fun i => ws[i]?) ++ wc)[i]?) = ws) (hX2 : isP.map (fun i => (isR.filterMap (fun i => ws[i]?) ++ wc)[i]?) = ws.map some)
    (kx : ∀ (E : String) (ce : Cell) (q9 : Addr), rs = .inl E → ∀ (H1 : Heap) (locs1 : List Loc), va_P D vwCl ws H1 → va_D A ws → va_S A s.heap H1 locs1 → H1[q9]? = some ce → ce.vm = .none → s.vm.findClass E = some ce.cls → vx_W p l e R s m args below meth c H1 locs1 (cells + mc) (slots + ms) Q (F0 m pc ls rest) q9)
    (kk : ∀ u : Rt, rs = .inr u → ∀ (H1 : Heap) (locs1 : List Loc), va_P D vwCl (ws2 u) H1 → va_D A (ws2 u) → va_S A s.heap H1 locs1 → W p l e R s m args below meth c H1 locs1 (cells + mc) (slots + ms) Q (F0 m (pc + 3) ls (.int (vl u) :: rest))) : W p l e R s m args below meth c H locs cells slots Q (F0 m pc ls st0) := by
  have hF := va_free hD hS hA isC hC
  refine vx_calli (hrun kP_blind (kd_pre hK hP hD hS hA hE isC isT hC hC2 hnC hT)) hS (fun q _ h => hF q h) hF (fun q _ h => hF q h) (fun E ce q9 u t H1 locs1 ht hvm _ hB hz hk hS1 hce hcv hcl => ?_) (fun r u t H1 locs1 ht hvm hw hB hz hk hS => ?_)
  · obtain ⟨hP1, hD1⟩ := kd_back hP hD hS hA isC isR isP hC hR hn hdis hX1 hX2 hn2 ht hk hB.2
    exact kx E ce q9 hB.1 H1 locs1 hP1 hD1 hS1 hce hcv hcl
  · obtain ⟨hw, hv⟩ := hw
    obtain ⟨hP1, hD1⟩ := kd_back hP hD (by assumption) hA isC isR isP hC hR hn hdis (hW1 u) (hW2 u) hn2 ht hk hB
    subst hv
    exact kk u hw H1 locs1 hP1 hD1 hS
theorem kdh_l {vl : Rt → Int64} {w1 ws2 : Rt → va_W} (hK : va_K D vwCl tys s) (hP : va_P D vwCl ws H) (hD : va_D A ws) (hS : va_S A s.heap H locs) (hA : ∀ q, s.heap.size ≤ q → A q) (hE : ev_ok A s) (isC isT isR isP : List Nat)
    (hrun : FrameBlind (kP D av wc tyc H.size) → (∀ U : State, U.heap = H → s.WarmedH U.vm → kP D av wc tyc H.size av.toArray U) → vx_Run p l e R s m args below meth c H locs cells slots mc ms (F0 m pc ls st0) rest (kYl D (va_A wc H.size) tyc rs vl w1 av.toArray) (kYx D (va_A wc H.size) tyc rs wc) (va_A wc H.size))
    (hC : isC.map (fun i => ws[i]?) = wc.map some) (hC2 : isC.filterMap (fun i => ws[i]?) = wc) (hnC : va_nd isC = true) (hT : isT.filterMap (fun i => tys[i]?) = tyc) (hR : isR.map (fun i => ws[i]?) = (isR.filterMap (fun i => ws[i]?)).map some) (hn : va_nd isR = true) (hdis : isR.all (fun i => !isC.contains i) = true) (hn2 : va_nd isP = true)
    (hW1 : ∀ u, isP.filterMap (fun i => (isR.filterMap (fun i => ws[i]?) ++ w1 u)[i]?) = ws2 u) (hW2 : ∀ u, isP.map (fun i => (isR.filterMap (fun i => ws[i]?) ++ w1 u)[i]?) = (ws2 u).map some) (hX1 : isP.filterMap (fun i => (isR.filterMap (fun i => ws[i]?) ++ wc)[i]?) = ws) (hX2 : isP.map (fun i => (isR.filterMap (fun i => ws[i]?) ++ wc)[i]?) = ws.map some)
    (kx : ∀ (E : String) (ce : Cell) (q9 : Addr), rs = .inl E → ∀ (H1 : Heap) (locs1 : List Loc), va_P D vwCl ws H1 → va_D A ws → va_S A s.heap H1 locs1 → H1[q9]? = some ce → ce.vm = .none → s.vm.findClass E = some ce.cls → vx_W p l e R s m args below meth c H1 locs1 (cells + mc) (slots + ms) Q (F0 m pc ls rest) q9)
    (kk : ∀ u : Rt, rs = .inr u → ∀ (H1 : Heap) (locs1 : List Loc), va_P D vwCl (ws2 u) H1 → va_D A (ws2 u) → va_S A s.heap H1 locs1 → W p l e R s m args below meth c H1 locs1 (cells + mc) (slots + ms) Q (F0 m (pc + 3) ls (.long (vl u) :: rest))) : W p l e R s m args below meth c H locs cells slots Q (F0 m pc ls st0) := by
  have hF := va_free hD hS hA isC hC
  refine vx_calll (hrun kP_blind (kd_pre hK hP hD hS hA hE isC isT hC hC2 hnC hT)) hS (fun q _ h => hF q h) hF (fun q _ h => hF q h) (fun E ce q9 u t H1 locs1 ht hvm _ hB hz hk hS1 hce hcv hcl => ?_) (fun r u t H1 locs1 ht hvm hw hB hz hk hS => ?_)
  · obtain ⟨hP1, hD1⟩ := kd_back hP hD hS hA isC isR isP hC hR hn hdis hX1 hX2 hn2 ht hk hB.2
    exact kx E ce q9 hB.1 H1 locs1 hP1 hD1 hS1 hce hcv hcl
  · obtain ⟨hw, hv⟩ := hw
    obtain ⟨hP1, hD1⟩ := kd_back hP hD (by assumption) hA isC isR isP hC hR hn hdis (hW1 u) (hW2 u) hn2 ht hk hB
    subst hv
    exact kk u hw H1 locs1 hP1 hD1 hS
theorem kdh_v {w1 ws2 : Rt → va_W} (hK : va_K D vwCl tys s) (hP : va_P D vwCl ws H) (hD : va_D A ws) (hS : va_S A s.heap H locs) (hA : ∀ q, s.heap.size ≤ q → A q) (hE : ev_ok A s) (isC isT isR isP : List Nat)
    (hrun : FrameBlind (kP D av wc tyc H.size) → (∀ U : State, U.heap = H → s.WarmedH U.vm → kP D av wc tyc H.size av.toArray U) → vx_Run p l e R s m args below meth c H locs cells slots mc ms (F0 m pc ls st0) rest (kYv D (va_A wc H.size) tyc rs w1 av.toArray) (kYx D (va_A wc H.size) tyc rs wc) (va_A wc H.size))
    (hC : isC.map (fun i => ws[i]?) = wc.map some) (hC2 : isC.filterMap (fun i => ws[i]?) = wc) (hnC : va_nd isC = true) (hT : isT.filterMap (fun i => tys[i]?) = tyc) (hR : isR.map (fun i => ws[i]?) = (isR.filterMap (fun i => ws[i]?)).map some) (hn : va_nd isR = true) (hdis : isR.all (fun i => !isC.contains i) = true) (hn2 : va_nd isP = true)
    (hW1 : ∀ u, isP.filterMap (fun i => (isR.filterMap (fun i => ws[i]?) ++ w1 u)[i]?) = ws2 u) (hW2 : ∀ u, isP.map (fun i => (isR.filterMap (fun i => ws[i]?) ++ w1 u)[i]?) = (ws2 u).map some) (hX1 : isP.filterMap (fun i => (isR.filterMap (fun i => ws[i]?) ++ wc)[i]?) = ws) (hX2 : isP.map (fun i => (isR.filterMap (fun i => ws[i]?) ++ wc)[i]?) = ws.map some)
    (kx : ∀ (E : String) (ce : Cell) (q9 : Addr), rs = .inl E → ∀ (H1 : Heap) (locs1 : List Loc), va_P D vwCl ws H1 → va_D A ws → va_S A s.heap H1 locs1 → H1[q9]? = some ce → ce.vm = .none → s.vm.findClass E = some ce.cls → vx_W p l e R s m args below meth c H1 locs1 (cells + mc) (slots + ms) Q (F0 m pc ls rest) q9)
    (kk : ∀ u : Rt, rs = .inr u → ∀ (H1 : Heap) (locs1 : List Loc), va_P D vwCl (ws2 u) H1 → va_D A (ws2 u) → va_S A s.heap H1 locs1 → W p l e R s m args below meth c H1 locs1 (cells + mc) (slots + ms) Q (F0 m (pc + 3) ls (rest))) : W p l e R s m args below meth c H locs cells slots Q (F0 m pc ls st0) := by
  have hF := va_free hD hS hA isC hC
  refine vx_callv (hrun kP_blind (kd_pre hK hP hD hS hA hE isC isT hC hC2 hnC hT)) hS (fun q _ h => hF q h) hF (fun q _ h => hF q h) (fun E ce q9 u t H1 locs1 ht hvm _ hB hz hk hS1 hce hcv hcl => ?_) (fun u t H1 locs1 ht hvm hw hB hz hk hS => ?_)
  · obtain ⟨hP1, hD1⟩ := kd_back hP hD hS hA isC isR isP hC hR hn hdis hX1 hX2 hn2 ht hk hB.2
    exact kx E ce q9 hB.1 H1 locs1 hP1 hD1 hS1 hce hcv hcl
  · skip
    obtain ⟨hP1, hD1⟩ := kd_back hP hD (by assumption) hA isC isR isP hC hR hn hdis (hW1 u) (hW2 u) hn2 ht hk hB
    
    exact kk u hw H1 locs1 hP1 hD1 hS
abbrev kNx (A : Nat → Prop) : String → State → State → Prop := vx_X (fun _ : Unit => False) (fun _ _ _ => True) A
theorem krw_i {v : Int32} {w1 : va_W} {XC : String → State → State → Prop} (hx : p.tables.exec = Jvm.exec) (hb : c.code = cc) (hr : meth.sig.returnType = some .int) (hlocks : meth.locks = false) (hK : va_K D vwCl tys s) (hP : va_P D vwCl w1 H) (hD : va_D A w1) (hS : va_S A s.heap H locs) (hdg : decode cc pc = .ok (.ireturn, 1)) (hc : cells ≤ mc) (hs : slots ≤ ms) :
    W p l e R s m args below meth c H locs cells slots (vx_MQ below (kQi D A tys v w1) XC args s mc ms A) (F0 m pc ls [.int v]) :=
  vx_ret (W.widen hc hs (kr_i hx hb hr hlocks hK hP hD hS hdg))
end KX
