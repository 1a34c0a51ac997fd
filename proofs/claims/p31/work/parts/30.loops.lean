/-! rules for the pure functions: loops that run through a known sequence of states, loops by invariant -/
theorem zfu_gt {N : Nat} (h : N ≤ 9999) : N < zfu := Nat.lt_of_le_of_lt h (by decide)
theorem zob_eq {A R : Type} {x : Option A} {a : A} {f : A → Option R} (h : x = some a) : zob x f = f a := by rw [h]; rfl
theorem zgd_eq {R : Type} {b : Bool} {x : Option R} (h : b = true) : zgd b x = x := by rw [h]; rfl
def wp {R : Type} (x : Option R) (Q : R → Prop) : Prop := ∃ r, x = some r ∧ Q r
theorem wp_some {R : Type} {r : R} {Q : R → Prop} (h : Q r) : wp (some r) Q := ⟨r, rfl, h⟩
theorem wp_ob {A R : Type} {x : Option A} {a : A} {f : A → Option R} {Q : R → Prop} (h : x = some a) (k : wp (f a) Q) : wp (zob x f) Q := by rw [h]; exact k
theorem wp_obW {A R : Type} {x : Option A} {f : A → Option R} {Q : R → Prop} {P : A → Prop} (h : wp x P) (k : ∀ a, P a → wp (f a) Q) : wp (zob x f) Q := by
  obtain ⟨a, rfl, ha⟩ := h
  exact k a ha
theorem wp_gd {R : Type} {b : Bool} {x : Option R} {Q : R → Prop} (h : b = true) (k : wp x Q) : wp (zgd b x) Q := by rw [h]; exact k
theorem wp_bd {A R : Type} {e : A} {f : A → Option R} {Q : R → Prop} (k : wp (f e) Q) : wp (zbd e f) Q := k
theorem wp_jp {T R : Type} {K : T} {f : T → Option R} {Q : R → Prop} (k : wp (f K) Q) : wp (zjp K f) Q := k
theorem wp_t {R : Type} {c : Prop} [Decidable c] {x y : Option R} {Q : R → Prop} (h : c) (k : wp x Q) : wp (if c then x else y) Q := by rw [if_pos h]; exact k
theorem wp_f {R : Type} {c : Prop} [Decidable c] {x y : Option R} {Q : R → Prop} (h : ¬ c) (k : wp y Q) : wp (if c then x else y) Q := by rw [if_neg h]; exact k
theorem wp_ite {R : Type} {c : Prop} [Decidable c] {x y : Option R} {Q : R → Prop} (k1 : c → wp x Q) (k2 : ¬ c → wp y Q) : wp (if c then x else y) Q := by
  by_cases h : c
  · exact wp_t h (k1 h)
  · exact wp_f h (k2 h)
theorem wp_imp {R : Type} {x : Option R} {P Q : R → Prop} (h : wp x P) (k : ∀ r, P r → Q r) : wp x Q := by
  obtain ⟨r, h1, h2⟩ := h
  exact ⟨r, h1, k r h2⟩
theorem wp_eq {R : Type} {x : Option R} {r : R} (h : wp x (fun z => z = r)) : x = some r := by
  obtain ⟨z, h1, rfl⟩ := h
  exact h1
theorem zl1_iter {A0 R : Type} {F : (A0 → Option R) → A0 → Option R} {X : Option R} (N : Nat) (g0 : Nat → A0) (hN : N ≤ 9999) (hs : ∀ k j, j < N → F k (g0 j) = k (g0 (j + 1))) (he : ∀ k, F k (g0 N) = X) {a0 : A0} (e0 : g0 0 = a0) : zl1 F zfu a0 = X := by
  subst e0
  have h : ∀ m j n, m + j = N → m < n → zl1 F n (g0 j) = X := by
    intro m
    induction m with
    | zero =>
      intro j n hj hn
      obtain ⟨n, rfl⟩ : ∃ z, n = z + 1 := ⟨n - 1, by omega⟩
      have hj2 : j = N := by omega
      subst hj2
      exact he _
    | succ m ih =>
      intro j n hj hn
      obtain ⟨n, rfl⟩ : ∃ z, n = z + 1 := ⟨n - 1, by omega⟩
      exact (hs _ j (by omega)).trans (ih (j + 1) n (by omega) (by omega))
  exact h N 0 zfu rfl (zfu_gt hN)
theorem zl1_wp {A0 R : Type} {F : (A0 → Option R) → A0 → Option R} {Q : R → Prop} (I : A0 → Prop) (μ : A0 → Nat) (hs : ∀ (k : A0 → Option R) a0, I a0 → (∀ b0, I b0 → μ b0 < μ a0 → wp (k b0) Q) → wp (F k a0) Q) (a0 : A0) (h0 : I a0) (hm : μ a0 ≤ 9999) : wp (zl1 F zfu a0) Q := by
  have h : ∀ n a0, I a0 → μ a0 < n → wp (zl1 F n a0) Q := by
    intro n
    induction n with
    | zero => intro a0 _ h; omega
    | succ n ih => intro a0 hI hn; exact hs _ a0 hI (fun b0 hb hl => ih b0 hb (by omega))
  exact h zfu a0 h0 (zfu_gt hm)
theorem zl2_iter {A0 A1 R : Type} {F : (A0 → A1 → Option R) → A0 → A1 → Option R} {X : Option R} (N : Nat) (g0 : Nat → A0) (g1 : Nat → A1) (hN : N ≤ 9999) (hs : ∀ k j, j < N → F k (g0 j) (g1 j) = k (g0 (j + 1)) (g1 (j + 1))) (he : ∀ k, F k (g0 N) (g1 N) = X) {a0 : A0} {a1 : A1} (e0 : g0 0 = a0) (e1 : g1 0 = a1) : zl2 F zfu a0 a1 = X := by
  subst e0; subst e1
  have h : ∀ m j n, m + j = N → m < n → zl2 F n (g0 j) (g1 j) = X := by
    intro m
    induction m with
    | zero =>
      intro j n hj hn
      obtain ⟨n, rfl⟩ : ∃ z, n = z + 1 := ⟨n - 1, by omega⟩
      have hj2 : j = N := by omega
      subst hj2
      exact he _
    | succ m ih =>
      intro j n hj hn
      obtain ⟨n, rfl⟩ : ∃ z, n = z + 1 := ⟨n - 1, by omega⟩
      exact (hs _ j (by omega)).trans (ih (j + 1) n (by omega) (by omega))
  exact h N 0 zfu rfl (zfu_gt hN)
theorem zl2_wp {A0 A1 R : Type} {F : (A0 → A1 → Option R) → A0 → A1 → Option R} {Q : R → Prop} (I : A0 → A1 → Prop) (μ : A0 → A1 → Nat) (hs : ∀ (k : A0 → A1 → Option R) a0 a1, I a0 a1 → (∀ b0 b1, I b0 b1 → μ b0 b1 < μ a0 a1 → wp (k b0 b1) Q) → wp (F k a0 a1) Q) (a0 : A0) (a1 : A1) (h0 : I a0 a1) (hm : μ a0 a1 ≤ 9999) : wp (zl2 F zfu a0 a1) Q := by
  have h : ∀ n a0 a1, I a0 a1 → μ a0 a1 < n → wp (zl2 F n a0 a1) Q := by
    intro n
    induction n with
    | zero => intro a0 a1 _ h; omega
    | succ n ih => intro a0 a1 hI hn; exact hs _ a0 a1 hI (fun b0 b1 hb hl => ih b0 b1 hb (by omega))
  exact h zfu a0 a1 h0 (zfu_gt hm)
theorem zl3_iter {A0 A1 A2 R : Type} {F : (A0 → A1 → A2 → Option R) → A0 → A1 → A2 → Option R} {X : Option R} (N : Nat) (g0 : Nat → A0) (g1 : Nat → A1) (g2 : Nat → A2) (hN : N ≤ 9999) (hs : ∀ k j, j < N → F k (g0 j) (g1 j) (g2 j) = k (g0 (j + 1)) (g1 (j + 1)) (g2 (j + 1))) (he : ∀ k, F k (g0 N) (g1 N) (g2 N) = X) {a0 : A0} {a1 : A1} {a2 : A2} (e0 : g0 0 = a0) (e1 : g1 0 = a1) (e2 : g2 0 = a2) : zl3 F zfu a0 a1 a2 = X := by
  subst e0; subst e1; subst e2
  have h : ∀ m j n, m + j = N → m < n → zl3 F n (g0 j) (g1 j) (g2 j) = X := by
    intro m
    induction m with
    | zero =>
      intro j n hj hn
      obtain ⟨n, rfl⟩ : ∃ z, n = z + 1 := ⟨n - 1, by omega⟩
      have hj2 : j = N := by omega
      subst hj2
      exact he _
    | succ m ih =>
      intro j n hj hn
      obtain ⟨n, rfl⟩ : ∃ z, n = z + 1 := ⟨n - 1, by omega⟩
      exact (hs _ j (by omega)).trans (ih (j + 1) n (by omega) (by omega))
  exact h N 0 zfu rfl (zfu_gt hN)
theorem zl3_wp {A0 A1 A2 R : Type} {F : (A0 → A1 → A2 → Option R) → A0 → A1 → A2 → Option R} {Q : R → Prop} (I : A0 → A1 → A2 → Prop) (μ : A0 → A1 → A2 → Nat) (hs : ∀ (k : A0 → A1 → A2 → Option R) a0 a1 a2, I a0 a1 a2 → (∀ b0 b1 b2, I b0 b1 b2 → μ b0 b1 b2 < μ a0 a1 a2 → wp (k b0 b1 b2) Q) → wp (F k a0 a1 a2) Q) (a0 : A0) (a1 : A1) (a2 : A2) (h0 : I a0 a1 a2) (hm : μ a0 a1 a2 ≤ 9999) : wp (zl3 F zfu a0 a1 a2) Q := by
  have h : ∀ n a0 a1 a2, I a0 a1 a2 → μ a0 a1 a2 < n → wp (zl3 F n a0 a1 a2) Q := by
    intro n
    induction n with
    | zero => intro a0 a1 a2 _ h; omega
    | succ n ih => intro a0 a1 a2 hI hn; exact hs _ a0 a1 a2 hI (fun b0 b1 b2 hb hl => ih b0 b1 b2 hb (by omega))
  exact h zfu a0 a1 a2 h0 (zfu_gt hm)
theorem zl4_iter {A0 A1 A2 A3 R : Type} {F : (A0 → A1 → A2 → A3 → Option R) → A0 → A1 → A2 → A3 → Option R} {X : Option R} (N : Nat) (g0 : Nat → A0) (g1 : Nat → A1) (g2 : Nat → A2) (g3 : Nat → A3) (hN : N ≤ 9999) (hs : ∀ k j, j < N → F k (g0 j) (g1 j) (g2 j) (g3 j) = k (g0 (j + 1)) (g1 (j + 1)) (g2 (j + 1)) (g3 (j + 1))) (he : ∀ k, F k (g0 N) (g1 N) (g2 N) (g3 N) = X) {a0 : A0} {a1 : A1} {a2 : A2} {a3 : A3} (e0 : g0 0 = a0) (e1 : g1 0 = a1) (e2 : g2 0 = a2) (e3 : g3 0 = a3) : zl4 F zfu a0 a1 a2 a3 = X := by
  subst e0; subst e1; subst e2; subst e3
  have h : ∀ m j n, m + j = N → m < n → zl4 F n (g0 j) (g1 j) (g2 j) (g3 j) = X := by
    intro m
    induction m with
    | zero =>
      intro j n hj hn
      obtain ⟨n, rfl⟩ : ∃ z, n = z + 1 := ⟨n - 1, by omega⟩
      have hj2 : j = N := by omega
      subst hj2
      exact he _
    | succ m ih =>
      intro j n hj hn
      obtain ⟨n, rfl⟩ : ∃ z, n = z + 1 := ⟨n - 1, by omega⟩
      exact (hs _ j (by omega)).trans (ih (j + 1) n (by omega) (by omega))
  exact h N 0 zfu rfl (zfu_gt hN)
theorem zl4_wp {A0 A1 A2 A3 R : Type} {F : (A0 → A1 → A2 → A3 → Option R) → A0 → A1 → A2 → A3 → Option R} {Q : R → Prop} (I : A0 → A1 → A2 → A3 → Prop) (μ : A0 → A1 → A2 → A3 → Nat) (hs : ∀ (k : A0 → A1 → A2 → A3 → Option R) a0 a1 a2 a3, I a0 a1 a2 a3 → (∀ b0 b1 b2 b3, I b0 b1 b2 b3 → μ b0 b1 b2 b3 < μ a0 a1 a2 a3 → wp (k b0 b1 b2 b3) Q) → wp (F k a0 a1 a2 a3) Q) (a0 : A0) (a1 : A1) (a2 : A2) (a3 : A3) (h0 : I a0 a1 a2 a3) (hm : μ a0 a1 a2 a3 ≤ 9999) : wp (zl4 F zfu a0 a1 a2 a3) Q := by
  have h : ∀ n a0 a1 a2 a3, I a0 a1 a2 a3 → μ a0 a1 a2 a3 < n → wp (zl4 F n a0 a1 a2 a3) Q := by
    intro n
    induction n with
    | zero => intro a0 a1 a2 a3 _ h; omega
    | succ n ih => intro a0 a1 a2 a3 hI hn; exact hs _ a0 a1 a2 a3 hI (fun b0 b1 b2 b3 hb hl => ih b0 b1 b2 b3 hb (by omega))
  exact h zfu a0 a1 a2 a3 h0 (zfu_gt hm)
theorem zl5_iter {A0 A1 A2 A3 A4 R : Type} {F : (A0 → A1 → A2 → A3 → A4 → Option R) → A0 → A1 → A2 → A3 → A4 → Option R} {X : Option R} (N : Nat) (g0 : Nat → A0) (g1 : Nat → A1) (g2 : Nat → A2) (g3 : Nat → A3) (g4 : Nat → A4) (hN : N ≤ 9999) (hs : ∀ k j, j < N → F k (g0 j) (g1 j) (g2 j) (g3 j) (g4 j) = k (g0 (j + 1)) (g1 (j + 1)) (g2 (j + 1)) (g3 (j + 1)) (g4 (j + 1))) (he : ∀ k, F k (g0 N) (g1 N) (g2 N) (g3 N) (g4 N) = X) {a0 : A0} {a1 : A1} {a2 : A2} {a3 : A3} {a4 : A4} (e0 : g0 0 = a0) (e1 : g1 0 = a1) (e2 : g2 0 = a2) (e3 : g3 0 = a3) (e4 : g4 0 = a4) : zl5 F zfu a0 a1 a2 a3 a4 = X := by
  subst e0; subst e1; subst e2; subst e3; subst e4
  have h : ∀ m j n, m + j = N → m < n → zl5 F n (g0 j) (g1 j) (g2 j) (g3 j) (g4 j) = X := by
    intro m
    induction m with
    | zero =>
      intro j n hj hn
      obtain ⟨n, rfl⟩ : ∃ z, n = z + 1 := ⟨n - 1, by omega⟩
      have hj2 : j = N := by omega
      subst hj2
      exact he _
    | succ m ih =>
      intro j n hj hn
      obtain ⟨n, rfl⟩ : ∃ z, n = z + 1 := ⟨n - 1, by omega⟩
      exact (hs _ j (by omega)).trans (ih (j + 1) n (by omega) (by omega))
  exact h N 0 zfu rfl (zfu_gt hN)
theorem zl5_wp {A0 A1 A2 A3 A4 R : Type} {F : (A0 → A1 → A2 → A3 → A4 → Option R) → A0 → A1 → A2 → A3 → A4 → Option R} {Q : R → Prop} (I : A0 → A1 → A2 → A3 → A4 → Prop) (μ : A0 → A1 → A2 → A3 → A4 → Nat) (hs : ∀ (k : A0 → A1 → A2 → A3 → A4 → Option R) a0 a1 a2 a3 a4, I a0 a1 a2 a3 a4 → (∀ b0 b1 b2 b3 b4, I b0 b1 b2 b3 b4 → μ b0 b1 b2 b3 b4 < μ a0 a1 a2 a3 a4 → wp (k b0 b1 b2 b3 b4) Q) → wp (F k a0 a1 a2 a3 a4) Q) (a0 : A0) (a1 : A1) (a2 : A2) (a3 : A3) (a4 : A4) (h0 : I a0 a1 a2 a3 a4) (hm : μ a0 a1 a2 a3 a4 ≤ 9999) : wp (zl5 F zfu a0 a1 a2 a3 a4) Q := by
  have h : ∀ n a0 a1 a2 a3 a4, I a0 a1 a2 a3 a4 → μ a0 a1 a2 a3 a4 < n → wp (zl5 F n a0 a1 a2 a3 a4) Q := by
    intro n
    induction n with
    | zero => intro a0 a1 a2 a3 a4 _ h; omega
    | succ n ih => intro a0 a1 a2 a3 a4 hI hn; exact hs _ a0 a1 a2 a3 a4 hI (fun b0 b1 b2 b3 b4 hb hl => ih b0 b1 b2 b3 b4 hb (by omega))
  exact h zfu a0 a1 a2 a3 a4 h0 (zfu_gt hm)
theorem zl6_iter {A0 A1 A2 A3 A4 A5 R : Type} {F : (A0 → A1 → A2 → A3 → A4 → A5 → Option R) → A0 → A1 → A2 → A3 → A4 → A5 → Option R} {X : Option R} (N : Nat) (g0 : Nat → A0) (g1 : Nat → A1) (g2 : Nat → A2) (g3 : Nat → A3) (g4 : Nat → A4) (g5 : Nat → A5) (hN : N ≤ 9999) (hs : ∀ k j, j < N → F k (g0 j) (g1 j) (g2 j) (g3 j) (g4 j) (g5 j) = k (g0 (j + 1)) (g1 (j + 1)) (g2 (j + 1)) (g3 (j + 1)) (g4 (j + 1)) (g5 (j + 1))) (he : ∀ k, F k (g0 N) (g1 N) (g2 N) (g3 N) (g4 N) (g5 N) = X) {a0 : A0} {a1 : A1} {a2 : A2} {a3 : A3} {a4 : A4} {a5 : A5} (e0 : g0 0 = a0) (e1 : g1 0 = a1) (e2 : g2 0 = a2) (e3 : g3 0 = a3) (e4 : g4 0 = a4) (e5 : g5 0 = a5) : zl6 F zfu a0 a1 a2 a3 a4 a5 = X := by
  subst e0; subst e1; subst e2; subst e3; subst e4; subst e5
  have h : ∀ m j n, m + j = N → m < n → zl6 F n (g0 j) (g1 j) (g2 j) (g3 j) (g4 j) (g5 j) = X := by
    intro m
    induction m with
    | zero =>
      intro j n hj hn
      obtain ⟨n, rfl⟩ : ∃ z, n = z + 1 := ⟨n - 1, by omega⟩
      have hj2 : j = N := by omega
      subst hj2
      exact he _
    | succ m ih =>
      intro j n hj hn
      obtain ⟨n, rfl⟩ : ∃ z, n = z + 1 := ⟨n - 1, by omega⟩
      exact (hs _ j (by omega)).trans (ih (j + 1) n (by omega) (by omega))
  exact h N 0 zfu rfl (zfu_gt hN)
theorem zl6_wp {A0 A1 A2 A3 A4 A5 R : Type} {F : (A0 → A1 → A2 → A3 → A4 → A5 → Option R) → A0 → A1 → A2 → A3 → A4 → A5 → Option R} {Q : R → Prop} (I : A0 → A1 → A2 → A3 → A4 → A5 → Prop) (μ : A0 → A1 → A2 → A3 → A4 → A5 → Nat) (hs : ∀ (k : A0 → A1 → A2 → A3 → A4 → A5 → Option R) a0 a1 a2 a3 a4 a5, I a0 a1 a2 a3 a4 a5 → (∀ b0 b1 b2 b3 b4 b5, I b0 b1 b2 b3 b4 b5 → μ b0 b1 b2 b3 b4 b5 < μ a0 a1 a2 a3 a4 a5 → wp (k b0 b1 b2 b3 b4 b5) Q) → wp (F k a0 a1 a2 a3 a4 a5) Q) (a0 : A0) (a1 : A1) (a2 : A2) (a3 : A3) (a4 : A4) (a5 : A5) (h0 : I a0 a1 a2 a3 a4 a5) (hm : μ a0 a1 a2 a3 a4 a5 ≤ 9999) : wp (zl6 F zfu a0 a1 a2 a3 a4 a5) Q := by
  have h : ∀ n a0 a1 a2 a3 a4 a5, I a0 a1 a2 a3 a4 a5 → μ a0 a1 a2 a3 a4 a5 < n → wp (zl6 F n a0 a1 a2 a3 a4 a5) Q := by
    intro n
    induction n with
    | zero => intro a0 a1 a2 a3 a4 a5 _ h; omega
    | succ n ih => intro a0 a1 a2 a3 a4 a5 hI hn; exact hs _ a0 a1 a2 a3 a4 a5 hI (fun b0 b1 b2 b3 b4 b5 hb hl => ih b0 b1 b2 b3 b4 b5 hb (by omega))
  exact h zfu a0 a1 a2 a3 a4 a5 h0 (zfu_gt hm)
theorem zl7_iter {A0 A1 A2 A3 A4 A5 A6 R : Type} {F : (A0 → A1 → A2 → A3 → A4 → A5 → A6 → Option R) → A0 → A1 → A2 → A3 → A4 → A5 → A6 → Option R} {X : Option R} (N : Nat) (g0 : Nat → A0) (g1 : Nat → A1) (g2 : Nat → A2) (g3 : Nat → A3) (g4 : Nat → A4) (g5 : Nat → A5) (g6 : Nat → A6) (hN : N ≤ 9999) (hs : ∀ k j, j < N → F k (g0 j) (g1 j) (g2 j) (g3 j) (g4 j) (g5 j) (g6 j) = k (g0 (j + 1)) (g1 (j + 1)) (g2 (j + 1)) (g3 (j + 1)) (g4 (j + 1)) (g5 (j + 1)) (g6 (j + 1))) (he : ∀ k, F k (g0 N) (g1 N) (g2 N) (g3 N) (g4 N) (g5 N) (g6 N) = X) {a0 : A0} {a1 : A1} {a2 : A2} {a3 : A3} {a4 : A4} {a5 : A5} {a6 : A6} (e0 : g0 0 = a0) (e1 : g1 0 = a1) (e2 : g2 0 = a2) (e3 : g3 0 = a3) (e4 : g4 0 = a4) (e5 : g5 0 = a5) (e6 : g6 0 = a6) : zl7 F zfu a0 a1 a2 a3 a4 a5 a6 = X := by
  subst e0; subst e1; subst e2; subst e3; subst e4; subst e5; subst e6
  have h : ∀ m j n, m + j = N → m < n → zl7 F n (g0 j) (g1 j) (g2 j) (g3 j) (g4 j) (g5 j) (g6 j) = X := by
    intro m
    induction m with
    | zero =>
      intro j n hj hn
      obtain ⟨n, rfl⟩ : ∃ z, n = z + 1 := ⟨n - 1, by omega⟩
      have hj2 : j = N := by omega
      subst hj2
      exact he _
    | succ m ih =>
      intro j n hj hn
      obtain ⟨n, rfl⟩ : ∃ z, n = z + 1 := ⟨n - 1, by omega⟩
      exact (hs _ j (by omega)).trans (ih (j + 1) n (by omega) (by omega))
  exact h N 0 zfu rfl (zfu_gt hN)
theorem zl7_wp {A0 A1 A2 A3 A4 A5 A6 R : Type} {F : (A0 → A1 → A2 → A3 → A4 → A5 → A6 → Option R) → A0 → A1 → A2 → A3 → A4 → A5 → A6 → Option R} {Q : R → Prop} (I : A0 → A1 → A2 → A3 → A4 → A5 → A6 → Prop) (μ : A0 → A1 → A2 → A3 → A4 → A5 → A6 → Nat) (hs : ∀ (k : A0 → A1 → A2 → A3 → A4 → A5 → A6 → Option R) a0 a1 a2 a3 a4 a5 a6, I a0 a1 a2 a3 a4 a5 a6 → (∀ b0 b1 b2 b3 b4 b5 b6, I b0 b1 b2 b3 b4 b5 b6 → μ b0 b1 b2 b3 b4 b5 b6 < μ a0 a1 a2 a3 a4 a5 a6 → wp (k b0 b1 b2 b3 b4 b5 b6) Q) → wp (F k a0 a1 a2 a3 a4 a5 a6) Q) (a0 : A0) (a1 : A1) (a2 : A2) (a3 : A3) (a4 : A4) (a5 : A5) (a6 : A6) (h0 : I a0 a1 a2 a3 a4 a5 a6) (hm : μ a0 a1 a2 a3 a4 a5 a6 ≤ 9999) : wp (zl7 F zfu a0 a1 a2 a3 a4 a5 a6) Q := by
  have h : ∀ n a0 a1 a2 a3 a4 a5 a6, I a0 a1 a2 a3 a4 a5 a6 → μ a0 a1 a2 a3 a4 a5 a6 < n → wp (zl7 F n a0 a1 a2 a3 a4 a5 a6) Q := by
    intro n
    induction n with
    | zero => intro a0 a1 a2 a3 a4 a5 a6 _ h; omega
    | succ n ih => intro a0 a1 a2 a3 a4 a5 a6 hI hn; exact hs _ a0 a1 a2 a3 a4 a5 a6 hI (fun b0 b1 b2 b3 b4 b5 b6 hb hl => ih b0 b1 b2 b3 b4 b5 b6 hb (by omega))
  exact h zfu a0 a1 a2 a3 a4 a5 a6 h0 (zfu_gt hm)
theorem zl8_iter {A0 A1 A2 A3 A4 A5 A6 A7 R : Type} {F : (A0 → A1 → A2 → A3 → A4 → A5 → A6 → A7 → Option R) → A0 → A1 → A2 → A3 → A4 → A5 → A6 → A7 → Option R} {X : Option R} (N : Nat) (g0 : Nat → A0) (g1 : Nat → A1) (g2 : Nat → A2) (g3 : Nat → A3) (g4 : Nat → A4) (g5 : Nat → A5) (g6 : Nat → A6) (g7 : Nat → A7) (hN : N ≤ 9999) (hs : ∀ k j, j < N → F k (g0 j) (g1 j) (g2 j) (g3 j) (g4 j) (g5 j) (g6 j) (g7 j) = k (g0 (j + 1)) (g1 (j + 1)) (g2 (j + 1)) (g3 (j + 1)) (g4 (j + 1)) (g5 (j + 1)) (g6 (j + 1)) (g7 (j + 1))) (he : ∀ k, F k (g0 N) (g1 N) (g2 N) (g3 N) (g4 N) (g5 N) (g6 N) (g7 N) = X) {a0 : A0} {a1 : A1} {a2 : A2} {a3 : A3} {a4 : A4} {a5 : A5} {a6 : A6} {a7 : A7} (e0 : g0 0 = a0) (e1 : g1 0 = a1) (e2 : g2 0 = a2) (e3 : g3 0 = a3) (e4 : g4 0 = a4) (e5 : g5 0 = a5) (e6 : g6 0 = a6) (e7 : g7 0 = a7) : zl8 F zfu a0 a1 a2 a3 a4 a5 a6 a7 = X := by
  subst e0; subst e1; subst e2; subst e3; subst e4; subst e5; subst e6; subst e7
  have h : ∀ m j n, m + j = N → m < n → zl8 F n (g0 j) (g1 j) (g2 j) (g3 j) (g4 j) (g5 j) (g6 j) (g7 j) = X := by
    intro m
    induction m with
    | zero =>
      intro j n hj hn
      obtain ⟨n, rfl⟩ : ∃ z, n = z + 1 := ⟨n - 1, by omega⟩
      have hj2 : j = N := by omega
      subst hj2
      exact he _
    | succ m ih =>
      intro j n hj hn
      obtain ⟨n, rfl⟩ : ∃ z, n = z + 1 := ⟨n - 1, by omega⟩
      exact (hs _ j (by omega)).trans (ih (j + 1) n (by omega) (by omega))
  exact h N 0 zfu rfl (zfu_gt hN)
theorem zl8_wp {A0 A1 A2 A3 A4 A5 A6 A7 R : Type} {F : (A0 → A1 → A2 → A3 → A4 → A5 → A6 → A7 → Option R) → A0 → A1 → A2 → A3 → A4 → A5 → A6 → A7 → Option R} {Q : R → Prop} (I : A0 → A1 → A2 → A3 → A4 → A5 → A6 → A7 → Prop) (μ : A0 → A1 → A2 → A3 → A4 → A5 → A6 → A7 → Nat) (hs : ∀ (k : A0 → A1 → A2 → A3 → A4 → A5 → A6 → A7 → Option R) a0 a1 a2 a3 a4 a5 a6 a7, I a0 a1 a2 a3 a4 a5 a6 a7 → (∀ b0 b1 b2 b3 b4 b5 b6 b7, I b0 b1 b2 b3 b4 b5 b6 b7 → μ b0 b1 b2 b3 b4 b5 b6 b7 < μ a0 a1 a2 a3 a4 a5 a6 a7 → wp (k b0 b1 b2 b3 b4 b5 b6 b7) Q) → wp (F k a0 a1 a2 a3 a4 a5 a6 a7) Q) (a0 : A0) (a1 : A1) (a2 : A2) (a3 : A3) (a4 : A4) (a5 : A5) (a6 : A6) (a7 : A7) (h0 : I a0 a1 a2 a3 a4 a5 a6 a7) (hm : μ a0 a1 a2 a3 a4 a5 a6 a7 ≤ 9999) : wp (zl8 F zfu a0 a1 a2 a3 a4 a5 a6 a7) Q := by
  have h : ∀ n a0 a1 a2 a3 a4 a5 a6 a7, I a0 a1 a2 a3 a4 a5 a6 a7 → μ a0 a1 a2 a3 a4 a5 a6 a7 < n → wp (zl8 F n a0 a1 a2 a3 a4 a5 a6 a7) Q := by
    intro n
    induction n with
    | zero => intro a0 a1 a2 a3 a4 a5 a6 a7 _ h; omega
    | succ n ih => intro a0 a1 a2 a3 a4 a5 a6 a7 hI hn; exact hs _ a0 a1 a2 a3 a4 a5 a6 a7 hI (fun b0 b1 b2 b3 b4 b5 b6 b7 hb hl => ih b0 b1 b2 b3 b4 b5 b6 b7 hb (by omega))
  exact h zfu a0 a1 a2 a3 a4 a5 a6 a7 h0 (zfu_gt hm)
theorem zl9_iter {A0 A1 A2 A3 A4 A5 A6 A7 A8 R : Type} {F : (A0 → A1 → A2 → A3 → A4 → A5 → A6 → A7 → A8 → Option R) → A0 → A1 → A2 → A3 → A4 → A5 → A6 → A7 → A8 → Option R} {X : Option R} (N : Nat) (g0 : Nat → A0) (g1 : Nat → A1) (g2 : Nat → A2) (g3 : Nat → A3) (g4 : Nat → A4) (g5 : Nat → A5) (g6 : Nat → A6) (g7 : Nat → A7) (g8 : Nat → A8) (hN : N ≤ 9999) (hs : ∀ k j, j < N → F k (g0 j) (g1 j) (g2 j) (g3 j) (g4 j) (g5 j) (g6 j) (g7 j) (g8 j) = k (g0 (j + 1)) (g1 (j + 1)) (g2 (j + 1)) (g3 (j + 1)) (g4 (j + 1)) (g5 (j + 1)) (g6 (j + 1)) (g7 (j + 1)) (g8 (j + 1))) (he : ∀ k, F k (g0 N) (g1 N) (g2 N) (g3 N) (g4 N) (g5 N) (g6 N) (g7 N) (g8 N) = X) {a0 : A0} {a1 : A1} {a2 : A2} {a3 : A3} {a4 : A4} {a5 : A5} {a6 : A6} {a7 : A7} {a8 : A8} (e0 : g0 0 = a0) (e1 : g1 0 = a1) (e2 : g2 0 = a2) (e3 : g3 0 = a3) (e4 : g4 0 = a4) (e5 : g5 0 = a5) (e6 : g6 0 = a6) (e7 : g7 0 = a7) (e8 : g8 0 = a8) : zl9 F zfu a0 a1 a2 a3 a4 a5 a6 a7 a8 = X := by
  subst e0; subst e1; subst e2; subst e3; subst e4; subst e5; subst e6; subst e7; subst e8
  have h : ∀ m j n, m + j = N → m < n → zl9 F n (g0 j) (g1 j) (g2 j) (g3 j) (g4 j) (g5 j) (g6 j) (g7 j) (g8 j) = X := by
    intro m
    induction m with
    | zero =>
      intro j n hj hn
      obtain ⟨n, rfl⟩ : ∃ z, n = z + 1 := ⟨n - 1, by omega⟩
      have hj2 : j = N := by omega
      subst hj2
      exact he _
    | succ m ih =>
      intro j n hj hn
      obtain ⟨n, rfl⟩ : ∃ z, n = z + 1 := ⟨n - 1, by omega⟩
      exact (hs _ j (by omega)).trans (ih (j + 1) n (by omega) (by omega))
  exact h N 0 zfu rfl (zfu_gt hN)
theorem zl9_wp {A0 A1 A2 A3 A4 A5 A6 A7 A8 R : Type} {F : (A0 → A1 → A2 → A3 → A4 → A5 → A6 → A7 → A8 → Option R) → A0 → A1 → A2 → A3 → A4 → A5 → A6 → A7 → A8 → Option R} {Q : R → Prop} (I : A0 → A1 → A2 → A3 → A4 → A5 → A6 → A7 → A8 → Prop) (μ : A0 → A1 → A2 → A3 → A4 → A5 → A6 → A7 → A8 → Nat) (hs : ∀ (k : A0 → A1 → A2 → A3 → A4 → A5 → A6 → A7 → A8 → Option R) a0 a1 a2 a3 a4 a5 a6 a7 a8, I a0 a1 a2 a3 a4 a5 a6 a7 a8 → (∀ b0 b1 b2 b3 b4 b5 b6 b7 b8, I b0 b1 b2 b3 b4 b5 b6 b7 b8 → μ b0 b1 b2 b3 b4 b5 b6 b7 b8 < μ a0 a1 a2 a3 a4 a5 a6 a7 a8 → wp (k b0 b1 b2 b3 b4 b5 b6 b7 b8) Q) → wp (F k a0 a1 a2 a3 a4 a5 a6 a7 a8) Q) (a0 : A0) (a1 : A1) (a2 : A2) (a3 : A3) (a4 : A4) (a5 : A5) (a6 : A6) (a7 : A7) (a8 : A8) (h0 : I a0 a1 a2 a3 a4 a5 a6 a7 a8) (hm : μ a0 a1 a2 a3 a4 a5 a6 a7 a8 ≤ 9999) : wp (zl9 F zfu a0 a1 a2 a3 a4 a5 a6 a7 a8) Q := by
  have h : ∀ n a0 a1 a2 a3 a4 a5 a6 a7 a8, I a0 a1 a2 a3 a4 a5 a6 a7 a8 → μ a0 a1 a2 a3 a4 a5 a6 a7 a8 < n → wp (zl9 F n a0 a1 a2 a3 a4 a5 a6 a7 a8) Q := by
    intro n
    induction n with
    | zero => intro a0 a1 a2 a3 a4 a5 a6 a7 a8 _ h; omega
    | succ n ih => intro a0 a1 a2 a3 a4 a5 a6 a7 a8 hI hn; exact hs _ a0 a1 a2 a3 a4 a5 a6 a7 a8 hI (fun b0 b1 b2 b3 b4 b5 b6 b7 b8 hb hl => ih b0 b1 b2 b3 b4 b5 b6 b7 b8 hb (by omega))
  exact h zfu a0 a1 a2 a3 a4 a5 a6 a7 a8 h0 (zfu_gt hm)
theorem zl10_iter {A0 A1 A2 A3 A4 A5 A6 A7 A8 A9 R : Type} {F : (A0 → A1 → A2 → A3 → A4 → A5 → A6 → A7 → A8 → A9 → Option R) → A0 → A1 → A2 → A3 → A4 → A5 → A6 → A7 → A8 → A9 → Option R} {X : Option R} (N : Nat) (g0 : Nat → A0) (g1 : Nat → A1) (g2 : Nat → A2) (g3 : Nat → A3) (g4 : Nat → A4) (g5 : Nat → A5) (g6 : Nat → A6) (g7 : Nat → A7) (g8 : Nat → A8) (g9 : Nat → A9) (hN : N ≤ 9999) (hs : ∀ k j, j < N → F k (g0 j) (g1 j) (g2 j) (g3 j) (g4 j) (g5 j) (g6 j) (g7 j) (g8 j) (g9 j) = k (g0 (j + 1)) (g1 (j + 1)) (g2 (j + 1)) (g3 (j + 1)) (g4 (j + 1)) (g5 (j + 1)) (g6 (j + 1)) (g7 (j + 1)) (g8 (j + 1)) (g9 (j + 1))) (he : ∀ k, F k (g0 N) (g1 N) (g2 N) (g3 N) (g4 N) (g5 N) (g6 N) (g7 N) (g8 N) (g9 N) = X) {a0 : A0} {a1 : A1} {a2 : A2} {a3 : A3} {a4 : A4} {a5 : A5} {a6 : A6} {a7 : A7} {a8 : A8} {a9 : A9} (e0 : g0 0 = a0) (e1 : g1 0 = a1) (e2 : g2 0 = a2) (e3 : g3 0 = a3) (e4 : g4 0 = a4) (e5 : g5 0 = a5) (e6 : g6 0 = a6) (e7 : g7 0 = a7) (e8 : g8 0 = a8) (e9 : g9 0 = a9) : zl10 F zfu a0 a1 a2 a3 a4 a5 a6 a7 a8 a9 = X := by
  subst e0; subst e1; subst e2; subst e3; subst e4; subst e5; subst e6; subst e7; subst e8; subst e9
  have h : ∀ m j n, m + j = N → m < n → zl10 F n (g0 j) (g1 j) (g2 j) (g3 j) (g4 j) (g5 j) (g6 j) (g7 j) (g8 j) (g9 j) = X := by
    intro m
    induction m with
    | zero =>
      intro j n hj hn
      obtain ⟨n, rfl⟩ : ∃ z, n = z + 1 := ⟨n - 1, by omega⟩
      have hj2 : j = N := by omega
      subst hj2
      exact he _
    | succ m ih =>
      intro j n hj hn
      obtain ⟨n, rfl⟩ : ∃ z, n = z + 1 := ⟨n - 1, by omega⟩
      exact (hs _ j (by omega)).trans (ih (j + 1) n (by omega) (by omega))
  exact h N 0 zfu rfl (zfu_gt hN)
theorem zl10_wp {A0 A1 A2 A3 A4 A5 A6 A7 A8 A9 R : Type} {F : (A0 → A1 → A2 → A3 → A4 → A5 → A6 → A7 → A8 → A9 → Option R) → A0 → A1 → A2 → A3 → A4 → A5 → A6 → A7 → A8 → A9 → Option R} {Q : R → Prop} (I : A0 → A1 → A2 → A3 → A4 → A5 → A6 → A7 → A8 → A9 → Prop) (μ : A0 → A1 → A2 → A3 → A4 → A5 → A6 → A7 → A8 → A9 → Nat) (hs : ∀ (k : A0 → A1 → A2 → A3 → A4 → A5 → A6 → A7 → A8 → A9 → Option R) a0 a1 a2 a3 a4 a5 a6 a7 a8 a9, I a0 a1 a2 a3 a4 a5 a6 a7 a8 a9 → (∀ b0 b1 b2 b3 b4 b5 b6 b7 b8 b9, I b0 b1 b2 b3 b4 b5 b6 b7 b8 b9 → μ b0 b1 b2 b3 b4 b5 b6 b7 b8 b9 < μ a0 a1 a2 a3 a4 a5 a6 a7 a8 a9 → wp (k b0 b1 b2 b3 b4 b5 b6 b7 b8 b9) Q) → wp (F k a0 a1 a2 a3 a4 a5 a6 a7 a8 a9) Q) (a0 : A0) (a1 : A1) (a2 : A2) (a3 : A3) (a4 : A4) (a5 : A5) (a6 : A6) (a7 : A7) (a8 : A8) (a9 : A9) (h0 : I a0 a1 a2 a3 a4 a5 a6 a7 a8 a9) (hm : μ a0 a1 a2 a3 a4 a5 a6 a7 a8 a9 ≤ 9999) : wp (zl10 F zfu a0 a1 a2 a3 a4 a5 a6 a7 a8 a9) Q := by
  have h : ∀ n a0 a1 a2 a3 a4 a5 a6 a7 a8 a9, I a0 a1 a2 a3 a4 a5 a6 a7 a8 a9 → μ a0 a1 a2 a3 a4 a5 a6 a7 a8 a9 < n → wp (zl10 F n a0 a1 a2 a3 a4 a5 a6 a7 a8 a9) Q := by
    intro n
    induction n with
    | zero => intro a0 a1 a2 a3 a4 a5 a6 a7 a8 a9 _ h; omega
    | succ n ih => intro a0 a1 a2 a3 a4 a5 a6 a7 a8 a9 hI hn; exact hs _ a0 a1 a2 a3 a4 a5 a6 a7 a8 a9 hI (fun b0 b1 b2 b3 b4 b5 b6 b7 b8 b9 hb hl => ih b0 b1 b2 b3 b4 b5 b6 b7 b8 b9 hb (by omega))
  exact h zfu a0 a1 a2 a3 a4 a5 a6 a7 a8 a9 h0 (zfu_gt hm)
theorem zl11_iter {A0 A1 A2 A3 A4 A5 A6 A7 A8 A9 A10 R : Type} {F : (A0 → A1 → A2 → A3 → A4 → A5 → A6 → A7 → A8 → A9 → A10 → Option R) → A0 → A1 → A2 → A3 → A4 → A5 → A6 → A7 → A8 → A9 → A10 → Option R} {X : Option R} (N : Nat) (g0 : Nat → A0) (g1 : Nat → A1) (g2 : Nat → A2) (g3 : Nat → A3) (g4 : Nat → A4) (g5 : Nat → A5) (g6 : Nat → A6) (g7 : Nat → A7) (g8 : Nat → A8) (g9 : Nat → A9) (g10 : Nat → A10) (hN : N ≤ 9999) (hs : ∀ k j, j < N → F k (g0 j) (g1 j) (g2 j) (g3 j) (g4 j) (g5 j) (g6 j) (g7 j) (g8 j) (g9 j) (g10 j) = k (g0 (j + 1)) (g1 (j + 1)) (g2 (j + 1)) (g3 (j + 1)) (g4 (j + 1)) (g5 (j + 1)) (g6 (j + 1)) (g7 (j + 1)) (g8 (j + 1)) (g9 (j + 1)) (g10 (j + 1))) (he : ∀ k, F k (g0 N) (g1 N) (g2 N) (g3 N) (g4 N) (g5 N) (g6 N) (g7 N) (g8 N) (g9 N) (g10 N) = X) {a0 : A0} {a1 : A1} {a2 : A2} {a3 : A3} {a4 : A4} {a5 : A5} {a6 : A6} {a7 : A7} {a8 : A8} {a9 : A9} {a10 : A10} (e0 : g0 0 = a0) (e1 : g1 0 = a1) (e2 : g2 0 = a2) (e3 : g3 0 = a3) (e4 : g4 0 = a4) (e5 : g5 0 = a5) (e6 : g6 0 = a6) (e7 : g7 0 = a7) (e8 : g8 0 = a8) (e9 : g9 0 = a9) (e10 : g10 0 = a10) : zl11 F zfu a0 a1 a2 a3 a4 a5 a6 a7 a8 a9 a10 = X := by
  subst e0; subst e1; subst e2; subst e3; subst e4; subst e5; subst e6; subst e7; subst e8; subst e9; subst e10
  have h : ∀ m j n, m + j = N → m < n → zl11 F n (g0 j) (g1 j) (g2 j) (g3 j) (g4 j) (g5 j) (g6 j) (g7 j) (g8 j) (g9 j) (g10 j) = X := by
    intro m
    induction m with
    | zero =>
      intro j n hj hn
      obtain ⟨n, rfl⟩ : ∃ z, n = z + 1 := ⟨n - 1, by omega⟩
      have hj2 : j = N := by omega
      subst hj2
      exact he _
    | succ m ih =>
      intro j n hj hn
      obtain ⟨n, rfl⟩ : ∃ z, n = z + 1 := ⟨n - 1, by omega⟩
      exact (hs _ j (by omega)).trans (ih (j + 1) n (by omega) (by omega))
  exact h N 0 zfu rfl (zfu_gt hN)
theorem zl11_wp {A0 A1 A2 A3 A4 A5 A6 A7 A8 A9 A10 R : Type} {F : (A0 → A1 → A2 → A3 → A4 → A5 → A6 → A7 → A8 → A9 → A10 → Option R) → A0 → A1 → A2 → A3 → A4 → A5 → A6 → A7 → A8 → A9 → A10 → Option R} {Q : R → Prop} (I : A0 → A1 → A2 → A3 → A4 → A5 → A6 → A7 → A8 → A9 → A10 → Prop) (μ : A0 → A1 → A2 → A3 → A4 → A5 → A6 → A7 → A8 → A9 → A10 → Nat) (hs : ∀ (k : A0 → A1 → A2 → A3 → A4 → A5 → A6 → A7 → A8 → A9 → A10 → Option R) a0 a1 a2 a3 a4 a5 a6 a7 a8 a9 a10, I a0 a1 a2 a3 a4 a5 a6 a7 a8 a9 a10 → (∀ b0 b1 b2 b3 b4 b5 b6 b7 b8 b9 b10, I b0 b1 b2 b3 b4 b5 b6 b7 b8 b9 b10 → μ b0 b1 b2 b3 b4 b5 b6 b7 b8 b9 b10 < μ a0 a1 a2 a3 a4 a5 a6 a7 a8 a9 a10 → wp (k b0 b1 b2 b3 b4 b5 b6 b7 b8 b9 b10) Q) → wp (F k a0 a1 a2 a3 a4 a5 a6 a7 a8 a9 a10) Q) (a0 : A0) (a1 : A1) (a2 : A2) (a3 : A3) (a4 : A4) (a5 : A5) (a6 : A6) (a7 : A7) (a8 : A8) (a9 : A9) (a10 : A10) (h0 : I a0 a1 a2 a3 a4 a5 a6 a7 a8 a9 a10) (hm : μ a0 a1 a2 a3 a4 a5 a6 a7 a8 a9 a10 ≤ 9999) : wp (zl11 F zfu a0 a1 a2 a3 a4 a5 a6 a7 a8 a9 a10) Q := by
  have h : ∀ n a0 a1 a2 a3 a4 a5 a6 a7 a8 a9 a10, I a0 a1 a2 a3 a4 a5 a6 a7 a8 a9 a10 → μ a0 a1 a2 a3 a4 a5 a6 a7 a8 a9 a10 < n → wp (zl11 F n a0 a1 a2 a3 a4 a5 a6 a7 a8 a9 a10) Q := by
    intro n
    induction n with
    | zero => intro a0 a1 a2 a3 a4 a5 a6 a7 a8 a9 a10 _ h; omega
    | succ n ih => intro a0 a1 a2 a3 a4 a5 a6 a7 a8 a9 a10 hI hn; exact hs _ a0 a1 a2 a3 a4 a5 a6 a7 a8 a9 a10 hI (fun b0 b1 b2 b3 b4 b5 b6 b7 b8 b9 b10 hb hl => ih b0 b1 b2 b3 b4 b5 b6 b7 b8 b9 b10 hb (by omega))
  exact h zfu a0 a1 a2 a3 a4 a5 a6 a7 a8 a9 a10 h0 (zfu_gt hm)
theorem zl12_iter {A0 A1 A2 A3 A4 A5 A6 A7 A8 A9 A10 A11 R : Type} {F : (A0 → A1 → A2 → A3 → A4 → A5 → A6 → A7 → A8 → A9 → A10 → A11 → Option R) → A0 → A1 → A2 → A3 → A4 → A5 → A6 → A7 → A8 → A9 → A10 → A11 → Option R} {X : Option R} (N : Nat) (g0 : Nat → A0) (g1 : Nat → A1) (g2 : Nat → A2) (g3 : Nat → A3) (g4 : Nat → A4) (g5 : Nat → A5) (g6 : Nat → A6) (g7 : Nat → A7) (g8 : Nat → A8) (g9 : Nat → A9) (g10 : Nat → A10) (g11 : Nat → A11) (hN : N ≤ 9999) (hs : ∀ k j, j < N → F k (g0 j) (g1 j) (g2 j) (g3 j) (g4 j) (g5 j) (g6 j) (g7 j) (g8 j) (g9 j) (g10 j) (g11 j) = k (g0 (j + 1)) (g1 (j + 1)) (g2 (j + 1)) (g3 (j + 1)) (g4 (j + 1)) (g5 (j + 1)) (g6 (j + 1)) (g7 (j + 1)) (g8 (j + 1)) (g9 (j + 1)) (g10 (j + 1)) (g11 (j + 1))) (he : ∀ k, F k (g0 N) (g1 N) (g2 N) (g3 N) (g4 N) (g5 N) (g6 N) (g7 N) (g8 N) (g9 N) (g10 N) (g11 N) = X) {a0 : A0} {a1 : A1} {a2 : A2} {a3 : A3} {a4 : A4} {a5 : A5} {a6 : A6} {a7 : A7} {a8 : A8} {a9 : A9} {a10 : A10} {a11 : A11} (e0 : g0 0 = a0) (e1 : g1 0 = a1) (e2 : g2 0 = a2) (e3 : g3 0 = a3) (e4 : g4 0 = a4) (e5 : g5 0 = a5) (e6 : g6 0 = a6) (e7 : g7 0 = a7) (e8 : g8 0 = a8) (e9 : g9 0 = a9) (e10 : g10 0 = a10) (e11 : g11 0 = a11) : zl12 F zfu a0 a1 a2 a3 a4 a5 a6 a7 a8 a9 a10 a11 = X := by
  subst e0; subst e1; subst e2; subst e3; subst e4; subst e5; subst e6; subst e7; subst e8; subst e9; subst e10; subst e11
  have h : ∀ m j n, m + j = N → m < n → zl12 F n (g0 j) (g1 j) (g2 j) (g3 j) (g4 j) (g5 j) (g6 j) (g7 j) (g8 j) (g9 j) (g10 j) (g11 j) = X := by
    intro m
    induction m with
    | zero =>
      intro j n hj hn
      obtain ⟨n, rfl⟩ : ∃ z, n = z + 1 := ⟨n - 1, by omega⟩
      have hj2 : j = N := by omega
      subst hj2
      exact he _
    | succ m ih =>
      intro j n hj hn
      obtain ⟨n, rfl⟩ : ∃ z, n = z + 1 := ⟨n - 1, by omega⟩
      exact (hs _ j (by omega)).trans (ih (j + 1) n (by omega) (by omega))
  exact h N 0 zfu rfl (zfu_gt hN)
theorem zl12_wp {A0 A1 A2 A3 A4 A5 A6 A7 A8 A9 A10 A11 R : Type} {F : (A0 → A1 → A2 → A3 → A4 → A5 → A6 → A7 → A8 → A9 → A10 → A11 → Option R) → A0 → A1 → A2 → A3 → A4 → A5 → A6 → A7 → A8 → A9 → A10 → A11 → Option R} {Q : R → Prop} (I : A0 → A1 → A2 → A3 → A4 → A5 → A6 → A7 → A8 → A9 → A10 → A11 → Prop) (μ : A0 → A1 → A2 → A3 → A4 → A5 → A6 → A7 → A8 → A9 → A10 → A11 → Nat) (hs : ∀ (k : A0 → A1 → A2 → A3 → A4 → A5 → A6 → A7 → A8 → A9 → A10 → A11 → Option R) a0 a1 a2 a3 a4 a5 a6 a7 a8 a9 a10 a11, I a0 a1 a2 a3 a4 a5 a6 a7 a8 a9 a10 a11 → (∀ b0 b1 b2 b3 b4 b5 b6 b7 b8 b9 b10 b11, I b0 b1 b2 b3 b4 b5 b6 b7 b8 b9 b10 b11 → μ b0 b1 b2 b3 b4 b5 b6 b7 b8 b9 b10 b11 < μ a0 a1 a2 a3 a4 a5 a6 a7 a8 a9 a10 a11 → wp (k b0 b1 b2 b3 b4 b5 b6 b7 b8 b9 b10 b11) Q) → wp (F k a0 a1 a2 a3 a4 a5 a6 a7 a8 a9 a10 a11) Q) (a0 : A0) (a1 : A1) (a2 : A2) (a3 : A3) (a4 : A4) (a5 : A5) (a6 : A6) (a7 : A7) (a8 : A8) (a9 : A9) (a10 : A10) (a11 : A11) (h0 : I a0 a1 a2 a3 a4 a5 a6 a7 a8 a9 a10 a11) (hm : μ a0 a1 a2 a3 a4 a5 a6 a7 a8 a9 a10 a11 ≤ 9999) : wp (zl12 F zfu a0 a1 a2 a3 a4 a5 a6 a7 a8 a9 a10 a11) Q := by
  have h : ∀ n a0 a1 a2 a3 a4 a5 a6 a7 a8 a9 a10 a11, I a0 a1 a2 a3 a4 a5 a6 a7 a8 a9 a10 a11 → μ a0 a1 a2 a3 a4 a5 a6 a7 a8 a9 a10 a11 < n → wp (zl12 F n a0 a1 a2 a3 a4 a5 a6 a7 a8 a9 a10 a11) Q := by
    intro n
    induction n with
    | zero => intro a0 a1 a2 a3 a4 a5 a6 a7 a8 a9 a10 a11 _ h; omega
    | succ n ih => intro a0 a1 a2 a3 a4 a5 a6 a7 a8 a9 a10 a11 hI hn; exact hs _ a0 a1 a2 a3 a4 a5 a6 a7 a8 a9 a10 a11 hI (fun b0 b1 b2 b3 b4 b5 b6 b7 b8 b9 b10 b11 hb hl => ih b0 b1 b2 b3 b4 b5 b6 b7 b8 b9 b10 b11 hb (by omega))
  exact h zfu a0 a1 a2 a3 a4 a5 a6 a7 a8 a9 a10 a11 h0 (zfu_gt hm)
