/-! loops with a fuel of their own -/
theorem zl1_itF {A0 R : Type} {F : (A0 → Option R) → A0 → Option R} {X : Option R} {fu : Nat} (N : Nat) (g0 : Nat → A0) (hN : N < fu) (hs : ∀ k j, j < N → F k (g0 j) = k (g0 (j + 1))) (he : ∀ k, F k (g0 N) = X) {a0 : A0} (e0 : g0 0 = a0) : zl1 F fu a0 = X := by
  subst e0
  have h : ∀ m j n, m + j = N → m < n → zl1 F n (g0 j) = X := by
    intro m
    induction m with
    | zero =>
      intro j n hj hn
      obtain ⟨n, rfl⟩ : ∃ z, n = z + 1 := ⟨n - 1, by omega⟩
      have hj2 : j = N := by omega
      subst hj2
      exact he _
    | succ m ih =>
      intro j n hj hn
      obtain ⟨n, rfl⟩ : ∃ z, n = z + 1 := ⟨n - 1, by omega⟩
      exact (hs _ j (by omega)).trans (ih (j + 1) n (by omega) (by omega))
  exact h N 0 fu rfl hN
theorem zl1_wpF {A0 R : Type} {F : (A0 → Option R) → A0 → Option R} {Q : R → Prop} {fu : Nat} (N : Nat) (I : Nat → A0 → Prop) (hN : N < fu) (hs : ∀ (k : A0 → Option R) j a0, j < N → I j a0 → (∀ b0, I (j + 1) b0 → wp (k b0) Q) → wp (F k a0) Q) (he : ∀ (k : A0 → Option R) a0, I N a0 → wp (F k a0) Q) {a0 : A0} (h0 : I 0 a0) : wp (zl1 F fu a0) Q := by
  have h : ∀ m j n a0, m + j = N → m < n → I j a0 → wp (zl1 F n a0) Q := by
    intro m
    induction m with
    | zero =>
      intro j n a0 hj hn hI
      obtain ⟨n, rfl⟩ : ∃ z, n = z + 1 := ⟨n - 1, by omega⟩
      have hj2 : j = N := by omega
      subst hj2
      exact he _ a0 hI
    | succ m ih =>
      intro j n a0 hj hn hI
      obtain ⟨n, rfl⟩ : ∃ z, n = z + 1 := ⟨n - 1, by omega⟩
      exact hs _ j a0 (by omega) hI (fun b0 hb => ih (j + 1) n b0 (by omega) (by omega) hb)
  exact h N 0 fu a0 rfl hN h0
theorem zl2_itF {A0 A1 R : Type} {F : (A0 → A1 → Option R) → A0 → A1 → Option R} {X : Option R} {fu : Nat} (N : Nat) (g0 : Nat → A0) (g1 : Nat → A1) (hN : N < fu) (hs : ∀ k j, j < N → F k (g0 j) (g1 j) = k (g0 (j + 1)) (g1 (j + 1))) (he : ∀ k, F k (g0 N) (g1 N) = X) {a0 : A0} {a1 : A1} (e0 : g0 0 = a0) (e1 : g1 0 = a1) : zl2 F fu a0 a1 = X := by
  subst e0; subst e1
  have h : ∀ m j n, m + j = N → m < n → zl2 F n (g0 j) (g1 j) = X := by
    intro m
    induction m with
    | zero =>
      intro j n hj hn
      obtain ⟨n, rfl⟩ : ∃ z, n = z + 1 := ⟨n - 1, by omega⟩
      have hj2 : j = N := by omega
      subst hj2
      exact he _
    | succ m ih =>
      intro j n hj hn
      obtain ⟨n, rfl⟩ : ∃ z, n = z + 1 := ⟨n - 1, by omega⟩
      exact (hs _ j (by omega)).trans (ih (j + 1) n (by omega) (by omega))
  exact h N 0 fu rfl hN
theorem zl2_wpF {A0 A1 R : Type} {F : (A0 → A1 → Option R) → A0 → A1 → Option R} {Q : R → Prop} {fu : Nat} (N : Nat) (I : Nat → A0 → A1 → Prop) (hN : N < fu) (hs : ∀ (k : A0 → A1 → Option R) j a0 a1, j < N → I j a0 a1 → (∀ b0 b1, I (j + 1) b0 b1 → wp (k b0 b1) Q) → wp (F k a0 a1) Q) (he : ∀ (k : A0 → A1 → Option R) a0 a1, I N a0 a1 → wp (F k a0 a1) Q) {a0 : A0} {a1 : A1} (h0 : I 0 a0 a1) : wp (zl2 F fu a0 a1) Q := by
  have h : ∀ m j n a0 a1, m + j = N → m < n → I j a0 a1 → wp (zl2 F n a0 a1) Q := by
    intro m
    induction m with
    | zero =>
      intro j n a0 a1 hj hn hI
      obtain ⟨n, rfl⟩ : ∃ z, n = z + 1 := ⟨n - 1, by omega⟩
      have hj2 : j = N := by omega
      subst hj2
      exact he _ a0 a1 hI
    | succ m ih =>
      intro j n a0 a1 hj hn hI
      obtain ⟨n, rfl⟩ : ∃ z, n = z + 1 := ⟨n - 1, by omega⟩
      exact hs _ j a0 a1 (by omega) hI (fun b0 b1 hb => ih (j + 1) n b0 b1 (by omega) (by omega) hb)
  exact h N 0 fu a0 a1 rfl hN h0
theorem zl3_itF {A0 A1 A2 R : Type} {F : (A0 → A1 → A2 → Option R) → A0 → A1 → A2 → Option R} {X : Option R} {fu : Nat} (N : Nat) (g0 : Nat → A0) (g1 : Nat → A1) (g2 : Nat → A2) (hN : N < fu) (hs : ∀ k j, j < N → F k (g0 j) (g1 j) (g2 j) = k (g0 (j + 1)) (g1 (j + 1)) (g2 (j + 1))) (he : ∀ k, F k (g0 N) (g1 N) (g2 N) = X) {a0 : A0} {a1 : A1} {a2 : A2} (e0 : g0 0 = a0) (e1 : g1 0 = a1) (e2 : g2 0 = a2) : zl3 F fu a0 a1 a2 = X := by
  subst e0; subst e1; subst e2
  have h : ∀ m j n, m + j = N → m < n → zl3 F n (g0 j) (g1 j) (g2 j) = X := by
    intro m
    induction m with
    | zero =>
      intro j n hj hn
      obtain ⟨n, rfl⟩ : ∃ z, n = z + 1 := ⟨n - 1, by omega⟩
      have hj2 : j = N := by omega
      subst hj2
      exact he _
    | succ m ih =>
      intro j n hj hn
      obtain ⟨n, rfl⟩ : ∃ z, n = z + 1 := ⟨n - 1, by omega⟩
      exact (hs _ j (by omega)).trans (ih (j + 1) n (by omega) (by omega))
  exact h N 0 fu rfl hN
theorem zl3_wpF {A0 A1 A2 R : Type} {F : (A0 → A1 → A2 → Option R) → A0 → A1 → A2 → Option R} {Q : R → Prop} {fu : Nat} (N : Nat) (I : Nat → A0 → A1 → A2 → Prop) (hN : N < fu) (hs : ∀ (k : A0 → A1 → A2 → Option R) j a0 a1 a2, j < N → I j a0 a1 a2 → (∀ b0 b1 b2, I (j + 1) b0 b1 b2 → wp (k b0 b1 b2) Q) → wp (F k a0 a1 a2) Q) (he : ∀ (k : A0 → A1 → A2 → Option R) a0 a1 a2, I N a0 a1 a2 → wp (F k a0 a1 a2) Q) {a0 : A0} {a1 : A1} {a2 : A2} (h0 : I 0 a0 a1 a2) : wp (zl3 F fu a0 a1 a2) Q := by
  have h : ∀ m j n a0 a1 a2, m + j = N → m < n → I j a0 a1 a2 → wp (zl3 F n a0 a1 a2) Q := by
    intro m
    induction m with
    | zero =>
      intro j n a0 a1 a2 hj hn hI
      obtain ⟨n, rfl⟩ : ∃ z, n = z + 1 := ⟨n - 1, by omega⟩
      have hj2 : j = N := by omega
      subst hj2
      exact he _ a0 a1 a2 hI
    | succ m ih =>
      intro j n a0 a1 a2 hj hn hI
      obtain ⟨n, rfl⟩ : ∃ z, n = z + 1 := ⟨n - 1, by omega⟩
      exact hs _ j a0 a1 a2 (by omega) hI (fun b0 b1 b2 hb => ih (j + 1) n b0 b1 b2 (by omega) (by omega) hb)
  exact h N 0 fu a0 a1 a2 rfl hN h0
theorem zl4_itF {A0 A1 A2 A3 R : Type} {F : (A0 → A1 → A2 → A3 → Option R) → A0 → A1 → A2 → A3 → Option R} {X : Option R} {fu : Nat} (N : Nat) (g0 : Nat → A0) (g1 : Nat → A1) (g2 : Nat → A2) (g3 : Nat → A3) (hN : N < fu) (hs : ∀ k j, j < N → F k (g0 j) (g1 j) (g2 j) (g3 j) = k (g0 (j + 1)) (g1 (j + 1)) (g2 (j + 1)) (g3 (j + 1))) (he : ∀ k, F k (g0 N) (g1 N) (g2 N) (g3 N) = X) {a0 : A0} {a1 : A1} {a2 : A2} {a3 : A3} (e0 : g0 0 = a0) (e1 : g1 0 = a1) (e2 : g2 0 = a2) (e3 : g3 0 = a3) : zl4 F fu a0 a1 a2 a3 = X := by
  subst e0; subst e1; subst e2; subst e3
  have h : ∀ m j n, m + j = N → m < n → zl4 F n (g0 j) (g1 j) (g2 j) (g3 j) = X := by
    intro m
    induction m with
    | zero =>
      intro j n hj hn
      obtain ⟨n, rfl⟩ : ∃ z, n = z + 1 := ⟨n - 1, by omega⟩
      have hj2 : j = N := by omega
      subst hj2
      exact he _
    | succ m ih =>
      intro j n hj hn
      obtain ⟨n, rfl⟩ : ∃ z, n = z + 1 := ⟨n - 1, by omega⟩
      exact (hs _ j (by omega)).trans (ih (j + 1) n (by omega) (by omega))
  exact h N 0 fu rfl hN
theorem zl4_wpF {A0 A1 A2 A3 R : Type} {F : (A0 → A1 → A2 → A3 → Option R) → A0 → A1 → A2 → A3 → Option R} {Q : R → Prop} {fu : Nat} (N : Nat) (I : Nat → A0 → A1 → A2 → A3 → Prop) (hN : N < fu) (hs : ∀ (k : A0 → A1 → A2 → A3 → Option R) j a0 a1 a2 a3, j < N → I j a0 a1 a2 a3 → (∀ b0 b1 b2 b3, I (j + 1) b0 b1 b2 b3 → wp (k b0 b1 b2 b3) Q) → wp (F k a0 a1 a2 a3) Q) (he : ∀ (k : A0 → A1 → A2 → A3 → Option R) a0 a1 a2 a3, I N a0 a1 a2 a3 → wp (F k a0 a1 a2 a3) Q) {a0 : A0} {a1 : A1} {a2 : A2} {a3 : A3} (h0 : I 0 a0 a1 a2 a3) : wp (zl4 F fu a0 a1 a2 a3) Q := by
  have h : ∀ m j n a0 a1 a2 a3, m + j = N → m < n → I j a0 a1 a2 a3 → wp (zl4 F n a0 a1 a2 a3) Q := by
    intro m
    induction m with
    | zero =>
      intro j n a0 a1 a2 a3 hj hn hI
      obtain ⟨n, rfl⟩ : ∃ z, n = z + 1 := ⟨n - 1, by omega⟩
      have hj2 : j = N := by omega
      subst hj2
      exact he _ a0 a1 a2 a3 hI
    | succ m ih =>
      intro j n a0 a1 a2 a3 hj hn hI
      obtain ⟨n, rfl⟩ : ∃ z, n = z + 1 := ⟨n - 1, by omega⟩
      exact hs _ j a0 a1 a2 a3 (by omega) hI (fun b0 b1 b2 b3 hb => ih (j + 1) n b0 b1 b2 b3 (by omega) (by omega) hb)
  exact h N 0 fu a0 a1 a2 a3 rfl hN h0
theorem zl5_itF {A0 A1 A2 A3 A4 R : Type} {F : (A0 → A1 → A2 → A3 → A4 → Option R) → A0 → A1 → A2 → A3 → A4 → Option R} {X : Option R} {fu : Nat} (N : Nat) (g0 : Nat → A0) (g1 : Nat → A1) (g2 : Nat → A2) (g3 : Nat → A3) (g4 : Nat → A4) (hN : N < fu) (hs : ∀ k j, j < N → F k (g0 j) (g1 j) (g2 j) (g3 j) (g4 j) = k (g0 (j + 1)) (g1 (j + 1)) (g2 (j + 1)) (g3 (j + 1)) (g4 (j + 1))) (he : ∀ k, F k (g0 N) (g1 N) (g2 N) (g3 N) (g4 N) = X) {a0 : A0} {a1 : A1} {a2 : A2} {a3 : A3} {a4 : A4} (e0 : g0 0 = a0) (e1 : g1 0 = a1) (e2 : g2 0 = a2) (e3 : g3 0 = a3) (e4 : g4 0 = a4) : zl5 F fu a0 a1 a2 a3 a4 = X := by
  subst e0; subst e1; subst e2; subst e3; subst e4
  have h : ∀ m j n, m + j = N → m < n → zl5 F n (g0 j) (g1 j) (g2 j) (g3 j) (g4 j) = X := by
    intro m
    induction m with
    | zero =>
      intro j n hj hn
      obtain ⟨n, rfl⟩ : ∃ z, n = z + 1 := ⟨n - 1, by omega⟩
      have hj2 : j = N := by omega
      subst hj2
      exact he _
    | succ m ih =>
      intro j n hj hn
      obtain ⟨n, rfl⟩ : ∃ z, n = z + 1 := ⟨n - 1, by omega⟩
      exact (hs _ j (by omega)).trans (ih (j + 1) n (by omega) (by omega))
  exact h N 0 fu rfl hN
theorem zl5_wpF {A0 A1 A2 A3 A4 R : Type} {F : (A0 → A1 → A2 → A3 → A4 → Option R) → A0 → A1 → A2 → A3 → A4 → Option R} {Q : R → Prop} {fu : Nat} (N : Nat) (I : Nat → A0 → A1 → A2 → A3 → A4 → Prop) (hN : N < fu) (hs : ∀ (k : A0 → A1 → A2 → A3 → A4 → Option R) j a0 a1 a2 a3 a4, j < N → I j a0 a1 a2 a3 a4 → (∀ b0 b1 b2 b3 b4, I (j + 1) b0 b1 b2 b3 b4 → wp (k b0 b1 b2 b3 b4) Q) → wp (F k a0 a1 a2 a3 a4) Q) (he : ∀ (k : A0 → A1 → A2 → A3 → A4 → Option R) a0 a1 a2 a3 a4, I N a0 a1 a2 a3 a4 → wp (F k a0 a1 a2 a3 a4) Q) {a0 : A0} {a1 : A1} {a2 : A2} {a3 : A3} {a4 : A4} (h0 : I 0 a0 a1 a2 a3 a4) : wp (zl5 F fu a0 a1 a2 a3 a4) Q := by
  have h : ∀ m j n a0 a1 a2 a3 a4, m + j = N → m < n → I j a0 a1 a2 a3 a4 → wp (zl5 F n a0 a1 a2 a3 a4) Q := by
    intro m
    induction m with
    | zero =>
      intro j n a0 a1 a2 a3 a4 hj hn hI
      obtain ⟨n, rfl⟩ : ∃ z, n = z + 1 := ⟨n - 1, by omega⟩
      have hj2 : j = N := by omega
      subst hj2
      exact he _ a0 a1 a2 a3 a4 hI
    | succ m ih =>
      intro j n a0 a1 a2 a3 a4 hj hn hI
      obtain ⟨n, rfl⟩ : ∃ z, n = z + 1 := ⟨n - 1, by omega⟩
      exact hs _ j a0 a1 a2 a3 a4 (by omega) hI (fun b0 b1 b2 b3 b4 hb => ih (j + 1) n b0 b1 b2 b3 b4 (by omega) (by omega) hb)
  exact h N 0 fu a0 a1 a2 a3 a4 rfl hN h0
theorem zl6_itF {A0 A1 A2 A3 A4 A5 R : Type} {F : (A0 → A1 → A2 → A3 → A4 → A5 → Option R) → A0 → A1 → A2 → A3 → A4 → A5 → Option R} {X : Option R} {fu : Nat} (N : Nat) (g0 : Nat → A0) (g1 : Nat → A1) (g2 : Nat → A2) (g3 : Nat → A3) (g4 : Nat → A4) (g5 : Nat → A5) (hN : N < fu) (hs : ∀ k j, j < N → F k (g0 j) (g1 j) (g2 j) (g3 j) (g4 j) (g5 j) = k (g0 (j + 1)) (g1 (j + 1)) (g2 (j + 1)) (g3 (j + 1)) (g4 (j + 1)) (g5 (j + 1))) (he : ∀ k, F k (g0 N) (g1 N) (g2 N) (g3 N) (g4 N) (g5 N) = X) {a0 : A0} {a1 : A1} {a2 : A2} {a3 : A3} {a4 : A4} {a5 : A5} (e0 : g0 0 = a0) (e1 : g1 0 = a1) (e2 : g2 0 = a2) (e3 : g3 0 = a3) (e4 : g4 0 = a4) (e5 : g5 0 = a5) : zl6 F fu a0 a1 a2 a3 a4 a5 = X := by
  subst e0; subst e1; subst e2; subst e3; subst e4; subst e5
  have h : ∀ m j n, m + j = N → m < n → zl6 F n (g0 j) (g1 j) (g2 j) (g3 j) (g4 j) (g5 j) = X := by
    intro m
    induction m with
    | zero =>
      intro j n hj hn
      obtain ⟨n, rfl⟩ : ∃ z, n = z + 1 := ⟨n - 1, by omega⟩
      have hj2 : j = N := by omega
      subst hj2
      exact he _
    | succ m ih =>
      intro j n hj hn
      obtain ⟨n, rfl⟩ : ∃ z, n = z + 1 := ⟨n - 1, by omega⟩
      exact (hs _ j (by omega)).trans (ih (j + 1) n (by omega) (by omega))
  exact h N 0 fu rfl hN
theorem zl6_wpF {A0 A1 A2 A3 A4 A5 R : Type} {F : (A0 → A1 → A2 → A3 → A4 → A5 → Option R) → A0 → A1 → A2 → A3 → A4 → A5 → Option R} {Q : R → Prop} {fu : Nat} (N : Nat) (I : Nat → A0 → A1 → A2 → A3 → A4 → A5 → Prop) (hN : N < fu) (hs : ∀ (k : A0 → A1 → A2 → A3 → A4 → A5 → Option R) j a0 a1 a2 a3 a4 a5, j < N → I j a0 a1 a2 a3 a4 a5 → (∀ b0 b1 b2 b3 b4 b5, I (j + 1) b0 b1 b2 b3 b4 b5 → wp (k b0 b1 b2 b3 b4 b5) Q) → wp (F k a0 a1 a2 a3 a4 a5) Q) (he : ∀ (k : A0 → A1 → A2 → A3 → A4 → A5 → Option R) a0 a1 a2 a3 a4 a5, I N a0 a1 a2 a3 a4 a5 → wp (F k a0 a1 a2 a3 a4 a5) Q) {a0 : A0} {a1 : A1} {a2 : A2} {a3 : A3} {a4 : A4} {a5 : A5} (h0 : I 0 a0 a1 a2 a3 a4 a5) : wp (zl6 F fu a0 a1 a2 a3 a4 a5) Q := by
  have h : ∀ m j n a0 a1 a2 a3 a4 a5, m + j = N → m < n → I j a0 a1 a2 a3 a4 a5 → wp (zl6 F n a0 a1 a2 a3 a4 a5) Q := by
    intro m
    induction m with
    | zero =>
      intro j n a0 a1 a2 a3 a4 a5 hj hn hI
      obtain ⟨n, rfl⟩ : ∃ z, n = z + 1 := ⟨n - 1, by omega⟩
      have hj2 : j = N := by omega
      subst hj2
      exact he _ a0 a1 a2 a3 a4 a5 hI
    | succ m ih =>
      intro j n a0 a1 a2 a3 a4 a5 hj hn hI
      obtain ⟨n, rfl⟩ : ∃ z, n = z + 1 := ⟨n - 1, by omega⟩
      exact hs _ j a0 a1 a2 a3 a4 a5 (by omega) hI (fun b0 b1 b2 b3 b4 b5 hb => ih (j + 1) n b0 b1 b2 b3 b4 b5 (by omega) (by omega) hb)
  exact h N 0 fu a0 a1 a2 a3 a4 a5 rfl hN h0
theorem zl7_itF {A0 A1 A2 A3 A4 A5 A6 R : Type} {F : (A0 → A1 → A2 → A3 → A4 → A5 → A6 → Option R) → A0 → A1 → A2 → A3 → A4 → A5 → A6 → Option R} {X : Option R} {fu : Nat} (N : Nat) (g0 : Nat → A0) (g1 : Nat → A1) (g2 : Nat → A2) (g3 : Nat → A3) (g4 : Nat → A4) (g5 : Nat → A5) (g6 : Nat → A6) (hN : N < fu) (hs : ∀ k j, j < N → F k (g0 j) (g1 j) (g2 j) (g3 j) (g4 j) (g5 j) (g6 j) = k (g0 (j + 1)) (g1 (j + 1)) (g2 (j + 1)) (g3 (j + 1)) (g4 (j + 1)) (g5 (j + 1)) (g6 (j + 1))) (he : ∀ k, F k (g0 N) (g1 N) (g2 N) (g3 N) (g4 N) (g5 N) (g6 N) = X) {a0 : A0} {a1 : A1} {a2 : A2} {a3 : A3} {a4 : A4} {a5 : A5} {a6 : A6} (e0 : g0 0 = a0) (e1 : g1 0 = a1) (e2 : g2 0 = a2) (e3 : g3 0 = a3) (e4 : g4 0 = a4) (e5 : g5 0 = a5) (e6 : g6 0 = a6) : zl7 F fu a0 a1 a2 a3 a4 a5 a6 = X := by
  subst e0; subst e1; subst e2; subst e3; subst e4; subst e5; subst e6
  have h : ∀ m j n, m + j = N → m < n → zl7 F n (g0 j) (g1 j) (g2 j) (g3 j) (g4 j) (g5 j) (g6 j) = X := by
    intro m
    induction m with
    | zero =>
      intro j n hj hn
      obtain ⟨n, rfl⟩ : ∃ z, n = z + 1 := ⟨n - 1, by omega⟩
      have hj2 : j = N := by omega
      subst hj2
      exact he _
    | succ m ih =>
      intro j n hj hn
      obtain ⟨n, rfl⟩ : ∃ z, n = z + 1 := ⟨n - 1, by omega⟩
      exact (hs _ j (by omega)).trans (ih (j + 1) n (by omega) (by omega))
  exact h N 0 fu rfl hN
theorem zl7_wpF {A0 A1 A2 A3 A4 A5 A6 R : Type} {F : (A0 → A1 → A2 → A3 → A4 → A5 → A6 → Option R) → A0 → A1 → A2 → A3 → A4 → A5 → A6 → Option R} {Q : R → Prop} {fu : Nat} (N : Nat) (I : Nat → A0 → A1 → A2 → A3 → A4 → A5 → A6 → Prop) (hN : N < fu) (hs : ∀ (k : A0 → A1 → A2 → A3 → A4 → A5 → A6 → Option R) j a0 a1 a2 a3 a4 a5 a6, j < N → I j a0 a1 a2 a3 a4 a5 a6 → (∀ b0 b1 b2 b3 b4 b5 b6, I (j + 1) b0 b1 b2 b3 b4 b5 b6 → wp (k b0 b1 b2 b3 b4 b5 b6) Q) → wp (F k a0 a1 a2 a3 a4 a5 a6) Q) (he : ∀ (k : A0 → A1 → A2 → A3 → A4 → A5 → A6 → Option R) a0 a1 a2 a3 a4 a5 a6, I N a0 a1 a2 a3 a4 a5 a6 → wp (F k a0 a1 a2 a3 a4 a5 a6) Q) {a0 : A0} {a1 : A1} {a2 : A2} {a3 : A3} {a4 : A4} {a5 : A5} {a6 : A6} (h0 : I 0 a0 a1 a2 a3 a4 a5 a6) : wp (zl7 F fu a0 a1 a2 a3 a4 a5 a6) Q := by
  have h : ∀ m j n a0 a1 a2 a3 a4 a5 a6, m + j = N → m < n → I j a0 a1 a2 a3 a4 a5 a6 → wp (zl7 F n a0 a1 a2 a3 a4 a5 a6) Q := by
    intro m
    induction m with
    | zero =>
      intro j n a0 a1 a2 a3 a4 a5 a6 hj hn hI
      obtain ⟨n, rfl⟩ : ∃ z, n = z + 1 := ⟨n - 1, by omega⟩
      have hj2 : j = N := by omega
      subst hj2
      exact he _ a0 a1 a2 a3 a4 a5 a6 hI
    | succ m ih =>
      intro j n a0 a1 a2 a3 a4 a5 a6 hj hn hI
      obtain ⟨n, rfl⟩ : ∃ z, n = z + 1 := ⟨n - 1, by omega⟩
      exact hs _ j a0 a1 a2 a3 a4 a5 a6 (by omega) hI (fun b0 b1 b2 b3 b4 b5 b6 hb => ih (j + 1) n b0 b1 b2 b3 b4 b5 b6 (by omega) (by omega) hb)
  exact h N 0 fu a0 a1 a2 a3 a4 a5 a6 rfl hN h0
