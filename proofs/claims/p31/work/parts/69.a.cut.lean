/-! flows and cuts on the cube of halves -/
def bN (b : Bool) : Nat := if b = true then 1 else 0
theorem bN_t : bN true = 1 := rfl
theorem bN_f : bN false = 0 := rfl
theorem bN_le (b : Bool) : bN b ≤ 1 := by cases b <;> decide
theorem ct_sm (p : Nat → Bool) : ∀ n, fb_ct p n = fb_sm (fun k => bN (p k)) n
  | 0 => rfl
  | n + 1 => by rw [fb_ct_succ, fb_sm_succ, ct_sm p n]; rfl
theorem sm_swap (f : Nat → Nat → Nat) (m : Nat) : ∀ n, fb_sm (fun i => fb_sm (f i) m) n = fb_sm (fun j => fb_sm (fun i => f i j) n) m
  | 0 => (fb_sm_0 (fun _ _ => rfl)).symm
  | n + 1 => by
    rw [fb_sm_succ, sm_swap f m n, ← fb_sm_add]
    exact fb_sm_cong (fun _ _ => rfl)
theorem sm_inv {σ g : Nat → Nat} {n : Nat} (h : ∀ w, w < n → σ w < n ∧ σ (σ w) = w) : fb_sm (fun w => g (σ w)) n = fb_sm g n := by
  have e1 : fb_sm (fun w => g (σ w)) n = fb_sm (fun w => fb_sm (fun v => if v = σ w then g v else 0) n) n := fb_sm_cong (fun w hw => by
    have := fb_sm_one (f := fun v => if v = σ w then g v else 0) (i := σ w) (n := n) (h w hw).1 (fun k _ hk => if_neg hk)
    rw [this, if_pos rfl])
  rw [e1, sm_swap]
  refine fb_sm_cong (fun v hv => ?_)
  have := fb_sm_one (f := fun w => if v = σ w then g v else 0) (i := σ v) (n := n) (h v hv).1 (fun w hw hk => if_neg (fun q => hk (by rw [q, (h w hw).2])))
  rw [this, if_pos (h v hv).2.symm]
theorem mul_sm (c : Nat) (f : Nat → Nat) : ∀ n, c * fb_sm f n = fb_sm (fun k => c * f k) n
  | 0 => rfl
  | n + 1 => by rw [fb_sm_succ, fb_sm_succ, Nat.mul_add, mul_sm c f n]
def fOut (d : Nat) (A : Nat → Nat → Bool) (u : Nat) : Nat := fb_sm (fun k => bN (A u k)) d
def fIn (d : Nat) (A : Nat → Nat → Bool) (w : Nat) : Nat := fb_sm (fun k => bN (A (w ^^^ 2 ^ k) k)) d
theorem in_sum {d : Nat} (hd : d ≤ 6) (A : Nat → Nat → Bool) (a : Nat → Bool) : fb_sm (fun w => bN (a w) * fIn d A w) (2 ^ d) = fb_sm (fun u => fb_sm (fun k => bN (a (u ^^^ 2 ^ k)) * bN (A u k)) d) (2 ^ d) := by
  have e1 : fb_sm (fun w => bN (a w) * fIn d A w) (2 ^ d) = fb_sm (fun w => fb_sm (fun k => bN (a w) * bN (A (w ^^^ 2 ^ k) k)) d) (2 ^ d) := fb_sm_cong (fun w _ => mul_sm _ _ _)
  rw [e1, sm_swap, sm_swap (fun u k => bN (a (u ^^^ 2 ^ k)) * bN (A u k))]
  refine fb_sm_cong (fun k hk => ?_)
  have e2 := sm_inv (σ := fun w => w ^^^ 2 ^ k) (g := fun u => bN (a (u ^^^ 2 ^ k)) * bN (A u k)) (n := 2 ^ d) (fun w hw => ⟨nb_lt hd hw hk, xor_2 w k⟩)
  rw [← e2]
  exact fb_sm_cong (fun w _ => by rw [xor_2])
theorem out_sum (d : Nat) (A : Nat → Nat → Bool) (b : Nat → Bool) : fb_sm (fun u => bN (b u) * fOut d A u) (2 ^ d) = fb_sm (fun u => fb_sm (fun k => bN (b u) * bN (A u k)) d) (2 ^ d) := fb_sm_cong (fun _ _ => mul_sm _ _ _)
/-- ways from s to t that share no other node -/
def FLW (d s t : Nat) (al : Nat → Bool) (A : Nat → Nat → Bool) : Prop :=
  (∀ v, v < 2 ^ d → v ≠ s → v ≠ t → fOut d A v = fIn d A v ∧ fOut d A v ≤ 1) ∧ fIn d A s = 0 ∧ fOut d A t = 0 ∧ ∀ u k, u < 2 ^ d → k < d → A u k = true → al (u ^^^ 2 ^ k) = true
theorem fOut_pos {d : Nat} {A : Nat → Nat → Bool} {u k : Nat} (hk : k < d) (h : A u k = true) : 0 < fOut d A u := by
  have := fb_sm_part (fun k => bN (A u k)) hk
  unfold fOut
  rw [h, bN_t] at this
  omega
theorem fOut_0 {d : Nat} {A : Nat → Nat → Bool} {u k : Nat} (h0 : fOut d A u = 0) (hk : k < d) : A u k = false := by
  cases h : A u k with
  | false => rfl
  | true => have := fOut_pos hk h; omega
theorem fIn_pos {d : Nat} {A : Nat → Nat → Bool} {w : Nat} (h : 0 < fIn d A w) : ∃ k, k < d ∧ A (w ^^^ 2 ^ k) k = true := by
  have h2 : 0 < fb_ct (fun k => A (w ^^^ 2 ^ k) k) d := by rw [ct_sm]; exact h
  exact fb_ct_pos.mp h2
theorem fIn_0 {d : Nat} {A : Nat → Nat → Bool} {w k : Nat} (h0 : fIn d A w = 0) (hk : k < d) : A (w ^^^ 2 ^ k) k = false := by
  cases h : A (w ^^^ 2 ^ k) k with
  | false => rfl
  | true =>
    have := fb_sm_part (fun k => bN (A (w ^^^ 2 ^ k) k)) hk
    unfold fIn at h0
    rw [h, bN_t] at this
    omega
section
variable {d s t : Nat} {al : Nat → Bool} {A B : Nat → Nat → Bool} {a b : Nat → Bool}
/-- what no flow can pass: marks a at the entries, b at the exits -/
theorem flow_le (hd : d ≤ 6) (hs : s < 2 ^ d) (hbs : b s = true) (hat : a t = false) (h : FLW d s t al A) :
    fOut d A s ≤ fb_sm (fun u => fb_sm (fun k => bN (b u && !a (u ^^^ 2 ^ k)) * bN (A u k)) d) (2 ^ d) + fb_sm (fun v => if v = s ∨ v = t then 0 else bN (a v && !b v) * fOut d A v) (2 ^ d) := by
  obtain ⟨f1, f2, f3, f4⟩ := h
  -- node by node
  have hv := fb_sm_le (f := fun v => bN (a v) * fIn d A v + (if v = s then fOut d A s else 0)) (g := fun v => bN (b v) * fOut d A v + (if v = s ∨ v = t then 0 else bN (a v && !b v) * fOut d A v)) (n := 2 ^ d) (fun v hv => by
    by_cases e : v = s
    · subst e
      simp only [f2, hbs, bN_t]
      simp
    · by_cases e2 : v = t
      · subst e2
        simp [hat, bN_f, e]
      · rw [if_neg e, if_neg (fun q => q.elim e e2), (f1 v hv e e2).1]
        cases a v <;> cases b v <;> simp [bN])
  rw [fb_sm_add, fb_sm_add, fb_sm_one (f := fun v => if v = s then fOut d A s else 0) hs (fun k _ hk => if_neg hk), if_pos rfl, in_sum hd, out_sum] at hv
  -- way by way
  have hw := fb_sm_le (f := fun u => fb_sm (fun k => bN (b u) * bN (A u k)) d) (g := fun u => fb_sm (fun k => bN (b u && !a (u ^^^ 2 ^ k)) * bN (A u k)) d + fb_sm (fun k => bN (a (u ^^^ 2 ^ k)) * bN (A u k)) d) (n := 2 ^ d) (fun u _ => by
    rw [← fb_sm_add]
    refine fb_sm_le (fun k _ => ?_)
    cases b u <;> cases a (u ^^^ 2 ^ k) <;> simp [bN])
  rw [fb_sm_add] at hw
  omega
/-- a flow that fills the cut -/
theorem flow_ge (hd : d ≤ 6) (hs : s < 2 ^ d) (hbs : b s = true) (hat : a t = false) (h : FLW d s t al A) (h1 : ∀ u k, u < 2 ^ d → k < d → A u k = true → a (u ^^^ 2 ^ k) = true → b u = true) (h2 : ∀ v, v < 2 ^ d → v ≠ s → b v = true → 0 < fOut d A v → a v = true) :
    fb_sm (fun u => fb_sm (fun k => bN (b u && !a (u ^^^ 2 ^ k)) * bN (A u k)) d) (2 ^ d) + fb_sm (fun v => if v = s ∨ v = t then 0 else bN (a v && !b v) * fOut d A v) (2 ^ d) ≤ fOut d A s := by
  obtain ⟨f1, f2, f3, f4⟩ := h
  have hv := fb_sm_le (f := fun v => bN (b v) * fOut d A v + (if v = s ∨ v = t then 0 else bN (a v && !b v) * fOut d A v)) (g := fun v => bN (a v) * fIn d A v + (if v = s then fOut d A s else 0)) (n := 2 ^ d) (fun v hv => by
    by_cases e : v = s
    · subst e
      simp [hbs, bN_t]
    · by_cases e2 : v = t
      · subst e2
        simp [f3]
      · rw [if_neg e, if_neg (fun q => q.elim e e2), ← (f1 v hv e e2).1]
        have h3 := h2 v hv e
        cases ha : a v <;> cases hb : b v <;> simp [bN]
        rw [ha, hb] at h3
        have : ¬ 0 < fOut d A v := fun q => absurd (h3 rfl q) (by decide)
        omega)
  rw [fb_sm_add, fb_sm_add, fb_sm_one (f := fun v => if v = s then fOut d A s else 0) hs (fun k _ hk => if_neg hk), if_pos rfl, in_sum hd, out_sum] at hv
  have hw := fb_sm_le (f := fun u => fb_sm (fun k => bN (b u && !a (u ^^^ 2 ^ k)) * bN (A u k)) d + fb_sm (fun k => bN (a (u ^^^ 2 ^ k)) * bN (A u k)) d) (g := fun u => fb_sm (fun k => bN (b u) * bN (A u k)) d) (n := 2 ^ d) (fun u hu => by
    rw [← fb_sm_add]
    refine fb_sm_le (fun k hk => ?_)
    have h3 := h1 u k hu hk
    cases hA : A u k <;> cases hb : b u <;> cases ha : a (u ^^^ 2 ^ k) <;> simp [bN]
    rw [hA, hb, ha] at h3
    exact absurd (h3 rfl rfl) (by decide))
  rw [fb_sm_add] at hw
  omega
/-- no flow is larger than one that fills a cut -/
theorem flow_max (hd : d ≤ 6) (hs : s < 2 ^ d) (hbs : b s = true) (hat : a t = false) (hA : FLW d s t al A) (hB : FLW d s t al B)
    (h1 : ∀ u k, u < 2 ^ d → k < d → A u k = true → a (u ^^^ 2 ^ k) = true → b u = true) (h2 : ∀ v, v < 2 ^ d → v ≠ s → b v = true → 0 < fOut d A v → a v = true)
    (h3 : ∀ u k, u < 2 ^ d → k < d → b u = true → u ^^^ 2 ^ k ≠ s → al (u ^^^ 2 ^ k) = true → A u k = false → a (u ^^^ 2 ^ k) = true) (h4 : ∀ v, v < 2 ^ d → a v = true → fOut d A v = 0 → b v = true) : fOut d B s ≤ fOut d A s := by
  have q1 := flow_le hd hs hbs hat hB
  have q2 := flow_ge hd hs hbs hat hA h1 h2
  have x1 := fb_sm_le (f := fun u => fb_sm (fun k => bN (b u && !a (u ^^^ 2 ^ k)) * bN (B u k)) d) (g := fun u => fb_sm (fun k => bN (b u && !a (u ^^^ 2 ^ k)) * bN (A u k)) d) (n := 2 ^ d) (fun u hu => fb_sm_le (fun k hk => by
    have g1 := h3 u k hu hk
    have g2 := hB.2.2.2 u k hu hk
    have g3 : B u k = true → u ^^^ 2 ^ k ≠ s := fun q e => by
      have := fIn_0 hB.2.1 hk
      rw [← e, xor_2, q] at this
      cases this
    cases hb : b u <;> cases ha : a (u ^^^ 2 ^ k) <;> cases hBu : B u k <;> cases hAu : A u k <;> simp [bN]
    rw [hb, ha, hAu] at g1
    exact absurd (g1 rfl (g3 hBu) (g2 hBu) rfl) (by decide)))
  have x2 := fb_sm_le (f := fun v => if v = s ∨ v = t then 0 else bN (a v && !b v) * fOut d B v) (g := fun v => if v = s ∨ v = t then 0 else bN (a v && !b v) * fOut d A v) (n := 2 ^ d) (fun v hv => by
    by_cases e : v = s ∨ v = t
    · rw [if_pos e, if_pos e]; exact Nat.le_refl _
    · rw [if_neg e, if_neg e]
      have g1 := (hB.1 v hv (fun q => e (Or.inl q)) (fun q => e (Or.inr q))).2
      have g2 := h4 v hv
      cases ha : a v <;> cases hb : b v <;> simp [bN]
      rw [ha, hb] at g2
      have : fOut d A v ≠ 0 := fun q => absurd (g2 rfl q) (by decide)
      omega)
  omega
/-- the same ways the other way round -/
theorem FLW_rev (hd : d ≤ 6) (hst : s ≠ t) (hs : s < 2 ^ d) (ht : t < 2 ^ d) (has : al s = true) (h : FLW d s t al A) : FLW d t s al (fun u k => A (u ^^^ 2 ^ k) k) ∧ fOut d (fun u k => A (u ^^^ 2 ^ k) k) t = fOut d A s := by
  obtain ⟨f1, f2, f3, f4⟩ := h
  have hO : ∀ v, fOut d (fun u k => A (u ^^^ 2 ^ k) k) v = fIn d A v := fun v => rfl
  have hI : ∀ v, fIn d (fun u k => A (u ^^^ 2 ^ k) k) v = fOut d A v := fun v => fb_sm_cong (fun k _ => by
    show bN (A (v ^^^ 2 ^ k ^^^ 2 ^ k) k) = bN (A v k)
    rw [xor_2])
  refine ⟨⟨fun v hv e1 e2 => ?_, ?_, ?_, fun u k hu hk q => ?_⟩, ?_⟩
  · rw [hO, hI, (f1 v hv e2 e1).1]
    exact ⟨rfl, by rw [← (f1 v hv e2 e1).1]; exact (f1 v hv e2 e1).2⟩
  · rw [hI]; exact f3
  · rw [hO]; exact f2
  · have q' : A (u ^^^ 2 ^ k) k = true := q
    have hw := nb_lt hd hu hk
    by_cases e : u ^^^ 2 ^ k = s
    · rw [e]; exact has
    · have e2 : u ^^^ 2 ^ k ≠ t := fun z => by
        rw [z] at q'
        have := fOut_0 f3 hk
        rw [this] at q'; cases q'
      have hpos := fOut_pos hk q'
      rw [(f1 _ hw e e2).1] at hpos
      obtain ⟨i, hi, hAi⟩ := fIn_pos hpos
      have := f4 _ i (nb_lt hd hw hi) hi hAi
      rw [xor_2] at this
      exact this
  · rw [hO]
    -- all ends are all beginnings
    have e1 := in_sum hd A (fun _ => true)
    have e2 := out_sum d A (fun _ => true)
    have e3 : fb_sm (fun w => bN true * fIn d A w) (2 ^ d) = fb_sm (fun w => bN true * fOut d A w) (2 ^ d) := e1.trans e2.symm
    have e4 := fb_sm_upd (fun w => bN true * fIn d A w) (bN true * fOut d A t + fIn d A t) ht
    have g : fb_sm (fun v => fIn d A v + (if v = s then fOut d A s else 0)) (2 ^ d) = fb_sm (fun v => fOut d A v + (if v = t then fIn d A t else 0)) (2 ^ d) := fb_sm_cong (fun v hv => by
      by_cases q1 : v = s
      · subst q1
        rw [if_pos rfl, if_neg hst, f2]; omega
      · by_cases q2 : v = t
        · subst q2
          rw [if_neg q1, if_pos rfl, f3]; omega
        · rw [if_neg q1, if_neg q2, (f1 v hv q1 q2).1])
    rw [fb_sm_add, fb_sm_add, fb_sm_one (f := fun v => if v = s then fOut d A s else 0) hs (fun k _ hk => if_neg hk), fb_sm_one (f := fun v => if v = t then fIn d A t else 0) ht (fun k _ hk => if_neg hk), if_pos rfl, if_pos rfl] at g
    have e5 : fb_sm (fIn d A) (2 ^ d) = fb_sm (fOut d A) (2 ^ d) := by
      have l : fb_sm (fun w => bN true * fIn d A w) (2 ^ d) = fb_sm (fIn d A) (2 ^ d) := fb_sm_cong (fun w _ => by rw [bN_t, Nat.one_mul])
      have r : fb_sm (fun w => bN true * fOut d A w) (2 ^ d) = fb_sm (fOut d A) (2 ^ d) := fb_sm_cong (fun w _ => by rw [bN_t, Nat.one_mul])
      rw [← l, ← r]; exact e3
    have g2 : fb_sm (fIn d A) (2 ^ d) + fOut d A s = fb_sm (fOut d A) (2 ^ d) + fIn d A t := g
    omega
end
