/-! the broadcast: one abstract run, both sides follow it -/
def uN2 (f : Nat → Nat) (k x : Nat) : Nat → Nat := fun j => if j = k then x else f j
abbrev BSt : Type := Nat × (Nat → Int32) × (Nat → Nat) × (Nat → Nat)
def snd1 (v m w : Nat) (s : BSt) : BSt := (s.1 + 1, upd s.2.1 w (s.2.1 v + 1), uN2 s.2.2.1 w m, uN2 s.2.2.2 s.1 w)
def pss (d : Nat) (L : Nat → Nat) (al : Nat → Bool) (v : Nat) : Nat → Nat → BSt → BSt
  | 0, _, s => s
  | n + 1, m, s => match bestD d L v m with
    | none => s
    | some b => pss d L al v n (m ^^^ 2 ^ b) (if al (v ^^^ 2 ^ b) then snd1 v (m ^^^ 2 ^ b) (v ^^^ 2 ^ b) s else s)
def brn (d : Nat) (L : Nat → Nat) (al : Nat → Bool) : Nat → Nat → BSt → BSt
  | 0, _, s => s
  | n + 1, k, s => if k < s.1 then brn d L al n (k + 1) (pss d L al (s.2.2.2 k) 6 (s.2.2.1 (s.2.2.2 k)) s) else s
def BR (d : Nat) (L : Nat → Nat) (al : Nat → Bool) (a : Nat) : BSt := brn d L al 64 0 (1, upd (fun _ => -1) a 0, uN2 (fun _ => 0) a (2 ^ d - 1), uN2 (fun _ => 0) 0 a)
def CR (T M Q : Nat → Int32) (s : BSt) : Prop := (∀ w, w < 64 → T w = s.2.1 w) ∧ ∀ j, j < s.1 → Q j = nI (s.2.2.2 j) ∧ M (s.2.2.2 j) = nI (s.2.2.1 (s.2.2.2 j))
def BI (d many : Nat) (l ρ : Nat → Nat) (P : Nat → Bool) : Prop :=
  many = fb_ct P 64 ∧ (∀ w, w < 64 → P w = true → ∃ j, j < many ∧ l j = w) ∧ (∀ j, j < many → l j < 2 ^ d ∧ ρ j < 2 ^ d) ∧
  ∀ i j, i < many → j < many → i ≠ j → ∃ b, (l i ^^^ l j).testBit b = true ∧ (ρ i).testBit b = false ∧ (ρ j).testBit b = false
theorem tb_off {m b : Nat} (h : m.testBit b = true) (k : Nat) : (m ^^^ 2 ^ b).testBit k = (m.testBit k && !decide (k = b)) := by
  rw [Nat.testBit_xor, Nat.testBit_two_pow]
  by_cases e : b = k
  · subst e; simp [h]
  · have e2 : ¬ k = b := fun q => e q.symm
    simp [e, e2]
theorem BI_step {d many i b : Nat} {l ρ : Nat → Nat} {P : Nat → Bool} (hd : d ≤ 6) (h : BI d many l ρ P) (hi : i < many) (hb : b < d) (ht : (ρ i).testBit b = true) :
    (∀ j, j < many → l j ≠ l i ^^^ 2 ^ b) ∧ many < 64 ∧ BI d (many + 1) (uN2 l many (l i ^^^ 2 ^ b)) (uN2 (uN2 ρ i (ρ i ^^^ 2 ^ b)) many (ρ i ^^^ 2 ^ b)) (fun w => if w = l i ^^^ 2 ^ b then true else P w) := by
  obtain ⟨h1, h2, h3, h4⟩ := h
  have h6 := p2_le hd
  have hli := (h3 i hi).1
  have hw : l i ^^^ 2 ^ b < 2 ^ d := nb_lt hd hli hb
  have hbit : ∀ k, (ρ i ^^^ 2 ^ b).testBit k = ((ρ i).testBit k && !decide (k = b)) := tb_off ht
  have hsub : ∀ k, (ρ i).testBit k = false → (ρ i ^^^ 2 ^ b).testBit k = false := fun k hk => by rw [hbit, hk, Bool.false_and]
  have hne : ∀ j, j < many → l j ≠ l i ^^^ 2 ^ b := fun j hj e => by
    by_cases hij : j = i
    · subst hij
      have := congrArg (fun x => x.testBit b) e
      simp [Nat.testBit_xor, Nat.testBit_two_pow] at this
    · obtain ⟨k, k1, k2, k3⟩ := h4 j i hj hi hij
      have hkb : ¬ b = k := fun q => by rw [← q, ht] at k3; exact absurd k3 (by decide)
      rw [e, Nat.testBit_xor, Nat.testBit_xor, Nat.testBit_two_pow] at k1
      simp [hkb] at k1
  have hPw : P (l i ^^^ 2 ^ b) = false := by
    cases hq : P (l i ^^^ 2 ^ b) with
    | false => rfl
    | true =>
      obtain ⟨j, j1, j2⟩ := h2 _ (by omega) hq
      exact absurd j2 (hne j j1)
  have hct := fb_ct_upd P true (i := l i ^^^ 2 ^ b) (n := 64) (by omega)
  rw [hPw] at hct
  have hct2 : fb_ct (fun w => if w = l i ^^^ 2 ^ b then true else P w) 64 = fb_ct P 64 + 1 := by simpa using hct
  have hle := ct_le (fun w => if w = l i ^^^ 2 ^ b then true else P w) 64
  have hin : i ≠ many := by omega
  refine ⟨hne, by omega, by omega, fun w hw64 hPP => ?_, fun j hj => ?_, fun a c ha hc hac => ?_⟩
  · by_cases e : w = l i ^^^ 2 ^ b
    · exact ⟨many, by omega, by simp [uN2, e]⟩
    · obtain ⟨j, j1, j2⟩ := h2 w hw64 (by simpa [e] using hPP)
      exact ⟨j, by omega, by simp [uN2, show j ≠ many by omega, j2]⟩
  · have hx : ρ i ^^^ 2 ^ b < 2 ^ d := nb_lt hd (h3 i hi).2 hb
    by_cases e : j = many
    · simp [uN2, e, hw, hx]
    · have := h3 j (by omega)
      by_cases e2 : j = i
      · simp [uN2, e2, hin, hli, hx]
      · simp [uN2, e, e2, this]
  · have old : ∀ a c, a < many → c < many → a ≠ c → ∃ k, (l a ^^^ l c).testBit k = true ∧ (uN2 ρ i (ρ i ^^^ 2 ^ b) a).testBit k = false ∧ (uN2 ρ i (ρ i ^^^ 2 ^ b) c).testBit k = false := fun a c ha hc hac => by
      obtain ⟨k, k1, k2, k3⟩ := h4 a c ha hc hac
      refine ⟨k, k1, ?_, ?_⟩
      · by_cases e : a = i
        · rw [e] at k2; simp [uN2, e, hsub k k2]
        · simp [uN2, e, k2]
      · by_cases e : c = i
        · rw [e] at k3; simp [uN2, e, hsub k k3]
        · simp [uN2, e, k3]
    have new : ∀ a, a < many → ∃ k, (l a ^^^ (l i ^^^ 2 ^ b)).testBit k = true ∧ (uN2 ρ i (ρ i ^^^ 2 ^ b) a).testBit k = false ∧ (ρ i ^^^ 2 ^ b).testBit k = false := fun a ha => by
      by_cases e : a = i
      · refine ⟨b, ?_, ?_, ?_⟩
        · rw [e, Nat.testBit_xor, Nat.testBit_xor, Nat.testBit_two_pow_self]; simp
        · simp [uN2, e, hbit]
        · simp [hbit]
      · obtain ⟨k, k1, k2, k3⟩ := h4 a i ha hi e
        have hkb : ¬ b = k := fun q => by rw [← q, ht] at k3; exact absurd k3 (by decide)
        refine ⟨k, ?_, ?_, hsub k k3⟩
        · rw [Nat.testBit_xor, Nat.testBit_xor, Nat.testBit_two_pow]
          rw [Nat.testBit_xor] at k1
          simpa [hkb] using k1
        · simp [uN2, e, k2]
    by_cases ea : a = many
    · obtain ⟨k, k1, k2, k3⟩ := new c (by omega)
      have ec : c ≠ many := by omega
      refine ⟨k, ?_, ?_, ?_⟩
      · simp only [uN2, ea, if_pos, if_neg ec]
        rw [Nat.xor_comm]; exact k1
      · simp only [uN2, ea, if_pos]; exact k3
      · rw [show uN2 (uN2 ρ i (ρ i ^^^ 2 ^ b)) many (ρ i ^^^ 2 ^ b) c = uN2 ρ i (ρ i ^^^ 2 ^ b) c from if_neg ec]; exact k2
    · by_cases ec : c = many
      · obtain ⟨k, k1, k2, k3⟩ := new a (by omega)
        refine ⟨k, ?_, ?_, ?_⟩
        · simp only [uN2, ec, if_pos, if_neg ea]; exact k1
        · rw [show uN2 (uN2 ρ i (ρ i ^^^ 2 ^ b)) many (ρ i ^^^ 2 ^ b) a = uN2 ρ i (ρ i ^^^ 2 ^ b) a from if_neg ea]; exact k2
        · simp only [uN2, ec, if_pos]; exact k3
      · obtain ⟨k, k1, k2, k3⟩ := old a c (by omega) (by omega) hac
        refine ⟨k, ?_, ?_, ?_⟩
        · simp only [uN2, if_neg ea, if_neg ec]; exact k1
        · rw [show uN2 (uN2 ρ i (ρ i ^^^ 2 ^ b)) many (ρ i ^^^ 2 ^ b) a = uN2 ρ i (ρ i ^^^ 2 ^ b) a from if_neg ea]; exact k2
        · rw [show uN2 (uN2 ρ i (ρ i ^^^ 2 ^ b)) many (ρ i ^^^ 2 ^ b) c = uN2 ρ i (ρ i ^^^ 2 ^ b) c from if_neg ec]; exact k3
theorem BI_keep {d many i b : Nat} {l ρ : Nat → Nat} {P : Nat → Bool} (hd : d ≤ 6) (h : BI d many l ρ P) (hi : i < many) (hb : b < d) (ht : (ρ i).testBit b = true) : BI d many l (uN2 ρ i (ρ i ^^^ 2 ^ b)) P := by
  obtain ⟨h1, h2, h3, h4⟩ := h
  have hsub : ∀ k, (ρ i).testBit k = false → (ρ i ^^^ 2 ^ b).testBit k = false := fun k hk => by rw [tb_off ht, hk, Bool.false_and]
  refine ⟨h1, h2, fun j hj => ?_, fun a c ha hc hac => ?_⟩
  · have hx : ρ i ^^^ 2 ^ b < 2 ^ d := nb_lt hd (h3 i hi).2 hb
    have := h3 j hj
    by_cases e2 : j = i
    · rw [e2] at this; simp [uN2, e2, this.1, hx]
    · simp [uN2, e2, this]
  · obtain ⟨k, k1, k2, k3⟩ := h4 a c ha hc hac
    refine ⟨k, k1, ?_, ?_⟩
    · by_cases e : a = i
      · rw [e] at k2; simp [uN2, e, hsub k k2]
      · simp [uN2, e, k2]
    · by_cases e : c = i
      · rw [e] at k3; simp [uN2, e, hsub k k3]
      · simp [uN2, e, k3]
def BJ (d k v m : Nat) (s : BSt) : Prop := ∃ (ρ : Nat → Nat) (P : Nat → Bool), BI d s.1 s.2.2.2 ρ P ∧ k < s.1 ∧ s.2.2.2 k = v ∧ ρ k = m ∧ ∀ j, k < j → j < s.1 → s.2.2.1 (s.2.2.2 j) = ρ j
def BO (d k : Nat) (s : BSt) : Prop := ∃ (ρ : Nat → Nat) (P : Nat → Bool), BI d s.1 s.2.2.2 ρ P ∧ k ≤ s.1 ∧ ∀ j, k ≤ j → j < s.1 → s.2.2.1 (s.2.2.2 j) = ρ j
theorem BJ_out {d k v m : Nat} {s : BSt} (h : BJ d k v m s) : BO d (k + 1) s := by
  obtain ⟨ρ, P, h1, h2, -, -, h5⟩ := h
  exact ⟨ρ, P, h1, h2, fun j hj hj2 => h5 j hj hj2⟩
theorem BO_in {d k : Nat} {s : BSt} (h : BO d k s) (hk : k < s.1) : BJ d k (s.2.2.2 k) (s.2.2.1 (s.2.2.2 k)) s := by
  obtain ⟨ρ, P, h1, -, h5⟩ := h
  exact ⟨ρ, P, h1, hk, rfl, (h5 k (Nat.le_refl k) hk).symm, fun j hj hj2 => h5 j (Nat.le_of_lt hj) hj2⟩
theorem BJ_lt {d k v m : Nat} {s : BSt} (h : BJ d k v m s) : v < 2 ^ d ∧ m < 2 ^ d ∧ k < s.1 ∧ s.1 ≤ 64 ∧ s.2.2.2 k = v := by
  obtain ⟨ρ, P, ⟨h0, -, h3, -⟩, hk, hv, hm, -⟩ := h
  have := h3 k hk
  rw [hv, hm] at this
  exact ⟨this.1, this.2, hk, by rw [h0]; exact ct_le P 64, hv⟩
theorem BO_le {d k : Nat} {s : BSt} (h : BO d k s) : k ≤ s.1 ∧ s.1 ≤ 64 := by
  obtain ⟨ρ, P, ⟨h0, -⟩, hk, -⟩ := h
  exact ⟨hk, by rw [h0]; exact ct_le P 64⟩
theorem BJ_keep {d k v m b : Nat} {s : BSt} (hd : d ≤ 6) (h : BJ d k v m s) (hb : b < d) (ht : m.testBit b = true) : BJ d k v (m ^^^ 2 ^ b) s := by
  obtain ⟨ρ, P, h1, hk, hv, hm, h5⟩ := h
  subst hm
  refine ⟨uN2 ρ k (ρ k ^^^ 2 ^ b), P, BI_keep hd h1 hk hb ht, hk, hv, if_pos rfl, fun j hj hj2 => ?_⟩
  rw [h5 j hj hj2]
  exact (if_neg (by omega)).symm
theorem BJ_send {d k v m b : Nat} {s : BSt} (hd : d ≤ 6) (h : BJ d k v m s) (hb : b < d) (ht : m.testBit b = true) :
    BJ d k v (m ^^^ 2 ^ b) (snd1 v (m ^^^ 2 ^ b) (v ^^^ 2 ^ b) s) ∧ s.1 < 64 ∧ ∀ j, j < s.1 → s.2.2.2 j ≠ v ^^^ 2 ^ b := by
  obtain ⟨ρ, P, h1, hk, hv, hm, h5⟩ := h
  subst hm hv
  obtain ⟨k1, k2, k3⟩ := BI_step hd h1 hk hb ht
  refine ⟨⟨_, _, k3, Nat.lt_succ_of_lt hk, if_neg (by omega), ?_, fun j hj hj2 => ?_⟩, k2, k1⟩
  · show uN2 (uN2 ρ k _) s.1 _ k = _
    simp [uN2, show k ≠ s.1 by omega]
  · have hj3 : j < s.1 + 1 := hj2
    show uN2 s.2.2.1 _ _ (uN2 s.2.2.2 s.1 _ j) = uN2 (uN2 ρ k _) s.1 _ j
    by_cases e : j = s.1
    · simp [uN2, e]
    · have hne := k1 j (by omega)
      have := h5 j hj (by omega)
      have e2 : j ≠ k := by omega
      simp [uN2, e, e2, hne, this]
theorem CR_send {d v m w : Nat} {s : BSt} {T M Q : Nat → Int32} (hd : d ≤ 6) (hv : v < 64) (h : CR T M Q s) (hne : ∀ j, j < s.1 → s.2.2.2 j ≠ w) : CR (upd T w (T v + 1)) (upd M w (nI m)) (upd Q s.1 (nI w)) (snd1 v m w s) := by
  obtain ⟨h1, h2⟩ := h
  refine ⟨fun u hu => ?_, fun j hj => ?_⟩
  · show upd T w _ u = upd s.2.1 w _ u
    rw [h1 v hv]
    unfold upd
    by_cases e : u = w
    · simp [e]
    · simp [e, h1 u hu]
  · have hj3 : j < s.1 + 1 := hj
    show upd Q s.1 (nI w) j = nI (uN2 s.2.2.2 s.1 w j) ∧ upd M w (nI m) (uN2 s.2.2.2 s.1 w j) = nI (uN2 s.2.2.1 w m (uN2 s.2.2.2 s.1 w j))
    by_cases e : j = s.1
    · simp [uN2, upd, e]
    · have hne := hne j (by omega)
      have := h2 j (by omega)
      simp [uN2, upd, e, hne, this]
theorem off_bit2 : ∀ m, m < 64 → ∀ b, b < 6 → m.testBit b = true → nI m &&& (nI (2 ^ b) ^^^ (-1 : Int32)) = nI (m ^^^ 2 ^ b) := by decide +kernel
theorem s_timeOf {v : Nat} (T : Nat → Int32) (hv : v < 64) : f_X0_timeOf (nI v) T = some (T v) := zob_eq (s_read T hv (by decide))
theorem s_receive {w n : Nat} (x r : Int32) {T M Q : Nat → Int32} (hw : w < 64) (hn : n < 64) : f_X0_receive (nI w) x r (nI n) T M Q = some (nI (n + 1), upd T w x, upd M w r, upd Q n (nI w)) := by
  refine (zob_eq (s_write T x hw (by decide))).trans ((zob_eq (s_write M r hw (by decide))).trans ((zob_eq (s_write Q (nI w) hn (by decide))).trans (zbd_eq.trans ?_)))
  rw [nI_1]
theorem pss_none {d v m : Nat} {L : Nat → Nat} {al : Nat → Bool} {s : BSt} (n : Nat) (h : m = 0) : pss d L al v n m s = s := by
  cases n with
  | zero => rfl
  | succ n =>
    have : bestD d L v m = none := bst_none.mpr (fun k _ => by rw [h]; exact Nat.zero_testBit k)
    rw [pss, this]
theorem s_passOn {d k v m : Nat} {L : Nat → Nat} {a : Int64} {f T M Q : Nat → Int32} {s : BSt} (hd : d ≤ 6) (hf : ∀ w, w < 64 → f w = nI (L w)) (hL : ∀ w, w < 64 → L w ≤ 6) (hj : BJ d k v m s) (hc : CR T M Q s) (hm : s.2.2.1 v = m) :
    wp (f_X0_passOn (nI v) a (nI s.1) T M Q (nI d) f) (fun r => r.1 = nI (pss d L (zt a) v 6 m s).1 ∧ CR r.2.1 r.2.2.1 r.2.2.2 (pss d L (zt a) v 6 m s) ∧ BO d (k + 1) (pss d L (zt a) v 6 m s)) := by
  have h6 := p2_le hd
  obtain ⟨hv, hm2, hk, h64, hkv⟩ := BJ_lt hj
  have hM : M v = nI m := by
    have := (hc.2 k hk).2
    rw [hkv] at this
    rw [this, hm]
  refine wp_ob (s_read M (show v < 64 by omega) (by decide)) ?_
  rw [hM]
  refine zl6_wp (fun i5 i6 rc T M Q => ∃ m' n s', n ≤ 6 ∧ i5 = nI m' ∧ i6 = nI (6 - n) ∧ rc = nI s'.1 ∧ BJ d k v m' s' ∧ CR T M Q s' ∧ pc m' ≤ n ∧ pss d L (zt a) v n m' s' = pss d L (zt a) v 6 m s) (fun _ i6 _ _ _ _ => 100 - i6.toNatClampNeg) (fun K i5 i6 rc T M Q hI ih => ?_) (nI m) 0 (nI s.1) T M Q ⟨m, 6, s, Nat.le_refl 6, rfl, rfl, rfl, hj, hc, pc_le m, rfl⟩ (by decide)
  obtain ⟨m', n, s', hn, rfl, rfl, rfl, hj', hc', hp, e⟩ := hI
  obtain ⟨-, hm', hk', h64', -⟩ := BJ_lt hj'
  have done : m' = 0 → nI s'.1 = nI (pss d L (zt a) v 6 m s).1 ∧ CR T M Q (pss d L (zt a) v 6 m s) ∧ BO d (k + 1) (pss d L (zt a) v 6 m s) := fun h0 => by
    rw [pss_none n h0] at e
    rw [← e]
    exact ⟨rfl, hc', BJ_out hj'⟩
  by_cases hn0 : n = 0
  · refine wp_t (show nI 6 ≤ nI (6 - n) from nI_le (by omega) (by omega)) (wp_some (done ((pc_0 m' (by omega)).mp (by omega))))
  · refine wp_f (show ¬ nI 6 ≤ nI (6 - n) from nI_ge (by omega) (by decide)) ?_
    by_cases h0 : m' = 0
    · exact wp_t (by rw [h0]; rfl) (wp_some (done h0))
    · refine wp_f (nI_ne0 (by omega) (by omega)) ?_
      obtain ⟨b, hb, hbd, hbt⟩ := best_some (v := v) (L := L) hd hm' h0
      have hw : v ^^^ 2 ^ b < 2 ^ d := nb_lt hd hv hbd
      have hpf := pc_flip m' (by omega) b (by omega)
      rw [if_pos hbt] at hpf
      have hpp := pc_pos m' (by omega) b (by omega) hbt
      refine wp_ob (s_bestDimension hd (by omega) (by omega) hf hL) ?_
      rw [hb]
      refine wp_bd (wp_ob (s_neighbour v (by omega)) (wp_ob (s_contains a (by omega)) (wp_jp ?_)))
      dsimp only [bD]
      rw [p2_nI b (by omega), off_bit2 m' (by omega) b (by omega) hbt]
      obtain ⟨n, rfl⟩ : ∃ n', n = n' + 1 := ⟨n - 1, by omega⟩
      rw [pss, hb] at e
      dsimp only at e
      have ei : nI (6 - (n + 1)) + 1 = nI (6 - n) := by rw [nI_1]; congr 1; omega
      have emu : 100 - (nI (6 - n)).toNatClampNeg < 100 - (nI (6 - (n + 1))).toNatClampNeg := by
        rw [nI_clamp (by omega), nI_clamp (by omega)]; omega
      cases ha : zt a (v ^^^ 2 ^ b) with
      | false =>
        refine wp_t rfl (wp_bd ?_)
        rw [ei]
        rw [ha] at e
        exact ih _ _ _ _ _ _ ⟨_, n, s', by omega, rfl, rfl, rfl, BJ_keep hd hj' hbd hbt, hc', by omega, e⟩ emu
      | true =>
        obtain ⟨k1, k2, k3⟩ := BJ_send hd hj' hbd hbt
        refine wp_f (show ¬ bI true = 0 by decide) ?_
        refine wp_ob (s_timeOf T (show v < 64 by omega)) (wp_ob (s_receive _ _ (by omega) k2) (wp_bd ?_))
        rw [ei]
        rw [ha] at e
        exact ih _ _ _ _ _ _ ⟨_, n, _, by omega, rfl, rfl, rfl, k1, CR_send hd (by omega) hc' k3, by omega, e⟩ emu
theorem spr_00 : ∀ d, d < 7 → spr d 0 = 2 ^ d - 1 := by decide +kernel
theorem off_lt : ∀ m, m < 64 → ∀ b, b < 6 → m.testBit b = true → m ^^^ 2 ^ b < m := by decide +kernel
theorem CR_start {d a : Nat} {T M Q : Nat → Int32} (ha : a < 64) (hT : ∀ w, w < 64 → T w = -1) : CR (upd T a 0) (upd M a (nI (2 ^ d - 1))) (upd Q 0 (nI a)) (1, upd (fun _ => -1) a 0, uN2 (fun _ => 0) a (2 ^ d - 1), uN2 (fun _ => 0) 0 a) := by
  refine ⟨fun w hw => ?_, fun j hj => ?_⟩
  · show upd T a 0 w = upd (fun _ => -1) a 0 w
    unfold upd
    rw [hT w hw]
  · have : j = 0 := Nat.lt_one_iff.mp hj
    subst this
    simp [upd, uN2]
theorem BO_start {d a : Nat} (hd : d ≤ 6) (ha : a < 2 ^ d) (T : Nat → Int32) : BO d 0 (1, T, uN2 (fun _ => 0) a (2 ^ d - 1), uN2 (fun _ => 0) 0 a) := by
  have h6 := p2_le hd
  have hp := p2_pos d
  have hct := fb_ct_upd (fun _ => false) true (i := a) (n := 64) (by omega)
  have h0 : fb_ct (fun _ => false) 64 = 0 := fb_ct_zero.mpr (fun _ _ => rfl)
  refine ⟨fun _ => 2 ^ d - 1, fun w => if w = a then true else false, ⟨?_, fun w hw hP => ⟨0, Nat.one_pos, ?_⟩, fun j hj => ?_, fun i j hi hj hij => ?_⟩, Nat.zero_le _, fun j _ hj => ?_⟩
  · rw [h0] at hct
    simpa using hct.symm
  · by_cases e : w = a
    · simp [uN2, e]
    · simp [e] at hP
  · have : j = 0 := Nat.lt_one_iff.mp hj
    subst this
    refine ⟨?_, ?_⟩
    · show (if (0 : Nat) = 0 then a else 0) < 2 ^ d
      exact ha
    · show 2 ^ d - 1 < 2 ^ d
      omega
  · have h1 : i = 0 := Nat.lt_one_iff.mp hi
    have h2 : j = 0 := Nat.lt_one_iff.mp hj
    omega
  · have : j = 0 := Nat.lt_one_iff.mp hj
    subst this
    simp [uN2]
theorem s_run {d v : Nat} {L : Nat → Nat} {a : Int64} {f T M Q : Nat → Int32} {n0 : Int32} (hd : d ≤ 6) (hf : ∀ w, w < 64 → f w = nI (L w)) (hL : ∀ w, w < 64 → L w ≤ 6) (hv : v < 2 ^ d) :
    wp (f_X0_run (nI v) a n0 T M Q (nI d) f) (fun r => r.1 = nI (BR d L (zt a) v).1 ∧ CR r.2.1 r.2.2.1 r.2.2.2 (BR d L (zt a) v)) := by
  have h6 := p2_le hd
  obtain ⟨T1, e1, hT1⟩ := s_fillI (n := 64) (-1) T (by decide)
  have hs := s_spareOf (d := d) (m := 0) hd (by decide)
  rw [spr_00 d (by omega)] at hs
  refine wp_ob e1 (wp_ob (a := nI (2 ^ d - 1)) hs (wp_ob (a := (nI 1, upd T1 v 0, upd M v (nI (2 ^ d - 1)), upd Q 0 (nI v))) (s_receive (n := 0) 0 _ (by omega) (by decide)) ?_))
  refine zl5_wp (fun i5 rc T M Q => ∃ k n s, n + k = 64 ∧ i5 = nI k ∧ rc = nI s.1 ∧ BO d k s ∧ CR T M Q s ∧ brn d L (zt a) n k s = BR d L (zt a) v) (fun i5 _ _ _ _ => 100 - i5.toNatClampNeg) (fun K i5 rc T M Q hI ih => ?_) 0 _ _ _ _ ⟨0, 64, _, rfl, rfl, rfl, BO_start hd hv _, CR_start (by omega) hT1, rfl⟩ (by decide)
  obtain ⟨k, n, s, hnk, rfl, rfl, ho, hc, e⟩ := hI
  obtain ⟨hk, h64⟩ := BO_le ho
  by_cases hks : k < s.1
  · refine wp_f (nI_ge hks (by omega)) (wp_f (show ¬ nI 64 ≤ nI k from nI_ge (by omega) (by decide)) ?_)
    obtain ⟨n, rfl⟩ : ∃ n', n = n' + 1 := ⟨n - 1, by omega⟩
    rw [brn, if_pos hks] at e
    refine wp_ob (s_read Q (show k < 64 by omega) (by decide)) ?_
    rw [(hc.2 k hks).1]
    refine wp_obW (s_passOn hd hf hL (BO_in ho hks) hc rfl) (fun r hr => wp_bd ?_)
    obtain ⟨r1, r2, r3⟩ := hr
    rw [nI_1]
    exact ih _ _ _ _ _ ⟨k + 1, n, _, by omega, rfl, r1, r3, r2, e⟩ (by rw [nI_clamp (by omega), nI_clamp (by omega)]; omega)
  · have e2 : brn d L (zt a) n k s = s := by
      cases n with
      | zero => rfl
      | succ n => rw [brn, if_neg hks]
    rw [e2] at e
    refine wp_t (nI_le (by omega) (by omega)) (wp_some ?_)
    rw [← e]
    exact ⟨rfl, hc⟩
theorem m_fillm1' {R : Type} (f : Nat → Int32) (Y : (Nat → Int32) → Option R) : zl2 (R := R) (fun k17 (i3_17 : Int32) (c_17 : Nat → Int32) => if (64 : Int32) ≤ i3_17 then Y c_17 else zbd (-1 : Int32) (fun x23 => zgd (inb i3_17 64) (zbd (upd c_17 i3_17.toNatClampNeg x23) (fun y25 => zbd (i3_17 + 1) (fun x26 => k17 x26 y25))))) zfu 0 f = Y (zp f (fun _ => -1) 64) := m_fillm1 f Y