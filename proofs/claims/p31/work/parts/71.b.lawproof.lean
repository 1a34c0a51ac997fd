/-! the law answers 1 -/
section
variable {d : Nat}
theorem p_law {L : Nat} {xs bg0 : Nat → Int32} {cu0 : CU} (hL : L ≤ 260) (h2 : 2 ≤ d) (h5 : d ≤ 5) (h0 : INV 4 0 0 bg0 cu0) (hz : cu0.2.1.2.1 = 0) : wp (f_L_law L xs (nI d) bg0 cu0) (fun r => r = 1) := by
  have hd : d ≤ 6 := by omega
  have hd1 : 1 ≤ d := by omega
  have h32 := p2_32 h5
  have hp0 := p2_pos d
  unfold f_L_law
  refine wp_ob (o_undo_no hz) (wp_jq (fun K => ∀ c, INV d 0 0 bg0 c → wp (K 1 c) (fun r => r = 1)) (fun c hc => ?_) (fun K60 hK60 => ?_))
  case refine_2 =>
    refine wp_jp (wp_t rfl (wp_obW (o_setDim h0 hd1 hd) (fun u hu => wp_t (by rw [hu.1]; rfl) (wp_ob (p_refused hu.2.1 h5) (wp_f (show ¬ (1 : Int32) = 0 by decide) (hK60 _ hu.2))))))
  -- the rounds
  refine zl5_wpF 36 (fun j i4 i5 i6 bg cu => i5 = 1 ∧ i6 = nI j ∧ ∃ n, i4 = nI n ∧ INV d n (3 * j) bg cu) (by decide) (fun k65 j i4 i5 i6 bg cu hj hI kk => ?_) (fun k65 i4 i5 i6 bg cu hI => ?_) ⟨rfl, nI_0.symm, 0, nI_0.symm, hc⟩
  case refine_2 =>
    obtain ⟨rfl, rfl, -⟩ := hI
    exact wp_t (by decide) (wp_some rfl)
  obtain ⟨rfl, rfl, n, rfl, hC⟩ := hI
  have hn : n ≤ 24 := hC.1.2.2.1
  obtain ⟨x, ex⟩ := p_cell (j := 1 + j) hL (by omega) xs
  refine wp_f (nI_ge (b := 36) hj (by decide)) (wp_f (show ¬ (1 : Int32) = 0 by decide) ?_)
  rw [show (1 : Int32) + nI j = nI (1 + j) from nI_add 1 j, p2_nI d (by omega)]
  obtain ⟨a, ha, ea⟩ := p_low (x >>> ((6 : Int32) &&& 31)) (m := 2 ^ d) hp0 (by omega)
  obtain ⟨b, hb, eb⟩ := p_low (x >>> ((12 : Int32) &&& 31)) (m := 2 ^ d) hp0 (by omega)
  obtain ⟨r, hr, er⟩ := p_low x (m := 8) (by decide) (by decide)
  refine wp_ob ex (wp_ob ea (wp_ob eb (wp_ob (p_print hC.1 h5) (wp_ob (e_isAlive hC.1 ha) ?_))))
  refine wp_jq (fun K => ∀ lv, lv = bI (zt cu.1.2.1 a) → wp (K lv) (fun r => r = 1)) (fun lv hlv => ?_) (fun K135 hK => ?_)
  case refine_2 =>
    cases hl : zt cu.1.2.1 a with
    | true => exact wp_t rfl (hK 1 (by rw [hl]; rfl))
    | false => exact wp_f (by decide) (hK 0 (by rw [hl]; rfl))
  refine wp_jq (fun K => ∀ bo, bo = bI (zt cu.1.2.1 a && zt cu.1.2.1 b) → wp (K bo) (fun r => r = 1)) (fun bo hbo => ?_) (fun K157 hK => ?_)
  case refine_2 =>
    refine wp_jp ?_
    cases hl : zt cu.1.2.1 a with
    | false => exact wp_t (by rw [hlv, hl]; rfl) (hK 0 (by rw [hl]; rfl))
    | true =>
      refine wp_f (by rw [hlv, hl]; decide) (wp_ob (e_isAlive hC.1 hb) ?_)
      cases hl2 : zt cu.1.2.1 b with
      | true => exact wp_t rfl (hK 1 (by rw [hl, hl2]; rfl))
      | false => exact wp_f (by decide) (hK 0 (by rw [hl, hl2]; rfl))
  refine wp_ob er ?_
  refine wp_jq (fun K => ∀ i4 i5 i14 i15 bg' cu', P516 d n j bg cu i4 i5 i14 i15 bg' cu' → wp (K i4 i5 i14 i15 bg' cu') (fun r => r = 1)) (fun i4 i5 i14 i15 bg' cu' hP => ?_) (fun K516 hK516 => ?_)
  case refine_2 =>
    -- the operation
    refine wp_jq (fun K => wp K (fun r => r = 1)) (op_kill hC ha hlv K516 hK516) (fun K208 hk208 => ?_)
    refine wp_jq (fun K => wp K (fun r => r = 1)) (op_send hC ha hb hbo K516 hK516) (fun K331 hk331 => ?_)
    refine wp_ite (fun _ => hk208) (fun _ => wp_ite (fun _ => hk208) (fun _ => wp_ite (fun _ => ?_) (fun _ => wp_ite (fun _ => hk331) (fun _ => wp_ite (fun _ => hk331) (fun _ => ?_)))))
    · have hrv := op_revive hC h5 ha hlv K516 hK516
      rw [p2_nI d (by omega)] at hrv
      exact hrv
    · exact op_step hC hj K516 hK516
  obtain ⟨rfl, hP⟩ := hP
  -- behind it, perhaps undone
  refine wp_jq (fun K => ∀ i4 i5 c2, (i5 = 1 ∧ ∃ n2, i4 = nI n2 ∧ INV d n2 (3 * j + 3) bg' c2 ∧ (0 ≤ i14 ∨ f_L_print (nI d) c2 = some (PR d n cu.1.2.1 cu.1.2.2.2.2.1 cu.1.2.2.2.2.2.1 cu.1.2.2.2.2.2.2.2.1))) → wp (K i4 i5 c2) (fun r => r = 1)) (fun i4' i5 c2 hQ => ?_) (fun K569 hK => ?_)
  case refine_2 =>
    refine wp_f (show ¬ (1 : Int32) = 0 by decide) ?_
    rcases hP with ⟨rfl, rfl, rfl, rfl⟩ | ⟨q, k, hq, hk, rfl, rfl, rfl, hI', hLst, hbg⟩
    · exact wp_t (by decide) (hK _ _ _ ⟨rfl, n, rfl, hC.mono (by omega), Or.inr (p_print hC.1 h5)⟩)
    · refine wp_f (nI_pos (by omega)) (wp_ite (fun _ => ?_) (fun _ => hK _ _ _ ⟨rfl, n + k, rfl, hI', Or.inl (nI_pos' (by omega))⟩))
      refine wp_obW (o_undo (bg' := bg') hC hbg hLst) (fun u hu => ?_)
      obtain ⟨⟨q2, hq2, e2⟩, hI2, hs2⟩ := hu
      refine wp_jq (fun K => wp (K 1) (fun r => r = 1)) ?_ (fun K560 hk => ?_)
      · refine wp_bd ?_
        rw [nI_sub (show k ≤ n + k by omega), Nat.add_sub_cancel]
        exact hK _ _ _ ⟨rfl, n, rfl, hI2.mono (by omega), Or.inl (nI_pos' (by omega))⟩
      · refine wp_jp (wp_f (by rw [e2]; exact nI_pos (by omega)) (wp_ob (p_print hI2.1 h5) (wp_t ?_ hk)))
        exact (lg_cmp0 _ _).mpr (PR_eqv hn hs2)
  obtain ⟨rfl, n2, rfl, hI2, hpr⟩ := hQ
  obtain ⟨hC2, hM2, -⟩ := id hI2
  have hn2 : n2 ≤ 24 := hC2.2.2.1
  refine wp_jq (fun K => wp (K 1) (fun r => r = 1)) ?_ (fun K617 hk => ?_)
  case refine_2 =>
    refine wp_jp (wp_f (show ¬ (1 : Int32) = 0 by decide) (wp_jq (fun K => wp K (fun r => r = 1)) ?_ (fun K590 hk2 => ?_)))
    · refine wp_ob (e_count hC2 (x := 0) (by omega)) (wp_ob (e_count hC2 (x := 1) (by omega)) (wp_ob (e_count hC2 (x := 2) (by omega)) (wp_t ?_ hk)))
      rw [nI_add, nI_add]
      congr 1
      exact ct3 (fun i hi => by
        obtain ⟨b, p, g, m, x, j, q1, q2, q3, q4, q5, q6, q7, q8, q9, -⟩ := hM2 i hi
        exact ⟨x, q4, q9⟩)
    · rcases hpr with z | z
      · exact wp_t z hk2
      · refine wp_ite (fun _ => hk2) (fun _ => wp_ob z (wp_t ((lg_cmp0 _ _).mpr rfl) hk2))
  -- where each message has come
  refine zl2_wpF n2 (fun i i5 i16 => i5 = 1 ∧ i16 = nI i) (by omega) (fun k622 i i5 i16 hi hI kk2 => ?_) (fun k622 i5 i16 hI => ?_) ⟨rfl, nI_0.symm⟩
  case refine_1 =>
    obtain ⟨rfl, rfl⟩ := hI
    obtain ⟨bb, p, g, m, x', jj, q1, q2, q3, q4, q5, q6, q7, q8, q9, q10, q11⟩ := hM2 i hi
    have hx : bb ^^^ p < 64 := xor_lt (by omega) (by omega)
    have hmv := e_moves hC2 hi
    have hpo := e_position hC2 hi
    rw [show c2.1.2.2.2.2.2.2.2.1 i = nI m from q8] at hmv
    rw [show c2.1.2.2.2.2.2.1 i = nI p from q6] at hpo
    have hon : f_L_ones (bg' (nI i : Int32).toNatClampNeg ^^^ nI p) = some (nI (pc (bb ^^^ p))) := by
      rw [nI_clamp (by omega), q5, nx_xor]; exact p_ones _ hx
    have hg : inb (nI i) 24 = true := inb_nI (by omega) (by decide)
    refine wp_jp (wp_f (nI_ge hi (by omega)) (wp_f (show ¬ (1 : Int32) = 0 by decide) (wp_ob hmv (wp_gd hg (wp_ob hpo (wp_ob hon ?_))))))
    refine wp_jp (wp_jp (wp_t ?_ (wp_ob hmv (wp_gd hg (wp_ob hpo (wp_ob hon (wp_f (nI_nlt (by omega) (by omega)) (wp_bd (kk2 _ _ ⟨rfl, nI_1 _⟩)))))))))
    rw [nI_sub (by omega), show m - pc (bb ^^^ p) = 2 * jj by omega]
    exact ev_mod jj (by omega)
  obtain ⟨rfl, rfl⟩ := hI
  refine wp_jp (wp_t (nI_le (Nat.le_refl _) (by omega)) ?_)
  -- the questions
  refine wp_jq (fun K => ∀ c, SAME c2 c → wp (K 1 c) (fun r => r = 1)) (fun c hS => ?_) (fun K767 hk => ?_)
  case refine_2 =>
    refine wp_jp (wp_f (show ¬ (1 : Int32) = 0 by decide) (wp_ob (p_isRoute hC2 ha hb) (wp_f (show ¬ (1 : Int32) = 0 by decide) ?_)))
    refine wp_jq (fun K => wp K (fun r => r = 1)) ?_ (fun K736 hk2 => ?_)
    · refine wp_jq (fun K => ∀ c, SAME c2 c → wp (K c) (fun r => r = 1)) (fun c hc => hk c hc) (fun K762 hk3 => ?_)
      refine wp_ite (fun _ => wp_ob (e_isAlive hC2 ha) ?_) (fun _ => hk3 _ SAME.rfl')
      cases hl : zt c2.1.2.1 a with
      | false => exact wp_t rfl (hk3 _ SAME.rfl')
      | true => exact wp_f (by decide) (wp_obW (p_isBroadcast hC2 h5 ha hl) (fun u hu => wp_f (by rw [hu.1]; decide) (hk3 _ hu.2)))
    · refine wp_ite (fun _ => wp_ob (p_areLevels hC2 h5) (wp_f (show ¬ (1 : Int32) = 0 by decide) (wp_ob (p_areSubcubes hC2 h5) (wp_f (show ¬ (1 : Int32) = 0 by decide) hk2)))) (fun _ => hk2)
  have hCc := hC2.same hS
  refine wp_jq (fun K => ∀ c, SAME c2 c → wp (K 1 c) (fun r => r = 1)) (fun c3 hS3 => ?_) (fun K841 hk => ?_)
  case refine_1 =>
    refine wp_bd (kk _ _ _ _ _ ⟨rfl, nI_1 _, n2, rfl, ?_⟩)
    exact (hI2.same hS3).mono (by omega)
  refine wp_jp (wp_f (show ¬ (1 : Int32) = 0 by decide) ?_)
  refine wp_jq (fun K => ∀ c, SAME c2 c → wp (K c) (fun r => r = 1)) (fun c4 hS4 => ?_) (fun K819 hk2 => ?_)
  case refine_1 =>
    refine wp_jq (fun K => ∀ c, SAME c2 c → wp (K c) (fun r => r = 1)) (fun c5 hS5 => hk c5 hS5) (fun K836 hk3 => ?_)
    exact wp_ite (fun _ => wp_ob (p_refused (hC2.same hS4) h5) (wp_f (show ¬ (1 : Int32) = 0 by decide) (hk3 _ hS4))) (fun _ => hk3 _ hS4)
  refine wp_ite (fun _ => wp_ite (fun _ => hk2 _ hS) (fun hne => wp_ob (e_isAlive hCc ha) ?_)) (fun _ => hk2 _ hS)
  cases hl : zt c.1.2.1 a with
  | false => exact wp_t rfl (hk2 _ hS)
  | true =>
    refine wp_f (by decide) (wp_ob (e_isAlive hCc hb) ?_)
    cases hl2 : zt c.1.2.1 b with
    | false => exact wp_t rfl (hk2 _ hS)
    | true => exact wp_f (by decide) (wp_obW (p_arePaths hCc h2 h5 ha hb (fun q => hne (by rw [q])) hl hl2) (fun u hu => wp_f (by rw [hu.1]; decide) (hk2 _ (SAME.trans' hS hu.2))))
end
