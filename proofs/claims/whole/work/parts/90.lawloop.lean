/-! the law's loop -/
theorem and31 (x : Int32) : ∃ q, q < 32 ∧ x &&& 31 = nI q := by
  refine ⟨(x.toBitVec &&& 31#32).toNat, ?_, ?_⟩
  · rw [BitVec.toNat_and]
    exact Nat.lt_of_le_of_lt Nat.and_le_right (by decide)
  · apply Int32.toBitVec_inj.mp
    rw [Int32.toBitVec_and]
    show x.toBitVec &&& 31#32 = BitVec.ofNat 32 (x.toBitVec &&& 31#32).toNat
    rw [BitVec.ofNat_toNat, BitVec.setWidth_eq]
theorem lsub4 {L j : Nat} (hL : L ≤ 2048) (hj : 4 * j ≤ 3000) (h : ¬ nI L - (4 : Int32) < nI (4 * j)) : 4 * j + 4 ≤ L := by
  rcases Nat.lt_or_ge L (4 * j + 4) with q | q
  · exfalso
    apply h
    rcases Nat.lt_or_ge L 4 with r | r
    · have h0 : ∀ L, L < 4 → nI L - (4 : Int32) < 0 := by decide
      exact Int32.lt_of_lt_of_le (h0 L r) (nI_le (a := 0) (Nat.zero_le _) (by omega))
    · rw [show nI L - (4 : Int32) = nI (L - 4) from nI_sub (a := L) (b := 4) (by omega)]
      exact nI_lt (by omega) (by omega)
  · exact q
theorem lin {L i n : Nat} (h : i + n < L) (hL : L ≤ 2048) (x : Int32) (hx : x = nI n) : vp_in (nI i + x) L := by
  rw [hx, nI_add]
  exact inb_in (inb_nI h (by omega))
set_option maxHeartbeats 4000000 in
theorem law_loop {p : Program} {l : Launch} {e : Env} {s : State} {m : MethodId} {below : List Frame} {meth : Method} {c : Code} {b L : Nat} {xs : Nat → Int32} {D : va_G} {qx qm qo : Nat} {U V : (Nat → Nat) × (Nat → ClassId)} {ko : ClassId} (C0 : LC p l s m c b L xs D (fun q : Nat => s.heap.size ≤ q) (TW U V ko)) (hL : L ≤ 2048) (hr : meth.sig.returnType = ret) (hlocks : meth.locks = false) :
    ∀ (k j cells slots : Nat) (z : Sl) (g : RG) (t : SF) (bc : BC) (pk : PK) (uw : Nat → Int32) (y : MS) (o : Nat → Int64) (H : Heap) (locs : List Loc) (ls : Array Slot), L ≤ 4 * j + 4 * k → 4 * j ≤ 2051 → cells + 5 * k ≤ 601024 → slots + 30 * k ≤ 7293034 → REL z g t y.1 y.2.2.2.2.1 y.2.2.2.2.2.1 → va_P D vwCl (LW qx qm qo U V ko z g t bc pk uw y o) H → va_D (fun q : Nat => s.heap.size ≤ q) (LW qx qm qo U V ko z g t bc pk uw y o) → va_S (fun q : Nat => s.heap.size ≤ q) s.heap H locs → lv_has ls 7 [(4, .int (nI (4 * j))), (3, .ref qo), (2, .ref qm), (1, .ref qx), (0, .ref b)] →
    W p l e room_1 s m #[Value.ref b] below meth c H locs cells slots (lw_Z below #[Value.ref b] s) (F0 m 23 ls []) := by
  intro k
  obtain ⟨hx, hb, hml, hown, hts, hl0, hX, hbl, hbA, hA, hE, hK⟩ := id C0
  induction k with
  | zero =>
    intro j cells slots z g t bc pk uw y o H locs ls hk hj hc hs hR hP hD hS hl
    refine lv_iload hx hb dL_law_23 (lv_at hl 0 rfl) ?_
    refine lv_aload_n hx hb dL_law_25 rfl (lv_at hl 4 rfl) ?_
    refine va_slen hx hb hX hbl hbA hS dL_law_26 ?_
    refine lv_iconst (v := 4) hx hb dL_law_27 (by decide) ?_
    refine lv_isub hx hb dL_law_28 ?_
    refine lv_icmp_gt (tgt := 1663) hx hb dL_law_29 (by decide) (fun cd => ?_) (fun cd => absurd (lsub4 (j := j) hL (by omega) cd) (by omega))
    refine lv_iconst (v := 1) hx hb dL_law_1663 (by decide) ?_
    refine va_forget (fun q hq => hS.2.2 q hq) (W.widen (k := 601024) (n := 7293034) (by omega) (by omega) ?_)
    exact lw_ret hx hb hr hlocks dL_law_1664
  | succ k ih =>
    intro j cells slots z g t bc pk uw y o H locs ls hk hj hc hs hR hP hD hS hl
    refine lv_iload hx hb dL_law_23 (lv_at hl 0 rfl) ?_
    refine lv_aload_n hx hb dL_law_25 rfl (lv_at hl 4 rfl) ?_
    refine va_slen hx hb hX hbl hbA hS dL_law_26 ?_
    refine lv_iconst (v := 4) hx hb dL_law_27 (by decide) ?_
    refine lv_isub hx hb dL_law_28 ?_
    refine lv_icmp_gt (tgt := 1663) hx hb dL_law_29 (by decide) (fun cd => ?_) (fun cd => ?_)
    · refine lv_iconst (v := 1) hx hb dL_law_1663 (by decide) ?_
      refine va_forget (fun q hq => hS.2.2 q hq) (W.widen (k := 601024) (n := 7293034) (by omega) (by omega) ?_)
      exact lw_ret hx hb hr hlocks dL_law_1664
    have h4 : 4 * j + 4 ≤ L := lsub4 hL (by omega) cd
    have hi0 : vp_in (nI (4 * j)) L := inb_in (inb_nI (by omega) (by omega))
    have hi1 : vp_in (nI (4 * j) + 1) L := lin (n := 1) (by omega) hL 1 rfl
    have hi2 : vp_in (nI (4 * j) + 2) L := lin (n := 2) (by omega) hL 2 rfl
    have hi3 : vp_in (nI (4 * j) + 3) L := lin (n := 3) (by omega) hL 3 rfl
    have hc5 : cells + 5 ≤ room_1.cells := show cells + 5 ≤ 601024 by omega
    have hs30 : slots + 30 ≤ room_1.slots := show slots + 30 ≤ 7293034 by omega
    have hCK : CK p l e s m below meth c b D (fun q : Nat => s.heap.size ≤ q) qx qm qo U V ko (lw_Z below #[Value.ref b] s) (nI (4 * j)) (cells + 5) (slots + 30) := by
      intro z g t bc pk uw y o H locs ls hR hP hD hS hl
      refine lv_iinc (v := nI (4 * (j + 1))) (lv' := [(4, .int (nI (4 * (j + 1)))), (3, .ref qo), (2, .ref qm), (1, .ref qx), (0, .ref b)]) hx hb dL_law_1657 hl (k := 0) rfl (nI_addc (b := 4) (by omega)) (by decide) rfl (fun ls hl => ?_)
      refine lv_goto (tgt := 23) hx hb dL_law_1660 (by decide) ?_
      exact ih (j + 1) _ _ z g t bc pk uw y o H locs ls (by omega) (by omega) (by omega) (by omega) hR hP hD hS hl
    refine lv_aload_n hx hb dL_law_32 rfl (lv_at hl 4 rfl) ?_
    refine lv_iload hx hb dL_law_33 (lv_at hl 0 rfl) ?_
    refine va_sld hx hb hX hbl hbA hS hi0 dL_law_35 ?_
    refine lv_bipush (v := 31) hx hb dL_law_36 (by decide) ?_
    refine lv_iand hx hb dL_law_38 ?_
    obtain ⟨q, hq, eq⟩ := and31 (xs (nI (4 * j)).toNatClampNeg)
    rw [eq]
    match q, hq with
    | 0, _ => exact lv_tableIn (off := 125) (tgt := 164) hx hb dL_law_39 (by decide) (by decide) rfl rfl (cs_setDimension C0 hi1 hc5 hs30 hl hP hD hS hR hCK)
    | 1, _ => exact lv_tableIn (off := 181) (tgt := 220) hx hb dL_law_39 (by decide) (by decide) rfl rfl (cs_kill C0 hi1 hc5 hs30 hl hP hD hS hR hCK)
    | 2, _ => exact lv_tableIn (off := 237) (tgt := 276) hx hb dL_law_39 (by decide) (by decide) rfl rfl (cs_revive C0 hi1 hc5 hs30 hl hP hD hS hR hCK)
    | 3, _ => exact lv_tableIn (off := 293) (tgt := 332) hx hb dL_law_39 (by decide) (by decide) rfl rfl (cs_killAll C0 hi1 hc5 hs30 hl hP hD hS hR hCK)
    | 4, _ => exact lv_tableIn (off := 318) (tgt := 357) hx hb dL_law_39 (by decide) (by decide) rfl rfl (cs_isAlive C0 hi1 hc5 hs30 hl hP hD hS hR hCK)
    | 5, _ => exact lv_tableIn (off := 381) (tgt := 420) hx hb dL_law_39 (by decide) (by decide) rfl rfl (cs_distance C0 hi1 hi2 hc5 hs30 hl hP hD hS hR hCK)
    | 6, _ => exact lv_tableIn (off := 449) (tgt := 488) hx hb dL_law_39 (by decide) (by decide) rfl rfl (cs_shortest C0 hi1 hi2 hc5 hs30 hl hP hD hS hR hCK)
    | 7, _ => exact lv_tableIn (off := 517) (tgt := 556) hx hb dL_law_39 (by decide) (by decide) rfl rfl (cs_level C0 hi1 hc5 hs30 hl hP hD hS hR hCK)
    | 8, _ => exact lv_tableIn (off := 573) (tgt := 612) hx hb dL_law_39 (by decide) (by decide) rfl rfl (cs_rounds C0  hc5 hs30 hl hP hD hS hR hCK)
    | 9, _ => exact lv_tableIn (off := 586) (tgt := 625) hx hb dL_law_39 (by decide) (by decide) rfl rfl (cs_safeNodes C0  hc5 hs30 hl hP hD hS hR hCK)
    | 10, _ => exact lv_tableIn (off := 599) (tgt := 638) hx hb dL_law_39 (by decide) (by decide) rfl rfl (cs_vectorBit C0 hi1 hi2 hc5 hs30 hl hP hD hS hR hCK)
    | 11, _ => exact lv_tableIn (off := 667) (tgt := 706) hx hb dL_law_39 (by decide) (by decide) rfl rfl (cs_decide C0 hi1 hi2 hc5 hs30 hl hP hD hS hR hCK)
    | 12, _ => exact lv_tableIn (off := 735) (tgt := 774) hx hb dL_law_39 (by decide) (by decide) rfl rfl (cs_routeLength C0 hi1 hi2 hc5 hs30 hl hP hD hS hR hCK)
    | 13, _ => exact lv_tableIn (off := 803) (tgt := 842) hx hb dL_law_39 (by decide) (by decide) rfl rfl (cs_routeNode C0 hi1 hi2 hi3 hc5 hs30 hl hP hD hS hR hCK)
    | 14, _ => exact lv_tableIn (off := 883) (tgt := 922) hx hb dL_law_39 (by decide) (by decide) rfl rfl (cs_reach C0 hi1 hi2 hc5 hs30 hl hP hD hS hR hCK)
    | 15, _ => exact lv_tableIn (off := 951) (tgt := 990) hx hb dL_law_39 (by decide) (by decide) rfl rfl (cs_broadcastTime C0 hi1 hi2 hc5 hs30 hl hP hD hS hR hCK)
    | 16, _ => exact lv_tableIn (off := 1019) (tgt := 1058) hx hb dL_law_39 (by decide) (by decide) rfl rfl (cs_broadcastSize C0 hi1 hc5 hs30 hl hP hD hS hR hCK)
    | 17, _ => exact lv_tableIn (off := 1075) (tgt := 1114) hx hb dL_law_39 (by decide) (by decide) rfl rfl (cs_freeSubcubes C0 hi1 hc5 hs30 hl hP hD hS hR hCK)
    | 18, _ => exact lv_tableIn (off := 1131) (tgt := 1170) hx hb dL_law_39 (by decide) (by decide) rfl rfl (cs_largestSubcube C0  hc5 hs30 hl hP hD hS hR hCK)
    | 19, _ => exact lv_tableIn (off := 1144) (tgt := 1183) hx hb dL_law_39 (by decide) (by decide) rfl rfl (cs_disjointPaths C0 hi1 hi2 hc5 hs30 hl hP hD hS hR hCK)
    | 20, _ => exact lv_tableIn (off := 1212) (tgt := 1251) hx hb dL_law_39 (by decide) (by decide) rfl rfl (cs_send C0 hi1 hi2 hc5 hs30 hl hP hD hS hR hCK)
    | 21, _ => exact lv_tableIn (off := 1280) (tgt := 1319) hx hb dL_law_39 (by decide) (by decide) rfl rfl (cs_step C0 hi1 hc5 hs30 hl hP hD hS hR hCK)
    | 22, _ => exact lv_tableIn (off := 1336) (tgt := 1375) hx hb dL_law_39 (by decide) (by decide) rfl rfl (cs_state C0 hi1 hc5 hs30 hl hP hD hS hR hCK)
    | 23, _ => exact lv_tableIn (off := 1392) (tgt := 1431) hx hb dL_law_39 (by decide) (by decide) rfl rfl (cs_position C0 hi1 hc5 hs30 hl hP hD hS hR hCK)
    | 24, _ => exact lv_tableIn (off := 1448) (tgt := 1487) hx hb dL_law_39 (by decide) (by decide) rfl rfl (cs_moves C0 hi1 hc5 hs30 hl hP hD hS hR hCK)
    | 25, _ => exact lv_tableIn (off := 1504) (tgt := 1543) hx hb dL_law_39 (by decide) (by decide) rfl rfl (cs_count C0 hi1 hc5 hs30 hl hP hD hS hR hCK)
    | 26, _ => exact lv_tableIn (off := 1560) (tgt := 1599) hx hb dL_law_39 (by decide) (by decide) rfl rfl (cs_undo C0  hc5 hs30 hl hP hD hS hR hCK)
    | 27, _ => exact lv_tableIn (off := 1604) (tgt := 1643) hx hb dL_law_39 (by decide) (by decide) rfl rfl (cs_digest C0  hc5 hs30 hl hP hD hS hR hCK)
    | q + 28, hq =>
      have hout : (nI (q + 28)).toInt < 0 ∨ 27 < (nI (q + 28)).toInt := Or.inr (by rw [nI_toInt (by omega)]; omega)
      refine lv_tableOut (tgt := 1657) hx hb dL_law_39 hout rfl ?_
      refine W.widen (k := cells + 5) (n := slots + 30) (Nat.le_add_right _ _) (Nat.le_add_right _ _) ?_
      exact hCK z g t bc pk uw y o H locs ls hR hP hD hS hl
