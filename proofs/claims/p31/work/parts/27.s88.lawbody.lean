set_option maxHeartbeats 8000000 in
set_option maxRecDepth 100000 in
theorem law_body {p : Program} {e : Env} {s : State} {m : MethodId} {below : List Frame} {meth : Method} {c : Code} {l : Launch} {b L : Nat} {xs : Nat → Int32} {D : va_G} {A : Nat → Prop} {qx qb : Nat} {kb : ClassId} {U : (Nat → Nat) × (Nat → ClassId)} (hAA : A = fun q : Nat => s.heap.size ≤ q)
    (hx : p.tables.exec = Jvm.exec) (hb : c.code = cL_law) (hr : meth.sig.returnType = ret) (hml : c.maxLocals = 18) (hown : s.vm.findClass RL = some m.cls) (hts : ∀ w ∈ wsL_law, w.before #[Value.ref b] s = true) (hl0 : l.stackTraces = false) (hX : va_X b L xs s s.heap) (hbl : b < s.heap.size) (hlocks : meth.locks = false)
    (hE : ev_ok A s) (hK : va_K D vwCl ((kb, .int) :: TTC U) s) (a2 : Int32) (c_bg : Nat → Int32) (cu : CU) (res : rt_L_law) (hf : f_L_law L xs a2 c_bg cu = some res) (hres : res = 1) :
    ∀ (H : Heap) (locs : List Loc) (ls : Array Slot), va_P D vwCl ((qb, .inl (kb, 24, .inl c_bg)) :: TWC qx U cu) H → va_D A ((qb, .inl (kb, 24, .inl c_bg)) :: TWC qx U cu) → va_S A s.heap H locs → lv_has ls 18 [(3, .ref qb), (2, .int a2), (1, .ref qx), (0, .ref b)] → W p l e room_1 s m #[Value.ref b] below meth c H locs 400 2400 (lw_Z below #[Value.ref b] s) (F0 m 25 ls []) := by
  intro H locs ls hP hD hS hl
  have hbA : ¬ A b := by rw [hAA]; exact Nat.not_le.mpr hbl
  have hA : ∀ q : Nat, s.heap.size ≤ q → A q := fun q h => by rw [hAA]; exact h
  have hS0 : ∀ {H : Heap} {locs : List Loc}, va_S A s.heap H locs → ∀ q ∈ locs, s.heap.size ≤ q.base := fun h q hq => by have := h.2.2 q hq; rw [hAA] at this; exact this
  unfold f_L_law at hf
  refine lv_iconst (v := 0) hx hb dL_law_25 (by decide) ?_
  refine lv_istore (lv' := [(4, .int 0), (3, .ref qb), (2, .int a2), (1, .ref qx), (0, .ref b)]) hx hb dL_law_26 hl (by decide) rfl (fun ls hl => ?_)
  refine lv_aload_n hx hb dL_law_28 rfl (lv_at hl 3 rfl) ?_
  replace hf := zob_some hf
  obtain ⟨u1, hu1, hf⟩ := hf
  have hc1 := cq_L_undo l D H.size qx U cu  hl0 u1 hu1
  refine kzc_i (D := D) (v := u1.1) (w1 := TWC qx U u1.2) (av := [.ref qx]) hK hP hD hS hA hE (fun hb1 hp1 => vx_runSW (As := [.ref qx]) (rest := []) ⟨hx, hb, hml, hown, hts⟩ hc1 (vx_cwSW 1 hts gL_law_L_undo rfl rfl rfl (by decide +kernel) ⟨Nat.le_of_ble_eq_true rfl, Nat.le_of_ble_eq_true rfl⟩) ⟨hb1, hp1⟩ rfl rfl hl.1 rfl (lv_room (Nat.le_of_ble_eq_true rfl)) dL_law_29 ⟨(by show 400 + 1 ≤ 685909; omega), (by show 2400 + 6 ≤ 7043741; omega)⟩) (fun H locs hP hD hS => ?_)
  have hP : va_P D vwCl ((qb, .inl (kb, 24, .inl c_bg)) :: TWC qx U u1.2) H := hP
  have hD : va_D A ((qb, .inl (kb, 24, .inl c_bg)) :: TWC qx U u1.2) := hD
  refine lv_sipush (v := (-2000)) hx hb dL_law_32 (by decide) ?_
  replace hf := zjp_some hf
  obtain ⟨K60, eK60, hf⟩ := hf
  have j60 : ∀ (s0_60 : Int32) (v_o_S_60 : CU), K60 s0_60 v_o_S_60 = some res → ∀ (H : Heap) (locs : List Loc) (ls : Array Slot), va_P D vwCl ((qb, .inl (kb, 24, .inl c_bg)) :: TWC qx U v_o_S_60) H → va_D A ((qb, .inl (kb, 24, .inl c_bg)) :: TWC qx U v_o_S_60) → va_S A s.heap H locs → lv_has ls 18 [(0, .ref b), (1, .ref qx), (2, .int a2), (3, .ref qb), (4, .int 0)] → W p l e room_1 s m #[Value.ref b] below meth c H locs 945 5670 (lw_Z below #[Value.ref b] s) (F0 m 60 ls [.int s0_60]) := by
    intro s0_60 v_o_S_60 hf H locs ls hP hD hS hl
    replace hf := zap2 eK60 hf
    refine lv_istore (lv' := [(5, .int s0_60), (0, .ref b), (1, .ref qx), (2, .int a2), (3, .ref qb), (4, .int 0)]) hx hb dL_law_60 hl (by decide) rfl (fun ls hl => ?_)
    refine lv_iconst (v := 0) hx hb dL_law_62 (by decide) ?_
    refine lv_istore (lv' := [(6, .int 0), (5, .int s0_60), (0, .ref b), (1, .ref qx), (2, .int a2), (3, .ref qb), (4, .int 0)]) hx hb dL_law_63 hl (by decide) rfl (fun ls hl => ?_)
    replace hf := zl5_some hf
    obtain ⟨F65, eF65, hf⟩ := hf
    have h65 : ∀ (n65 : Nat) (i4_65 : Int32) (i5_65 : Int32) (i6_65 : Int32) (c_bg_65 : (Nat → Int32)) (v_o_S_65 : CU), zl5 F65 n65 i4_65 i5_65 i6_65 c_bg_65 v_o_S_65 = some res → ∀ (cells65 slots65 : Nat), cells65 + n65 * 6742 ≤ 270625 → slots65 + n65 * 40452 ≤ 1623750 → ∀ (H : Heap) (locs : List Loc) (ls : Array Slot), va_P D vwCl ((qb, .inl (kb, 24, .inl c_bg_65)) :: TWC qx U v_o_S_65) H → va_D A ((qb, .inl (kb, 24, .inl c_bg_65)) :: TWC qx U v_o_S_65) → va_S A s.heap H locs → lv_has ls 18 [(0, .ref b), (1, .ref qx), (2, .int a2), (3, .ref qb), (4, .int i4_65), (5, .int i5_65), (6, .int i6_65)] → W p l e room_1 s m #[Value.ref b] below meth c H locs (cells65 + 0) (slots65 + 0) (lw_Z below #[Value.ref b] s) (F0 m 65 ls []) := by
      intro n65
      induction n65 with
      | zero => intro i4_65 i5_65 i6_65 c_bg_65 v_o_S_65 hf; exact (zl5_zero hf).elim
      | succ n65 ih65 =>
        intro i4_65 i5_65 i6_65 c_bg_65 v_o_S_65 hf cells65 slots65 hc65 hs65 H locs ls hP hD hS hl
        replace hf := zl5_step eF65 hf
        generalize zl5 F65 n65 = k65 at hf ih65
        refine lv_iload hx hb dL_law_65 (lv_at hl 6 rfl) ?_
        refine lv_bipush (v := 36) hx hb dL_law_67 (by decide) ?_
        refine lv_icmp_ge (tgt := 849) hx hb dL_law_69 (by decide) (fun cd69 => ?_) (fun cd69 => ?_)
        · replace hf := zite_t cd69 hf
          refine W.widen (k := 270625) (n := 1623750) (by omega) (by omega) ?_
          refine lv_iload hx hb dL_law_849 (lv_at hl 5 rfl) ?_
          have hv : i5_65 = (1 : Int32) := (Option.some.inj hf).trans hres
          refine W.eq (g2 := F0 m 851 ls [.int 1]) (by rw [hv]) ?_
          refine va_forget (hS0 hS) (W.widen (k := 685909) (n := 7043741) (by omega) (by omega) ?_)
          exact lw_ret hx hb hr hlocks dL_law_851
        · replace hf := zite_f cd69 hf
          refine lv_iload hx hb dL_law_72 (lv_at hl 5 rfl) ?_
          refine lv_if_eq (tgt := 849) hx hb dL_law_74 (by decide) (fun cd74 => ?_) (fun cd74 => ?_)
          · replace hf := zite_t cd74 hf
            refine W.widen (k := 270625) (n := 1623750) (by omega) (by omega) ?_
            refine lv_iload hx hb dL_law_849 (lv_at hl 5 rfl) ?_
            have hv : i5_65 = (1 : Int32) := (Option.some.inj hf).trans hres
            refine W.eq (g2 := F0 m 851 ls [.int 1]) (by rw [hv]) ?_
            refine va_forget (hS0 hS) (W.widen (k := 685909) (n := 7043741) (by omega) (by omega) ?_)
            exact lw_ret hx hb hr hlocks dL_law_851
          · replace hf := zite_f cd74 hf
            refine lv_aload_n hx hb dL_law_77 rfl (lv_at hl 0 rfl) ?_
            refine lv_iconst (v := 1) hx hb dL_law_78 (by decide) ?_
            refine lv_iload hx hb dL_law_79 (lv_at hl 6 rfl) ?_
            refine lv_iadd hx hb dL_law_81 ?_
            replace hf := zob_some hf
            obtain ⟨u2, hu2, hf⟩ := hf
            have hc2 := cx_cell l b L xs H.size ((1 : Int32) + i6_65) u2 hu2
            refine kx_cell (v := u2) (av := [.ref b, .int ((1 : Int32) + i6_65)]) hX hbl hbA hP hD hS hA (fun hb1 hp1 => va_runS (As := [.ref b, .int ((1 : Int32) + i6_65)]) (rest := []) ⟨hx, hb, hml, hown, hts⟩ hc2 (va_cwS 2 hts gL_law_L_cell rfl rfl rfl (by decide +kernel) ⟨Nat.le_of_ble_eq_true rfl, Nat.le_of_ble_eq_true rfl⟩) ⟨hb1, hp1⟩ rfl rfl hl.1 rfl (lv_room (Nat.le_of_ble_eq_true rfl)) dL_law_82 ⟨(by show (cells65 + 0) + 0 ≤ 685909; omega), (by show (slots65 + 0) + 0 ≤ 7043741; omega)⟩) (fun H locs hP hD hS => ?_)
            have hP : va_P D vwCl ((qb, .inl (kb, 24, .inl c_bg_65)) :: TWC qx U v_o_S_65) H := hP
            have hD : va_D A ((qb, .inl (kb, 24, .inl c_bg_65)) :: TWC qx U v_o_S_65) := hD
            refine lv_istore (lv' := [(7, .int u2), (0, .ref b), (1, .ref qx), (2, .int a2), (3, .ref qb), (4, .int i4_65), (5, .int i5_65), (6, .int i6_65)]) hx hb dL_law_85 hl (by decide) rfl (fun ls hl => ?_)
            refine lv_iload hx hb dL_law_87 (lv_at hl 0 rfl) ?_
            refine lv_bipush (v := 6) hx hb dL_law_89 (by decide) ?_
            refine lv_ishr hx hb dL_law_91 ?_
            refine lv_iconst (v := 1) hx hb dL_law_92 (by decide) ?_
            refine lv_iload_n hx hb dL_law_93 rfl (lv_at hl 3 rfl) ?_
            refine lv_ishl hx hb dL_law_94 ?_
            replace hf := zob_some hf
            obtain ⟨u3, hu3, hf⟩ := hf
            have hc3 := c_L_low l D H.size (u2 >>> ((6 : Int32) &&& 31)) ((1 : Int32) <<< (a2 &&& 31)) u3 hu3
            refine kz0_i (D := D) (v := u3) (av := [.int (u2 >>> ((6 : Int32) &&& 31)), .int ((1 : Int32) <<< (a2 &&& 31))]) hK hP hD hS hA hE (fun hb1 hp1 => va_runS (As := [.int (u2 >>> ((6 : Int32) &&& 31)), .int ((1 : Int32) <<< (a2 &&& 31))]) (rest := []) ⟨hx, hb, hml, hown, hts⟩ hc3 (va_cwS 2 hts gL_law_L_low rfl rfl rfl (by decide +kernel) ⟨Nat.le_of_ble_eq_true rfl, Nat.le_of_ble_eq_true rfl⟩) ⟨hb1, hp1⟩ rfl rfl hl.1 rfl (lv_room (Nat.le_of_ble_eq_true rfl)) dL_law_95 ⟨(by show (cells65 + 0) + 0 ≤ 685909; omega), (by show (slots65 + 0) + 0 ≤ 7043741; omega)⟩) (fun H locs hP hD hS => ?_)
            have hP : va_P D vwCl ((qb, .inl (kb, 24, .inl c_bg_65)) :: TWC qx U v_o_S_65) H := hP
            have hD : va_D A ((qb, .inl (kb, 24, .inl c_bg_65)) :: TWC qx U v_o_S_65) := hD
            refine lv_istore (lv' := [(8, .int u3), (7, .int u2), (0, .ref b), (1, .ref qx), (2, .int a2), (3, .ref qb), (4, .int i4_65), (5, .int i5_65), (6, .int i6_65)]) hx hb dL_law_98 hl (by decide) rfl (fun ls hl => ?_)
            refine lv_iload hx hb dL_law_100 (lv_at hl 1 rfl) ?_
            refine lv_bipush (v := 12) hx hb dL_law_102 (by decide) ?_
            refine lv_ishr hx hb dL_law_104 ?_
            refine lv_iconst (v := 1) hx hb dL_law_105 (by decide) ?_
            refine lv_iload_n hx hb dL_law_106 rfl (lv_at hl 4 rfl) ?_
            refine lv_ishl hx hb dL_law_107 ?_
            replace hf := zob_some hf
            obtain ⟨u4, hu4, hf⟩ := hf
            have hc4 := c_L_low l D H.size (u2 >>> ((12 : Int32) &&& 31)) ((1 : Int32) <<< (a2 &&& 31)) u4 hu4
            refine kz0_i (D := D) (v := u4) (av := [.int (u2 >>> ((12 : Int32) &&& 31)), .int ((1 : Int32) <<< (a2 &&& 31))]) hK hP hD hS hA hE (fun hb1 hp1 => va_runS (As := [.int (u2 >>> ((12 : Int32) &&& 31)), .int ((1 : Int32) <<< (a2 &&& 31))]) (rest := []) ⟨hx, hb, hml, hown, hts⟩ hc4 (va_cwS 2 hts gL_law_L_low rfl rfl rfl (by decide +kernel) ⟨Nat.le_of_ble_eq_true rfl, Nat.le_of_ble_eq_true rfl⟩) ⟨hb1, hp1⟩ rfl rfl hl.1 rfl (lv_room (Nat.le_of_ble_eq_true rfl)) dL_law_108 ⟨(by show (cells65 + 0) + 0 ≤ 685909; omega), (by show (slots65 + 0) + 0 ≤ 7043741; omega)⟩) (fun H locs hP hD hS => ?_)
            have hP : va_P D vwCl ((qb, .inl (kb, 24, .inl c_bg_65)) :: TWC qx U v_o_S_65) H := hP
            have hD : va_D A ((qb, .inl (kb, 24, .inl c_bg_65)) :: TWC qx U v_o_S_65) := hD
            refine lv_istore (lv' := [(9, .int u4), (8, .int u3), (7, .int u2), (0, .ref b), (1, .ref qx), (2, .int a2), (3, .ref qb), (4, .int i4_65), (5, .int i5_65), (6, .int i6_65)]) hx hb dL_law_111 hl (by decide) rfl (fun ls hl => ?_)
            refine lv_aload_n hx hb dL_law_113 rfl (lv_at hl 4 rfl) ?_
            refine lv_iload_n hx hb dL_law_114 rfl (lv_at hl 5 rfl) ?_
            replace hf := zob_some hf
            obtain ⟨u5, hu5, hf⟩ := hf
            have hc5 := c_L_print l D H.size qx U v_o_S_65 a2 hl0 u5 hu5
            refine kzc_l (D := D) (v := u5) (w1 := TWC qx U v_o_S_65) (av := [.ref qx, .int a2]) hK hP hD hS hA hE (fun hb1 hp1 => va_runS (As := [.ref qx, .int a2]) (rest := []) ⟨hx, hb, hml, hown, hts⟩ hc5 (va_cwS 2 hts gL_law_L_print rfl rfl rfl (by decide +kernel) ⟨Nat.le_of_ble_eq_true rfl, Nat.le_of_ble_eq_true rfl⟩) ⟨hb1, hp1⟩ rfl rfl hl.1 rfl (lv_room (Nat.le_of_ble_eq_true rfl)) dL_law_115 ⟨(by show (cells65 + 0) + 256 ≤ 685909; omega), (by show (slots65 + 0) + 1536 ≤ 7043741; omega)⟩) (fun H locs hP hD hS => ?_)
            have hP : va_P D vwCl ((qb, .inl (kb, 24, .inl c_bg_65)) :: TWC qx U v_o_S_65) H := hP
            have hD : va_D A ((qb, .inl (kb, 24, .inl c_bg_65)) :: TWC qx U v_o_S_65) := hD
            refine lv_lstore (lv' := [(10, .long u5), (9, .int u4), (8, .int u3), (7, .int u2), (0, .ref b), (1, .ref qx), (2, .int a2), (3, .ref qb), (4, .int i4_65), (5, .int i5_65), (6, .int i6_65)]) hx hb dL_law_118 hl (by decide) rfl (fun ls hl => ?_)
            refine lv_aload_n hx hb dL_law_120 rfl (lv_at hl 5 rfl) ?_
            refine lv_iload hx hb dL_law_121 (lv_at hl 2 rfl) ?_
            replace hf := zob_some hf
            obtain ⟨u6, hu6, hf⟩ := hf
            have hc6 := cq_L_isAlive l D H.size qx U v_o_S_65 u3 hl0 u6 hu6
            refine kzc_i (D := D) (v := u6) (w1 := TWC qx U v_o_S_65) (av := [.ref qx, .int u3]) hK hP hD hS hA hE (fun hb1 hp1 => vx_runSW (As := [.ref qx, .int u3]) (rest := []) ⟨hx, hb, hml, hown, hts⟩ hc6 (vx_cwSW 2 hts gL_law_L_isAlive rfl rfl rfl (by decide +kernel) ⟨Nat.le_of_ble_eq_true rfl, Nat.le_of_ble_eq_true rfl⟩) ⟨hb1, hp1⟩ rfl rfl hl.1 rfl (lv_room (Nat.le_of_ble_eq_true rfl)) dL_law_123 ⟨(by show (cells65 + 256) + 1 ≤ 685909; omega), (by show (slots65 + 1536) + 6 ≤ 7043741; omega)⟩) (fun H locs hP hD hS => ?_)
            have hP : va_P D vwCl ((qb, .inl (kb, 24, .inl c_bg_65)) :: TWC qx U v_o_S_65) H := hP
            have hD : va_D A ((qb, .inl (kb, 24, .inl c_bg_65)) :: TWC qx U v_o_S_65) := hD
            refine lv_iconst (v := 1) hx hb dL_law_126 (by decide) ?_
            replace hf := zjp_some hf
            obtain ⟨K135, eK135, hf⟩ := hf
            have j135 : ∀ (s0_135 : Int32), K135 s0_135 = some res → ∀ (H : Heap) (locs : List Loc) (ls : Array Slot), va_P D vwCl ((qb, .inl (kb, 24, .inl c_bg_65)) :: TWC qx U v_o_S_65) H → va_D A ((qb, .inl (kb, 24, .inl c_bg_65)) :: TWC qx U v_o_S_65) → va_S A s.heap H locs → lv_has ls 18 [(0, .ref b), (1, .ref qx), (2, .int a2), (3, .ref qb), (4, .int i4_65), (6, .int i6_65), (7, .int u2), (8, .int u3), (9, .int u4), (10, .long u5)] → W p l e room_1 s m #[Value.ref b] below meth c H locs (cells65 + 257) (slots65 + 1542) (lw_Z below #[Value.ref b] s) (F0 m 135 ls [.int s0_135]) := by
              intro s0_135 hf H locs ls hP hD hS hl
              replace hf := zap1 eK135 hf
              refine lv_istore (lv' := [(12, .int s0_135), (0, .ref b), (1, .ref qx), (2, .int a2), (3, .ref qb), (4, .int i4_65), (6, .int i6_65), (7, .int u2), (8, .int u3), (9, .int u4), (10, .long u5)]) hx hb dL_law_135 hl (by decide) rfl (fun ls hl => ?_)
              refine lv_iload hx hb dL_law_137 (lv_at hl 0 rfl) ?_
              replace hf := zjp_some hf
              obtain ⟨K157, eK157, hf⟩ := hf
              have j157 : ∀ (s0_157 : Int32), K157 s0_157 = some res → ∀ (H : Heap) (locs : List Loc) (ls : Array Slot), va_P D vwCl ((qb, .inl (kb, 24, .inl c_bg_65)) :: TWC qx U v_o_S_65) H → va_D A ((qb, .inl (kb, 24, .inl c_bg_65)) :: TWC qx U v_o_S_65) → va_S A s.heap H locs → lv_has ls 18 [(0, .ref b), (1, .ref qx), (2, .int a2), (3, .ref qb), (4, .int i4_65), (6, .int i6_65), (7, .int u2), (8, .int u3), (9, .int u4), (10, .long u5), (12, .int s0_135)] → W p l e room_1 s m #[Value.ref b] below meth c H locs (cells65 + 258) (slots65 + 1548) (lw_Z below #[Value.ref b] s) (F0 m 157 ls [.int s0_157]) := by
                intro s0_157 hf H locs ls hP hD hS hl
                replace hf := zap1 eK157 hf
                refine lv_istore (lv' := [(13, .int s0_157), (0, .ref b), (1, .ref qx), (2, .int a2), (3, .ref qb), (4, .int i4_65), (6, .int i6_65), (7, .int u2), (8, .int u3), (9, .int u4), (10, .long u5), (12, .int s0_135)]) hx hb dL_law_157 hl (by decide) rfl (fun ls hl => ?_)
                refine lv_iconst (v := 0) hx hb dL_law_159 (by decide) ?_
                refine lv_istore (lv' := [(14, .int 0), (13, .int s0_157), (0, .ref b), (1, .ref qx), (2, .int a2), (3, .ref qb), (4, .int i4_65), (6, .int i6_65), (7, .int u2), (8, .int u3), (9, .int u4), (10, .long u5), (12, .int s0_135)]) hx hb dL_law_160 hl (by decide) rfl (fun ls hl => ?_)
                refine lv_iconst (v := 0) hx hb dL_law_162 (by decide) ?_
                refine lv_istore (lv' := [(15, .int 0), (14, .int 0), (13, .int s0_157), (0, .ref b), (1, .ref qx), (2, .int a2), (3, .ref qb), (4, .int i4_65), (6, .int i6_65), (7, .int u2), (8, .int u3), (9, .int u4), (10, .long u5), (12, .int s0_135)]) hx hb dL_law_163 hl (by decide) rfl (fun ls hl => ?_)
                refine lv_iload hx hb dL_law_165 (lv_at hl 9 rfl) ?_
                refine lv_bipush (v := 8) hx hb dL_law_167 (by decide) ?_
                replace hf := zob_some hf
                obtain ⟨u7, hu7, hf⟩ := hf
                have hc7 := c_L_low l D H.size u2 8 u7 hu7
                refine kz0_i (D := D) (v := u7) (av := [.int u2, .int 8]) hK hP hD hS hA hE (fun hb1 hp1 => va_runS (As := [.int u2, .int 8]) (rest := []) ⟨hx, hb, hml, hown, hts⟩ hc7 (va_cwS 2 hts gL_law_L_low rfl rfl rfl (by decide +kernel) ⟨Nat.le_of_ble_eq_true rfl, Nat.le_of_ble_eq_true rfl⟩) ⟨hb1, hp1⟩ rfl rfl hl.1 rfl (lv_room (Nat.le_of_ble_eq_true rfl)) dL_law_169 ⟨(by show (cells65 + 258) + 0 ≤ 685909; omega), (by show (slots65 + 1548) + 0 ≤ 7043741; omega)⟩) (fun H locs hP hD hS => ?_)
                have hP : va_P D vwCl ((qb, .inl (kb, 24, .inl c_bg_65)) :: TWC qx U v_o_S_65) H := hP
                have hD : va_D A ((qb, .inl (kb, 24, .inl c_bg_65)) :: TWC qx U v_o_S_65) := hD
                replace hf := zjp_some hf
                obtain ⟨K516, eK516, hf⟩ := hf
                have j516 : ∀ (i4_516 : Int32) (i5_516 : Int32) (i14_516 : Int32) (i15_516 : Int32) (c_bg_516 : (Nat → Int32)) (v_o_S_516 : CU), K516 i4_516 i5_516 i14_516 i15_516 c_bg_516 v_o_S_516 = some res → ∀ (H : Heap) (locs : List Loc) (ls : Array Slot), va_P D vwCl ((qb, .inl (kb, 24, .inl c_bg_516)) :: TWC qx U v_o_S_516) H → va_D A ((qb, .inl (kb, 24, .inl c_bg_516)) :: TWC qx U v_o_S_516) → va_S A s.heap H locs → lv_has ls 18 [(0, .ref b), (1, .ref qx), (2, .int a2), (3, .ref qb), (4, .int i4_516), (5, .int i5_516), (6, .int i6_65), (7, .int u2), (8, .int u3), (9, .int u4), (10, .long u5), (14, .int i14_516), (15, .int i15_516)] → W p l e room_1 s m #[Value.ref b] below meth c H locs (cells65 + 325) (slots65 + 1950) (lw_Z below #[Value.ref b] s) (F0 m 516 ls []) := by
                  intro i4_516 i5_516 i14_516 i15_516 c_bg_516 v_o_S_516 hf H locs ls hP hD hS hl
                  replace hf := zap6 eK516 hf
                  refine lv_iload hx hb dL_law_516 (lv_at hl 5 rfl) ?_
                  replace hf := zjp_some hf
                  obtain ⟨K569, eK569, hf⟩ := hf
                  have j569 : ∀ (i4_569 : Int32) (i5_569 : Int32) (v_o_S_569 : CU), K569 i4_569 i5_569 v_o_S_569 = some res → ∀ (H : Heap) (locs : List Loc) (ls : Array Slot), va_P D vwCl ((qb, .inl (kb, 24, .inl c_bg_516)) :: TWC qx U v_o_S_569) H → va_D A ((qb, .inl (kb, 24, .inl c_bg_516)) :: TWC qx U v_o_S_569) → va_S A s.heap H locs → lv_has ls 18 [(0, .ref b), (1, .ref qx), (2, .int a2), (3, .ref qb), (4, .int i4_569), (5, .int i5_569), (6, .int i6_65), (8, .int u3), (9, .int u4), (10, .long u5), (14, .int i14_516)] → W p l e room_1 s m #[Value.ref b] below meth c H locs (cells65 + 582) (slots65 + 3492) (lw_Z below #[Value.ref b] s) (F0 m 569 ls []) := by
                    intro i4_569 i5_569 v_o_S_569 hf H locs ls hP hD hS hl
                    replace hf := zap3 eK569 hf
                    refine lv_iload hx hb dL_law_569 (lv_at hl 5 rfl) ?_
                    replace hf := zjp_some hf
                    obtain ⟨K617, eK617, hf⟩ := hf
                    have j617 : ∀ (s0_617 : Int32), K617 s0_617 = some res → ∀ (H : Heap) (locs : List Loc) (ls : Array Slot), va_P D vwCl ((qb, .inl (kb, 24, .inl c_bg_516)) :: TWC qx U v_o_S_569) H → va_D A ((qb, .inl (kb, 24, .inl c_bg_516)) :: TWC qx U v_o_S_569) → va_S A s.heap H locs → lv_has ls 18 [(0, .ref b), (1, .ref qx), (2, .int a2), (3, .ref qb), (4, .int i4_569), (6, .int i6_65), (8, .int u3), (9, .int u4)] → W p l e room_1 s m #[Value.ref b] below meth c H locs (cells65 + 841) (slots65 + 5046) (lw_Z below #[Value.ref b] s) (F0 m 617 ls [.int s0_617]) := by
                      intro s0_617 hf H locs ls hP hD hS hl
                      replace hf := zap1 eK617 hf
                      refine lv_istore (lv' := [(5, .int s0_617), (0, .ref b), (1, .ref qx), (2, .int a2), (3, .ref qb), (4, .int i4_569), (6, .int i6_65), (8, .int u3), (9, .int u4)]) hx hb dL_law_617 hl (by decide) rfl (fun ls hl => ?_)
                      refine lv_iconst (v := 0) hx hb dL_law_619 (by decide) ?_
                      refine lv_istore (lv' := [(16, .int 0), (5, .int s0_617), (0, .ref b), (1, .ref qx), (2, .int a2), (3, .ref qb), (4, .int i4_569), (6, .int i6_65), (8, .int u3), (9, .int u4)]) hx hb dL_law_620 hl (by decide) rfl (fun ls hl => ?_)
                      replace hf := zl2_some hf
                      obtain ⟨F622, eF622, hf⟩ := hf
                      have h622 : ∀ (n622 : Nat) (i5_622 : Int32) (i16_622 : Int32), zl2 F622 n622 i5_622 i16_622 = some res → ∀ (cells622 slots622 : Nat), cells622 + n622 * 4 ≤ cells65 + 969 → slots622 + n622 * 24 ≤ slots65 + 5814 → ∀ (H : Heap) (locs : List Loc) (ls : Array Slot), va_P D vwCl ((qb, .inl (kb, 24, .inl c_bg_516)) :: TWC qx U v_o_S_569) H → va_D A ((qb, .inl (kb, 24, .inl c_bg_516)) :: TWC qx U v_o_S_569) → va_S A s.heap H locs → lv_has ls 18 [(0, .ref b), (1, .ref qx), (2, .int a2), (3, .ref qb), (4, .int i4_569), (5, .int i5_622), (6, .int i6_65), (8, .int u3), (9, .int u4), (16, .int i16_622)] → W p l e room_1 s m #[Value.ref b] below meth c H locs (cells622 + 0) (slots622 + 0) (lw_Z below #[Value.ref b] s) (F0 m 622 ls []) := by
                        intro n622
                        induction n622 with
                        | zero => intro i5_622 i16_622 hf; exact (zl2_zero hf).elim
                        | succ n622 ih622 =>
                          intro i5_622 i16_622 hf cells622 slots622 hc622 hs622 H locs ls hP hD hS hl
                          replace hf := zl2_step eF622 hf
                          generalize zl2 F622 n622 = k622 at hf ih622
                          refine lv_iload hx hb dL_law_622 (lv_at hl 9 rfl) ?_
                          refine lv_iload hx hb dL_law_624 (lv_at hl 4 rfl) ?_
                          replace hf := zjp_some hf
                          obtain ⟨K696, eK696, hf⟩ := hf
                          have j696 : K696 = some res → ∀ (H : Heap) (locs : List Loc) (ls : Array Slot), va_P D vwCl ((qb, .inl (kb, 24, .inl c_bg_516)) :: TWC qx U v_o_S_569) H → va_D A ((qb, .inl (kb, 24, .inl c_bg_516)) :: TWC qx U v_o_S_569) → va_S A s.heap H locs → lv_has ls 18 [(0, .ref b), (1, .ref qx), (2, .int a2), (3, .ref qb), (4, .int i4_569), (5, .int i5_622), (6, .int i6_65), (8, .int u3), (9, .int u4)] → W p l e room_1 s m #[Value.ref b] below meth c H locs (cells65 + 969) (slots65 + 5814) (lw_Z below #[Value.ref b] s) (F0 m 696 ls []) := by
                            intro  hf H locs ls hP hD hS hl
                            replace hf := zap0 eK696 hf
                            refine lv_iload hx hb dL_law_696 (lv_at hl 5 rfl) ?_
                            replace hf := zjp_some hf
                            obtain ⟨K767, eK767, hf⟩ := hf
                            have j767 : ∀ (s0_767 : Int32) (v_o_S_767 : CU), K767 s0_767 v_o_S_767 = some res → ∀ (H : Heap) (locs : List Loc) (ls : Array Slot), va_P D vwCl ((qb, .inl (kb, 24, .inl c_bg_516)) :: TWC qx U v_o_S_767) H → va_D A ((qb, .inl (kb, 24, .inl c_bg_516)) :: TWC qx U v_o_S_767) → va_S A s.heap H locs → lv_has ls 18 [(0, .ref b), (1, .ref qx), (2, .int a2), (3, .ref qb), (4, .int i4_569), (6, .int i6_65), (8, .int u3), (9, .int u4)] → W p l e room_1 s m #[Value.ref b] below meth c H locs (cells65 + 5993) (slots65 + 35958) (lw_Z below #[Value.ref b] s) (F0 m 767 ls [.int s0_767]) := by
                              intro s0_767 v_o_S_767 hf H locs ls hP hD hS hl
                              replace hf := zap2 eK767 hf
                              refine lv_istore (lv' := [(5, .int s0_767), (0, .ref b), (1, .ref qx), (2, .int a2), (3, .ref qb), (4, .int i4_569), (6, .int i6_65), (8, .int u3), (9, .int u4)]) hx hb dL_law_767 hl (by decide) rfl (fun ls hl => ?_)
                              refine lv_iload hx hb dL_law_769 (lv_at hl 0 rfl) ?_
                              replace hf := zjp_some hf
                              obtain ⟨K841, eK841, hf⟩ := hf
                              have j841 : ∀ (s0_841 : Int32) (v_o_S_841 : CU), K841 s0_841 v_o_S_841 = some res → ∀ (H : Heap) (locs : List Loc) (ls : Array Slot), va_P D vwCl ((qb, .inl (kb, 24, .inl c_bg_516)) :: TWC qx U v_o_S_841) H → va_D A ((qb, .inl (kb, 24, .inl c_bg_516)) :: TWC qx U v_o_S_841) → va_S A s.heap H locs → lv_has ls 18 [(0, .ref b), (1, .ref qx), (2, .int a2), (3, .ref qb), (4, .int i4_569), (6, .int i6_65)] → W p l e room_1 s m #[Value.ref b] below meth c H locs (cells65 + 6742) (slots65 + 40452) (lw_Z below #[Value.ref b] s) (F0 m 841 ls [.int s0_841]) := by
                                intro s0_841 v_o_S_841 hf H locs ls hP hD hS hl
                                replace hf := zap2 eK841 hf
                                refine lv_istore (lv' := [(5, .int s0_841), (0, .ref b), (1, .ref qx), (2, .int a2), (3, .ref qb), (4, .int i4_569), (6, .int i6_65)]) hx hb dL_law_841 hl (by decide) rfl (fun ls hl => ?_)
                                obtain ⟨x8, ex8⟩ : ∃ y : Int32, y = i6_65 + 1 := ⟨_, rfl⟩
                                replace hf := zbd_of ex8 hf
                                refine lv_iinc (v := x8) (lv' := [(6, .int x8), (5, .int s0_841), (0, .ref b), (1, .ref qx), (2, .int a2), (3, .ref qb), (4, .int i4_569)]) hx hb dL_law_843 hl (k := 6) rfl (by rw [ex8]; rfl) (by decide) rfl (fun ls hl => ?_)
                                refine lv_goto (tgt := 65) hx hb dL_law_846 (by decide) ?_
                                exact ih65 i4_569 s0_841 x8 c_bg_516 v_o_S_841 hf (cells65 + 6742) (slots65 + 40452) (by omega) (by omega) H locs ls hP hD hS (lv_sub hl [2, 3, 4, 5, 6, 1, 0] rfl)
                              replace hf := zjp_some hf
                              obtain ⟨K840, eK840, hf⟩ := hf
                              have j840 : ∀ (v_o_S_840 : CU), K840 v_o_S_840 = some res → ∀ (H : Heap) (locs : List Loc) (ls : Array Slot), va_P D vwCl ((qb, .inl (kb, 24, .inl c_bg_516)) :: TWC qx U v_o_S_840) H → va_D A ((qb, .inl (kb, 24, .inl c_bg_516)) :: TWC qx U v_o_S_840) → va_S A s.heap H locs → lv_has ls 18 [(0, .ref b), (1, .ref qx), (2, .int a2), (3, .ref qb), (4, .int i4_569), (6, .int i6_65)] → W p l e room_1 s m #[Value.ref b] below meth c H locs (cells65 + 6742) (slots65 + 40452) (lw_Z below #[Value.ref b] s) (F0 m 840 ls []) := by
                                intro v_o_S_840 hf H locs ls hP hD hS hl
                                replace hf := zap1 eK840 hf
                                refine lv_iconst (v := 0) hx hb dL_law_840 (by decide) ?_
                                exact W.widen (k := cells65 + 6742) (n := slots65 + 40452) (by omega) (by omega) (j841 0 v_o_S_840 hf H locs ls hP hD hS (lv_sub hl [0, 1, 2, 3, 4, 5] rfl))
                              refine lv_if_eq (tgt := 840) hx hb dL_law_771 (by decide) (fun cd771 => ?_) (fun cd771 => ?_)
                              · replace hf := zite_t cd771 hf
                                exact W.widen (k := cells65 + 6742) (n := slots65 + 40452) (by omega) (by omega) (j840 v_o_S_767 hf H locs ls hP hD hS (lv_sub hl [1, 2, 3, 4, 5, 6] rfl))
                              · replace hf := zite_f cd771 hf
                                refine lv_iload hx hb dL_law_774 (lv_at hl 6 rfl) ?_
                                refine lv_iconst (v := 3) hx hb dL_law_776 (by decide) ?_
                                refine lv_irem hx hb dL_law_777 (by decide) ?_
                                refine lv_iconst (v := 1) hx hb dL_law_778 (by decide) ?_
                                replace hf := zjp_some hf
                                obtain ⟨K819, eK819, hf⟩ := hf
                                have j819 : ∀ (v_o_S_819 : CU), K819 v_o_S_819 = some res → ∀ (H : Heap) (locs : List Loc) (ls : Array Slot), va_P D vwCl ((qb, .inl (kb, 24, .inl c_bg_516)) :: TWC qx U v_o_S_819) H → va_D A ((qb, .inl (kb, 24, .inl c_bg_516)) :: TWC qx U v_o_S_819) → va_S A s.heap H locs → lv_has ls 18 [(0, .ref b), (1, .ref qx), (2, .int a2), (3, .ref qb), (4, .int i4_569), (6, .int i6_65)] → W p l e room_1 s m #[Value.ref b] below meth c H locs (cells65 + 6199) (slots65 + 37194) (lw_Z below #[Value.ref b] s) (F0 m 819 ls []) := by
                                  intro v_o_S_819 hf H locs ls hP hD hS hl
                                  replace hf := zap1 eK819 hf
                                  refine lv_iload hx hb dL_law_819 (lv_at hl 5 rfl) ?_
                                  refine lv_bipush (v := 11) hx hb dL_law_821 (by decide) ?_
                                  refine lv_irem hx hb dL_law_823 (by decide) ?_
                                  refine lv_iconst (v := 4) hx hb dL_law_824 (by decide) ?_
                                  replace hf := zjp_some hf
                                  obtain ⟨K836, eK836, hf⟩ := hf
                                  have j836 : ∀ (v_o_S_836 : CU), K836 v_o_S_836 = some res → ∀ (H : Heap) (locs : List Loc) (ls : Array Slot), va_P D vwCl ((qb, .inl (kb, 24, .inl c_bg_516)) :: TWC qx U v_o_S_836) H → va_D A ((qb, .inl (kb, 24, .inl c_bg_516)) :: TWC qx U v_o_S_836) → va_S A s.heap H locs → lv_has ls 18 [(0, .ref b), (1, .ref qx), (2, .int a2), (3, .ref qb), (4, .int i4_569), (6, .int i6_65)] → W p l e room_1 s m #[Value.ref b] below meth c H locs (cells65 + 6742) (slots65 + 40452) (lw_Z below #[Value.ref b] s) (F0 m 836 ls []) := by
                                    intro v_o_S_836 hf H locs ls hP hD hS hl
                                    replace hf := zap1 eK836 hf
                                    refine lv_iconst (v := 1) hx hb dL_law_836 (by decide) ?_
                                    refine lv_goto (tgt := 841) hx hb dL_law_837 (by decide) ?_
                                    exact W.widen (k := cells65 + 6742) (n := slots65 + 40452) (by omega) (by omega) (j841 1 v_o_S_836 hf H locs ls hP hD hS (lv_sub hl [0, 1, 2, 3, 4, 5] rfl))
                                  refine lv_icmp_ne (tgt := 836) hx hb dL_law_825 (by decide) (fun cd825 => ?_) (fun cd825 => ?_)
                                  · replace hf := zite_f cd825 hf
                                    exact W.widen (k := cells65 + 6742) (n := slots65 + 40452) (by omega) (by omega) (j836 v_o_S_819 hf H locs ls hP hD hS (lv_sub hl [0, 1, 2, 3, 4, 5] rfl))
                                  · replace hf := zite_t cd825 hf
                                    refine lv_aload_n hx hb dL_law_828 rfl (lv_at hl 1 rfl) ?_
                                    refine lv_iload_n hx hb dL_law_829 rfl (lv_at hl 2 rfl) ?_
                                    replace hf := zob_some hf
                                    obtain ⟨u9, hu9, hf⟩ := hf
                                    have hc9 := c_L_refused l D H.size qx U v_o_S_819 a2 hl0 u9 hu9
                                    refine kzc_i (D := D) (v := u9.1) (w1 := TWC qx U u9.2) (av := [.ref qx, .int a2]) hK hP hD hS hA hE (fun hb1 hp1 => va_runS (As := [.ref qx, .int a2]) (rest := []) ⟨hx, hb, hml, hown, hts⟩ hc9 (va_cwS 2 hts gL_law_L_refused rfl rfl rfl (by decide +kernel) ⟨Nat.le_of_ble_eq_true rfl, Nat.le_of_ble_eq_true rfl⟩) ⟨hb1, hp1⟩ rfl rfl hl.1 rfl (lv_room (Nat.le_of_ble_eq_true rfl)) dL_law_830 ⟨(by show (cells65 + 6199) + 543 ≤ 685909; omega), (by show (slots65 + 37194) + 3258 ≤ 7043741; omega)⟩) (fun H locs hP hD hS => ?_)
                                    have hP : va_P D vwCl ((qb, .inl (kb, 24, .inl c_bg_516)) :: TWC qx U u9.2) H := hP
                                    have hD : va_D A ((qb, .inl (kb, 24, .inl c_bg_516)) :: TWC qx U u9.2) := hD
                                    refine lv_if_eq (tgt := 840) hx hb dL_law_833 (by decide) (fun cd833 => ?_) (fun cd833 => ?_)
                                    · replace hf := zite_t cd833 hf
                                      exact W.widen (k := cells65 + 6742) (n := slots65 + 40452) (by omega) (by omega) (j840 u9.2 hf H locs ls hP hD hS (lv_sub hl [0, 1, 2, 3, 4, 5] rfl))
                                    · replace hf := zite_f cd833 hf
                                      exact W.widen (k := cells65 + 6742) (n := slots65 + 40452) (by omega) (by omega) (j836 u9.2 hf H locs ls hP hD hS (lv_sub hl [0, 1, 2, 3, 4, 5] rfl))
                                refine lv_icmp_ne (tgt := 819) hx hb dL_law_779 (by decide) (fun cd779 => ?_) (fun cd779 => ?_)
                                · replace hf := zite_f cd779 hf
                                  exact W.widen (k := cells65 + 6199) (n := slots65 + 37194) (by omega) (by omega) (j819 v_o_S_767 hf H locs ls hP hD hS (lv_sub hl [1, 2, 3, 4, 5, 6] rfl))
                                · replace hf := zite_t cd779 hf
                                  refine lv_iload hx hb dL_law_782 (lv_at hl 7 rfl) ?_
                                  refine lv_iload hx hb dL_law_784 (lv_at hl 8 rfl) ?_
                                  refine lv_icmp_eq (tgt := 819) hx hb dL_law_786 (by decide) (fun cd786 => ?_) (fun cd786 => ?_)
                                  · replace hf := zite_t cd786 hf
                                    exact W.widen (k := cells65 + 6199) (n := slots65 + 37194) (by omega) (by omega) (j819 v_o_S_767 hf H locs ls hP hD hS (lv_sub hl [1, 2, 3, 4, 5, 6] rfl))
                                  · replace hf := zite_f cd786 hf
                                    refine lv_aload_n hx hb dL_law_789 rfl (lv_at hl 2 rfl) ?_
                                    refine lv_iload hx hb dL_law_790 (lv_at hl 7 rfl) ?_
                                    replace hf := zob_some hf
                                    obtain ⟨u10, hu10, hf⟩ := hf
                                    have hc10 := cq_L_isAlive l D H.size qx U v_o_S_767 u3 hl0 u10 hu10
                                    refine kzc_i (D := D) (v := u10) (w1 := TWC qx U v_o_S_767) (av := [.ref qx, .int u3]) hK hP hD hS hA hE (fun hb1 hp1 => vx_runSW (As := [.ref qx, .int u3]) (rest := []) ⟨hx, hb, hml, hown, hts⟩ hc10 (vx_cwSW 2 hts gL_law_L_isAlive rfl rfl rfl (by decide +kernel) ⟨Nat.le_of_ble_eq_true rfl, Nat.le_of_ble_eq_true rfl⟩) ⟨hb1, hp1⟩ rfl rfl hl.1 rfl (lv_room (Nat.le_of_ble_eq_true rfl)) dL_law_792 ⟨(by show (cells65 + 5993) + 1 ≤ 685909; omega), (by show (slots65 + 35958) + 6 ≤ 7043741; omega)⟩) (fun H locs hP hD hS => ?_)
                                    have hP : va_P D vwCl ((qb, .inl (kb, 24, .inl c_bg_516)) :: TWC qx U v_o_S_767) H := hP
                                    have hD : va_D A ((qb, .inl (kb, 24, .inl c_bg_516)) :: TWC qx U v_o_S_767) := hD
                                    refine lv_if_eq (tgt := 819) hx hb dL_law_795 (by decide) (fun cd795 => ?_) (fun cd795 => ?_)
                                    · replace hf := zite_t cd795 hf
                                      exact W.widen (k := cells65 + 6199) (n := slots65 + 37194) (by omega) (by omega) (j819 v_o_S_767 hf H locs ls hP hD hS (lv_sub hl [1, 2, 3, 4, 5, 6] rfl))
                                    · replace hf := zite_f cd795 hf
                                      refine lv_aload_n hx hb dL_law_798 rfl (lv_at hl 2 rfl) ?_
                                      refine lv_iload hx hb dL_law_799 (lv_at hl 8 rfl) ?_
                                      replace hf := zob_some hf
                                      obtain ⟨u11, hu11, hf⟩ := hf
                                      have hc11 := cq_L_isAlive l D H.size qx U v_o_S_767 u4 hl0 u11 hu11
                                      refine kzc_i (D := D) (v := u11) (w1 := TWC qx U v_o_S_767) (av := [.ref qx, .int u4]) hK hP hD hS hA hE (fun hb1 hp1 => vx_runSW (As := [.ref qx, .int u4]) (rest := []) ⟨hx, hb, hml, hown, hts⟩ hc11 (vx_cwSW 2 hts gL_law_L_isAlive rfl rfl rfl (by decide +kernel) ⟨Nat.le_of_ble_eq_true rfl, Nat.le_of_ble_eq_true rfl⟩) ⟨hb1, hp1⟩ rfl rfl hl.1 rfl (lv_room (Nat.le_of_ble_eq_true rfl)) dL_law_801 ⟨(by show (cells65 + 5994) + 1 ≤ 685909; omega), (by show (slots65 + 35964) + 6 ≤ 7043741; omega)⟩) (fun H locs hP hD hS => ?_)
                                      have hP : va_P D vwCl ((qb, .inl (kb, 24, .inl c_bg_516)) :: TWC qx U v_o_S_767) H := hP
                                      have hD : va_D A ((qb, .inl (kb, 24, .inl c_bg_516)) :: TWC qx U v_o_S_767) := hD
                                      refine lv_if_eq (tgt := 819) hx hb dL_law_804 (by decide) (fun cd804 => ?_) (fun cd804 => ?_)
                                      · replace hf := zite_t cd804 hf
                                        exact W.widen (k := cells65 + 6199) (n := slots65 + 37194) (by omega) (by omega) (j819 v_o_S_767 hf H locs ls hP hD hS (lv_sub hl [1, 2, 3, 4, 5, 6] rfl))
                                      · replace hf := zite_f cd804 hf
                                        refine lv_aload_n hx hb dL_law_807 rfl (lv_at hl 2 rfl) ?_
                                        refine lv_iload_n hx hb dL_law_808 rfl (lv_at hl 3 rfl) ?_
                                        refine lv_iload hx hb dL_law_809 (lv_at hl 7 rfl) ?_
                                        refine lv_iload hx hb dL_law_811 (lv_at hl 8 rfl) ?_
                                        replace hf := zob_some hf
                                        obtain ⟨u12, hu12, hf⟩ := hf
                                        have hc12 := c_L_arePaths l D H.size qx U v_o_S_767 a2 u3 u4 hl0 u12 hu12
                                        refine kzc_i (D := D) (v := u12.1) (w1 := TWC qx U u12.2) (av := [.ref qx, .int a2, .int u3, .int u4]) hK hP hD hS hA hE (fun hb1 hp1 => va_runS (As := [.ref qx, .int a2, .int u3, .int u4]) (rest := []) ⟨hx, hb, hml, hown, hts⟩ hc12 (va_cwS 4 hts gL_law_L_arePaths rfl rfl rfl (by decide +kernel) ⟨Nat.le_of_ble_eq_true rfl, Nat.le_of_ble_eq_true rfl⟩) ⟨hb1, hp1⟩ rfl rfl hl.1 rfl (lv_room (Nat.le_of_ble_eq_true rfl)) dL_law_813 ⟨(by show (cells65 + 5995) + 204 ≤ 685909; omega), (by show (slots65 + 35970) + 1224 ≤ 7043741; omega)⟩) (fun H locs hP hD hS => ?_)
                                        have hP : va_P D vwCl ((qb, .inl (kb, 24, .inl c_bg_516)) :: TWC qx U u12.2) H := hP
                                        have hD : va_D A ((qb, .inl (kb, 24, .inl c_bg_516)) :: TWC qx U u12.2) := hD
                                        refine lv_if_eq (tgt := 840) hx hb dL_law_816 (by decide) (fun cd816 => ?_) (fun cd816 => ?_)
                                        · replace hf := zite_t cd816 hf
                                          exact W.widen (k := cells65 + 6742) (n := slots65 + 40452) (by omega) (by omega) (j840 u12.2 hf H locs ls hP hD hS (lv_sub hl [1, 2, 3, 4, 5, 6] rfl))
                                        · replace hf := zite_f cd816 hf
                                          exact W.widen (k := cells65 + 6199) (n := slots65 + 37194) (by omega) (by omega) (j819 u12.2 hf H locs ls hP hD hS (lv_sub hl [1, 2, 3, 4, 5, 6] rfl))
                            replace hf := zjp_some hf
                            obtain ⟨K766, eK766, hf⟩ := hf
                            have j766 : ∀ (v_o_S_766 : CU), K766 v_o_S_766 = some res → ∀ (H : Heap) (locs : List Loc) (ls : Array Slot), va_P D vwCl ((qb, .inl (kb, 24, .inl c_bg_516)) :: TWC qx U v_o_S_766) H → va_D A ((qb, .inl (kb, 24, .inl c_bg_516)) :: TWC qx U v_o_S_766) → va_S A s.heap H locs → lv_has ls 18 [(0, .ref b), (1, .ref qx), (2, .int a2), (3, .ref qb), (4, .int i4_569), (6, .int i6_65), (8, .int u3), (9, .int u4)] → W p l e room_1 s m #[Value.ref b] below meth c H locs (cells65 + 5993) (slots65 + 35958) (lw_Z below #[Value.ref b] s) (F0 m 766 ls []) := by
                              intro v_o_S_766 hf H locs ls hP hD hS hl
                              replace hf := zap1 eK766 hf
                              refine lv_iconst (v := 0) hx hb dL_law_766 (by decide) ?_
                              exact W.widen (k := cells65 + 5993) (n := slots65 + 35958) (by omega) (by omega) (j767 0 v_o_S_766 hf H locs ls hP hD hS (lv_sub hl [0, 1, 2, 3, 4, 5, 6, 7] rfl))
                            refine lv_if_eq (tgt := 766) hx hb dL_law_698 (by decide) (fun cd698 => ?_) (fun cd698 => ?_)
                            · replace hf := zite_t cd698 hf
                              exact W.widen (k := cells65 + 5993) (n := slots65 + 35958) (by omega) (by omega) (j766 v_o_S_569 hf H locs ls hP hD hS (lv_sub hl [0, 1, 2, 3, 4, 6, 7, 8] rfl))
                            · replace hf := zite_f cd698 hf
                              refine lv_aload_n hx hb dL_law_701 rfl (lv_at hl 1 rfl) ?_
                              refine lv_iload hx hb dL_law_702 (lv_at hl 7 rfl) ?_
                              refine lv_iload hx hb dL_law_704 (lv_at hl 8 rfl) ?_
                              replace hf := zob_some hf
                              obtain ⟨u13, hu13, hf⟩ := hf
                              have hc13 := c_L_isRoute l D H.size qx U v_o_S_569 u3 u4 hl0 u13 hu13
                              refine kzc_i (D := D) (v := u13) (w1 := TWC qx U v_o_S_569) (av := [.ref qx, .int u3, .int u4]) hK hP hD hS hA hE (fun hb1 hp1 => va_runS (As := [.ref qx, .int u3, .int u4]) (rest := []) ⟨hx, hb, hml, hown, hts⟩ hc13 (va_cwS 3 hts gL_law_L_isRoute rfl rfl rfl (by decide +kernel) ⟨Nat.le_of_ble_eq_true rfl, Nat.le_of_ble_eq_true rfl⟩) ⟨hb1, hp1⟩ rfl rfl hl.1 rfl (lv_room (Nat.le_of_ble_eq_true rfl)) dL_law_706 ⟨(by show (cells65 + 969) + 208 ≤ 685909; omega), (by show (slots65 + 5814) + 1248 ≤ 7043741; omega)⟩) (fun H locs hP hD hS => ?_)
                              have hP : va_P D vwCl ((qb, .inl (kb, 24, .inl c_bg_516)) :: TWC qx U v_o_S_569) H := hP
                              have hD : va_D A ((qb, .inl (kb, 24, .inl c_bg_516)) :: TWC qx U v_o_S_569) := hD
                              refine lv_if_eq (tgt := 766) hx hb dL_law_709 (by decide) (fun cd709 => ?_) (fun cd709 => ?_)
                              · replace hf := zite_t cd709 hf
                                exact W.widen (k := cells65 + 5993) (n := slots65 + 35958) (by omega) (by omega) (j766 v_o_S_569 hf H locs ls hP hD hS (lv_sub hl [0, 1, 2, 3, 4, 6, 7, 8] rfl))
                              · replace hf := zite_f cd709 hf
                                refine lv_iload hx hb dL_law_712 (lv_at hl 6 rfl) ?_
                                refine lv_iconst (v := 4) hx hb dL_law_714 (by decide) ?_
                                refine lv_irem hx hb dL_law_715 (by decide) ?_
                                refine lv_iconst (v := 2) hx hb dL_law_716 (by decide) ?_
                                replace hf := zjp_some hf
                                obtain ⟨K736, eK736, hf⟩ := hf
                                have j736 : K736 = some res → ∀ (H : Heap) (locs : List Loc) (ls : Array Slot), va_P D vwCl ((qb, .inl (kb, 24, .inl c_bg_516)) :: TWC qx U v_o_S_569) H → va_D A ((qb, .inl (kb, 24, .inl c_bg_516)) :: TWC qx U v_o_S_569) → va_S A s.heap H locs → lv_has ls 18 [(0, .ref b), (1, .ref qx), (2, .int a2), (3, .ref qb), (4, .int i4_569), (6, .int i6_65), (8, .int u3), (9, .int u4)] → W p l e room_1 s m #[Value.ref b] below meth c H locs (cells65 + 5661) (slots65 + 33966) (lw_Z below #[Value.ref b] s) (F0 m 736 ls []) := by
                                  intro  hf H locs ls hP hD hS hl
                                  replace hf := zap0 eK736 hf
                                  refine lv_iload hx hb dL_law_736 (lv_at hl 5 rfl) ?_
                                  refine lv_iconst (v := 3) hx hb dL_law_738 (by decide) ?_
                                  refine lv_irem hx hb dL_law_739 (by decide) ?_
                                  replace hf := zjp_some hf
                                  obtain ⟨K762, eK762, hf⟩ := hf
                                  have j762 : ∀ (v_o_S_762 : CU), K762 v_o_S_762 = some res → ∀ (H : Heap) (locs : List Loc) (ls : Array Slot), va_P D vwCl ((qb, .inl (kb, 24, .inl c_bg_516)) :: TWC qx U v_o_S_762) H → va_D A ((qb, .inl (kb, 24, .inl c_bg_516)) :: TWC qx U v_o_S_762) → va_S A s.heap H locs → lv_has ls 18 [(0, .ref b), (1, .ref qx), (2, .int a2), (3, .ref qb), (4, .int i4_569), (6, .int i6_65), (8, .int u3), (9, .int u4)] → W p l e room_1 s m #[Value.ref b] below meth c H locs (cells65 + 5993) (slots65 + 35958) (lw_Z below #[Value.ref b] s) (F0 m 762 ls []) := by
                                    intro v_o_S_762 hf H locs ls hP hD hS hl
                                    replace hf := zap1 eK762 hf
                                    refine lv_iconst (v := 1) hx hb dL_law_762 (by decide) ?_
                                    refine lv_goto (tgt := 767) hx hb dL_law_763 (by decide) ?_
                                    exact W.widen (k := cells65 + 5993) (n := slots65 + 35958) (by omega) (by omega) (j767 1 v_o_S_762 hf H locs ls hP hD hS (lv_sub hl [0, 1, 2, 3, 4, 5, 6, 7] rfl))
                                  refine lv_if_ne (tgt := 762) hx hb dL_law_740 (by decide) (fun cd740 => ?_) (fun cd740 => ?_)
                                  · replace hf := zite_f cd740 hf
                                    exact W.widen (k := cells65 + 5993) (n := slots65 + 35958) (by omega) (by omega) (j762 v_o_S_569 hf H locs ls hP hD hS (lv_sub hl [0, 1, 2, 3, 4, 5, 6, 7] rfl))
                                  · replace hf := zite_t cd740 hf
                                    refine lv_aload_n hx hb dL_law_743 rfl (lv_at hl 1 rfl) ?_
                                    refine lv_iload hx hb dL_law_744 (lv_at hl 6 rfl) ?_
                                    replace hf := zob_some hf
                                    obtain ⟨u14, hu14, hf⟩ := hf
                                    have hc14 := cq_L_isAlive l D H.size qx U v_o_S_569 u3 hl0 u14 hu14
                                    refine kzc_i (D := D) (v := u14) (w1 := TWC qx U v_o_S_569) (av := [.ref qx, .int u3]) hK hP hD hS hA hE (fun hb1 hp1 => vx_runSW (As := [.ref qx, .int u3]) (rest := []) ⟨hx, hb, hml, hown, hts⟩ hc14 (vx_cwSW 2 hts gL_law_L_isAlive rfl rfl rfl (by decide +kernel) ⟨Nat.le_of_ble_eq_true rfl, Nat.le_of_ble_eq_true rfl⟩) ⟨hb1, hp1⟩ rfl rfl hl.1 rfl (lv_room (Nat.le_of_ble_eq_true rfl)) dL_law_746 ⟨(by show (cells65 + 5661) + 1 ≤ 685909; omega), (by show (slots65 + 33966) + 6 ≤ 7043741; omega)⟩) (fun H locs hP hD hS => ?_)
                                    have hP : va_P D vwCl ((qb, .inl (kb, 24, .inl c_bg_516)) :: TWC qx U v_o_S_569) H := hP
                                    have hD : va_D A ((qb, .inl (kb, 24, .inl c_bg_516)) :: TWC qx U v_o_S_569) := hD
                                    refine lv_if_eq (tgt := 762) hx hb dL_law_749 (by decide) (fun cd749 => ?_) (fun cd749 => ?_)
                                    · replace hf := zite_t cd749 hf
                                      exact W.widen (k := cells65 + 5993) (n := slots65 + 35958) (by omega) (by omega) (j762 v_o_S_569 hf H locs ls hP hD hS (lv_sub hl [0, 1, 2, 3, 4, 5, 6, 7] rfl))
                                    · replace hf := zite_f cd749 hf
                                      refine lv_aload_n hx hb dL_law_752 rfl (lv_at hl 1 rfl) ?_
                                      refine lv_iload_n hx hb dL_law_753 rfl (lv_at hl 2 rfl) ?_
                                      refine lv_iload hx hb dL_law_754 (lv_at hl 6 rfl) ?_
                                      replace hf := zob_some hf
                                      obtain ⟨u15, hu15, hf⟩ := hf
                                      have hc15 := c_L_isBroadcast l D H.size qx U v_o_S_569 a2 u3 hl0 u15 hu15
                                      refine kzc_i (D := D) (v := u15.1) (w1 := TWC qx U u15.2) (av := [.ref qx, .int a2, .int u3]) hK hP hD hS hA hE (fun hb1 hp1 => va_runS (As := [.ref qx, .int a2, .int u3]) (rest := []) ⟨hx, hb, hml, hown, hts⟩ hc15 (va_cwS 3 hts gL_law_L_isBroadcast rfl rfl rfl (by decide +kernel) ⟨Nat.le_of_ble_eq_true rfl, Nat.le_of_ble_eq_true rfl⟩) ⟨hb1, hp1⟩ rfl rfl hl.1 rfl (lv_room (Nat.le_of_ble_eq_true rfl)) dL_law_756 ⟨(by show (cells65 + 5662) + 331 ≤ 685909; omega), (by show (slots65 + 33972) + 1986 ≤ 7043741; omega)⟩) (fun H locs hP hD hS => ?_)
                                      have hP : va_P D vwCl ((qb, .inl (kb, 24, .inl c_bg_516)) :: TWC qx U u15.2) H := hP
                                      have hD : va_D A ((qb, .inl (kb, 24, .inl c_bg_516)) :: TWC qx U u15.2) := hD
                                      refine lv_if_eq (tgt := 766) hx hb dL_law_759 (by decide) (fun cd759 => ?_) (fun cd759 => ?_)
                                      · replace hf := zite_t cd759 hf
                                        exact W.widen (k := cells65 + 5993) (n := slots65 + 35958) (by omega) (by omega) (j766 u15.2 hf H locs ls hP hD hS (lv_sub hl [0, 1, 2, 3, 4, 5, 6, 7] rfl))
                                      · replace hf := zite_f cd759 hf
                                        exact W.widen (k := cells65 + 5993) (n := slots65 + 35958) (by omega) (by omega) (j762 u15.2 hf H locs ls hP hD hS (lv_sub hl [0, 1, 2, 3, 4, 5, 6, 7] rfl))
                                refine lv_icmp_ne (tgt := 736) hx hb dL_law_717 (by decide) (fun cd717 => ?_) (fun cd717 => ?_)
                                · replace hf := zite_f cd717 hf
                                  exact W.widen (k := cells65 + 5661) (n := slots65 + 33966) (by omega) (by omega) (j736  hf H locs ls hP hD hS (lv_sub hl [0, 1, 2, 3, 4, 6, 7, 8] rfl))
                                · replace hf := zite_t cd717 hf
                                  refine lv_aload_n hx hb dL_law_720 rfl (lv_at hl 1 rfl) ?_
                                  refine lv_iload_n hx hb dL_law_721 rfl (lv_at hl 2 rfl) ?_
                                  replace hf := zob_some hf
                                  obtain ⟨u16, hu16, hf⟩ := hf
                                  have hc16 := c_L_areLevels l D H.size qx U v_o_S_569 a2 hl0 u16 hu16
                                  refine kzc_i (D := D) (v := u16) (w1 := TWC qx U v_o_S_569) (av := [.ref qx, .int a2]) hK hP hD hS hA hE (fun hb1 hp1 => va_runS (As := [.ref qx, .int a2]) (rest := []) ⟨hx, hb, hml, hown, hts⟩ hc16 (va_cwS 2 hts gL_law_L_areLevels rfl rfl rfl (by decide +kernel) ⟨Nat.le_of_ble_eq_true rfl, Nat.le_of_ble_eq_true rfl⟩) ⟨hb1, hp1⟩ rfl rfl hl.1 rfl (lv_room (Nat.le_of_ble_eq_true rfl)) dL_law_722 ⟨(by show (cells65 + 1177) + 4352 ≤ 685909; omega), (by show (slots65 + 7062) + 26112 ≤ 7043741; omega)⟩) (fun H locs hP hD hS => ?_)
                                  have hP : va_P D vwCl ((qb, .inl (kb, 24, .inl c_bg_516)) :: TWC qx U v_o_S_569) H := hP
                                  have hD : va_D A ((qb, .inl (kb, 24, .inl c_bg_516)) :: TWC qx U v_o_S_569) := hD
                                  refine lv_if_eq (tgt := 766) hx hb dL_law_725 (by decide) (fun cd725 => ?_) (fun cd725 => ?_)
                                  · replace hf := zite_t cd725 hf
                                    exact W.widen (k := cells65 + 5993) (n := slots65 + 35958) (by omega) (by omega) (j766 v_o_S_569 hf H locs ls hP hD hS (lv_sub hl [0, 1, 2, 3, 4, 6, 7, 8] rfl))
                                  · replace hf := zite_f cd725 hf
                                    refine lv_aload_n hx hb dL_law_728 rfl (lv_at hl 1 rfl) ?_
                                    refine lv_iload_n hx hb dL_law_729 rfl (lv_at hl 2 rfl) ?_
                                    replace hf := zob_some hf
                                    obtain ⟨u17, hu17, hf⟩ := hf
                                    have hc17 := c_L_areSubcubes l D H.size qx U v_o_S_569 a2 hl0 u17 hu17
                                    refine kzc_i (D := D) (v := u17) (w1 := TWC qx U v_o_S_569) (av := [.ref qx, .int a2]) hK hP hD hS hA hE (fun hb1 hp1 => va_runS (As := [.ref qx, .int a2]) (rest := []) ⟨hx, hb, hml, hown, hts⟩ hc17 (va_cwS 2 hts gL_law_L_areSubcubes rfl rfl rfl (by decide +kernel) ⟨Nat.le_of_ble_eq_true rfl, Nat.le_of_ble_eq_true rfl⟩) ⟨hb1, hp1⟩ rfl rfl hl.1 rfl (lv_room (Nat.le_of_ble_eq_true rfl)) dL_law_730 ⟨(by show (cells65 + 5529) + 132 ≤ 685909; omega), (by show (slots65 + 33174) + 792 ≤ 7043741; omega)⟩) (fun H locs hP hD hS => ?_)
                                    have hP : va_P D vwCl ((qb, .inl (kb, 24, .inl c_bg_516)) :: TWC qx U v_o_S_569) H := hP
                                    have hD : va_D A ((qb, .inl (kb, 24, .inl c_bg_516)) :: TWC qx U v_o_S_569) := hD
                                    refine lv_if_eq (tgt := 766) hx hb dL_law_733 (by decide) (fun cd733 => ?_) (fun cd733 => ?_)
                                    · replace hf := zite_t cd733 hf
                                      exact W.widen (k := cells65 + 5993) (n := slots65 + 35958) (by omega) (by omega) (j766 v_o_S_569 hf H locs ls hP hD hS (lv_sub hl [0, 1, 2, 3, 4, 6, 7, 8] rfl))
                                    · replace hf := zite_f cd733 hf
                                      exact W.widen (k := cells65 + 5661) (n := slots65 + 33966) (by omega) (by omega) (j736  hf H locs ls hP hD hS (lv_sub hl [0, 1, 2, 3, 4, 6, 7, 8] rfl))
                          refine lv_icmp_ge (tgt := 696) hx hb dL_law_626 (by decide) (fun cd626 => ?_) (fun cd626 => ?_)
                          · replace hf := zite_t cd626 hf
                            exact W.widen (k := cells65 + 969) (n := slots65 + 5814) (by omega) (by omega) (j696  hf H locs ls hP hD hS (lv_sub hl [0, 1, 2, 3, 4, 5, 6, 7, 8] rfl))
                          · replace hf := zite_f cd626 hf
                            refine lv_iload hx hb dL_law_629 (lv_at hl 5 rfl) ?_
                            refine lv_if_eq (tgt := 696) hx hb dL_law_631 (by decide) (fun cd631 => ?_) (fun cd631 => ?_)
                            · replace hf := zite_t cd631 hf
                              exact W.widen (k := cells65 + 969) (n := slots65 + 5814) (by omega) (by omega) (j696  hf H locs ls hP hD hS (lv_sub hl [0, 1, 2, 3, 4, 5, 6, 7, 8] rfl))
                            · replace hf := zite_f cd631 hf
                              refine lv_aload_n hx hb dL_law_634 rfl (lv_at hl 1 rfl) ?_
                              refine lv_iload hx hb dL_law_635 (lv_at hl 9 rfl) ?_
                              replace hf := zob_some hf
                              obtain ⟨u18, hu18, hf⟩ := hf
                              have hc18 := cq_L_moves l D H.size qx U v_o_S_569 i16_622 hl0 u18 hu18
                              refine kzc_i (D := D) (v := u18) (w1 := TWC qx U v_o_S_569) (av := [.ref qx, .int i16_622]) hK hP hD hS hA hE (fun hb1 hp1 => vx_runSW (As := [.ref qx, .int i16_622]) (rest := []) ⟨hx, hb, hml, hown, hts⟩ hc18 (vx_cwSW 2 hts gL_law_L_moves rfl rfl rfl (by decide +kernel) ⟨Nat.le_of_ble_eq_true rfl, Nat.le_of_ble_eq_true rfl⟩) ⟨hb1, hp1⟩ rfl rfl hl.1 rfl (lv_room (Nat.le_of_ble_eq_true rfl)) dL_law_637 ⟨(by show (cells622 + 0) + 1 ≤ 685909; omega), (by show (slots622 + 0) + 6 ≤ 7043741; omega)⟩) (fun H locs hP hD hS => ?_)
                              have hP : va_P D vwCl ((qb, .inl (kb, 24, .inl c_bg_516)) :: TWC qx U v_o_S_569) H := hP
                              have hD : va_D A ((qb, .inl (kb, 24, .inl c_bg_516)) :: TWC qx U v_o_S_569) := hD
                              refine lv_aload_n hx hb dL_law_640 rfl (lv_at hl 3 rfl) ?_
                              refine lv_iload hx hb dL_law_641 (lv_at hl 9 rfl) ?_
                              replace hf := zgd_some hf
                              obtain ⟨g19, hf⟩ := hf
                              refine va_iald (D := D) hx hb hK hP 0 0 rfl rfl (inb_in g19) dL_law_643 ?_
                              refine lv_aload_n hx hb dL_law_644 rfl (lv_at hl 1 rfl) ?_
                              refine lv_iload hx hb dL_law_645 (lv_at hl 9 rfl) ?_
                              replace hf := zob_some hf
                              obtain ⟨u20, hu20, hf⟩ := hf
                              have hc20 := cq_L_position l D H.size qx U v_o_S_569 i16_622 hl0 u20 hu20
                              refine kzc_i (D := D) (v := u20) (w1 := TWC qx U v_o_S_569) (av := [.ref qx, .int i16_622]) hK hP hD hS hA hE (fun hb1 hp1 => vx_runSW (As := [.ref qx, .int i16_622]) (rest := [.int (c_bg_516 (i16_622 : Int32).toNatClampNeg), .int u18]) ⟨hx, hb, hml, hown, hts⟩ hc20 (vx_cwSW 2 hts gL_law_L_position rfl rfl rfl (by decide +kernel) ⟨Nat.le_of_ble_eq_true rfl, Nat.le_of_ble_eq_true rfl⟩) ⟨hb1, hp1⟩ rfl rfl hl.1 rfl (lv_room (Nat.le_of_ble_eq_true rfl)) dL_law_647 ⟨(by show (cells622 + 1) + 1 ≤ 685909; omega), (by show (slots622 + 6) + 6 ≤ 7043741; omega)⟩) (fun H locs hP hD hS => ?_)
                              have hP : va_P D vwCl ((qb, .inl (kb, 24, .inl c_bg_516)) :: TWC qx U v_o_S_569) H := hP
                              have hD : va_D A ((qb, .inl (kb, 24, .inl c_bg_516)) :: TWC qx U v_o_S_569) := hD
                              refine lv_ixor hx hb dL_law_650 ?_
                              replace hf := zob_some hf
                              obtain ⟨u21, hu21, hf⟩ := hf
                              have hc21 := c_L_ones l D H.size ((c_bg_516 (i16_622 : Int32).toNatClampNeg) ^^^ u20) u21 hu21
                              refine kz0_i (D := D) (v := u21) (av := [.int ((c_bg_516 (i16_622 : Int32).toNatClampNeg) ^^^ u20)]) hK hP hD hS hA hE (fun hb1 hp1 => va_runS (As := [.int ((c_bg_516 (i16_622 : Int32).toNatClampNeg) ^^^ u20)]) (rest := [.int u18]) ⟨hx, hb, hml, hown, hts⟩ hc21 (va_cwS 1 hts gL_law_L_ones rfl rfl rfl (by decide +kernel) ⟨Nat.le_of_ble_eq_true rfl, Nat.le_of_ble_eq_true rfl⟩) ⟨hb1, hp1⟩ rfl rfl hl.1 rfl (lv_room (Nat.le_of_ble_eq_true rfl)) dL_law_651 ⟨(by show (cells622 + 2) + 0 ≤ 685909; omega), (by show (slots622 + 12) + 0 ≤ 7043741; omega)⟩) (fun H locs hP hD hS => ?_)
                              have hP : va_P D vwCl ((qb, .inl (kb, 24, .inl c_bg_516)) :: TWC qx U v_o_S_569) H := hP
                              have hD : va_D A ((qb, .inl (kb, 24, .inl c_bg_516)) :: TWC qx U v_o_S_569) := hD
                              refine lv_isub hx hb dL_law_654 ?_
                              refine lv_iconst (v := 2) hx hb dL_law_655 (by decide) ?_
                              refine lv_irem hx hb dL_law_656 (by decide) ?_
                              replace hf := zjp_some hf
                              obtain ⟨K688, eK688, hf⟩ := hf
                              have j688 : ∀ (s0_688 : Int32), K688 s0_688 = some res → ∀ (H : Heap) (locs : List Loc) (ls : Array Slot), va_P D vwCl ((qb, .inl (kb, 24, .inl c_bg_516)) :: TWC qx U v_o_S_569) H → va_D A ((qb, .inl (kb, 24, .inl c_bg_516)) :: TWC qx U v_o_S_569) → va_S A s.heap H locs → lv_has ls 18 [(0, .ref b), (1, .ref qx), (2, .int a2), (3, .ref qb), (4, .int i4_569), (6, .int i6_65), (8, .int u3), (9, .int u4), (16, .int i16_622)] → W p l e room_1 s m #[Value.ref b] below meth c H locs (cells622 + 4) (slots622 + 24) (lw_Z below #[Value.ref b] s) (F0 m 688 ls [.int s0_688]) := by
                                intro s0_688 hf H locs ls hP hD hS hl
                                replace hf := zap1 eK688 hf
                                refine lv_istore (lv' := [(5, .int s0_688), (0, .ref b), (1, .ref qx), (2, .int a2), (3, .ref qb), (4, .int i4_569), (6, .int i6_65), (8, .int u3), (9, .int u4), (16, .int i16_622)]) hx hb dL_law_688 hl (by decide) rfl (fun ls hl => ?_)
                                obtain ⟨x22, ex22⟩ : ∃ y : Int32, y = i16_622 + 1 := ⟨_, rfl⟩
                                replace hf := zbd_of ex22 hf
                                refine lv_iinc (v := x22) (lv' := [(16, .int x22), (5, .int s0_688), (0, .ref b), (1, .ref qx), (2, .int a2), (3, .ref qb), (4, .int i4_569), (6, .int i6_65), (8, .int u3), (9, .int u4)]) hx hb dL_law_690 hl (k := 9) rfl (by rw [ex22]; rfl) (by decide) rfl (fun ls hl => ?_)
                                refine lv_goto (tgt := 622) hx hb dL_law_693 (by decide) ?_
                                exact ih622 s0_688 x22 hf (cells622 + 4) (slots622 + 24) (by omega) (by omega) H locs ls hP hD hS (lv_sub hl [2, 3, 4, 5, 6, 1, 7, 8, 9, 0] rfl)
                              replace hf := zjp_some hf
                              obtain ⟨K687, eK687, hf⟩ := hf
                              have j687 : K687 = some res → ∀ (H : Heap) (locs : List Loc) (ls : Array Slot), va_P D vwCl ((qb, .inl (kb, 24, .inl c_bg_516)) :: TWC qx U v_o_S_569) H → va_D A ((qb, .inl (kb, 24, .inl c_bg_516)) :: TWC qx U v_o_S_569) → va_S A s.heap H locs → lv_has ls 18 [(0, .ref b), (1, .ref qx), (2, .int a2), (3, .ref qb), (4, .int i4_569), (6, .int i6_65), (8, .int u3), (9, .int u4), (16, .int i16_622)] → W p l e room_1 s m #[Value.ref b] below meth c H locs (cells622 + 4) (slots622 + 24) (lw_Z below #[Value.ref b] s) (F0 m 687 ls []) := by
                                intro  hf H locs ls hP hD hS hl
                                replace hf := zap0 eK687 hf
                                refine lv_iconst (v := 0) hx hb dL_law_687 (by decide) ?_
                                exact W.widen (k := cells622 + 4) (n := slots622 + 24) (by omega) (by omega) (j688 0 hf H locs ls hP hD hS (lv_sub hl [0, 1, 2, 3, 4, 5, 6, 7, 8] rfl))
                              refine lv_if_ne (tgt := 687) hx hb dL_law_657 (by decide) (fun cd657 => ?_) (fun cd657 => ?_)
                              · replace hf := zite_f cd657 hf
                                exact W.widen (k := cells622 + 4) (n := slots622 + 24) (by omega) (by omega) (j687  hf H locs ls hP hD hS (lv_sub hl [0, 1, 2, 3, 4, 6, 7, 8, 9] rfl))
                              · replace hf := zite_t cd657 hf
                                refine lv_aload_n hx hb dL_law_660 rfl (lv_at hl 1 rfl) ?_
                                refine lv_iload hx hb dL_law_661 (lv_at hl 9 rfl) ?_
                                replace hf := zob_some hf
                                obtain ⟨u23, hu23, hf⟩ := hf
                                have hc23 := cq_L_moves l D H.size qx U v_o_S_569 i16_622 hl0 u23 hu23
                                refine kzc_i (D := D) (v := u23) (w1 := TWC qx U v_o_S_569) (av := [.ref qx, .int i16_622]) hK hP hD hS hA hE (fun hb1 hp1 => vx_runSW (As := [.ref qx, .int i16_622]) (rest := []) ⟨hx, hb, hml, hown, hts⟩ hc23 (vx_cwSW 2 hts gL_law_L_moves rfl rfl rfl (by decide +kernel) ⟨Nat.le_of_ble_eq_true rfl, Nat.le_of_ble_eq_true rfl⟩) ⟨hb1, hp1⟩ rfl rfl hl.1 rfl (lv_room (Nat.le_of_ble_eq_true rfl)) dL_law_663 ⟨(by show (cells622 + 2) + 1 ≤ 685909; omega), (by show (slots622 + 12) + 6 ≤ 7043741; omega)⟩) (fun H locs hP hD hS => ?_)
                                have hP : va_P D vwCl ((qb, .inl (kb, 24, .inl c_bg_516)) :: TWC qx U v_o_S_569) H := hP
                                have hD : va_D A ((qb, .inl (kb, 24, .inl c_bg_516)) :: TWC qx U v_o_S_569) := hD
                                refine lv_aload_n hx hb dL_law_666 rfl (lv_at hl 3 rfl) ?_
                                refine lv_iload hx hb dL_law_667 (lv_at hl 9 rfl) ?_
                                replace hf := zgd_some hf
                                obtain ⟨g24, hf⟩ := hf
                                refine va_iald (D := D) hx hb hK hP 0 0 rfl rfl (inb_in g24) dL_law_669 ?_
                                refine lv_aload_n hx hb dL_law_670 rfl (lv_at hl 1 rfl) ?_
                                refine lv_iload hx hb dL_law_671 (lv_at hl 9 rfl) ?_
                                replace hf := zob_some hf
                                obtain ⟨u25, hu25, hf⟩ := hf
                                have hc25 := cq_L_position l D H.size qx U v_o_S_569 i16_622 hl0 u25 hu25
                                refine kzc_i (D := D) (v := u25) (w1 := TWC qx U v_o_S_569) (av := [.ref qx, .int i16_622]) hK hP hD hS hA hE (fun hb1 hp1 => vx_runSW (As := [.ref qx, .int i16_622]) (rest := [.int (c_bg_516 (i16_622 : Int32).toNatClampNeg), .int u23]) ⟨hx, hb, hml, hown, hts⟩ hc25 (vx_cwSW 2 hts gL_law_L_position rfl rfl rfl (by decide +kernel) ⟨Nat.le_of_ble_eq_true rfl, Nat.le_of_ble_eq_true rfl⟩) ⟨hb1, hp1⟩ rfl rfl hl.1 rfl (lv_room (Nat.le_of_ble_eq_true rfl)) dL_law_673 ⟨(by show (cells622 + 3) + 1 ≤ 685909; omega), (by show (slots622 + 18) + 6 ≤ 7043741; omega)⟩) (fun H locs hP hD hS => ?_)
                                have hP : va_P D vwCl ((qb, .inl (kb, 24, .inl c_bg_516)) :: TWC qx U v_o_S_569) H := hP
                                have hD : va_D A ((qb, .inl (kb, 24, .inl c_bg_516)) :: TWC qx U v_o_S_569) := hD
                                refine lv_ixor hx hb dL_law_676 ?_
                                replace hf := zob_some hf
                                obtain ⟨u26, hu26, hf⟩ := hf
                                have hc26 := c_L_ones l D H.size ((c_bg_516 (i16_622 : Int32).toNatClampNeg) ^^^ u25) u26 hu26
                                refine kz0_i (D := D) (v := u26) (av := [.int ((c_bg_516 (i16_622 : Int32).toNatClampNeg) ^^^ u25)]) hK hP hD hS hA hE (fun hb1 hp1 => va_runS (As := [.int ((c_bg_516 (i16_622 : Int32).toNatClampNeg) ^^^ u25)]) (rest := [.int u23]) ⟨hx, hb, hml, hown, hts⟩ hc26 (va_cwS 1 hts gL_law_L_ones rfl rfl rfl (by decide +kernel) ⟨Nat.le_of_ble_eq_true rfl, Nat.le_of_ble_eq_true rfl⟩) ⟨hb1, hp1⟩ rfl rfl hl.1 rfl (lv_room (Nat.le_of_ble_eq_true rfl)) dL_law_677 ⟨(by show (cells622 + 4) + 0 ≤ 685909; omega), (by show (slots622 + 24) + 0 ≤ 7043741; omega)⟩) (fun H locs hP hD hS => ?_)
                                have hP : va_P D vwCl ((qb, .inl (kb, 24, .inl c_bg_516)) :: TWC qx U v_o_S_569) H := hP
                                have hD : va_D A ((qb, .inl (kb, 24, .inl c_bg_516)) :: TWC qx U v_o_S_569) := hD
                                refine lv_icmp_lt (tgt := 687) hx hb dL_law_680 (by decide) (fun cd680 => ?_) (fun cd680 => ?_)
                                · replace hf := zite_t cd680 hf
                                  exact W.widen (k := cells622 + 4) (n := slots622 + 24) (by omega) (by omega) (j687  hf H locs ls hP hD hS (lv_sub hl [0, 1, 2, 3, 4, 6, 7, 8, 9] rfl))
                                · replace hf := zite_f cd680 hf
                                  refine lv_iconst (v := 1) hx hb dL_law_683 (by decide) ?_
                                  refine lv_goto (tgt := 688) hx hb dL_law_684 (by decide) ?_
                                  exact W.widen (k := cells622 + 4) (n := slots622 + 24) (by omega) (by omega) (j688 1 hf H locs ls hP hD hS (lv_sub hl [0, 1, 2, 3, 4, 6, 7, 8, 9] rfl))
                      exact h622 32 s0_617 0 hf (cells65 + 841) (slots65 + 5046) (by omega) (by omega) H locs ls hP hD hS (lv_sub hl [2, 3, 4, 5, 6, 1, 7, 8, 9, 0] rfl)
                    replace hf := zjp_some hf
                    obtain ⟨K616, eK616, hf⟩ := hf
                    have j616 : K616 = some res → ∀ (H : Heap) (locs : List Loc) (ls : Array Slot), va_P D vwCl ((qb, .inl (kb, 24, .inl c_bg_516)) :: TWC qx U v_o_S_569) H → va_D A ((qb, .inl (kb, 24, .inl c_bg_516)) :: TWC qx U v_o_S_569) → va_S A s.heap H locs → lv_has ls 18 [(0, .ref b), (1, .ref qx), (2, .int a2), (3, .ref qb), (4, .int i4_569), (6, .int i6_65), (8, .int u3), (9, .int u4)] → W p l e room_1 s m #[Value.ref b] below meth c H locs (cells65 + 841) (slots65 + 5046) (lw_Z below #[Value.ref b] s) (F0 m 616 ls []) := by
                      intro  hf H locs ls hP hD hS hl
                      replace hf := zap0 eK616 hf
                      refine lv_iconst (v := 0) hx hb dL_law_616 (by decide) ?_
                      exact W.widen (k := cells65 + 841) (n := slots65 + 5046) (by omega) (by omega) (j617 0 hf H locs ls hP hD hS (lv_sub hl [0, 1, 2, 3, 4, 5, 6, 7] rfl))
                    refine lv_if_eq (tgt := 616) hx hb dL_law_571 (by decide) (fun cd571 => ?_) (fun cd571 => ?_)
                    · replace hf := zite_t cd571 hf
                      exact W.widen (k := cells65 + 841) (n := slots65 + 5046) (by omega) (by omega) (j616  hf H locs ls hP hD hS (lv_sub hl [0, 1, 2, 3, 4, 6, 7, 8] rfl))
                    · replace hf := zite_f cd571 hf
                      refine lv_iload hx hb dL_law_574 (lv_at hl 10 rfl) ?_
                      replace hf := zjp_some hf
                      obtain ⟨K590, eK590, hf⟩ := hf
                      have j590 : K590 = some res → ∀ (H : Heap) (locs : List Loc) (ls : Array Slot), va_P D vwCl ((qb, .inl (kb, 24, .inl c_bg_516)) :: TWC qx U v_o_S_569) H → va_D A ((qb, .inl (kb, 24, .inl c_bg_516)) :: TWC qx U v_o_S_569) → va_S A s.heap H locs → lv_has ls 18 [(0, .ref b), (1, .ref qx), (2, .int a2), (3, .ref qb), (4, .int i4_569), (6, .int i6_65), (8, .int u3), (9, .int u4)] → W p l e room_1 s m #[Value.ref b] below meth c H locs (cells65 + 838) (slots65 + 5028) (lw_Z below #[Value.ref b] s) (F0 m 590 ls []) := by
                        intro  hf H locs ls hP hD hS hl
                        replace hf := zap0 eK590 hf
                        refine lv_aload_n hx hb dL_law_590 rfl (lv_at hl 1 rfl) ?_
                        refine lv_iconst (v := 0) hx hb dL_law_591 (by decide) ?_
                        replace hf := zob_some hf
                        obtain ⟨u27, hu27, hf⟩ := hf
                        have hc27 := cq_L_count l D H.size qx U v_o_S_569 0 hl0 u27 hu27
                        refine kzc_i (D := D) (v := u27) (w1 := TWC qx U v_o_S_569) (av := [.ref qx, .int 0]) hK hP hD hS hA hE (fun hb1 hp1 => vx_runSW (As := [.ref qx, .int 0]) (rest := []) ⟨hx, hb, hml, hown, hts⟩ hc27 (vx_cwSW 2 hts gL_law_L_count rfl rfl rfl (by decide +kernel) ⟨Nat.le_of_ble_eq_true rfl, Nat.le_of_ble_eq_true rfl⟩) ⟨hb1, hp1⟩ rfl rfl hl.1 rfl (lv_room (Nat.le_of_ble_eq_true rfl)) dL_law_592 ⟨(by show (cells65 + 838) + 1 ≤ 685909; omega), (by show (slots65 + 5028) + 6 ≤ 7043741; omega)⟩) (fun H locs hP hD hS => ?_)
                        have hP : va_P D vwCl ((qb, .inl (kb, 24, .inl c_bg_516)) :: TWC qx U v_o_S_569) H := hP
                        have hD : va_D A ((qb, .inl (kb, 24, .inl c_bg_516)) :: TWC qx U v_o_S_569) := hD
                        refine lv_aload_n hx hb dL_law_595 rfl (lv_at hl 1 rfl) ?_
                        refine lv_iconst (v := 1) hx hb dL_law_596 (by decide) ?_
                        replace hf := zob_some hf
                        obtain ⟨u28, hu28, hf⟩ := hf
                        have hc28 := cq_L_count l D H.size qx U v_o_S_569 1 hl0 u28 hu28
                        refine kzc_i (D := D) (v := u28) (w1 := TWC qx U v_o_S_569) (av := [.ref qx, .int 1]) hK hP hD hS hA hE (fun hb1 hp1 => vx_runSW (As := [.ref qx, .int 1]) (rest := [.int u27]) ⟨hx, hb, hml, hown, hts⟩ hc28 (vx_cwSW 2 hts gL_law_L_count rfl rfl rfl (by decide +kernel) ⟨Nat.le_of_ble_eq_true rfl, Nat.le_of_ble_eq_true rfl⟩) ⟨hb1, hp1⟩ rfl rfl hl.1 rfl (lv_room (Nat.le_of_ble_eq_true rfl)) dL_law_597 ⟨(by show (cells65 + 839) + 1 ≤ 685909; omega), (by show (slots65 + 5034) + 6 ≤ 7043741; omega)⟩) (fun H locs hP hD hS => ?_)
                        have hP : va_P D vwCl ((qb, .inl (kb, 24, .inl c_bg_516)) :: TWC qx U v_o_S_569) H := hP
                        have hD : va_D A ((qb, .inl (kb, 24, .inl c_bg_516)) :: TWC qx U v_o_S_569) := hD
                        refine lv_iadd hx hb dL_law_600 ?_
                        refine lv_aload_n hx hb dL_law_601 rfl (lv_at hl 1 rfl) ?_
                        refine lv_iconst (v := 2) hx hb dL_law_602 (by decide) ?_
                        replace hf := zob_some hf
                        obtain ⟨u29, hu29, hf⟩ := hf
                        have hc29 := cq_L_count l D H.size qx U v_o_S_569 2 hl0 u29 hu29
                        refine kzc_i (D := D) (v := u29) (w1 := TWC qx U v_o_S_569) (av := [.ref qx, .int 2]) hK hP hD hS hA hE (fun hb1 hp1 => vx_runSW (As := [.ref qx, .int 2]) (rest := [.int (u27 + u28)]) ⟨hx, hb, hml, hown, hts⟩ hc29 (vx_cwSW 2 hts gL_law_L_count rfl rfl rfl (by decide +kernel) ⟨Nat.le_of_ble_eq_true rfl, Nat.le_of_ble_eq_true rfl⟩) ⟨hb1, hp1⟩ rfl rfl hl.1 rfl (lv_room (Nat.le_of_ble_eq_true rfl)) dL_law_603 ⟨(by show (cells65 + 840) + 1 ≤ 685909; omega), (by show (slots65 + 5040) + 6 ≤ 7043741; omega)⟩) (fun H locs hP hD hS => ?_)
                        have hP : va_P D vwCl ((qb, .inl (kb, 24, .inl c_bg_516)) :: TWC qx U v_o_S_569) H := hP
                        have hD : va_D A ((qb, .inl (kb, 24, .inl c_bg_516)) :: TWC qx U v_o_S_569) := hD
                        refine lv_iadd hx hb dL_law_606 ?_
                        refine lv_iload hx hb dL_law_607 (lv_at hl 4 rfl) ?_
                        refine lv_icmp_ne (tgt := 616) hx hb dL_law_609 (by decide) (fun cd609 => ?_) (fun cd609 => ?_)
                        · replace hf := zite_f cd609 hf
                          exact W.widen (k := cells65 + 841) (n := slots65 + 5046) (by omega) (by omega) (j616  hf H locs ls hP hD hS (lv_sub hl [0, 1, 2, 3, 4, 5, 6, 7] rfl))
                        · replace hf := zite_t cd609 hf
                          refine lv_iconst (v := 1) hx hb dL_law_612 (by decide) ?_
                          refine lv_goto (tgt := 617) hx hb dL_law_613 (by decide) ?_
                          exact W.widen (k := cells65 + 841) (n := slots65 + 5046) (by omega) (by omega) (j617 1 hf H locs ls hP hD hS (lv_sub hl [0, 1, 2, 3, 4, 5, 6, 7] rfl))
                      refine lv_if_ge (tgt := 590) hx hb dL_law_576 (by decide) (fun cd576 => ?_) (fun cd576 => ?_)
                      · replace hf := zite_t cd576 hf
                        exact W.widen (k := cells65 + 838) (n := slots65 + 5028) (by omega) (by omega) (j590  hf H locs ls hP hD hS (lv_sub hl [0, 1, 2, 3, 4, 6, 7, 8] rfl))
                      · replace hf := zite_f cd576 hf
                        refine lv_aload_n hx hb dL_law_579 rfl (lv_at hl 1 rfl) ?_
                        refine lv_iload_n hx hb dL_law_580 rfl (lv_at hl 2 rfl) ?_
                        replace hf := zob_some hf
                        obtain ⟨u30, hu30, hf⟩ := hf
                        have hc30 := c_L_print l D H.size qx U v_o_S_569 a2 hl0 u30 hu30
                        refine kzc_l (D := D) (v := u30) (w1 := TWC qx U v_o_S_569) (av := [.ref qx, .int a2]) hK hP hD hS hA hE (fun hb1 hp1 => va_runS (As := [.ref qx, .int a2]) (rest := []) ⟨hx, hb, hml, hown, hts⟩ hc30 (va_cwS 2 hts gL_law_L_print rfl rfl rfl (by decide +kernel) ⟨Nat.le_of_ble_eq_true rfl, Nat.le_of_ble_eq_true rfl⟩) ⟨hb1, hp1⟩ rfl rfl hl.1 rfl (lv_room (Nat.le_of_ble_eq_true rfl)) dL_law_581 ⟨(by show (cells65 + 582) + 256 ≤ 685909; omega), (by show (slots65 + 3492) + 1536 ≤ 7043741; omega)⟩) (fun H locs hP hD hS => ?_)
                        have hP : va_P D vwCl ((qb, .inl (kb, 24, .inl c_bg_516)) :: TWC qx U v_o_S_569) H := hP
                        have hD : va_D A ((qb, .inl (kb, 24, .inl c_bg_516)) :: TWC qx U v_o_S_569) := hD
                        refine lv_lload hx hb dL_law_584 (lv_at hl 9 rfl) ?_
                        refine W.lcmp hx hb dL_law_586 ?_
                        refine lv_if_ne (tgt := 616) hx hb dL_law_587 (by decide) (fun cd587 => ?_) (fun cd587 => ?_)
                        · replace hf := zite_f cd587 hf
                          exact W.widen (k := cells65 + 841) (n := slots65 + 5046) (by omega) (by omega) (j616  hf H locs ls hP hD hS (lv_sub hl [0, 1, 2, 3, 4, 6, 7, 8] rfl))
                        · replace hf := zite_t cd587 hf
                          exact W.widen (k := cells65 + 838) (n := slots65 + 5028) (by omega) (by omega) (j590  hf H locs ls hP hD hS (lv_sub hl [0, 1, 2, 3, 4, 6, 7, 8] rfl))
                  refine lv_if_eq (tgt := 569) hx hb dL_law_518 (by decide) (fun cd518 => ?_) (fun cd518 => ?_)
                  · replace hf := zite_t cd518 hf
                    exact W.widen (k := cells65 + 582) (n := slots65 + 3492) (by omega) (by omega) (j569 i4_516 i5_516 v_o_S_516 hf H locs ls hP hD hS (lv_sub hl [0, 1, 2, 3, 4, 5, 6, 8, 9, 10, 11] rfl))
                  · replace hf := zite_f cd518 hf
                    refine lv_iload hx hb dL_law_521 (lv_at hl 11 rfl) ?_
                    refine lv_if_lt (tgt := 569) hx hb dL_law_523 (by decide) (fun cd523 => ?_) (fun cd523 => ?_)
                    · replace hf := zite_t cd523 hf
                      exact W.widen (k := cells65 + 582) (n := slots65 + 3492) (by omega) (by omega) (j569 i4_516 i5_516 v_o_S_516 hf H locs ls hP hD hS (lv_sub hl [0, 1, 2, 3, 4, 5, 6, 8, 9, 10, 11] rfl))
                    · replace hf := zite_f cd523 hf
                      refine lv_iload hx hb dL_law_526 (lv_at hl 7 rfl) ?_
                      refine lv_bipush (v := 26) hx hb dL_law_528 (by decide) ?_
                      refine lv_ishr hx hb dL_law_530 ?_
                      refine lv_bipush (v := 7) hx hb dL_law_531 (by decide) ?_
                      refine lv_iand hx hb dL_law_533 ?_
                      refine lv_if_ne (tgt := 569) hx hb dL_law_534 (by decide) (fun cd534 => ?_) (fun cd534 => ?_)
                      · replace hf := zite_f cd534 hf
                        exact W.widen (k := cells65 + 582) (n := slots65 + 3492) (by omega) (by omega) (j569 i4_516 i5_516 v_o_S_516 hf H locs ls hP hD hS (lv_sub hl [0, 1, 2, 3, 4, 5, 6, 8, 9, 10, 11] rfl))
                      · replace hf := zite_t cd534 hf
                        refine lv_aload_n hx hb dL_law_537 rfl (lv_at hl 1 rfl) ?_
                        replace hf := zob_some hf
                        obtain ⟨u31, hu31, hf⟩ := hf
                        have hc31 := cq_L_undo l D H.size qx U v_o_S_516  hl0 u31 hu31
                        refine kzc_i (D := D) (v := u31.1) (w1 := TWC qx U u31.2) (av := [.ref qx]) hK hP hD hS hA hE (fun hb1 hp1 => vx_runSW (As := [.ref qx]) (rest := []) ⟨hx, hb, hml, hown, hts⟩ hc31 (vx_cwSW 1 hts gL_law_L_undo rfl rfl rfl (by decide +kernel) ⟨Nat.le_of_ble_eq_true rfl, Nat.le_of_ble_eq_true rfl⟩) ⟨hb1, hp1⟩ rfl rfl hl.1 rfl (lv_room (Nat.le_of_ble_eq_true rfl)) dL_law_538 ⟨(by show (cells65 + 325) + 1 ≤ 685909; omega), (by show (slots65 + 1950) + 6 ≤ 7043741; omega)⟩) (fun H locs hP hD hS => ?_)
                        have hP : va_P D vwCl ((qb, .inl (kb, 24, .inl c_bg_516)) :: TWC qx U u31.2) H := hP
                        have hD : va_D A ((qb, .inl (kb, 24, .inl c_bg_516)) :: TWC qx U u31.2) := hD
                        replace hf := zjp_some hf
                        obtain ⟨K560, eK560, hf⟩ := hf
                        have j560 : ∀ (s0_560 : Int32), K560 s0_560 = some res → ∀ (H : Heap) (locs : List Loc) (ls : Array Slot), va_P D vwCl ((qb, .inl (kb, 24, .inl c_bg_516)) :: TWC qx U u31.2) H → va_D A ((qb, .inl (kb, 24, .inl c_bg_516)) :: TWC qx U u31.2) → va_S A s.heap H locs → lv_has ls 18 [(0, .ref b), (1, .ref qx), (2, .int a2), (3, .ref qb), (4, .int i4_516), (6, .int i6_65), (8, .int u3), (9, .int u4), (10, .long u5), (14, .int i14_516), (15, .int i15_516)] → W p l e room_1 s m #[Value.ref b] below meth c H locs (cells65 + 582) (slots65 + 3492) (lw_Z below #[Value.ref b] s) (F0 m 560 ls [.int s0_560]) := by
                          intro s0_560 hf H locs ls hP hD hS hl
                          replace hf := zap1 eK560 hf
                          refine lv_istore (lv' := [(5, .int s0_560), (0, .ref b), (1, .ref qx), (2, .int a2), (3, .ref qb), (4, .int i4_516), (6, .int i6_65), (8, .int u3), (9, .int u4), (10, .long u5), (14, .int i14_516), (15, .int i15_516)]) hx hb dL_law_560 hl (by decide) rfl (fun ls hl => ?_)
                          refine lv_iload hx hb dL_law_562 (lv_at hl 5 rfl) ?_
                          refine lv_iload hx hb dL_law_564 (lv_at hl 11 rfl) ?_
                          refine lv_isub hx hb dL_law_566 ?_
                          refine lv_topi (fun x32 ex32 => ?_)
                          replace hf := zbd_of ex32 hf
                          refine lv_istore (lv' := [(4, .int x32), (5, .int s0_560), (0, .ref b), (1, .ref qx), (2, .int a2), (3, .ref qb), (6, .int i6_65), (8, .int u3), (9, .int u4), (10, .long u5), (14, .int i14_516), (15, .int i15_516)]) hx hb dL_law_567 hl (by decide) rfl (fun ls hl => ?_)
                          exact W.widen (k := cells65 + 582) (n := slots65 + 3492) (by omega) (by omega) (j569 x32 s0_560 u31.2 hf H locs ls hP hD hS (lv_sub hl [2, 3, 4, 5, 0, 1, 6, 7, 8, 9, 10] rfl))
                        replace hf := zjp_some hf
                        obtain ⟨K559, eK559, hf⟩ := hf
                        have j559 : K559 = some res → ∀ (H : Heap) (locs : List Loc) (ls : Array Slot), va_P D vwCl ((qb, .inl (kb, 24, .inl c_bg_516)) :: TWC qx U u31.2) H → va_D A ((qb, .inl (kb, 24, .inl c_bg_516)) :: TWC qx U u31.2) → va_S A s.heap H locs → lv_has ls 18 [(0, .ref b), (1, .ref qx), (2, .int a2), (3, .ref qb), (4, .int i4_516), (6, .int i6_65), (8, .int u3), (9, .int u4), (10, .long u5), (14, .int i14_516), (15, .int i15_516)] → W p l e room_1 s m #[Value.ref b] below meth c H locs (cells65 + 582) (slots65 + 3492) (lw_Z below #[Value.ref b] s) (F0 m 559 ls []) := by
                          intro  hf H locs ls hP hD hS hl
                          replace hf := zap0 eK559 hf
                          refine lv_iconst (v := 0) hx hb dL_law_559 (by decide) ?_
                          exact W.widen (k := cells65 + 582) (n := slots65 + 3492) (by omega) (by omega) (j560 0 hf H locs ls hP hD hS (lv_sub hl [0, 1, 2, 3, 4, 5, 6, 7, 8, 9, 10] rfl))
                        refine lv_if_lt (tgt := 559) hx hb dL_law_541 (by decide) (fun cd541 => ?_) (fun cd541 => ?_)
                        · replace hf := zite_t cd541 hf
                          exact W.widen (k := cells65 + 582) (n := slots65 + 3492) (by omega) (by omega) (j559  hf H locs ls hP hD hS (lv_sub hl [0, 1, 2, 3, 4, 6, 8, 9, 10, 11, 12] rfl))
                        · replace hf := zite_f cd541 hf
                          refine lv_aload_n hx hb dL_law_544 rfl (lv_at hl 1 rfl) ?_
                          refine lv_iload_n hx hb dL_law_545 rfl (lv_at hl 2 rfl) ?_
                          replace hf := zob_some hf
                          obtain ⟨u33, hu33, hf⟩ := hf
                          have hc33 := c_L_print l D H.size qx U u31.2 a2 hl0 u33 hu33
                          refine kzc_l (D := D) (v := u33) (w1 := TWC qx U u31.2) (av := [.ref qx, .int a2]) hK hP hD hS hA hE (fun hb1 hp1 => va_runS (As := [.ref qx, .int a2]) (rest := []) ⟨hx, hb, hml, hown, hts⟩ hc33 (va_cwS 2 hts gL_law_L_print rfl rfl rfl (by decide +kernel) ⟨Nat.le_of_ble_eq_true rfl, Nat.le_of_ble_eq_true rfl⟩) ⟨hb1, hp1⟩ rfl rfl hl.1 rfl (lv_room (Nat.le_of_ble_eq_true rfl)) dL_law_546 ⟨(by show (cells65 + 326) + 256 ≤ 685909; omega), (by show (slots65 + 1956) + 1536 ≤ 7043741; omega)⟩) (fun H locs hP hD hS => ?_)
                          have hP : va_P D vwCl ((qb, .inl (kb, 24, .inl c_bg_516)) :: TWC qx U u31.2) H := hP
                          have hD : va_D A ((qb, .inl (kb, 24, .inl c_bg_516)) :: TWC qx U u31.2) := hD
                          refine lv_lload hx hb dL_law_549 (lv_at hl 10 rfl) ?_
                          refine W.lcmp hx hb dL_law_551 ?_
                          refine lv_if_ne (tgt := 559) hx hb dL_law_552 (by decide) (fun cd552 => ?_) (fun cd552 => ?_)
                          · replace hf := zite_f cd552 hf
                            exact W.widen (k := cells65 + 582) (n := slots65 + 3492) (by omega) (by omega) (j559  hf H locs ls hP hD hS (lv_sub hl [0, 1, 2, 3, 4, 6, 8, 9, 10, 11, 12] rfl))
                          · replace hf := zite_t cd552 hf
                            refine lv_iconst (v := 1) hx hb dL_law_555 (by decide) ?_
                            refine lv_goto (tgt := 560) hx hb dL_law_556 (by decide) ?_
                            exact W.widen (k := cells65 + 582) (n := slots65 + 3492) (by omega) (by omega) (j560 1 hf H locs ls hP hD hS (lv_sub hl [0, 1, 2, 3, 4, 6, 8, 9, 10, 11, 12] rfl))
                replace hf := zjp_some hf
                obtain ⟨K208, eK208, hf⟩ := hf
                have j208 : K208 = some res → ∀ (H : Heap) (locs : List Loc) (ls : Array Slot), va_P D vwCl ((qb, .inl (kb, 24, .inl c_bg_65)) :: TWC qx U v_o_S_65) H → va_D A ((qb, .inl (kb, 24, .inl c_bg_65)) :: TWC qx U v_o_S_65) → va_S A s.heap H locs → lv_has ls 18 [(0, .ref b), (1, .ref qx), (2, .int a2), (3, .ref qb), (4, .int i4_65), (6, .int i6_65), (7, .int u2), (8, .int u3), (9, .int u4), (10, .long u5), (12, .int s0_135), (15, .int 0)] → W p l e room_1 s m #[Value.ref b] below meth c H locs (cells65 + 258) (slots65 + 1548) (lw_Z below #[Value.ref b] s) (F0 m 208 ls []) := by
                  intro  hf H locs ls hP hD hS hl
                  replace hf := zap0 eK208 hf
                  refine lv_aload_n hx hb dL_law_208 rfl (lv_at hl 1 rfl) ?_
                  refine lv_iload hx hb dL_law_209 (lv_at hl 7 rfl) ?_
                  replace hf := zob_some hf
                  obtain ⟨u34, hu34, hf⟩ := hf
                  have hc34 := cq_L_kill l D H.size qx U v_o_S_65 u3 hl0 u34 hu34
                  refine kzc_i (D := D) (v := u34.1) (w1 := TWC qx U u34.2) (av := [.ref qx, .int u3]) hK hP hD hS hA hE (fun hb1 hp1 => vx_runSW (As := [.ref qx, .int u3]) (rest := []) ⟨hx, hb, hml, hown, hts⟩ hc34 (vx_cwSW 2 hts gL_law_L_kill rfl rfl rfl (by decide +kernel) ⟨Nat.le_of_ble_eq_true rfl, Nat.le_of_ble_eq_true rfl⟩) ⟨hb1, hp1⟩ rfl rfl hl.1 rfl (lv_room (Nat.le_of_ble_eq_true rfl)) dL_law_211 ⟨(by show (cells65 + 258) + 2 ≤ 685909; omega), (by show (slots65 + 1548) + 12 ≤ 7043741; omega)⟩) (fun H locs hP hD hS => ?_)
                  have hP : va_P D vwCl ((qb, .inl (kb, 24, .inl c_bg_65)) :: TWC qx U u34.2) H := hP
                  have hD : va_D A ((qb, .inl (kb, 24, .inl c_bg_65)) :: TWC qx U u34.2) := hD
                  refine lv_topi (fun x35 ex35 => ?_)
                  replace hf := zbd_of ex35 hf
                  refine lv_istore (lv' := [(14, .int x35), (0, .ref b), (1, .ref qx), (2, .int a2), (3, .ref qb), (4, .int i4_65), (6, .int i6_65), (7, .int u2), (8, .int u3), (9, .int u4), (10, .long u5), (12, .int s0_135), (15, .int 0)]) hx hb dL_law_214 hl (by decide) rfl (fun ls hl => ?_)
                  refine lv_iload hx hb dL_law_216 (lv_at hl 11 rfl) ?_
                  replace hf := zjp_some hf
                  obtain ⟨K263, eK263, hf⟩ := hf
                  have j263 : ∀ (s0_263 : Int32), K263 s0_263 = some res → ∀ (H : Heap) (locs : List Loc) (ls : Array Slot), va_P D vwCl ((qb, .inl (kb, 24, .inl c_bg_65)) :: TWC qx U u34.2) H → va_D A ((qb, .inl (kb, 24, .inl c_bg_65)) :: TWC qx U u34.2) → va_S A s.heap H locs → lv_has ls 18 [(0, .ref b), (1, .ref qx), (2, .int a2), (3, .ref qb), (4, .int i4_65), (6, .int i6_65), (7, .int u2), (8, .int u3), (9, .int u4), (10, .long u5), (14, .int x35), (15, .int 0)] → W p l e room_1 s m #[Value.ref b] below meth c H locs (cells65 + 261) (slots65 + 1566) (lw_Z below #[Value.ref b] s) (F0 m 263 ls [.int s0_263]) := by
                    intro s0_263 hf H locs ls hP hD hS hl
                    replace hf := zap1 eK263 hf
                    refine lv_istore (lv' := [(5, .int s0_263), (0, .ref b), (1, .ref qx), (2, .int a2), (3, .ref qb), (4, .int i4_65), (6, .int i6_65), (7, .int u2), (8, .int u3), (9, .int u4), (10, .long u5), (14, .int x35), (15, .int 0)]) hx hb dL_law_263 hl (by decide) rfl (fun ls hl => ?_)
                    refine lv_goto (tgt := 516) hx hb dL_law_265 (by decide) ?_
                    exact W.widen (k := cells65 + 325) (n := slots65 + 1950) (by omega) (by omega) (j516 i4_65 s0_263 x35 0 c_bg_65 u34.2 hf H locs ls hP hD hS (lv_sub hl [1, 2, 3, 4, 5, 0, 6, 7, 8, 9, 10, 11, 12] rfl))
                  refine lv_if_eq (tgt := 250) hx hb dL_law_218 (by decide) (fun cd218 => ?_) (fun cd218 => ?_)
                  · replace hf := zite_t cd218 hf
                    refine lv_iload hx hb dL_law_250 (lv_at hl 0 rfl) ?_
                    refine lv_sipush (v := (-2000)) hx hb dL_law_252 (by decide) ?_
                    refine lv_icmp_ne (tgt := 262) hx hb dL_law_255 (by decide) (fun cd255 => ?_) (fun cd255 => ?_)
                    · replace hf := zite_f cd255 hf
                      refine lv_iconst (v := 0) hx hb dL_law_262 (by decide) ?_
                      exact W.widen (k := cells65 + 261) (n := slots65 + 1566) (by omega) (by omega) (j263 0 hf H locs ls hP hD hS (lv_sub hl [1, 2, 3, 4, 5, 6, 7, 8, 9, 10, 0, 12] rfl))
                    · replace hf := zite_t cd255 hf
                      refine lv_iconst (v := 1) hx hb dL_law_258 (by decide) ?_
                      refine lv_goto (tgt := 263) hx hb dL_law_259 (by decide) ?_
                      exact W.widen (k := cells65 + 261) (n := slots65 + 1566) (by omega) (by omega) (j263 1 hf H locs ls hP hD hS (lv_sub hl [1, 2, 3, 4, 5, 6, 7, 8, 9, 10, 0, 12] rfl))
                  · replace hf := zite_f cd218 hf
                    refine lv_iload hx hb dL_law_221 (lv_at hl 0 rfl) ?_
                    replace hf := zjp_some hf
                    obtain ⟨K246, eK246, hf⟩ := hf
                    have j246 : K246 = some res → ∀ (H : Heap) (locs : List Loc) (ls : Array Slot), va_P D vwCl ((qb, .inl (kb, 24, .inl c_bg_65)) :: TWC qx U u34.2) H → va_D A ((qb, .inl (kb, 24, .inl c_bg_65)) :: TWC qx U u34.2) → va_S A s.heap H locs → lv_has ls 18 [(0, .ref b), (1, .ref qx), (2, .int a2), (3, .ref qb), (4, .int i4_65), (6, .int i6_65), (7, .int u2), (8, .int u3), (9, .int u4), (10, .long u5), (14, .int x35), (15, .int 0)] → W p l e room_1 s m #[Value.ref b] below meth c H locs (cells65 + 261) (slots65 + 1566) (lw_Z below #[Value.ref b] s) (F0 m 246 ls []) := by
                      intro  hf H locs ls hP hD hS hl
                      replace hf := zap0 eK246 hf
                      refine lv_iconst (v := 0) hx hb dL_law_246 (by decide) ?_
                      refine lv_goto (tgt := 263) hx hb dL_law_247 (by decide) ?_
                      exact W.widen (k := cells65 + 261) (n := slots65 + 1566) (by omega) (by omega) (j263 0 hf H locs ls hP hD hS (lv_sub hl [0, 1, 2, 3, 4, 5, 6, 7, 8, 9, 10, 11] rfl))
                    refine lv_if_lt (tgt := 246) hx hb dL_law_223 (by decide) (fun cd223 => ?_) (fun cd223 => ?_)
                    · replace hf := zite_t cd223 hf
                      exact W.widen (k := cells65 + 261) (n := slots65 + 1566) (by omega) (by omega) (j246  hf H locs ls hP hD hS (lv_sub hl [1, 2, 3, 4, 5, 6, 7, 8, 9, 10, 0, 12] rfl))
                    · replace hf := zite_f cd223 hf
                      refine lv_aload_n hx hb dL_law_226 rfl (lv_at hl 2 rfl) ?_
                      refine lv_iload hx hb dL_law_227 (lv_at hl 8 rfl) ?_
                      replace hf := zob_some hf
                      obtain ⟨u36, hu36, hf⟩ := hf
                      have hc36 := cq_L_isAlive l D H.size qx U u34.2 u3 hl0 u36 hu36
                      refine kzc_i (D := D) (v := u36) (w1 := TWC qx U u34.2) (av := [.ref qx, .int u3]) hK hP hD hS hA hE (fun hb1 hp1 => vx_runSW (As := [.ref qx, .int u3]) (rest := []) ⟨hx, hb, hml, hown, hts⟩ hc36 (vx_cwSW 2 hts gL_law_L_isAlive rfl rfl rfl (by decide +kernel) ⟨Nat.le_of_ble_eq_true rfl, Nat.le_of_ble_eq_true rfl⟩) ⟨hb1, hp1⟩ rfl rfl hl.1 rfl (lv_room (Nat.le_of_ble_eq_true rfl)) dL_law_229 ⟨(by show (cells65 + 260) + 1 ≤ 685909; omega), (by show (slots65 + 1560) + 6 ≤ 7043741; omega)⟩) (fun H locs hP hD hS => ?_)
                      have hP : va_P D vwCl ((qb, .inl (kb, 24, .inl c_bg_65)) :: TWC qx U u34.2) H := hP
                      have hD : va_D A ((qb, .inl (kb, 24, .inl c_bg_65)) :: TWC qx U u34.2) := hD
                      refine lv_if_ne (tgt := 246) hx hb dL_law_232 (by decide) (fun cd232 => ?_) (fun cd232 => ?_)
                      · replace hf := zite_f cd232 hf
                        exact W.widen (k := cells65 + 261) (n := slots65 + 1566) (by omega) (by omega) (j246  hf H locs ls hP hD hS (lv_sub hl [1, 2, 3, 4, 5, 6, 7, 8, 9, 10, 0, 12] rfl))
                      · replace hf := zite_t cd232 hf
                        refine lv_iload hx hb dL_law_235 (lv_at hl 0 rfl) ?_
                        refine lv_iload hx hb dL_law_237 (lv_at hl 5 rfl) ?_
                        refine lv_icmp_gt (tgt := 246) hx hb dL_law_239 (by decide) (fun cd239 => ?_) (fun cd239 => ?_)
                        · replace hf := zite_t cd239 hf
                          exact W.widen (k := cells65 + 261) (n := slots65 + 1566) (by omega) (by omega) (j246  hf H locs ls hP hD hS (lv_sub hl [1, 2, 3, 4, 5, 6, 7, 8, 9, 10, 0, 12] rfl))
                        · replace hf := zite_f cd239 hf
                          refine lv_iconst (v := 1) hx hb dL_law_242 (by decide) ?_
                          refine lv_goto (tgt := 263) hx hb dL_law_243 (by decide) ?_
                          exact W.widen (k := cells65 + 261) (n := slots65 + 1566) (by omega) (by omega) (j263 1 hf H locs ls hP hD hS (lv_sub hl [1, 2, 3, 4, 5, 6, 7, 8, 9, 10, 0, 12] rfl))
                replace hf := zjp_some hf
                obtain ⟨K331, eK331, hf⟩ := hf
                have j331 : K331 = some res → ∀ (H : Heap) (locs : List Loc) (ls : Array Slot), va_P D vwCl ((qb, .inl (kb, 24, .inl c_bg_65)) :: TWC qx U v_o_S_65) H → va_D A ((qb, .inl (kb, 24, .inl c_bg_65)) :: TWC qx U v_o_S_65) → va_S A s.heap H locs → lv_has ls 18 [(0, .ref b), (1, .ref qx), (2, .int a2), (3, .ref qb), (4, .int i4_65), (6, .int i6_65), (7, .int u2), (8, .int u3), (9, .int u4), (10, .long u5), (13, .int s0_157)] → W p l e room_1 s m #[Value.ref b] below meth c H locs (cells65 + 258) (slots65 + 1548) (lw_Z below #[Value.ref b] s) (F0 m 331 ls []) := by
                  intro  hf H locs ls hP hD hS hl
                  replace hf := zap0 eK331 hf
                  refine lv_aload_n hx hb dL_law_331 rfl (lv_at hl 1 rfl) ?_
                  refine lv_iload hx hb dL_law_332 (lv_at hl 7 rfl) ?_
                  refine lv_iload hx hb dL_law_334 (lv_at hl 8 rfl) ?_
                  replace hf := zob_some hf
                  obtain ⟨u37, hu37, hf⟩ := hf
                  have hc37 := cq_L_send l D H.size qx U v_o_S_65 u3 u4 hl0 u37 hu37
                  refine kzc_i (D := D) (v := u37.1) (w1 := TWC qx U u37.2) (av := [.ref qx, .int u3, .int u4]) hK hP hD hS hA hE (fun hb1 hp1 => vx_runSW (As := [.ref qx, .int u3, .int u4]) (rest := []) ⟨hx, hb, hml, hown, hts⟩ hc37 (vx_cwSW 3 hts gL_law_L_send rfl rfl rfl (by decide +kernel) ⟨Nat.le_of_ble_eq_true rfl, Nat.le_of_ble_eq_true rfl⟩) ⟨hb1, hp1⟩ rfl rfl hl.1 rfl (lv_room (Nat.le_of_ble_eq_true rfl)) dL_law_336 ⟨(by show (cells65 + 258) + 5 ≤ 685909; omega), (by show (slots65 + 1548) + 30 ≤ 7043741; omega)⟩) (fun H locs hP hD hS => ?_)
                  have hP : va_P D vwCl ((qb, .inl (kb, 24, .inl c_bg_65)) :: TWC qx U u37.2) H := hP
                  have hD : va_D A ((qb, .inl (kb, 24, .inl c_bg_65)) :: TWC qx U u37.2) := hD
                  refine lv_topi (fun x38 ex38 => ?_)
                  replace hf := zbd_of ex38 hf
                  refine lv_istore (lv' := [(14, .int x38), (0, .ref b), (1, .ref qx), (2, .int a2), (3, .ref qb), (4, .int i4_65), (6, .int i6_65), (7, .int u2), (8, .int u3), (9, .int u4), (10, .long u5), (13, .int s0_157)]) hx hb dL_law_339 hl (by decide) rfl (fun ls hl => ?_)
                  refine lv_iload hx hb dL_law_341 (lv_at hl 0 rfl) ?_
                  refine lv_iload hx hb dL_law_343 (lv_at hl 11 rfl) ?_
                  replace hf := zjp_some hf
                  obtain ⟨K363, eK363, hf⟩ := hf
                  have j363 : ∀ (s0_363 : Int32) (s1_363 : Int32), K363 s0_363 s1_363 = some res → ∀ (H : Heap) (locs : List Loc) (ls : Array Slot), va_P D vwCl ((qb, .inl (kb, 24, .inl c_bg_65)) :: TWC qx U u37.2) H → va_D A ((qb, .inl (kb, 24, .inl c_bg_65)) :: TWC qx U u37.2) → va_S A s.heap H locs → lv_has ls 18 [(0, .ref b), (1, .ref qx), (2, .int a2), (3, .ref qb), (4, .int i4_65), (6, .int i6_65), (7, .int u2), (8, .int u3), (9, .int u4), (10, .long u5), (14, .int x38)] → W p l e room_1 s m #[Value.ref b] below meth c H locs (cells65 + 263) (slots65 + 1578) (lw_Z below #[Value.ref b] s) (F0 m 363 ls [.int s1_363, .int s0_363]) := by
                    intro s0_363 s1_363 hf H locs ls hP hD hS hl
                    replace hf := zap2 eK363 hf
                    replace hf := zjp_some hf
                    obtain ⟨K371, eK371, hf⟩ := hf
                    have j371 : ∀ (s0_371 : Int32), K371 s0_371 = some res → ∀ (H : Heap) (locs : List Loc) (ls : Array Slot), va_P D vwCl ((qb, .inl (kb, 24, .inl c_bg_65)) :: TWC qx U u37.2) H → va_D A ((qb, .inl (kb, 24, .inl c_bg_65)) :: TWC qx U u37.2) → va_S A s.heap H locs → lv_has ls 18 [(0, .ref b), (1, .ref qx), (2, .int a2), (3, .ref qb), (4, .int i4_65), (6, .int i6_65), (7, .int u2), (8, .int u3), (9, .int u4), (10, .long u5), (14, .int x38)] → W p l e room_1 s m #[Value.ref b] below meth c H locs (cells65 + 263) (slots65 + 1578) (lw_Z below #[Value.ref b] s) (F0 m 371 ls [.int s0_371]) := by
                      intro s0_371 hf H locs ls hP hD hS hl
                      replace hf := zap1 eK371 hf
                      refine lv_istore (lv' := [(5, .int s0_371), (0, .ref b), (1, .ref qx), (2, .int a2), (3, .ref qb), (4, .int i4_65), (6, .int i6_65), (7, .int u2), (8, .int u3), (9, .int u4), (10, .long u5), (14, .int x38)]) hx hb dL_law_371 hl (by decide) rfl (fun ls hl => ?_)
                      refine lv_iload hx hb dL_law_373 (lv_at hl 11 rfl) ?_
                      replace hf := zjp_some hf
                      obtain ⟨K383, eK383, hf⟩ := hf
                      have j383 : ∀ (s0_383 : Int32), K383 s0_383 = some res → ∀ (H : Heap) (locs : List Loc) (ls : Array Slot), va_P D vwCl ((qb, .inl (kb, 24, .inl c_bg_65)) :: TWC qx U u37.2) H → va_D A ((qb, .inl (kb, 24, .inl c_bg_65)) :: TWC qx U u37.2) → va_S A s.heap H locs → lv_has ls 18 [(0, .ref b), (1, .ref qx), (2, .int a2), (3, .ref qb), (4, .int i4_65), (5, .int s0_371), (6, .int i6_65), (7, .int u2), (8, .int u3), (9, .int u4), (10, .long u5), (14, .int x38)] → W p l e room_1 s m #[Value.ref b] below meth c H locs (cells65 + 263) (slots65 + 1578) (lw_Z below #[Value.ref b] s) (F0 m 383 ls [.int s0_383]) := by
                        intro s0_383 hf H locs ls hP hD hS hl
                        replace hf := zap1 eK383 hf
                        refine lv_istore (lv' := [(15, .int s0_383), (0, .ref b), (1, .ref qx), (2, .int a2), (3, .ref qb), (4, .int i4_65), (5, .int s0_371), (6, .int i6_65), (7, .int u2), (8, .int u3), (9, .int u4), (10, .long u5), (14, .int x38)]) hx hb dL_law_383 hl (by decide) rfl (fun ls hl => ?_)
                        refine lv_iload hx hb dL_law_385 (lv_at hl 0 rfl) ?_
                        refine lv_iconst (v := 1) hx hb dL_law_387 (by decide) ?_
                        refine lv_icmp_ne (tgt := 516) hx hb dL_law_388 (by decide) (fun cd388 => ?_) (fun cd388 => ?_)
                        · replace hf := zite_f cd388 hf
                          exact W.widen (k := cells65 + 325) (n := slots65 + 1950) (by omega) (by omega) (j516 i4_65 s0_371 x38 s0_383 c_bg_65 u37.2 hf H locs ls hP hD hS (lv_sub hl [1, 2, 3, 4, 5, 6, 7, 8, 9, 10, 11, 12, 0] rfl))
                        · replace hf := zite_t cd388 hf
                          refine lv_aload_n hx hb dL_law_391 rfl (lv_at hl 4 rfl) ?_
                          refine lv_iload hx hb dL_law_392 (lv_at hl 5 rfl) ?_
                          refine lv_iload hx hb dL_law_394 (lv_at hl 9 rfl) ?_
                          replace hf := zgd_some hf
                          obtain ⟨g39, hf⟩ := hf
                          refine va_iast (D := D) hx hb hK hP hD hS 0 0 rfl rfl (inb_in g39) dL_law_396 (fun H locs hP hD hS => ?_)
                          obtain ⟨y40, ey40⟩ : ∃ y : (Nat → Int32), y = upd c_bg_65 (i4_65 : Int32).toNatClampNeg u3 := ⟨_, rfl⟩
                          replace hf := zbd_of ey40 hf
                          have hP : va_P D vwCl ((qb, .inl (kb, 24, .inl y40)) :: TWC qx U u37.2) H := by rw [ey40]; exact hP
                          have hD : va_D A ((qb, .inl (kb, 24, .inl y40)) :: TWC qx U u37.2) := by rw [ey40]; exact hD
                          obtain ⟨x41, ex41⟩ : ∃ y : Int32, y = i4_65 + 1 := ⟨_, rfl⟩
                          replace hf := zbd_of ex41 hf
                          refine lv_iinc (v := x41) (lv' := [(4, .int x41), (15, .int s0_383), (0, .ref b), (1, .ref qx), (2, .int a2), (3, .ref qb), (5, .int s0_371), (6, .int i6_65), (7, .int u2), (8, .int u3), (9, .int u4), (10, .long u5), (14, .int x38)]) hx hb dL_law_397 hl (k := 5) rfl (by rw [ex41]; rfl) (by decide) rfl (fun ls hl => ?_)
                          refine lv_iload hx hb dL_law_400 (lv_at hl 6 rfl) ?_
                          replace hf := zjp_some hf
                          obtain ⟨K451, eK451, hf⟩ := hf
                          have j451 : ∀ (s0_451 : Int32), K451 s0_451 = some res → ∀ (H : Heap) (locs : List Loc) (ls : Array Slot), va_P D vwCl ((qb, .inl (kb, 24, .inl y40)) :: TWC qx U u37.2) H → va_D A ((qb, .inl (kb, 24, .inl y40)) :: TWC qx U u37.2) → va_S A s.heap H locs → lv_has ls 18 [(0, .ref b), (1, .ref qx), (2, .int a2), (3, .ref qb), (4, .int x41), (6, .int i6_65), (7, .int u2), (8, .int u3), (9, .int u4), (10, .long u5), (14, .int x38), (15, .int s0_383)] → W p l e room_1 s m #[Value.ref b] below meth c H locs (cells65 + 266) (slots65 + 1596) (lw_Z below #[Value.ref b] s) (F0 m 451 ls [.int s0_451]) := by
                            intro s0_451 hf H locs ls hP hD hS hl
                            replace hf := zap1 eK451 hf
                            refine lv_istore (lv' := [(5, .int s0_451), (0, .ref b), (1, .ref qx), (2, .int a2), (3, .ref qb), (4, .int x41), (6, .int i6_65), (7, .int u2), (8, .int u3), (9, .int u4), (10, .long u5), (14, .int x38), (15, .int s0_383)]) hx hb dL_law_451 hl (by decide) rfl (fun ls hl => ?_)
                            refine lv_goto (tgt := 516) hx hb dL_law_453 (by decide) ?_
                            exact W.widen (k := cells65 + 325) (n := slots65 + 1950) (by omega) (by omega) (j516 x41 s0_451 x38 s0_383 y40 u37.2 hf H locs ls hP hD hS (lv_sub hl [1, 2, 3, 4, 5, 0, 6, 7, 8, 9, 10, 11, 12] rfl))
                          replace hf := zjp_some hf
                          obtain ⟨K450, eK450, hf⟩ := hf
                          have j450 : K450 = some res → ∀ (H : Heap) (locs : List Loc) (ls : Array Slot), va_P D vwCl ((qb, .inl (kb, 24, .inl y40)) :: TWC qx U u37.2) H → va_D A ((qb, .inl (kb, 24, .inl y40)) :: TWC qx U u37.2) → va_S A s.heap H locs → lv_has ls 18 [(0, .ref b), (1, .ref qx), (2, .int a2), (3, .ref qb), (4, .int x41), (6, .int i6_65), (7, .int u2), (8, .int u3), (9, .int u4), (10, .long u5), (14, .int x38), (15, .int s0_383)] → W p l e room_1 s m #[Value.ref b] below meth c H locs (cells65 + 266) (slots65 + 1596) (lw_Z below #[Value.ref b] s) (F0 m 450 ls []) := by
                            intro  hf H locs ls hP hD hS hl
                            replace hf := zap0 eK450 hf
                            refine lv_iconst (v := 0) hx hb dL_law_450 (by decide) ?_
                            exact W.widen (k := cells65 + 266) (n := slots65 + 1596) (by omega) (by omega) (j451 0 hf H locs ls hP hD hS (lv_sub hl [0, 1, 2, 3, 4, 5, 6, 7, 8, 9, 10, 11] rfl))
                          refine lv_if_eq (tgt := 450) hx hb dL_law_402 (by decide) (fun cd402 => ?_) (fun cd402 => ?_)
                          · replace hf := zite_t cd402 hf
                            exact W.widen (k := cells65 + 266) (n := slots65 + 1596) (by omega) (by omega) (j450  hf H locs ls hP hD hS (lv_sub hl [2, 3, 4, 5, 0, 7, 8, 9, 10, 11, 12, 1] rfl))
                          · replace hf := zite_f cd402 hf
                            refine lv_aload_n hx hb dL_law_405 rfl (lv_at hl 3 rfl) ?_
                            refine lv_iload hx hb dL_law_406 (lv_at hl 12 rfl) ?_
                            replace hf := zob_some hf
                            obtain ⟨u42, hu42, hf⟩ := hf
                            have hc42 := cq_L_state l D H.size qx U u37.2 x38 hl0 u42 hu42
                            refine kzc_i (D := D) (v := u42) (w1 := TWC qx U u37.2) (av := [.ref qx, .int x38]) hK hP hD hS hA hE (fun hb1 hp1 => vx_runSW (As := [.ref qx, .int x38]) (rest := []) ⟨hx, hb, hml, hown, hts⟩ hc42 (vx_cwSW 2 hts gL_law_L_state rfl rfl rfl (by decide +kernel) ⟨Nat.le_of_ble_eq_true rfl, Nat.le_of_ble_eq_true rfl⟩) ⟨hb1, hp1⟩ rfl rfl hl.1 rfl (lv_room (Nat.le_of_ble_eq_true rfl)) dL_law_408 ⟨(by show (cells65 + 263) + 1 ≤ 685909; omega), (by show (slots65 + 1578) + 6 ≤ 7043741; omega)⟩) (fun H locs hP hD hS => ?_)
                            have hP : va_P D vwCl ((qb, .inl (kb, 24, .inl y40)) :: TWC qx U u37.2) H := hP
                            have hD : va_D A ((qb, .inl (kb, 24, .inl y40)) :: TWC qx U u37.2) := hD
                            refine lv_iload hx hb dL_law_411 (lv_at hl 9 rfl) ?_
                            refine lv_iload hx hb dL_law_413 (lv_at hl 10 rfl) ?_
                            replace hf := zjp_some hf
                            obtain ⟨K423, eK423, hf⟩ := hf
                            have j423 : ∀ (s0_423 : Int32) (s1_423 : Int32), K423 s0_423 s1_423 = some res → ∀ (H : Heap) (locs : List Loc) (ls : Array Slot), va_P D vwCl ((qb, .inl (kb, 24, .inl y40)) :: TWC qx U u37.2) H → va_D A ((qb, .inl (kb, 24, .inl y40)) :: TWC qx U u37.2) → va_S A s.heap H locs → lv_has ls 18 [(0, .ref b), (1, .ref qx), (2, .int a2), (3, .ref qb), (4, .int x41), (6, .int i6_65), (7, .int u2), (8, .int u3), (9, .int u4), (10, .long u5), (14, .int x38), (15, .int s0_383)] → W p l e room_1 s m #[Value.ref b] below meth c H locs (cells65 + 264) (slots65 + 1584) (lw_Z below #[Value.ref b] s) (F0 m 423 ls [.int s1_423, .int s0_423]) := by
                              intro s0_423 s1_423 hf H locs ls hP hD hS hl
                              replace hf := zap2 eK423 hf
                              refine lv_icmp_ne (tgt := 450) hx hb dL_law_423 (by decide) (fun cd423 => ?_) (fun cd423 => ?_)
                              · replace hf := zite_f cd423 hf
                                exact W.widen (k := cells65 + 266) (n := slots65 + 1596) (by omega) (by omega) (j450  hf H locs ls hP hD hS (lv_sub hl [0, 1, 2, 3, 4, 5, 6, 7, 8, 9, 10, 11] rfl))
                              · replace hf := zite_t cd423 hf
                                refine lv_aload_n hx hb dL_law_426 rfl (lv_at hl 1 rfl) ?_
                                refine lv_iload hx hb dL_law_427 (lv_at hl 10 rfl) ?_
                                replace hf := zob_some hf
                                obtain ⟨u43, hu43, hf⟩ := hf
                                have hc43 := cq_L_position l D H.size qx U u37.2 x38 hl0 u43 hu43
                                refine kzc_i (D := D) (v := u43) (w1 := TWC qx U u37.2) (av := [.ref qx, .int x38]) hK hP hD hS hA hE (fun hb1 hp1 => vx_runSW (As := [.ref qx, .int x38]) (rest := []) ⟨hx, hb, hml, hown, hts⟩ hc43 (vx_cwSW 2 hts gL_law_L_position rfl rfl rfl (by decide +kernel) ⟨Nat.le_of_ble_eq_true rfl, Nat.le_of_ble_eq_true rfl⟩) ⟨hb1, hp1⟩ rfl rfl hl.1 rfl (lv_room (Nat.le_of_ble_eq_true rfl)) dL_law_429 ⟨(by show (cells65 + 264) + 1 ≤ 685909; omega), (by show (slots65 + 1584) + 6 ≤ 7043741; omega)⟩) (fun H locs hP hD hS => ?_)
                                have hP : va_P D vwCl ((qb, .inl (kb, 24, .inl y40)) :: TWC qx U u37.2) H := hP
                                have hD : va_D A ((qb, .inl (kb, 24, .inl y40)) :: TWC qx U u37.2) := hD
                                refine lv_iload hx hb dL_law_432 (lv_at hl 7 rfl) ?_
                                refine lv_icmp_ne (tgt := 450) hx hb dL_law_434 (by decide) (fun cd434 => ?_) (fun cd434 => ?_)
                                · replace hf := zite_f cd434 hf
                                  exact W.widen (k := cells65 + 266) (n := slots65 + 1596) (by omega) (by omega) (j450  hf H locs ls hP hD hS (lv_sub hl [0, 1, 2, 3, 4, 5, 6, 7, 8, 9, 10, 11] rfl))
                                · replace hf := zite_t cd434 hf
                                  refine lv_aload_n hx hb dL_law_437 rfl (lv_at hl 1 rfl) ?_
                                  refine lv_iload hx hb dL_law_438 (lv_at hl 10 rfl) ?_
                                  replace hf := zob_some hf
                                  obtain ⟨u44, hu44, hf⟩ := hf
                                  have hc44 := cq_L_moves l D H.size qx U u37.2 x38 hl0 u44 hu44
                                  refine kzc_i (D := D) (v := u44) (w1 := TWC qx U u37.2) (av := [.ref qx, .int x38]) hK hP hD hS hA hE (fun hb1 hp1 => vx_runSW (As := [.ref qx, .int x38]) (rest := []) ⟨hx, hb, hml, hown, hts⟩ hc44 (vx_cwSW 2 hts gL_law_L_moves rfl rfl rfl (by decide +kernel) ⟨Nat.le_of_ble_eq_true rfl, Nat.le_of_ble_eq_true rfl⟩) ⟨hb1, hp1⟩ rfl rfl hl.1 rfl (lv_room (Nat.le_of_ble_eq_true rfl)) dL_law_440 ⟨(by show (cells65 + 265) + 1 ≤ 685909; omega), (by show (slots65 + 1590) + 6 ≤ 7043741; omega)⟩) (fun H locs hP hD hS => ?_)
                                  have hP : va_P D vwCl ((qb, .inl (kb, 24, .inl y40)) :: TWC qx U u37.2) H := hP
                                  have hD : va_D A ((qb, .inl (kb, 24, .inl y40)) :: TWC qx U u37.2) := hD
                                  refine lv_if_ne (tgt := 450) hx hb dL_law_443 (by decide) (fun cd443 => ?_) (fun cd443 => ?_)
                                  · replace hf := zite_f cd443 hf
                                    exact W.widen (k := cells65 + 266) (n := slots65 + 1596) (by omega) (by omega) (j450  hf H locs ls hP hD hS (lv_sub hl [0, 1, 2, 3, 4, 5, 6, 7, 8, 9, 10, 11] rfl))
                                  · replace hf := zite_t cd443 hf
                                    refine lv_iconst (v := 1) hx hb dL_law_446 (by decide) ?_
                                    refine lv_goto (tgt := 451) hx hb dL_law_447 (by decide) ?_
                                    exact W.widen (k := cells65 + 266) (n := slots65 + 1596) (by omega) (by omega) (j451 1 hf H locs ls hP hD hS (lv_sub hl [0, 1, 2, 3, 4, 5, 6, 7, 8, 9, 10, 11] rfl))
                            refine lv_icmp_ne (tgt := 422) hx hb dL_law_415 (by decide) (fun cd415 => ?_) (fun cd415 => ?_)
                            · replace hf := zite_f cd415 hf
                              refine lv_iconst (v := 0) hx hb dL_law_422 (by decide) ?_
                              exact W.widen (k := cells65 + 264) (n := slots65 + 1584) (by omega) (by omega) (j423 u42 0 hf H locs ls hP hD hS (lv_sub hl [2, 3, 4, 5, 0, 7, 8, 9, 10, 11, 12, 1] rfl))
                            · replace hf := zite_t cd415 hf
                              refine lv_iconst (v := 1) hx hb dL_law_418 (by decide) ?_
                              refine lv_goto (tgt := 423) hx hb dL_law_419 (by decide) ?_
                              exact W.widen (k := cells65 + 264) (n := slots65 + 1584) (by omega) (by omega) (j423 u42 1 hf H locs ls hP hD hS (lv_sub hl [2, 3, 4, 5, 0, 7, 8, 9, 10, 11, 12, 1] rfl))
                      refine lv_if_lt (tgt := 382) hx hb dL_law_375 (by decide) (fun cd375 => ?_) (fun cd375 => ?_)
                      · replace hf := zite_t cd375 hf
                        refine lv_iconst (v := 0) hx hb dL_law_382 (by decide) ?_
                        exact W.widen (k := cells65 + 263) (n := slots65 + 1578) (by omega) (by omega) (j383 0 hf H locs ls hP hD hS (lv_sub hl [1, 2, 3, 4, 5, 0, 6, 7, 8, 9, 10, 11] rfl))
                      · replace hf := zite_f cd375 hf
                        refine lv_iconst (v := 1) hx hb dL_law_378 (by decide) ?_
                        refine lv_goto (tgt := 383) hx hb dL_law_379 (by decide) ?_
                        exact W.widen (k := cells65 + 263) (n := slots65 + 1578) (by omega) (by omega) (j383 1 hf H locs ls hP hD hS (lv_sub hl [1, 2, 3, 4, 5, 0, 6, 7, 8, 9, 10, 11] rfl))
                    refine lv_icmp_ne (tgt := 370) hx hb dL_law_363 (by decide) (fun cd363 => ?_) (fun cd363 => ?_)
                    · replace hf := zite_f cd363 hf
                      refine lv_iconst (v := 0) hx hb dL_law_370 (by decide) ?_
                      exact W.widen (k := cells65 + 263) (n := slots65 + 1578) (by omega) (by omega) (j371 0 hf H locs ls hP hD hS (lv_sub hl [0, 1, 2, 3, 4, 5, 6, 7, 8, 9, 10] rfl))
                    · replace hf := zite_t cd363 hf
                      refine lv_iconst (v := 1) hx hb dL_law_366 (by decide) ?_
                      refine lv_goto (tgt := 371) hx hb dL_law_367 (by decide) ?_
                      exact W.widen (k := cells65 + 263) (n := slots65 + 1578) (by omega) (by omega) (j371 1 hf H locs ls hP hD hS (lv_sub hl [0, 1, 2, 3, 4, 5, 6, 7, 8, 9, 10] rfl))
                  replace hf := zjp_some hf
                  obtain ⟨K360, eK360, hf⟩ := hf
                  have j360 : ∀ (s0_360 : Int32), K360 s0_360 = some res → ∀ (H : Heap) (locs : List Loc) (ls : Array Slot), va_P D vwCl ((qb, .inl (kb, 24, .inl c_bg_65)) :: TWC qx U u37.2) H → va_D A ((qb, .inl (kb, 24, .inl c_bg_65)) :: TWC qx U u37.2) → va_S A s.heap H locs → lv_has ls 18 [(0, .ref b), (1, .ref qx), (2, .int a2), (3, .ref qb), (4, .int i4_65), (6, .int i6_65), (7, .int u2), (8, .int u3), (9, .int u4), (10, .long u5), (14, .int x38)] → W p l e room_1 s m #[Value.ref b] below meth c H locs (cells65 + 263) (slots65 + 1578) (lw_Z below #[Value.ref b] s) (F0 m 360 ls [.int s0_360]) := by
                    intro s0_360 hf H locs ls hP hD hS hl
                    replace hf := zap1 eK360 hf
                    refine lv_sipush (v := (-2000)) hx hb dL_law_360 (by decide) ?_
                    exact W.widen (k := cells65 + 263) (n := slots65 + 1578) (by omega) (by omega) (j363 s0_360 (-2000) hf H locs ls hP hD hS (lv_sub hl [0, 1, 2, 3, 4, 5, 6, 7, 8, 9, 10] rfl))
                  refine lv_if_eq (tgt := 360) hx hb dL_law_345 (by decide) (fun cd345 => ?_) (fun cd345 => ?_)
                  · replace hf := zite_t cd345 hf
                    exact W.widen (k := cells65 + 263) (n := slots65 + 1578) (by omega) (by omega) (j360 x38 hf H locs ls hP hD hS (lv_sub hl [1, 2, 3, 4, 5, 6, 7, 8, 9, 10, 0] rfl))
                  · replace hf := zite_f cd345 hf
                    refine lv_iload hx hb dL_law_348 (lv_at hl 5 rfl) ?_
                    refine lv_bipush (v := 24) hx hb dL_law_350 (by decide) ?_
                    refine lv_icmp_ge (tgt := 360) hx hb dL_law_352 (by decide) (fun cd352 => ?_) (fun cd352 => ?_)
                    · replace hf := zite_t cd352 hf
                      exact W.widen (k := cells65 + 263) (n := slots65 + 1578) (by omega) (by omega) (j360 x38 hf H locs ls hP hD hS (lv_sub hl [1, 2, 3, 4, 5, 6, 7, 8, 9, 10, 0] rfl))
                    · replace hf := zite_f cd352 hf
                      refine lv_iload hx hb dL_law_355 (lv_at hl 5 rfl) ?_
                      refine lv_goto (tgt := 363) hx hb dL_law_357 (by decide) ?_
                      exact W.widen (k := cells65 + 263) (n := slots65 + 1578) (by omega) (by omega) (j363 x38 i4_65 hf H locs ls hP hD hS (lv_sub hl [1, 2, 3, 4, 5, 6, 7, 8, 9, 10, 0] rfl))
                by_cases cs172_0 : (u7 : Int32) = 0
                · replace hf := zite_t cs172_0 hf
                  refine W.eq (g2 := F0 m 172 ls (.int 0 :: [])) (by rw [cs172_0]) ?_
                  refine lv_tableIn (off := 36) (tgt := 208) hx hb dL_law_172 (by decide) (by decide) rfl rfl ?_
                  exact W.widen (k := cells65 + 258) (n := slots65 + 1548) (by omega) (by omega) (j208  hf H locs ls hP hD hS (lv_sub hl [3, 4, 5, 6, 7, 8, 9, 10, 11, 12, 13, 0] rfl))
                replace hf := zite_f cs172_0 hf
                by_cases cs172_1 : (u7 : Int32) = 1
                · replace hf := zite_t cs172_1 hf
                  refine W.eq (g2 := F0 m 172 ls (.int 1 :: [])) (by rw [cs172_1]) ?_
                  refine lv_tableIn (off := 36) (tgt := 208) hx hb dL_law_172 (by decide) (by decide) rfl rfl ?_
                  exact W.widen (k := cells65 + 258) (n := slots65 + 1548) (by omega) (by omega) (j208  hf H locs ls hP hD hS (lv_sub hl [3, 4, 5, 6, 7, 8, 9, 10, 11, 12, 13, 0] rfl))
                replace hf := zite_f cs172_1 hf
                by_cases cs172_2 : (u7 : Int32) = 2
                · replace hf := zite_t cs172_2 hf
                  refine W.eq (g2 := F0 m 172 ls (.int 2 :: [])) (by rw [cs172_2]) ?_
                  refine lv_tableIn (off := 96) (tgt := 268) hx hb dL_law_172 (by decide) (by decide) rfl rfl ?_
                  refine lv_aload_n hx hb dL_law_268 rfl (lv_at hl 4 rfl) ?_
                  refine lv_iload hx hb dL_law_269 (lv_at hl 10 rfl) ?_
                  replace hf := zob_some hf
                  obtain ⟨u45, hu45, hf⟩ := hf
                  have hc45 := cq_L_revive l D H.size qx U v_o_S_65 u3 hl0 u45 hu45
                  refine kzc_i (D := D) (v := u45.1) (w1 := TWC qx U u45.2) (av := [.ref qx, .int u3]) hK hP hD hS hA hE (fun hb1 hp1 => vx_runSW (As := [.ref qx, .int u3]) (rest := []) ⟨hx, hb, hml, hown, hts⟩ hc45 (vx_cwSW 2 hts gL_law_L_revive rfl rfl rfl (by decide +kernel) ⟨Nat.le_of_ble_eq_true rfl, Nat.le_of_ble_eq_true rfl⟩) ⟨hb1, hp1⟩ rfl rfl hl.1 rfl (lv_room (Nat.le_of_ble_eq_true rfl)) dL_law_271 ⟨(by show (cells65 + 258) + 2 ≤ 685909; omega), (by show (slots65 + 1548) + 12 ≤ 7043741; omega)⟩) (fun H locs hP hD hS => ?_)
                  have hP : va_P D vwCl ((qb, .inl (kb, 24, .inl c_bg_65)) :: TWC qx U u45.2) H := hP
                  have hD : va_D A ((qb, .inl (kb, 24, .inl c_bg_65)) :: TWC qx U u45.2) := hD
                  refine lv_topi (fun x46 ex46 => ?_)
                  replace hf := zbd_of ex46 hf
                  refine lv_istore (lv' := [(14, .int x46), (15, .int 0), (13, .int s0_157), (0, .ref b), (1, .ref qx), (2, .int a2), (3, .ref qb), (4, .int i4_65), (6, .int i6_65), (7, .int u2), (8, .int u3), (9, .int u4), (10, .long u5), (12, .int s0_135)]) hx hb dL_law_274 hl (by decide) rfl (fun ls hl => ?_)
                  refine lv_iload hx hb dL_law_276 (lv_at hl 13 rfl) ?_
                  replace hf := zjp_some hf
                  obtain ⟨K326, eK326, hf⟩ := hf
                  have j326 : ∀ (s0_326 : Int32), K326 s0_326 = some res → ∀ (H : Heap) (locs : List Loc) (ls : Array Slot), va_P D vwCl ((qb, .inl (kb, 24, .inl c_bg_65)) :: TWC qx U u45.2) H → va_D A ((qb, .inl (kb, 24, .inl c_bg_65)) :: TWC qx U u45.2) → va_S A s.heap H locs → lv_has ls 18 [(0, .ref b), (1, .ref qx), (2, .int a2), (3, .ref qb), (4, .int i4_65), (6, .int i6_65), (7, .int u2), (8, .int u3), (9, .int u4), (10, .long u5), (14, .int x46), (15, .int 0)] → W p l e room_1 s m #[Value.ref b] below meth c H locs (cells65 + 325) (slots65 + 1950) (lw_Z below #[Value.ref b] s) (F0 m 326 ls [.int s0_326]) := by
                    intro s0_326 hf H locs ls hP hD hS hl
                    replace hf := zap1 eK326 hf
                    refine lv_istore (lv' := [(5, .int s0_326), (0, .ref b), (1, .ref qx), (2, .int a2), (3, .ref qb), (4, .int i4_65), (6, .int i6_65), (7, .int u2), (8, .int u3), (9, .int u4), (10, .long u5), (14, .int x46), (15, .int 0)]) hx hb dL_law_326 hl (by decide) rfl (fun ls hl => ?_)
                    refine lv_goto (tgt := 516) hx hb dL_law_328 (by decide) ?_
                    exact W.widen (k := cells65 + 325) (n := slots65 + 1950) (by omega) (by omega) (j516 i4_65 s0_326 x46 0 c_bg_65 u45.2 hf H locs ls hP hD hS (lv_sub hl [1, 2, 3, 4, 5, 0, 6, 7, 8, 9, 10, 11, 12] rfl))
                  refine lv_if_eq (tgt := 297) hx hb dL_law_278 (by decide) (fun cd278 => ?_) (fun cd278 => ?_)
                  · replace hf := zite_t cd278 hf
                    refine lv_iload hx hb dL_law_297 (lv_at hl 0 rfl) ?_
                    refine lv_iconst (v := 1) hx hb dL_law_299 (by decide) ?_
                    refine lv_iload_n hx hb dL_law_300 rfl (lv_at hl 5 rfl) ?_
                    refine lv_ishl hx hb dL_law_301 ?_
                    refine lv_aload_n hx hb dL_law_302 rfl (lv_at hl 4 rfl) ?_
                    refine lv_iload_n hx hb dL_law_303 rfl (lv_at hl 5 rfl) ?_
                    replace hf := zob_some hf
                    obtain ⟨u47, hu47, hf⟩ := hf
                    have hc47 := c_L_alive l D H.size qx U u45.2 a2 hl0 u47 hu47
                    refine kzc_i (D := D) (v := u47) (w1 := TWC qx U u45.2) (av := [.ref qx, .int a2]) hK hP hD hS hA hE (fun hb1 hp1 => va_runS (As := [.ref qx, .int a2]) (rest := [.int ((1 : Int32) <<< (a2 &&& 31)), .int x46]) ⟨hx, hb, hml, hown, hts⟩ hc47 (va_cwS 2 hts gL_law_L_alive rfl rfl rfl (by decide +kernel) ⟨Nat.le_of_ble_eq_true rfl, Nat.le_of_ble_eq_true rfl⟩) ⟨hb1, hp1⟩ rfl rfl hl.1 rfl (lv_room (Nat.le_of_ble_eq_true rfl)) dL_law_304 ⟨(by show (cells65 + 260) + 64 ≤ 685909; omega), (by show (slots65 + 1560) + 384 ≤ 7043741; omega)⟩) (fun H locs hP hD hS => ?_)
                    have hP : va_P D vwCl ((qb, .inl (kb, 24, .inl c_bg_65)) :: TWC qx U u45.2) H := hP
                    have hD : va_D A ((qb, .inl (kb, 24, .inl c_bg_65)) :: TWC qx U u45.2) := hD
                    refine lv_isub hx hb dL_law_307 ?_
                    replace hf := zjp_some hf
                    obtain ⟨K325, eK325, hf⟩ := hf
                    have j325 : K325 = some res → ∀ (H : Heap) (locs : List Loc) (ls : Array Slot), va_P D vwCl ((qb, .inl (kb, 24, .inl c_bg_65)) :: TWC qx U u45.2) H → va_D A ((qb, .inl (kb, 24, .inl c_bg_65)) :: TWC qx U u45.2) → va_S A s.heap H locs → lv_has ls 18 [(0, .ref b), (1, .ref qx), (2, .int a2), (3, .ref qb), (4, .int i4_65), (6, .int i6_65), (7, .int u2), (8, .int u3), (9, .int u4), (10, .long u5), (14, .int x46), (15, .int 0)] → W p l e room_1 s m #[Value.ref b] below meth c H locs (cells65 + 325) (slots65 + 1950) (lw_Z below #[Value.ref b] s) (F0 m 325 ls []) := by
                      intro  hf H locs ls hP hD hS hl
                      replace hf := zap0 eK325 hf
                      refine lv_iconst (v := 0) hx hb dL_law_325 (by decide) ?_
                      exact W.widen (k := cells65 + 325) (n := slots65 + 1950) (by omega) (by omega) (j326 0 hf H locs ls hP hD hS (lv_sub hl [0, 1, 2, 3, 4, 5, 6, 7, 8, 9, 10, 11] rfl))
                    refine lv_icmp_ne (tgt := 325) hx hb dL_law_308 (by decide) (fun cd308 => ?_) (fun cd308 => ?_)
                    · replace hf := zite_f cd308 hf
                      exact W.widen (k := cells65 + 325) (n := slots65 + 1950) (by omega) (by omega) (j325  hf H locs ls hP hD hS (lv_sub hl [3, 4, 5, 6, 7, 8, 9, 10, 11, 12, 0, 1] rfl))
                    · replace hf := zite_t cd308 hf
                      refine lv_aload_n hx hb dL_law_311 rfl (lv_at hl 4 rfl) ?_
                      refine lv_iload hx hb dL_law_312 (lv_at hl 10 rfl) ?_
                      replace hf := zob_some hf
                      obtain ⟨u48, hu48, hf⟩ := hf
                      have hc48 := cq_L_isAlive l D H.size qx U u45.2 u3 hl0 u48 hu48
                      refine kzc_i (D := D) (v := u48) (w1 := TWC qx U u45.2) (av := [.ref qx, .int u3]) hK hP hD hS hA hE (fun hb1 hp1 => vx_runSW (As := [.ref qx, .int u3]) (rest := []) ⟨hx, hb, hml, hown, hts⟩ hc48 (vx_cwSW 2 hts gL_law_L_isAlive rfl rfl rfl (by decide +kernel) ⟨Nat.le_of_ble_eq_true rfl, Nat.le_of_ble_eq_true rfl⟩) ⟨hb1, hp1⟩ rfl rfl hl.1 rfl (lv_room (Nat.le_of_ble_eq_true rfl)) dL_law_314 ⟨(by show (cells65 + 324) + 1 ≤ 685909; omega), (by show (slots65 + 1944) + 6 ≤ 7043741; omega)⟩) (fun H locs hP hD hS => ?_)
                      have hP : va_P D vwCl ((qb, .inl (kb, 24, .inl c_bg_65)) :: TWC qx U u45.2) H := hP
                      have hD : va_D A ((qb, .inl (kb, 24, .inl c_bg_65)) :: TWC qx U u45.2) := hD
                      refine lv_iconst (v := 1) hx hb dL_law_317 (by decide) ?_
                      refine lv_icmp_ne (tgt := 325) hx hb dL_law_318 (by decide) (fun cd318 => ?_) (fun cd318 => ?_)
                      · replace hf := zite_f cd318 hf
                        exact W.widen (k := cells65 + 325) (n := slots65 + 1950) (by omega) (by omega) (j325  hf H locs ls hP hD hS (lv_sub hl [3, 4, 5, 6, 7, 8, 9, 10, 11, 12, 0, 1] rfl))
                      · replace hf := zite_t cd318 hf
                        refine lv_iconst (v := 1) hx hb dL_law_321 (by decide) ?_
                        refine lv_goto (tgt := 326) hx hb dL_law_322 (by decide) ?_
                        exact W.widen (k := cells65 + 325) (n := slots65 + 1950) (by omega) (by omega) (j326 1 hf H locs ls hP hD hS (lv_sub hl [3, 4, 5, 6, 7, 8, 9, 10, 11, 12, 0, 1] rfl))
                  · replace hf := zite_f cd278 hf
                    refine lv_iload hx hb dL_law_281 (lv_at hl 0 rfl) ?_
                    refine lv_sipush (v := (-2000)) hx hb dL_law_283 (by decide) ?_
                    refine lv_icmp_ne (tgt := 293) hx hb dL_law_286 (by decide) (fun cd286 => ?_) (fun cd286 => ?_)
                    · replace hf := zite_f cd286 hf
                      refine lv_iconst (v := 0) hx hb dL_law_293 (by decide) ?_
                      refine lv_goto (tgt := 326) hx hb dL_law_294 (by decide) ?_
                      exact W.widen (k := cells65 + 325) (n := slots65 + 1950) (by omega) (by omega) (j326 0 hf H locs ls hP hD hS (lv_sub hl [3, 4, 5, 6, 7, 8, 9, 10, 11, 12, 0, 1] rfl))
                    · replace hf := zite_t cd286 hf
                      refine lv_iconst (v := 1) hx hb dL_law_289 (by decide) ?_
                      refine lv_goto (tgt := 326) hx hb dL_law_290 (by decide) ?_
                      exact W.widen (k := cells65 + 325) (n := slots65 + 1950) (by omega) (by omega) (j326 1 hf H locs ls hP hD hS (lv_sub hl [3, 4, 5, 6, 7, 8, 9, 10, 11, 12, 0, 1] rfl))
                replace hf := zite_f cs172_2 hf
                by_cases cs172_3 : (u7 : Int32) = 3
                · replace hf := zite_t cs172_3 hf
                  refine W.eq (g2 := F0 m 172 ls (.int 3 :: [])) (by rw [cs172_3]) ?_
                  refine lv_tableIn (off := 159) (tgt := 331) hx hb dL_law_172 (by decide) (by decide) rfl rfl ?_
                  exact W.widen (k := cells65 + 258) (n := slots65 + 1548) (by omega) (by omega) (j331  hf H locs ls hP hD hS (lv_sub hl [3, 4, 5, 6, 7, 8, 9, 10, 11, 12, 2] rfl))
                replace hf := zite_f cs172_3 hf
                by_cases cs172_4 : (u7 : Int32) = 4
                · replace hf := zite_t cs172_4 hf
                  refine W.eq (g2 := F0 m 172 ls (.int 4 :: [])) (by rw [cs172_4]) ?_
                  refine lv_tableIn (off := 159) (tgt := 331) hx hb dL_law_172 (by decide) (by decide) rfl rfl ?_
                  exact W.widen (k := cells65 + 258) (n := slots65 + 1548) (by omega) (by omega) (j331  hf H locs ls hP hD hS (lv_sub hl [3, 4, 5, 6, 7, 8, 9, 10, 11, 12, 2] rfl))
                replace hf := zite_f cs172_4 hf
                refine lv_tableOut (tgt := 456) hx hb dL_law_172 (tb_out4 cs172_0 cs172_1 cs172_2 cs172_3 cs172_4) rfl ?_
                refine lv_aload_n hx hb dL_law_456 rfl (lv_at hl 4 rfl) ?_
                refine lv_iconst (v := 0) hx hb dL_law_457 (by decide) ?_
                replace hf := zob_some hf
                obtain ⟨u49, hu49, hf⟩ := hf
                have hc49 := cq_L_count l D H.size qx U v_o_S_65 0 hl0 u49 hu49
                refine kzc_i (D := D) (v := u49) (w1 := TWC qx U v_o_S_65) (av := [.ref qx, .int 0]) hK hP hD hS hA hE (fun hb1 hp1 => vx_runSW (As := [.ref qx, .int 0]) (rest := []) ⟨hx, hb, hml, hown, hts⟩ hc49 (vx_cwSW 2 hts gL_law_L_count rfl rfl rfl (by decide +kernel) ⟨Nat.le_of_ble_eq_true rfl, Nat.le_of_ble_eq_true rfl⟩) ⟨hb1, hp1⟩ rfl rfl hl.1 rfl (lv_room (Nat.le_of_ble_eq_true rfl)) dL_law_458 ⟨(by show (cells65 + 258) + 1 ≤ 685909; omega), (by show (slots65 + 1548) + 6 ≤ 7043741; omega)⟩) (fun H locs hP hD hS => ?_)
                have hP : va_P D vwCl ((qb, .inl (kb, 24, .inl c_bg_65)) :: TWC qx U v_o_S_65) H := hP
                have hD : va_D A ((qb, .inl (kb, 24, .inl c_bg_65)) :: TWC qx U v_o_S_65) := hD
                refine lv_istore (lv' := [(16, .int u49), (15, .int 0), (14, .int 0), (13, .int s0_157), (0, .ref b), (1, .ref qx), (2, .int a2), (3, .ref qb), (4, .int i4_65), (6, .int i6_65), (7, .int u2), (8, .int u3), (9, .int u4), (10, .long u5), (12, .int s0_135)]) hx hb dL_law_461 hl (by decide) rfl (fun ls hl => ?_)
                refine lv_iconst (v := 1) hx hb dL_law_463 (by decide) ?_
                refine lv_iload hx hb dL_law_464 (lv_at hl 10 rfl) ?_
                refine lv_bipush (v := 18) hx hb dL_law_466 (by decide) ?_
                refine lv_ishr hx hb dL_law_468 ?_
                refine lv_iconst (v := 3) hx hb dL_law_469 (by decide) ?_
                replace hf := zob_some hf
                obtain ⟨u50, hu50, hf⟩ := hf
                have hc50 := c_L_low l D H.size (u2 >>> ((18 : Int32) &&& 31)) 3 u50 hu50
                refine kz0_i (D := D) (v := u50) (av := [.int (u2 >>> ((18 : Int32) &&& 31)), .int 3]) hK hP hD hS hA hE (fun hb1 hp1 => va_runS (As := [.int (u2 >>> ((18 : Int32) &&& 31)), .int 3]) (rest := [.int 1]) ⟨hx, hb, hml, hown, hts⟩ hc50 (va_cwS 2 hts gL_law_L_low rfl rfl rfl (by decide +kernel) ⟨Nat.le_of_ble_eq_true rfl, Nat.le_of_ble_eq_true rfl⟩) ⟨hb1, hp1⟩ rfl rfl hl.1 rfl (lv_room (Nat.le_of_ble_eq_true rfl)) dL_law_470 ⟨(by show (cells65 + 259) + 0 ≤ 685909; omega), (by show (slots65 + 1554) + 0 ≤ 7043741; omega)⟩) (fun H locs hP hD hS => ?_)
                have hP : va_P D vwCl ((qb, .inl (kb, 24, .inl c_bg_65)) :: TWC qx U v_o_S_65) H := hP
                have hD : va_D A ((qb, .inl (kb, 24, .inl c_bg_65)) :: TWC qx U v_o_S_65) := hD
                refine lv_iadd hx hb dL_law_473 ?_
                refine lv_topi (fun x51 ex51 => ?_)
                replace hf := zbd_of ex51 hf
                refine lv_istore (lv' := [(17, .int x51), (16, .int u49), (15, .int 0), (14, .int 0), (13, .int s0_157), (0, .ref b), (1, .ref qx), (2, .int a2), (3, .ref qb), (4, .int i4_65), (6, .int i6_65), (7, .int u2), (8, .int u3), (9, .int u4), (10, .long u5), (12, .int s0_135)]) hx hb dL_law_474 hl (by decide) rfl (fun ls hl => ?_)
                refine lv_aload_n hx hb dL_law_476 rfl (lv_at hl 6 rfl) ?_
                refine lv_iload hx hb dL_law_477 (lv_at hl 0 rfl) ?_
                replace hf := zob_some hf
                obtain ⟨u52, hu52, hf⟩ := hf
                have hc52 := cq_L_step l D H.size qx U v_o_S_65 x51 hl0 u52 hu52
                refine kzc_i (D := D) (v := u52.1) (w1 := TWC qx U u52.2) (av := [.ref qx, .int x51]) hK hP hD hS hA hE (fun hb1 hp1 => vx_runSW (As := [.ref qx, .int x51]) (rest := []) ⟨hx, hb, hml, hown, hts⟩ hc52 (vx_cwSW 2 hts gL_law_L_step rfl rfl rfl (by decide +kernel) ⟨Nat.le_of_ble_eq_true rfl, Nat.le_of_ble_eq_true rfl⟩) ⟨hb1, hp1⟩ rfl rfl hl.1 rfl (lv_room (Nat.le_of_ble_eq_true rfl)) dL_law_479 ⟨(by show (cells65 + 259) + 1 ≤ 685909; omega), (by show (slots65 + 1554) + 6 ≤ 7043741; omega)⟩) (fun H locs hP hD hS => ?_)
                have hP : va_P D vwCl ((qb, .inl (kb, 24, .inl c_bg_65)) :: TWC qx U u52.2) H := hP
                have hD : va_D A ((qb, .inl (kb, 24, .inl c_bg_65)) :: TWC qx U u52.2) := hD
                refine lv_topi (fun x53 ex53 => ?_)
                replace hf := zbd_of ex53 hf
                refine lv_istore (lv' := [(14, .int x53), (17, .int x51), (16, .int u49), (15, .int 0), (13, .int s0_157), (0, .ref b), (1, .ref qx), (2, .int a2), (3, .ref qb), (4, .int i4_65), (6, .int i6_65), (7, .int u2), (8, .int u3), (9, .int u4), (10, .long u5), (12, .int s0_135)]) hx hb dL_law_482 hl (by decide) rfl (fun ls hl => ?_)
                refine lv_iload hx hb dL_law_484 (lv_at hl 0 rfl) ?_
                replace hf := zjp_some hf
                obtain ⟨K514, eK514, hf⟩ := hf
                have j514 : ∀ (s0_514 : Int32), K514 s0_514 = some res → ∀ (H : Heap) (locs : List Loc) (ls : Array Slot), va_P D vwCl ((qb, .inl (kb, 24, .inl c_bg_65)) :: TWC qx U u52.2) H → va_D A ((qb, .inl (kb, 24, .inl c_bg_65)) :: TWC qx U u52.2) → va_S A s.heap H locs → lv_has ls 18 [(0, .ref b), (1, .ref qx), (2, .int a2), (3, .ref qb), (4, .int i4_65), (6, .int i6_65), (7, .int u2), (8, .int u3), (9, .int u4), (10, .long u5), (14, .int x53), (15, .int 0)] → W p l e room_1 s m #[Value.ref b] below meth c H locs (cells65 + 261) (slots65 + 1566) (lw_Z below #[Value.ref b] s) (F0 m 514 ls [.int s0_514]) := by
                  intro s0_514 hf H locs ls hP hD hS hl
                  replace hf := zap1 eK514 hf
                  refine lv_istore (lv' := [(5, .int s0_514), (0, .ref b), (1, .ref qx), (2, .int a2), (3, .ref qb), (4, .int i4_65), (6, .int i6_65), (7, .int u2), (8, .int u3), (9, .int u4), (10, .long u5), (14, .int x53), (15, .int 0)]) hx hb dL_law_514 hl (by decide) rfl (fun ls hl => ?_)
                  exact W.widen (k := cells65 + 325) (n := slots65 + 1950) (by omega) (by omega) (j516 i4_65 s0_514 x53 0 c_bg_65 u52.2 hf H locs ls hP hD hS (lv_sub hl [1, 2, 3, 4, 5, 0, 6, 7, 8, 9, 10, 11, 12] rfl))
                replace hf := zjp_some hf
                obtain ⟨K513, eK513, hf⟩ := hf
                have j513 : K513 = some res → ∀ (H : Heap) (locs : List Loc) (ls : Array Slot), va_P D vwCl ((qb, .inl (kb, 24, .inl c_bg_65)) :: TWC qx U u52.2) H → va_D A ((qb, .inl (kb, 24, .inl c_bg_65)) :: TWC qx U u52.2) → va_S A s.heap H locs → lv_has ls 18 [(0, .ref b), (1, .ref qx), (2, .int a2), (3, .ref qb), (4, .int i4_65), (6, .int i6_65), (7, .int u2), (8, .int u3), (9, .int u4), (10, .long u5), (14, .int x53), (15, .int 0)] → W p l e room_1 s m #[Value.ref b] below meth c H locs (cells65 + 261) (slots65 + 1566) (lw_Z below #[Value.ref b] s) (F0 m 513 ls []) := by
                  intro  hf H locs ls hP hD hS hl
                  replace hf := zap0 eK513 hf
                  refine lv_iconst (v := 0) hx hb dL_law_513 (by decide) ?_
                  exact W.widen (k := cells65 + 261) (n := slots65 + 1566) (by omega) (by omega) (j514 0 hf H locs ls hP hD hS (lv_sub hl [0, 1, 2, 3, 4, 5, 6, 7, 8, 9, 10, 11] rfl))
                refine lv_if_lt (tgt := 513) hx hb dL_law_486 (by decide) (fun cd486 => ?_) (fun cd486 => ?_)
                · replace hf := zite_t cd486 hf
                  exact W.widen (k := cells65 + 261) (n := slots65 + 1566) (by omega) (by omega) (j513  hf H locs ls hP hD hS (lv_sub hl [5, 6, 7, 8, 9, 10, 11, 12, 13, 14, 0, 3] rfl))
                · replace hf := zite_f cd486 hf
                  refine lv_iload hx hb dL_law_489 (lv_at hl 0 rfl) ?_
                  refine lv_iload hx hb dL_law_491 (lv_at hl 1 rfl) ?_
                  refine lv_iload hx hb dL_law_493 (lv_at hl 2 rfl) ?_
                  refine lv_imul hx hb dL_law_495 ?_
                  refine lv_icmp_gt (tgt := 513) hx hb dL_law_496 (by decide) (fun cd496 => ?_) (fun cd496 => ?_)
                  · replace hf := zite_t cd496 hf
                    exact W.widen (k := cells65 + 261) (n := slots65 + 1566) (by omega) (by omega) (j513  hf H locs ls hP hD hS (lv_sub hl [5, 6, 7, 8, 9, 10, 11, 12, 13, 14, 0, 3] rfl))
                  · replace hf := zite_f cd496 hf
                    refine lv_aload_n hx hb dL_law_499 rfl (lv_at hl 6 rfl) ?_
                    refine lv_iconst (v := 0) hx hb dL_law_500 (by decide) ?_
                    replace hf := zob_some hf
                    obtain ⟨u54, hu54, hf⟩ := hf
                    have hc54 := cq_L_count l D H.size qx U u52.2 0 hl0 u54 hu54
                    refine kzc_i (D := D) (v := u54) (w1 := TWC qx U u52.2) (av := [.ref qx, .int 0]) hK hP hD hS hA hE (fun hb1 hp1 => vx_runSW (As := [.ref qx, .int 0]) (rest := []) ⟨hx, hb, hml, hown, hts⟩ hc54 (vx_cwSW 2 hts gL_law_L_count rfl rfl rfl (by decide +kernel) ⟨Nat.le_of_ble_eq_true rfl, Nat.le_of_ble_eq_true rfl⟩) ⟨hb1, hp1⟩ rfl rfl hl.1 rfl (lv_room (Nat.le_of_ble_eq_true rfl)) dL_law_501 ⟨(by show (cells65 + 260) + 1 ≤ 685909; omega), (by show (slots65 + 1560) + 6 ≤ 7043741; omega)⟩) (fun H locs hP hD hS => ?_)
                    have hP : va_P D vwCl ((qb, .inl (kb, 24, .inl c_bg_65)) :: TWC qx U u52.2) H := hP
                    have hD : va_D A ((qb, .inl (kb, 24, .inl c_bg_65)) :: TWC qx U u52.2) := hD
                    refine lv_iload hx hb dL_law_504 (lv_at hl 2 rfl) ?_
                    refine lv_icmp_gt (tgt := 513) hx hb dL_law_506 (by decide) (fun cd506 => ?_) (fun cd506 => ?_)
                    · replace hf := zite_t cd506 hf
                      exact W.widen (k := cells65 + 261) (n := slots65 + 1566) (by omega) (by omega) (j513  hf H locs ls hP hD hS (lv_sub hl [5, 6, 7, 8, 9, 10, 11, 12, 13, 14, 0, 3] rfl))
                    · replace hf := zite_f cd506 hf
                      refine lv_iconst (v := 1) hx hb dL_law_509 (by decide) ?_
                      refine lv_goto (tgt := 514) hx hb dL_law_510 (by decide) ?_
                      exact W.widen (k := cells65 + 261) (n := slots65 + 1566) (by omega) (by omega) (j514 1 hf H locs ls hP hD hS (lv_sub hl [5, 6, 7, 8, 9, 10, 11, 12, 13, 14, 0, 3] rfl))
              replace hf := zjp_some hf
              obtain ⟨K156, eK156, hf⟩ := hf
              have j156 : K156 = some res → ∀ (H : Heap) (locs : List Loc) (ls : Array Slot), va_P D vwCl ((qb, .inl (kb, 24, .inl c_bg_65)) :: TWC qx U v_o_S_65) H → va_D A ((qb, .inl (kb, 24, .inl c_bg_65)) :: TWC qx U v_o_S_65) → va_S A s.heap H locs → lv_has ls 18 [(0, .ref b), (1, .ref qx), (2, .int a2), (3, .ref qb), (4, .int i4_65), (6, .int i6_65), (7, .int u2), (8, .int u3), (9, .int u4), (10, .long u5), (12, .int s0_135)] → W p l e room_1 s m #[Value.ref b] below meth c H locs (cells65 + 258) (slots65 + 1548) (lw_Z below #[Value.ref b] s) (F0 m 156 ls []) := by
                intro  hf H locs ls hP hD hS hl
                replace hf := zap0 eK156 hf
                refine lv_iconst (v := 0) hx hb dL_law_156 (by decide) ?_
                exact W.widen (k := cells65 + 258) (n := slots65 + 1548) (by omega) (by omega) (j157 0 hf H locs ls hP hD hS (lv_sub hl [0, 1, 2, 3, 4, 5, 6, 7, 8, 9, 10] rfl))
              refine lv_if_eq (tgt := 156) hx hb dL_law_139 (by decide) (fun cd139 => ?_) (fun cd139 => ?_)
              · replace hf := zite_t cd139 hf
                exact W.widen (k := cells65 + 258) (n := slots65 + 1548) (by omega) (by omega) (j156  hf H locs ls hP hD hS (lv_sub hl [1, 2, 3, 4, 5, 6, 7, 8, 9, 10, 0] rfl))
              · replace hf := zite_f cd139 hf
                refine lv_aload_n hx hb dL_law_142 rfl (lv_at hl 2 rfl) ?_
                refine lv_iload hx hb dL_law_143 (lv_at hl 9 rfl) ?_
                replace hf := zob_some hf
                obtain ⟨u55, hu55, hf⟩ := hf
                have hc55 := cq_L_isAlive l D H.size qx U v_o_S_65 u4 hl0 u55 hu55
                refine kzc_i (D := D) (v := u55) (w1 := TWC qx U v_o_S_65) (av := [.ref qx, .int u4]) hK hP hD hS hA hE (fun hb1 hp1 => vx_runSW (As := [.ref qx, .int u4]) (rest := []) ⟨hx, hb, hml, hown, hts⟩ hc55 (vx_cwSW 2 hts gL_law_L_isAlive rfl rfl rfl (by decide +kernel) ⟨Nat.le_of_ble_eq_true rfl, Nat.le_of_ble_eq_true rfl⟩) ⟨hb1, hp1⟩ rfl rfl hl.1 rfl (lv_room (Nat.le_of_ble_eq_true rfl)) dL_law_145 ⟨(by show (cells65 + 257) + 1 ≤ 685909; omega), (by show (slots65 + 1542) + 6 ≤ 7043741; omega)⟩) (fun H locs hP hD hS => ?_)
                have hP : va_P D vwCl ((qb, .inl (kb, 24, .inl c_bg_65)) :: TWC qx U v_o_S_65) H := hP
                have hD : va_D A ((qb, .inl (kb, 24, .inl c_bg_65)) :: TWC qx U v_o_S_65) := hD
                refine lv_iconst (v := 1) hx hb dL_law_148 (by decide) ?_
                refine lv_icmp_ne (tgt := 156) hx hb dL_law_149 (by decide) (fun cd149 => ?_) (fun cd149 => ?_)
                · replace hf := zite_f cd149 hf
                  exact W.widen (k := cells65 + 258) (n := slots65 + 1548) (by omega) (by omega) (j156  hf H locs ls hP hD hS (lv_sub hl [1, 2, 3, 4, 5, 6, 7, 8, 9, 10, 0] rfl))
                · replace hf := zite_t cd149 hf
                  refine lv_iconst (v := 1) hx hb dL_law_152 (by decide) ?_
                  refine lv_goto (tgt := 157) hx hb dL_law_153 (by decide) ?_
                  exact W.widen (k := cells65 + 258) (n := slots65 + 1548) (by omega) (by omega) (j157 1 hf H locs ls hP hD hS (lv_sub hl [1, 2, 3, 4, 5, 6, 7, 8, 9, 10, 0] rfl))
            refine lv_icmp_ne (tgt := 134) hx hb dL_law_127 (by decide) (fun cd127 => ?_) (fun cd127 => ?_)
            · replace hf := zite_f cd127 hf
              refine lv_iconst (v := 0) hx hb dL_law_134 (by decide) ?_
              exact W.widen (k := cells65 + 257) (n := slots65 + 1542) (by omega) (by omega) (j135 0 hf H locs ls hP hD hS (lv_sub hl [4, 5, 6, 7, 8, 10, 3, 2, 1, 0] rfl))
            · replace hf := zite_t cd127 hf
              refine lv_iconst (v := 1) hx hb dL_law_130 (by decide) ?_
              refine lv_goto (tgt := 135) hx hb dL_law_131 (by decide) ?_
              exact W.widen (k := cells65 + 257) (n := slots65 + 1542) (by omega) (by omega) (j135 1 hf H locs ls hP hD hS (lv_sub hl [4, 5, 6, 7, 8, 10, 3, 2, 1, 0] rfl))
    exact h65 40 0 s0_60 0 c_bg v_o_S_60 hf 945 5670 (by omega) (by omega) H locs ls hP hD hS (lv_sub hl [2, 3, 4, 5, 6, 1, 0] rfl)
  replace hf := zjp_some hf
  obtain ⟨K59, eK59, hf⟩ := hf
  have j59 : ∀ (v_o_S_59 : CU), K59 v_o_S_59 = some res → ∀ (H : Heap) (locs : List Loc) (ls : Array Slot), va_P D vwCl ((qb, .inl (kb, 24, .inl c_bg)) :: TWC qx U v_o_S_59) H → va_D A ((qb, .inl (kb, 24, .inl c_bg)) :: TWC qx U v_o_S_59) → va_S A s.heap H locs → lv_has ls 18 [(0, .ref b), (1, .ref qx), (2, .int a2), (3, .ref qb), (4, .int 0)] → W p l e room_1 s m #[Value.ref b] below meth c H locs 945 5670 (lw_Z below #[Value.ref b] s) (F0 m 59 ls []) := by
    intro v_o_S_59 hf H locs ls hP hD hS hl
    replace hf := zap1 eK59 hf
    refine lv_iconst (v := 0) hx hb dL_law_59 (by decide) ?_
    exact W.widen (k := 945) (n := 5670) (by omega) (by omega) (j60 0 v_o_S_59 hf H locs ls hP hD hS (lv_sub hl [0, 1, 2, 3, 4] rfl))
  refine lv_icmp_ne (tgt := 59) hx hb dL_law_35 (by decide) (fun cd35 => ?_) (fun cd35 => ?_)
  · replace hf := zite_f cd35 hf
    exact W.widen (k := 945) (n := 5670) (by omega) (by omega) (j59 u1.2 hf H locs ls hP hD hS (lv_sub hl [4, 3, 2, 1, 0] rfl))
  · replace hf := zite_t cd35 hf
    refine lv_aload_n hx hb dL_law_38 rfl (lv_at hl 3 rfl) ?_
    refine lv_iload_n hx hb dL_law_39 rfl (lv_at hl 2 rfl) ?_
    replace hf := zob_some hf
    obtain ⟨u56, hu56, hf⟩ := hf
    have hc56 := cq_L_setDimension l D H.size qx U u1.2 a2 hl0 u56 hu56
    refine kzc_i (D := D) (v := u56.1) (w1 := TWC qx U u56.2) (av := [.ref qx, .int a2]) hK hP hD hS hA hE (fun hb1 hp1 => vx_runSW (As := [.ref qx, .int a2]) (rest := []) ⟨hx, hb, hml, hown, hts⟩ hc56 (vx_cwSW 2 hts gL_law_L_setDimension rfl rfl rfl (by decide +kernel) ⟨Nat.le_of_ble_eq_true rfl, Nat.le_of_ble_eq_true rfl⟩) ⟨hb1, hp1⟩ rfl rfl hl.1 rfl (lv_room (Nat.le_of_ble_eq_true rfl)) dL_law_40 ⟨(by show 401 + 1 ≤ 685909; omega), (by show 2406 + 6 ≤ 7043741; omega)⟩) (fun H locs hP hD hS => ?_)
    have hP : va_P D vwCl ((qb, .inl (kb, 24, .inl c_bg)) :: TWC qx U u56.2) H := hP
    have hD : va_D A ((qb, .inl (kb, 24, .inl c_bg)) :: TWC qx U u56.2) := hD
    refine lv_iconst (v := 4) hx hb dL_law_43 (by decide) ?_
    refine lv_icmp_ne (tgt := 59) hx hb dL_law_44 (by decide) (fun cd44 => ?_) (fun cd44 => ?_)
    · replace hf := zite_f cd44 hf
      exact W.widen (k := 945) (n := 5670) (by omega) (by omega) (j59 u56.2 hf H locs ls hP hD hS (lv_sub hl [4, 3, 2, 1, 0] rfl))
    · replace hf := zite_t cd44 hf
      refine lv_aload_n hx hb dL_law_47 rfl (lv_at hl 3 rfl) ?_
      refine lv_iload_n hx hb dL_law_48 rfl (lv_at hl 2 rfl) ?_
      replace hf := zob_some hf
      obtain ⟨u57, hu57, hf⟩ := hf
      have hc57 := c_L_refused l D H.size qx U u56.2 a2 hl0 u57 hu57
      refine kzc_i (D := D) (v := u57.1) (w1 := TWC qx U u57.2) (av := [.ref qx, .int a2]) hK hP hD hS hA hE (fun hb1 hp1 => va_runS (As := [.ref qx, .int a2]) (rest := []) ⟨hx, hb, hml, hown, hts⟩ hc57 (va_cwS 2 hts gL_law_L_refused rfl rfl rfl (by decide +kernel) ⟨Nat.le_of_ble_eq_true rfl, Nat.le_of_ble_eq_true rfl⟩) ⟨hb1, hp1⟩ rfl rfl hl.1 rfl (lv_room (Nat.le_of_ble_eq_true rfl)) dL_law_49 ⟨(by show 402 + 543 ≤ 685909; omega), (by show 2412 + 3258 ≤ 7043741; omega)⟩) (fun H locs hP hD hS => ?_)
      have hP : va_P D vwCl ((qb, .inl (kb, 24, .inl c_bg)) :: TWC qx U u57.2) H := hP
      have hD : va_D A ((qb, .inl (kb, 24, .inl c_bg)) :: TWC qx U u57.2) := hD
      refine lv_if_eq (tgt := 59) hx hb dL_law_52 (by decide) (fun cd52 => ?_) (fun cd52 => ?_)
      · replace hf := zite_t cd52 hf
        exact W.widen (k := 945) (n := 5670) (by omega) (by omega) (j59 u57.2 hf H locs ls hP hD hS (lv_sub hl [4, 3, 2, 1, 0] rfl))
      · replace hf := zite_f cd52 hf
        refine lv_iconst (v := 1) hx hb dL_law_55 (by decide) ?_
        refine lv_goto (tgt := 60) hx hb dL_law_56 (by decide) ?_
        exact W.widen (k := 945) (n := 5670) (by omega) (by omega) (j60 1 u57.2 hf H locs ls hP hD hS (lv_sub hl [4, 3, 2, 1, 0] rfl))
