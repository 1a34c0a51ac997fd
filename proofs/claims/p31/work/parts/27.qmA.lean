abbrev rm_L_alive : Room := { frames := 9, cells := 64, slots := 384, locals := 165 }
set_option maxHeartbeats 4000000 in
set_option maxRecDepth 100000 in
theorem c_L_alive (l : Launch) (D : va_G) (sz qx : Nat) (U : (Nat → Nat) × (Nat → ClassId)) (cu : CU) (a1 : Int32) (hl0 : l.stackTraces = false) (res : rt_L_alive) (hf : f_L_alive a1 cu = some res) : Met l yL_alive wsL_alive rm_L_alive (kP D [.ref qx, .int a1] (TWC qx U cu) (TTC U) sz) (kZi D (va_A (TWC qx U cu) sz) res (TWC qx U cu)) 64 384 (va_A (TWC qx U cu) sz) := by
  refine Met.ofW (cc := cL_alive) (maxL := 4) (ret := (some .int)) (by decide +kernel) rfl ?_
  intro p e s m args below meth c s₁ B hml hv
  obtain ⟨hargs, hsz, hP, hK, hD0, hE⟩ := hv
  have hx := B.exec
  have hb := B.bytes
  have hr := B.returns
  have hts := atoms_spec (ws := wsL_alive) B.pre
  have hown : s.vm.findClass RL = some m.cls := findClass_of_methodNamed B.named
  have hlocks := B.notSynchronized
  subst hsz
  have hD := hD0.self (sz := s.heap.size)
  generalize hAe : va_A (TWC qx U cu) s.heap.size = A at hD hE ⊢
  have hA : ∀ q : Nat, s.heap.size ≤ q → A q := fun q h => by rw [← hAe]; exact Or.inr h
  have hS : va_S A s.heap s.heap [] := va_S.rf
  refine kgen (fun Q eQ => ?_)
  refine kent (av := [.ref qx, .int a1]) hargs (Nat.le_of_ble_eq_true rfl) (fun ls hl => ?_)
  have hl : lv_has ls 4 [(0, .ref qx), (1, .int a1)] := hl
  show W p l e rm_L_alive s m args below meth c s.heap [] 0 0 Q (F0 m 0 ls [])
  unfold f_L_alive at hf
  refine lv_iconst (v := 0) hx hb dL_alive_0 (by decide) ?_
  refine lv_istore_n (lv' := [(2, .int 0), (0, .ref qx), (1, .int a1)]) hx hb dL_alive_1 rfl hl (by decide) rfl (fun ls hl => ?_)
  refine lv_iconst (v := 0) hx hb dL_alive_2 (by decide) ?_
  refine lv_istore_n (lv' := [(3, .int 0), (2, .int 0), (0, .ref qx), (1, .int a1)]) hx hb dL_alive_3 rfl hl (by decide) rfl (fun ls hl => ?_)
  replace hf := zl2_some hf
  obtain ⟨F4, eF4, hf⟩ := hf
  have h4 : ∀ (n4 : Nat) (i2_4 : Int32) (i3_4 : Int32), zl2 F4 n4 i2_4 i3_4 = some res → ∀ (cells4 slots4 : Nat), cells4 + n4 * 1 ≤ 64 → slots4 + n4 * 6 ≤ 384 → ∀ (H : Heap) (locs : List Loc) (ls : Array Slot), va_P D vwCl (TWC qx U cu) H → va_D A (TWC qx U cu) → va_S A s.heap H locs → lv_has ls 4 [(0, .ref qx), (1, .int a1), (2, .int i2_4), (3, .int i3_4)] → W p l e rm_L_alive s m args below meth c H locs (cells4 + 0) (slots4 + 0) Q (F0 m 4 ls []) := by
    intro n4
    induction n4 with
    | zero => intro i2_4 i3_4 hf; exact (zl2_zero hf).elim
    | succ n4 ih4 =>
      intro i2_4 i3_4 hf cells4 slots4 hc4 hs4 H locs ls hP hD hS hl
      replace hf := zl2_step eF4 hf
      generalize zl2 F4 n4 = k4 at hf ih4
      refine lv_iload_n hx hb dL_alive_4 rfl (lv_at hl 3 rfl) ?_
      refine lv_iconst (v := 1) hx hb dL_alive_5 (by decide) ?_
      refine lv_iload_n hx hb dL_alive_6 rfl (lv_at hl 1 rfl) ?_
      refine lv_ishl hx hb dL_alive_7 ?_
      refine lv_icmp_ge (tgt := 34) hx hb dL_alive_8 (by decide) (fun cd8 => ?_) (fun cd8 => ?_)
      · replace hf := zite_t cd8 hf
        refine W.widen (k := 64) (n := 384) (by omega) (by omega) ?_
        refine lv_iload_n hx hb dL_alive_34 rfl (lv_at hl 2 rfl) ?_
        obtain rfl := Option.some.inj hf
        subst eQ
        exact kzr_i hx hb hr hlocks hP hD hS dL_alive_35 (by omega) (by omega)
      · replace hf := zite_f cd8 hf
        refine lv_iload_n hx hb dL_alive_11 rfl (lv_at hl 2 rfl) ?_
        refine lv_aload_n hx hb dL_alive_12 rfl (lv_at hl 0 rfl) ?_
        refine lv_iload_n hx hb dL_alive_13 rfl (lv_at hl 3 rfl) ?_
        replace hf := zob_some hf
        obtain ⟨u1, hu1, hf⟩ := hf
        refine kz_i (D := D) (v := u1) (w1 := TWC qx U cu) (av := [.ref qx, .int i3_4]) hK hP hD hS hA hE (fun hb1 hp1 => vx_runSW (As := [.ref qx, .int i3_4]) (rest := [.int i2_4]) ⟨hx, hb, hml, hown, hts⟩ (cq_L_isAlive l D H.size qx U cu i3_4 hl0 u1 hu1) (vx_cwSW 2 hts gL_alive_L_isAlive rfl rfl rfl (by decide +kernel) ⟨Nat.le_of_ble_eq_true rfl, Nat.le_of_ble_eq_true rfl⟩) ⟨hb1, hp1⟩ rfl rfl hl.1 rfl (lv_room (Nat.le_of_ble_eq_true rfl)) dL_alive_14 ⟨show (cells4 + 0) + 1 ≤ 64 by omega, show (slots4 + 0) + 6 ≤ 384 by omega⟩) (fun H locs hP hD hS => ?_)
        have hP : va_P D vwCl (TWC qx U cu) H := hP
        have hD : va_D A (TWC qx U cu) := hD
        refine lv_iconst (v := 1) hx hb dL_alive_17 (by decide) ?_
        replace hf := zjp_some hf
        obtain ⟨K26, eK26, hf⟩ := hf
        have j26 : ∀ (s0_26 : Int32) (s1_26 : Int32), K26 s0_26 s1_26 = some res → ∀ (H : Heap) (locs : List Loc) (ls : Array Slot), va_P D vwCl (TWC qx U cu) H → va_D A (TWC qx U cu) → va_S A s.heap H locs → lv_has ls 4 [(0, .ref qx), (1, .int a1), (3, .int i3_4)] → W p l e rm_L_alive s m args below meth c H locs (cells4 + 1) (slots4 + 6) Q (F0 m 26 ls [.int s1_26, .int s0_26]) := by
          intro s0_26 s1_26 hf H locs ls hP hD hS hl
          replace hf := zap2 eK26 hf
          refine lv_iadd hx hb dL_alive_26 ?_
          refine lv_topi (fun x2 ex2 => ?_)
          replace hf := zbd_of ex2 hf
          refine lv_istore_n (lv' := [(2, .int x2), (0, .ref qx), (1, .int a1), (3, .int i3_4)]) hx hb dL_alive_27 rfl hl (by decide) rfl (fun ls hl => ?_)
          obtain ⟨x3, ex3⟩ : ∃ y : Int32, y = i3_4 + 1 := ⟨_, rfl⟩
          replace hf := zbd_of ex3 hf
          refine lv_iinc (v := x3) (lv' := [(3, .int x3), (2, .int x2), (0, .ref qx), (1, .int a1)]) hx hb dL_alive_28 hl (k := 3) rfl (by rw [ex3]; rfl) (by decide) rfl (fun ls hl => ?_)
          refine lv_goto (tgt := 4) hx hb dL_alive_31 (by decide) ?_
          exact ih4 x2 x3 hf (cells4 + 1) (slots4 + 6) (by omega) (by omega) H locs ls hP hD hS (lv_sub hl [2, 3, 1, 0] rfl)
        refine lv_icmp_ne (tgt := 25) hx hb dL_alive_18 (by decide) (fun cd18 => ?_) (fun cd18 => ?_)
        · replace hf := zite_f cd18 hf
          refine lv_iconst (v := 0) hx hb dL_alive_25 (by decide) ?_
          exact W.widen (k := cells4 + 1) (n := slots4 + 6) (by omega) (by omega) (j26 i2_4 0 hf H locs ls hP hD hS (lv_sub hl [0, 1, 3] rfl))
        · replace hf := zite_t cd18 hf
          refine lv_iconst (v := 1) hx hb dL_alive_21 (by decide) ?_
          refine lv_goto (tgt := 26) hx hb dL_alive_22 (by decide) ?_
          exact W.widen (k := cells4 + 1) (n := slots4 + 6) (by omega) (by omega) (j26 i2_4 1 hf H locs ls hP hD hS (lv_sub hl [0, 1, 3] rfl))
  exact h4 64 0 0 hf 0 0 (by omega) (by omega) s.heap [] ls hP hD hS (lv_sub hl [2, 3, 1, 0] rfl)
abbrev rm_L_areLevels : Room := { frames := 9, cells := 4352, slots := 26112, locals := 167 }
set_option maxHeartbeats 4000000 in
set_option maxRecDepth 100000 in
theorem c_L_areLevels (l : Launch) (D : va_G) (sz qx : Nat) (U : (Nat → Nat) × (Nat → ClassId)) (cu : CU) (a1 : Int32) (hl0 : l.stackTraces = false) (res : rt_L_areLevels) (hf : f_L_areLevels a1 cu = some res) : Met l yL_areLevels wsL_areLevels rm_L_areLevels (kP D [.ref qx, .int a1] (TWC qx U cu) (TTC U) sz) (kZi D (va_A (TWC qx U cu) sz) res (TWC qx U cu)) 4352 26112 (va_A (TWC qx U cu) sz) := by
  refine Met.ofW (cc := cL_areLevels) (maxL := 9) (ret := (some .boolean)) (by decide +kernel) rfl ?_
  intro p e s m args below meth c s₁ B hml hv
  obtain ⟨hargs, hsz, hP, hK, hD0, hE⟩ := hv
  have hx := B.exec
  have hb := B.bytes
  have hr := B.returns
  have hts := atoms_spec (ws := wsL_areLevels) B.pre
  have hown : s.vm.findClass RL = some m.cls := findClass_of_methodNamed B.named
  have hlocks := B.notSynchronized
  subst hsz
  have hD := hD0.self (sz := s.heap.size)
  generalize hAe : va_A (TWC qx U cu) s.heap.size = A at hD hE ⊢
  have hA : ∀ q : Nat, s.heap.size ≤ q → A q := fun q h => by rw [← hAe]; exact Or.inr h
  have hS : va_S A s.heap s.heap [] := va_S.rf
  refine kgen (fun Q eQ => ?_)
  refine kent (av := [.ref qx, .int a1]) hargs (Nat.le_of_ble_eq_true rfl) (fun ls hl => ?_)
  have hl : lv_has ls 9 [(0, .ref qx), (1, .int a1)] := hl
  show W p l e rm_L_areLevels s m args below meth c s.heap [] 0 0 Q (F0 m 0 ls [])
  unfold f_L_areLevels at hf
  refine lv_iconst (v := 0) hx hb dL_areLevels_0 (by decide) ?_
  refine lv_istore_n (lv' := [(2, .int 0), (0, .ref qx), (1, .int a1)]) hx hb dL_areLevels_1 rfl hl (by decide) rfl (fun ls hl => ?_)
  refine lv_aload_n hx hb dL_areLevels_2 rfl (lv_at hl 1 rfl) ?_
  replace hf := zob_some hf
  obtain ⟨u1, hu1, hf⟩ := hf
  refine kz_i (D := D) (v := u1) (w1 := TWC qx U cu) (av := [.ref qx]) hK hP hD hS hA hE (fun hb1 hp1 => va_runV (As := []) (rest := []) ⟨hx, hb, hml, hown, hts⟩ (cq_X6_rounds l D s.heap.size qx U cu  hl0 u1 hu1) (cwV 0 hts gL_areLevels_X6_rounds rfl rfl rfl (by decide +kernel) ⟨Nat.le_of_ble_eq_true rfl, Nat.le_of_ble_eq_true rfl⟩) ⟨hb1, va_recv hK hP (ci := 6) (q0 := 0) rfl TWC_0, hp1⟩ rfl rfl hl.1 rfl (lv_room (Nat.le_of_ble_eq_true rfl)) dL_areLevels_3 ⟨show 0 + 0 ≤ 4352 by omega, show 0 + 0 ≤ 26112 by omega⟩) (fun H locs hP hD hS => ?_)
  have hP : va_P D vwCl (TWC qx U cu) H := hP
  have hD : va_D A (TWC qx U cu) := hD
  replace hf := zjp_some hf
  obtain ⟨K14, eK14, hf⟩ := hf
  have j14 : ∀ (s0_14 : Int32), K14 s0_14 = some res → ∀ (H : Heap) (locs : List Loc) (ls : Array Slot), va_P D vwCl (TWC qx U cu) H → va_D A (TWC qx U cu) → va_S A s.heap H locs → lv_has ls 9 [(0, .ref qx), (1, .int a1), (2, .int 0)] → W p l e rm_L_areLevels s m args below meth c H locs 0 0 Q (F0 m 14 ls [.int s0_14]) := by
    intro s0_14 hf H locs ls hP hD hS hl
    replace hf := zap1 eK14 hf
    refine lv_istore_n (lv' := [(3, .int s0_14), (0, .ref qx), (1, .int a1), (2, .int 0)]) hx hb dL_areLevels_14 rfl hl (by decide) rfl (fun ls hl => ?_)
    refine lv_iconst (v := 0) hx hb dL_areLevels_15 (by decide) ?_
    refine lv_istore (lv' := [(4, .int 0), (3, .int s0_14), (0, .ref qx), (1, .int a1), (2, .int 0)]) hx hb dL_areLevels_16 hl (by decide) rfl (fun ls hl => ?_)
    replace hf := zl3_some hf
    obtain ⟨F18, eF18, hf⟩ := hf
    have h18 : ∀ (n18 : Nat) (i2_18 : Int32) (i3_18 : Int32) (i4_18 : Int32), zl3 F18 n18 i2_18 i3_18 i4_18 = some res → ∀ (cells18 slots18 : Nat), cells18 + n18 * 68 ≤ 4352 → slots18 + n18 * 408 ≤ 26112 → ∀ (H : Heap) (locs : List Loc) (ls : Array Slot), va_P D vwCl (TWC qx U cu) H → va_D A (TWC qx U cu) → va_S A s.heap H locs → lv_has ls 9 [(0, .ref qx), (1, .int a1), (2, .int i2_18), (3, .int i3_18), (4, .int i4_18)] → W p l e rm_L_areLevels s m args below meth c H locs (cells18 + 0) (slots18 + 0) Q (F0 m 18 ls []) := by
      intro n18
      induction n18 with
      | zero => intro i2_18 i3_18 i4_18 hf; exact (zl3_zero hf).elim
      | succ n18 ih18 =>
        intro i2_18 i3_18 i4_18 hf cells18 slots18 hc18 hs18 H locs ls hP hD hS hl
        replace hf := zl3_step eF18 hf
        generalize zl3 F18 n18 = k18 at hf ih18
        refine lv_iload hx hb dL_areLevels_18 (lv_at hl 4 rfl) ?_
        refine lv_iconst (v := 1) hx hb dL_areLevels_20 (by decide) ?_
        refine lv_iload_n hx hb dL_areLevels_21 rfl (lv_at hl 1 rfl) ?_
        refine lv_ishl hx hb dL_areLevels_22 ?_
        replace hf := zjp_some hf
        obtain ⟨K234, eK234, hf⟩ := hf
        have j234 : K234 = some res → ∀ (H : Heap) (locs : List Loc) (ls : Array Slot), va_P D vwCl (TWC qx U cu) H → va_D A (TWC qx U cu) → va_S A s.heap H locs → lv_has ls 9 [(0, .ref qx), (2, .int i2_18), (3, .int i3_18)] → W p l e rm_L_areLevels s m args below meth c H locs 4352 26112 Q (F0 m 234 ls []) := by
          intro  hf H locs ls hP hD hS hl
          replace hf := zap0 eK234 hf
          refine lv_iload_n hx hb dL_areLevels_234 rfl (lv_at hl 2 rfl) ?_
          replace hf := zjp_some hf
          obtain ⟨K250, eK250, hf⟩ := hf
          have j250 : K250 = some res → ∀ (H : Heap) (locs : List Loc) (ls : Array Slot), va_P D vwCl (TWC qx U cu) H → va_D A (TWC qx U cu) → va_S A s.heap H locs → lv_has ls 9 [] → W p l e rm_L_areLevels s m args below meth c H locs 4352 26112 Q (F0 m 250 ls []) := by
            intro  hf H locs ls hP hD hS hl
            replace hf := zap0 eK250 hf
            refine lv_iconst (v := 0) hx hb dL_areLevels_250 (by decide) ?_
            obtain rfl := Option.some.inj hf
            subst eQ
            exact kzr_z hx hb hr nar_0 hlocks hP hD hS dL_areLevels_251 (by omega) (by omega)
          refine lv_if_eq (tgt := 250) hx hb dL_areLevels_235 (by decide) (fun cd235 => ?_) (fun cd235 => ?_)
          · replace hf := zite_t cd235 hf
            exact W.widen (k := 4352) (n := 26112) (by omega) (by omega) (j250  hf H locs ls hP hD hS (lv_sub hl [] rfl))
          · replace hf := zite_f cd235 hf
            refine lv_aload_n hx hb dL_areLevels_238 rfl (lv_at hl 0 rfl) ?_
            replace hf := zob_some hf
            obtain ⟨u2, hu2, hf⟩ := hf
            refine kz_i (D := D) (v := u2) (w1 := TWC qx U cu) (av := [.ref qx]) hK hP hD hS hA hE (fun hb1 hp1 => va_runV (As := []) (rest := []) ⟨hx, hb, hml, hown, hts⟩ (cq_X6_safeNodes l D H.size qx U cu  hl0 u2 hu2) (cwV 0 hts gL_areLevels_X6_safeNodes rfl rfl rfl (by decide +kernel) ⟨Nat.le_of_ble_eq_true rfl, Nat.le_of_ble_eq_true rfl⟩) ⟨hb1, va_recv hK hP (ci := 6) (q0 := 0) rfl TWC_0, hp1⟩ rfl rfl hl.1 rfl (lv_room (Nat.le_of_ble_eq_true rfl)) dL_areLevels_239 ⟨show 4352 + 0 ≤ 4352 by omega, show 26112 + 0 ≤ 26112 by omega⟩) (fun H locs hP hD hS => ?_)
            have hP : va_P D vwCl (TWC qx U cu) H := hP
            have hD : va_D A (TWC qx U cu) := hD
            refine lv_iload_n hx hb dL_areLevels_242 rfl (lv_at hl 1 rfl) ?_
            refine lv_icmp_ne (tgt := 250) hx hb dL_areLevels_243 (by decide) (fun cd243 => ?_) (fun cd243 => ?_)
            · replace hf := zite_f cd243 hf
              exact W.widen (k := 4352) (n := 26112) (by omega) (by omega) (j250  hf H locs ls hP hD hS (lv_sub hl [] rfl))
            · replace hf := zite_t cd243 hf
              refine lv_iconst (v := 1) hx hb dL_areLevels_246 (by decide) ?_
              refine lv_goto (tgt := 251) hx hb dL_areLevels_247 (by decide) ?_
              obtain rfl := Option.some.inj hf
              subst eQ
              exact kzr_z hx hb hr nar_1 hlocks hP hD hS dL_areLevels_251 (by omega) (by omega)
        refine lv_icmp_ge (tgt := 234) hx hb dL_areLevels_23 (by decide) (fun cd23 => ?_) (fun cd23 => ?_)
        · replace hf := zite_t cd23 hf
          exact W.widen (k := 4352) (n := 26112) (by omega) (by omega) (j234  hf H locs ls hP hD hS (lv_sub hl [0, 2, 3] rfl))
        · replace hf := zite_f cd23 hf
          refine lv_iload_n hx hb dL_areLevels_26 rfl (lv_at hl 3 rfl) ?_
          refine lv_if_eq (tgt := 234) hx hb dL_areLevels_27 (by decide) (fun cd27 => ?_) (fun cd27 => ?_)
          · replace hf := zite_t cd27 hf
            exact W.widen (k := 4352) (n := 26112) (by omega) (by omega) (j234  hf H locs ls hP hD hS (lv_sub hl [0, 2, 3] rfl))
          · replace hf := zite_f cd27 hf
            refine lv_aload_n hx hb dL_areLevels_30 rfl (lv_at hl 0 rfl) ?_
            refine lv_iload hx hb dL_areLevels_31 (lv_at hl 4 rfl) ?_
            replace hf := zob_some hf
            obtain ⟨u3, hu3, hf⟩ := hf
            refine kz_i (D := D) (v := u3) (w1 := TWC qx U cu) (av := [.ref qx, .int i4_18]) hK hP hD hS hA hE (fun hb1 hp1 => vx_runSW (As := [.ref qx, .int i4_18]) (rest := []) ⟨hx, hb, hml, hown, hts⟩ (cq_L_level l D H.size qx U cu i4_18 hl0 u3 hu3) (vx_cwSW 2 hts gL_areLevels_L_level rfl rfl rfl (by decide +kernel) ⟨Nat.le_of_ble_eq_true rfl, Nat.le_of_ble_eq_true rfl⟩) ⟨hb1, hp1⟩ rfl rfl hl.1 rfl (lv_room (Nat.le_of_ble_eq_true rfl)) dL_areLevels_33 ⟨show (cells18 + 0) + 1 ≤ 4352 by omega, show (slots18 + 0) + 6 ≤ 26112 by omega⟩) (fun H locs hP hD hS => ?_)
            have hP : va_P D vwCl (TWC qx U cu) H := hP
            have hD : va_D A (TWC qx U cu) := hD
            refine lv_istore (lv' := [(5, .int u3), (0, .ref qx), (1, .int a1), (2, .int i2_18), (3, .int i3_18), (4, .int i4_18)]) hx hb dL_areLevels_36 hl (by decide) rfl (fun ls hl => ?_)
            refine lv_iload_n hx hb dL_areLevels_38 rfl (lv_at hl 3 rfl) ?_
            refine lv_iload hx hb dL_areLevels_39 (lv_at hl 0 rfl) ?_
            refine lv_iload_n hx hb dL_areLevels_41 rfl (lv_at hl 2 rfl) ?_
            replace hf := zjp_some hf
            obtain ⟨K50, eK50, hf⟩ := hf
            have j50 : ∀ (s0_50 : Int32) (s1_50 : Int32), K50 s0_50 s1_50 = some res → ∀ (H : Heap) (locs : List Loc) (ls : Array Slot), va_P D vwCl (TWC qx U cu) H → va_D A (TWC qx U cu) → va_S A s.heap H locs → lv_has ls 9 [(0, .ref qx), (1, .int a1), (4, .int i4_18), (5, .int u3)] → W p l e rm_L_areLevels s m args below meth c H locs (cells18 + 1) (slots18 + 6) Q (F0 m 50 ls [.int s1_50, .int s0_50]) := by
              intro s0_50 s1_50 hf H locs ls hP hD hS hl
              replace hf := zap2 eK50 hf
              refine lv_iadd hx hb dL_areLevels_50 ?_
              refine lv_topi (fun x4 ex4 => ?_)
              replace hf := zbd_of ex4 hf
              refine lv_istore_n (lv' := [(2, .int x4), (0, .ref qx), (1, .int a1), (4, .int i4_18), (5, .int u3)]) hx hb dL_areLevels_51 rfl hl (by decide) rfl (fun ls hl => ?_)
              refine lv_aload_n hx hb dL_areLevels_52 rfl (lv_at hl 1 rfl) ?_
              refine lv_iload hx hb dL_areLevels_53 (lv_at hl 3 rfl) ?_
              replace hf := zob_some hf
              obtain ⟨u5, hu5, hf⟩ := hf
              refine kz_i (D := D) (v := u5) (w1 := TWC qx U cu) (av := [.ref qx, .int i4_18]) hK hP hD hS hA hE (fun hb1 hp1 => vx_runSW (As := [.ref qx, .int i4_18]) (rest := []) ⟨hx, hb, hml, hown, hts⟩ (cq_L_isAlive l D H.size qx U cu i4_18 hl0 u5 hu5) (vx_cwSW 2 hts gL_areLevels_L_isAlive rfl rfl rfl (by decide +kernel) ⟨Nat.le_of_ble_eq_true rfl, Nat.le_of_ble_eq_true rfl⟩) ⟨hb1, hp1⟩ rfl rfl hl.1 rfl (lv_room (Nat.le_of_ble_eq_true rfl)) dL_areLevels_55 ⟨show (cells18 + 1) + 1 ≤ 4352 by omega, show (slots18 + 6) + 6 ≤ 26112 by omega⟩) (fun H locs hP hD hS => ?_)
              have hP : va_P D vwCl (TWC qx U cu) H := hP
              have hD : va_D A (TWC qx U cu) := hD
              replace hf := zjp_some hf
              obtain ⟨K228, eK228, hf⟩ := hf
              have j228 : ∀ (i3_228 : Int32), K228 i3_228 = some res → ∀ (H : Heap) (locs : List Loc) (ls : Array Slot), va_P D vwCl (TWC qx U cu) H → va_D A (TWC qx U cu) → va_S A s.heap H locs → lv_has ls 9 [(0, .ref qx), (1, .int a1), (2, .int x4), (3, .int i3_228), (4, .int i4_18)] → W p l e rm_L_areLevels s m args below meth c H locs (cells18 + 68) (slots18 + 408) Q (F0 m 228 ls []) := by
                intro i3_228 hf H locs ls hP hD hS hl
                replace hf := zap1 eK228 hf
                obtain ⟨x6, ex6⟩ : ∃ y : Int32, y = i4_18 + 1 := ⟨_, rfl⟩
                replace hf := zbd_of ex6 hf
                refine lv_iinc (v := x6) (lv' := [(4, .int x6), (0, .ref qx), (1, .int a1), (2, .int x4), (3, .int i3_228)]) hx hb dL_areLevels_228 hl (k := 4) rfl (by rw [ex6]; rfl) (by decide) rfl (fun ls hl => ?_)
                refine lv_goto (tgt := 18) hx hb dL_areLevels_231 (by decide) ?_
                exact ih18 x4 i3_228 x6 hf (cells18 + 68) (slots18 + 408) (by omega) (by omega) H locs ls hP hD hS (lv_sub hl [1, 2, 3, 4, 0] rfl)
              refine lv_if_ne (tgt := 95) hx hb dL_areLevels_58 (by decide) (fun cd58 => ?_) (fun cd58 => ?_)
              · replace hf := zite_f cd58 hf
                refine lv_iload hx hb dL_areLevels_95 (lv_at hl 4 rfl) ?_
                replace hf := zjp_some hf
                obtain ⟨K122, eK122, hf⟩ := hf
                have j122 : ∀ (s0_122 : Int32), K122 s0_122 = some res → ∀ (H : Heap) (locs : List Loc) (ls : Array Slot), va_P D vwCl (TWC qx U cu) H → va_D A (TWC qx U cu) → va_S A s.heap H locs → lv_has ls 9 [(0, .ref qx), (1, .int a1), (2, .int x4), (4, .int i4_18), (5, .int u3)] → W p l e rm_L_areLevels s m args below meth c H locs (cells18 + 4) (slots18 + 24) Q (F0 m 122 ls [.int s0_122]) := by
                  intro s0_122 hf H locs ls hP hD hS hl
                  replace hf := zap1 eK122 hf
                  refine lv_istore_n (lv' := [(3, .int s0_122), (0, .ref qx), (1, .int a1), (2, .int x4), (4, .int i4_18), (5, .int u3)]) hx hb dL_areLevels_122 rfl hl (by decide) rfl (fun ls hl => ?_)
                  refine lv_iconst (v := 1) hx hb dL_areLevels_123 (by decide) ?_
                  refine lv_istore (lv' := [(6, .int 1), (3, .int s0_122), (0, .ref qx), (1, .int a1), (2, .int x4), (4, .int i4_18), (5, .int u3)]) hx hb dL_areLevels_124 hl (by decide) rfl (fun ls hl => ?_)
                  replace hf := zl2_some hf
                  obtain ⟨F126, eF126, hf⟩ := hf
                  have h126 : ∀ (n126 : Nat) (i3_126 : Int32) (i6_126 : Int32), zl2 F126 n126 i3_126 i6_126 = some res → ∀ (cells126 slots126 : Nat), cells126 + n126 * 8 ≤ cells18 + 68 → slots126 + n126 * 48 ≤ slots18 + 408 → ∀ (H : Heap) (locs : List Loc) (ls : Array Slot), va_P D vwCl (TWC qx U cu) H → va_D A (TWC qx U cu) → va_S A s.heap H locs → lv_has ls 9 [(0, .ref qx), (1, .int a1), (2, .int x4), (3, .int i3_126), (4, .int i4_18), (5, .int u3), (6, .int i6_126)] → W p l e rm_L_areLevels s m args below meth c H locs (cells126 + 0) (slots126 + 0) Q (F0 m 126 ls []) := by
                    intro n126
                    induction n126 with
                    | zero => intro i3_126 i6_126 hf; exact (zl2_zero hf).elim
                    | succ n126 ih126 =>
                      intro i3_126 i6_126 hf cells126 slots126 hc126 hs126 H locs ls hP hD hS hl
                      replace hf := zl2_step eF126 hf
                      generalize zl2 F126 n126 = k126 at hf ih126
                      refine lv_iload hx hb dL_areLevels_126 (lv_at hl 6 rfl) ?_
                      refine lv_iload hx hb dL_areLevels_128 (lv_at hl 5 rfl) ?_
                      refine lv_icmp_gt (tgt := 228) hx hb dL_areLevels_130 (by decide) (fun cd130 => ?_) (fun cd130 => ?_)
                      · replace hf := zite_t cd130 hf
                        exact W.widen (k := cells18 + 68) (n := slots18 + 408) (by omega) (by omega) (j228 i3_126 hf H locs ls hP hD hS (lv_sub hl [0, 1, 2, 3, 4] rfl))
                      · replace hf := zite_f cd130 hf
                        refine lv_iload_n hx hb dL_areLevels_133 rfl (lv_at hl 3 rfl) ?_
                        refine lv_if_eq (tgt := 228) hx hb dL_areLevels_134 (by decide) (fun cd134 => ?_) (fun cd134 => ?_)
                        · replace hf := zite_t cd134 hf
                          exact W.widen (k := cells18 + 68) (n := slots18 + 408) (by omega) (by omega) (j228 i3_126 hf H locs ls hP hD hS (lv_sub hl [0, 1, 2, 3, 4] rfl))
                        · replace hf := zite_f cd134 hf
                          refine lv_iconst (v := 0) hx hb dL_areLevels_137 (by decide) ?_
                          refine lv_istore (lv' := [(7, .int 0), (0, .ref qx), (1, .int a1), (2, .int x4), (3, .int i3_126), (4, .int i4_18), (5, .int u3), (6, .int i6_126)]) hx hb dL_areLevels_138 hl (by decide) rfl (fun ls hl => ?_)
                          refine lv_iconst (v := 0) hx hb dL_areLevels_140 (by decide) ?_
                          refine lv_istore (lv' := [(8, .int 0), (7, .int 0), (0, .ref qx), (1, .int a1), (2, .int x4), (3, .int i3_126), (4, .int i4_18), (5, .int u3), (6, .int i6_126)]) hx hb dL_areLevels_141 hl (by decide) rfl (fun ls hl => ?_)
                          replace hf := zl2_some hf
                          obtain ⟨F143, eF143, hf⟩ := hf
                          have h143 : ∀ (n143 : Nat) (i7_143 : Int32) (i8_143 : Int32), zl2 F143 n143 i7_143 i8_143 = some res → ∀ (cells143 slots143 : Nat), cells143 + n143 * 1 ≤ cells126 + 8 → slots143 + n143 * 6 ≤ slots126 + 48 → ∀ (H : Heap) (locs : List Loc) (ls : Array Slot), va_P D vwCl (TWC qx U cu) H → va_D A (TWC qx U cu) → va_S A s.heap H locs → lv_has ls 9 [(0, .ref qx), (1, .int a1), (2, .int x4), (4, .int i4_18), (5, .int u3), (6, .int i6_126), (7, .int i7_143), (8, .int i8_143)] → W p l e rm_L_areLevels s m args below meth c H locs (cells143 + 0) (slots143 + 0) Q (F0 m 143 ls []) := by
                            intro n143
                            induction n143 with
                            | zero => intro i7_143 i8_143 hf; exact (zl2_zero hf).elim
                            | succ n143 ih143 =>
                              intro i7_143 i8_143 hf cells143 slots143 hc143 hs143 H locs ls hP hD hS hl
                              replace hf := zl2_step eF143 hf
                              generalize zl2 F143 n143 = k143 at hf ih143
                              refine lv_iload hx hb dL_areLevels_143 (lv_at hl 7 rfl) ?_
                              refine lv_iload_n hx hb dL_areLevels_145 rfl (lv_at hl 1 rfl) ?_
                              refine lv_icmp_ge (tgt := 181) hx hb dL_areLevels_146 (by decide) (fun cd146 => ?_) (fun cd146 => ?_)
                              · replace hf := zite_t cd146 hf
                                refine W.widen (k := cells126 + 8) (n := slots126 + 48) (by omega) (by omega) ?_
                                refine lv_iload hx hb dL_areLevels_181 (lv_at hl 5 rfl) ?_
                                refine lv_iload hx hb dL_areLevels_183 (lv_at hl 4 rfl) ?_
                                replace hf := zjp_some hf
                                obtain ⟨K221, eK221, hf⟩ := hf
                                have j221 : ∀ (s0_221 : Int32), K221 s0_221 = some res → ∀ (H : Heap) (locs : List Loc) (ls : Array Slot), va_P D vwCl (TWC qx U cu) H → va_D A (TWC qx U cu) → va_S A s.heap H locs → lv_has ls 9 [(0, .ref qx), (1, .int a1), (2, .int x4), (4, .int i4_18), (5, .int u3), (6, .int i6_126)] → W p l e rm_L_areLevels s m args below meth c H locs (cells126 + 8) (slots126 + 48) Q (F0 m 221 ls [.int s0_221]) := by
                                  intro s0_221 hf H locs ls hP hD hS hl
                                  replace hf := zap1 eK221 hf
                                  refine lv_istore_n (lv' := [(3, .int s0_221), (0, .ref qx), (1, .int a1), (2, .int x4), (4, .int i4_18), (5, .int u3), (6, .int i6_126)]) hx hb dL_areLevels_221 rfl hl (by decide) rfl (fun ls hl => ?_)
                                  obtain ⟨x7, ex7⟩ : ∃ y : Int32, y = i6_126 + 1 := ⟨_, rfl⟩
                                  replace hf := zbd_of ex7 hf
                                  refine lv_iinc (v := x7) (lv' := [(6, .int x7), (3, .int s0_221), (0, .ref qx), (1, .int a1), (2, .int x4), (4, .int i4_18), (5, .int u3)]) hx hb dL_areLevels_222 hl (k := 6) rfl (by rw [ex7]; rfl) (by decide) rfl (fun ls hl => ?_)
                                  refine lv_goto (tgt := 126) hx hb dL_areLevels_225 (by decide) ?_
                                  exact ih126 s0_221 x7 hf (cells126 + 8) (slots126 + 48) (by omega) (by omega) H locs ls hP hD hS (lv_sub hl [2, 3, 4, 1, 5, 6, 0] rfl)
                                refine lv_icmp_ge (tgt := 203) hx hb dL_areLevels_185 (by decide) (fun cd185 => ?_) (fun cd185 => ?_)
                                · replace hf := zite_t cd185 hf
                                  refine lv_iload hx hb dL_areLevels_203 (lv_at hl 4 rfl) ?_
                                  refine lv_iload_n hx hb dL_areLevels_205 rfl (lv_at hl 1 rfl) ?_
                                  replace hf := zjp_some hf
                                  obtain ⟨K216, eK216, hf⟩ := hf
                                  have j216 : K216 = some res → ∀ (H : Heap) (locs : List Loc) (ls : Array Slot), va_P D vwCl (TWC qx U cu) H → va_D A (TWC qx U cu) → va_S A s.heap H locs → lv_has ls 9 [(0, .ref qx), (1, .int a1), (2, .int x4), (4, .int i4_18), (5, .int u3), (6, .int i6_126)] → W p l e rm_L_areLevels s m args below meth c H locs (cells126 + 8) (slots126 + 48) Q (F0 m 216 ls []) := by
                                    intro  hf H locs ls hP hD hS hl
                                    replace hf := zap0 eK216 hf
                                    refine lv_iconst (v := 1) hx hb dL_areLevels_216 (by decide) ?_
                                    refine lv_goto (tgt := 221) hx hb dL_areLevels_217 (by decide) ?_
                                    exact W.widen (k := cells126 + 8) (n := slots126 + 48) (by omega) (by omega) (j221 1 hf H locs ls hP hD hS (lv_sub hl [0, 1, 2, 3, 4, 5] rfl))
                                  refine lv_icmp_eq (tgt := 216) hx hb dL_areLevels_206 (by decide) (fun cd206 => ?_) (fun cd206 => ?_)
                                  · replace hf := zite_t cd206 hf
                                    exact W.widen (k := cells126 + 8) (n := slots126 + 48) (by omega) (by omega) (j216  hf H locs ls hP hD hS (lv_sub hl [0, 1, 2, 3, 4, 5] rfl))
                                  · replace hf := zite_f cd206 hf
                                    refine lv_iload hx hb dL_areLevels_209 (lv_at hl 6 rfl) ?_
                                    refine lv_iload hx hb dL_areLevels_211 (lv_at hl 5 rfl) ?_
                                    refine lv_icmp_le (tgt := 220) hx hb dL_areLevels_213 (by decide) (fun cd213 => ?_) (fun cd213 => ?_)
                                    · replace hf := zite_t cd213 hf
                                      refine lv_iconst (v := 0) hx hb dL_areLevels_220 (by decide) ?_
                                      exact W.widen (k := cells126 + 8) (n := slots126 + 48) (by omega) (by omega) (j221 0 hf H locs ls hP hD hS (lv_sub hl [0, 1, 2, 3, 4, 5] rfl))
                                    · replace hf := zite_f cd213 hf
                                      exact W.widen (k := cells126 + 8) (n := slots126 + 48) (by omega) (by omega) (j216  hf H locs ls hP hD hS (lv_sub hl [0, 1, 2, 3, 4, 5] rfl))
                                · replace hf := zite_f cd185 hf
                                  refine lv_iload hx hb dL_areLevels_188 (lv_at hl 6 rfl) ?_
                                  refine lv_iload hx hb dL_areLevels_190 (lv_at hl 5 rfl) ?_
                                  refine lv_icmp_gt (tgt := 199) hx hb dL_areLevels_192 (by decide) (fun cd192 => ?_) (fun cd192 => ?_)
                                  · replace hf := zite_t cd192 hf
                                    refine lv_iconst (v := 0) hx hb dL_areLevels_199 (by decide) ?_
                                    refine lv_goto (tgt := 221) hx hb dL_areLevels_200 (by decide) ?_
                                    exact W.widen (k := cells126 + 8) (n := slots126 + 48) (by omega) (by omega) (j221 0 hf H locs ls hP hD hS (lv_sub hl [0, 1, 2, 3, 4, 5] rfl))
                                  · replace hf := zite_f cd192 hf
                                    refine lv_iconst (v := 1) hx hb dL_areLevels_195 (by decide) ?_
                                    refine lv_goto (tgt := 221) hx hb dL_areLevels_196 (by decide) ?_
                                    exact W.widen (k := cells126 + 8) (n := slots126 + 48) (by omega) (by omega) (j221 1 hf H locs ls hP hD hS (lv_sub hl [0, 1, 2, 3, 4, 5] rfl))
                              · replace hf := zite_f cd146 hf
                                refine lv_iload hx hb dL_areLevels_149 (lv_at hl 6 rfl) ?_
                                refine lv_aload_n hx hb dL_areLevels_151 rfl (lv_at hl 0 rfl) ?_
                                refine lv_iload hx hb dL_areLevels_152 (lv_at hl 3 rfl) ?_
                                refine lv_iconst (v := 1) hx hb dL_areLevels_154 (by decide) ?_
                                refine lv_iload hx hb dL_areLevels_155 (lv_at hl 7 rfl) ?_
                                refine lv_ishl hx hb dL_areLevels_157 ?_
                                refine lv_ixor hx hb dL_areLevels_158 ?_
                                replace hf := zob_some hf
                                obtain ⟨u8, hu8, hf⟩ := hf
                                refine kz_i (D := D) (v := u8) (w1 := TWC qx U cu) (av := [.ref qx, .int (i4_18 ^^^ ((1 : Int32) <<< (i8_143 &&& 31)))]) hK hP hD hS hA hE (fun hb1 hp1 => vx_runSW (As := [.ref qx, .int (i4_18 ^^^ ((1 : Int32) <<< (i8_143 &&& 31)))]) (rest := [.int i7_143]) ⟨hx, hb, hml, hown, hts⟩ (cq_L_level l D H.size qx U cu (i4_18 ^^^ ((1 : Int32) <<< (i8_143 &&& 31))) hl0 u8 hu8) (vx_cwSW 2 hts gL_areLevels_L_level rfl rfl rfl (by decide +kernel) ⟨Nat.le_of_ble_eq_true rfl, Nat.le_of_ble_eq_true rfl⟩) ⟨hb1, hp1⟩ rfl rfl hl.1 rfl (lv_room (Nat.le_of_ble_eq_true rfl)) dL_areLevels_159 ⟨show (cells143 + 0) + 1 ≤ 4352 by omega, show (slots143 + 0) + 6 ≤ 26112 by omega⟩) (fun H locs hP hD hS => ?_)
                                have hP : va_P D vwCl (TWC qx U cu) H := hP
                                have hD : va_D A (TWC qx U cu) := hD
                                refine lv_iload hx hb dL_areLevels_162 (lv_at hl 5 rfl) ?_
                                replace hf := zjp_some hf
                                obtain ⟨K172, eK172, hf⟩ := hf
                                have j172 : ∀ (s0_172 : Int32) (s1_172 : Int32), K172 s0_172 s1_172 = some res → ∀ (H : Heap) (locs : List Loc) (ls : Array Slot), va_P D vwCl (TWC qx U cu) H → va_D A (TWC qx U cu) → va_S A s.heap H locs → lv_has ls 9 [(0, .ref qx), (1, .int a1), (2, .int x4), (4, .int i4_18), (5, .int u3), (6, .int i6_126), (8, .int i8_143)] → W p l e rm_L_areLevels s m args below meth c H locs (cells143 + 1) (slots143 + 6) Q (F0 m 172 ls [.int s1_172, .int s0_172]) := by
                                  intro s0_172 s1_172 hf H locs ls hP hD hS hl
                                  replace hf := zap2 eK172 hf
                                  refine lv_iadd hx hb dL_areLevels_172 ?_
                                  refine lv_topi (fun x9 ex9 => ?_)
                                  replace hf := zbd_of ex9 hf
                                  refine lv_istore (lv' := [(7, .int x9), (0, .ref qx), (1, .int a1), (2, .int x4), (4, .int i4_18), (5, .int u3), (6, .int i6_126), (8, .int i8_143)]) hx hb dL_areLevels_173 hl (by decide) rfl (fun ls hl => ?_)
                                  obtain ⟨x10, ex10⟩ : ∃ y : Int32, y = i8_143 + 1 := ⟨_, rfl⟩
                                  replace hf := zbd_of ex10 hf
                                  refine lv_iinc (v := x10) (lv' := [(8, .int x10), (7, .int x9), (0, .ref qx), (1, .int a1), (2, .int x4), (4, .int i4_18), (5, .int u3), (6, .int i6_126)]) hx hb dL_areLevels_175 hl (k := 7) rfl (by rw [ex10]; rfl) (by decide) rfl (fun ls hl => ?_)
                                  refine lv_goto (tgt := 143) hx hb dL_areLevels_178 (by decide) ?_
                                  exact ih143 x9 x10 hf (cells143 + 1) (slots143 + 6) (by omega) (by omega) H locs ls hP hD hS (lv_sub hl [2, 3, 4, 5, 6, 7, 1, 0] rfl)
                                refine lv_icmp_ge (tgt := 171) hx hb dL_areLevels_164 (by decide) (fun cd164 => ?_) (fun cd164 => ?_)
                                · replace hf := zite_t cd164 hf
                                  refine lv_iconst (v := 0) hx hb dL_areLevels_171 (by decide) ?_
                                  exact W.widen (k := cells143 + 1) (n := slots143 + 6) (by omega) (by omega) (j172 i7_143 0 hf H locs ls hP hD hS (lv_sub hl [0, 1, 2, 3, 4, 5, 7] rfl))
                                · replace hf := zite_f cd164 hf
                                  refine lv_iconst (v := 1) hx hb dL_areLevels_167 (by decide) ?_
                                  refine lv_goto (tgt := 172) hx hb dL_areLevels_168 (by decide) ?_
                                  exact W.widen (k := cells143 + 1) (n := slots143 + 6) (by omega) (by omega) (j172 i7_143 1 hf H locs ls hP hD hS (lv_sub hl [0, 1, 2, 3, 4, 5, 7] rfl))
                          exact h143 8 0 0 hf (cells126 + 0) (slots126 + 0) (by omega) (by omega) H locs ls hP hD hS (lv_sub hl [2, 3, 4, 6, 7, 8, 1, 0] rfl)
                  exact h126 8 s0_122 1 hf (cells18 + 4) (slots18 + 24) (by omega) (by omega) H locs ls hP hD hS (lv_sub hl [2, 3, 4, 1, 5, 6, 0] rfl)
                replace hf := zjp_some hf
                obtain ⟨K121, eK121, hf⟩ := hf
                have j121 : K121 = some res → ∀ (H : Heap) (locs : List Loc) (ls : Array Slot), va_P D vwCl (TWC qx U cu) H → va_D A (TWC qx U cu) → va_S A s.heap H locs → lv_has ls 9 [(0, .ref qx), (1, .int a1), (2, .int x4), (4, .int i4_18), (5, .int u3)] → W p l e rm_L_areLevels s m args below meth c H locs (cells18 + 4) (slots18 + 24) Q (F0 m 121 ls []) := by
                  intro  hf H locs ls hP hD hS hl
                  replace hf := zap0 eK121 hf
                  refine lv_iconst (v := 0) hx hb dL_areLevels_121 (by decide) ?_
                  exact W.widen (k := cells18 + 4) (n := slots18 + 24) (by omega) (by omega) (j122 0 hf H locs ls hP hD hS (lv_sub hl [0, 1, 2, 3, 4] rfl))
                refine lv_if_le (tgt := 121) hx hb dL_areLevels_97 (by decide) (fun cd97 => ?_) (fun cd97 => ?_)
                · replace hf := zite_t cd97 hf
                  exact W.widen (k := cells18 + 4) (n := slots18 + 24) (by omega) (by omega) (j121  hf H locs ls hP hD hS (lv_sub hl [1, 2, 0, 3, 4] rfl))
                · replace hf := zite_f cd97 hf
                  refine lv_iload hx hb dL_areLevels_100 (lv_at hl 4 rfl) ?_
                  refine lv_iload_n hx hb dL_areLevels_102 rfl (lv_at hl 2 rfl) ?_
                  refine lv_icmp_gt (tgt := 121) hx hb dL_areLevels_103 (by decide) (fun cd103 => ?_) (fun cd103 => ?_)
                  · replace hf := zite_t cd103 hf
                    exact W.widen (k := cells18 + 4) (n := slots18 + 24) (by omega) (by omega) (j121  hf H locs ls hP hD hS (lv_sub hl [1, 2, 0, 3, 4] rfl))
                  · replace hf := zite_f cd103 hf
                    refine lv_aload_n hx hb dL_areLevels_106 rfl (lv_at hl 1 rfl) ?_
                    refine lv_iload hx hb dL_areLevels_107 (lv_at hl 3 rfl) ?_
                    refine lv_iconst (v := 1) hx hb dL_areLevels_109 (by decide) ?_
                    replace hf := zob_some hf
                    obtain ⟨u11, hu11, hf⟩ := hf
                    refine kz_i (D := D) (v := u11) (w1 := TWC qx U cu) (av := [.ref qx, .int i4_18, .int 1]) hK hP hD hS hA hE (fun hb1 hp1 => vx_runSW (As := [.ref qx, .int i4_18, .int 1]) (rest := []) ⟨hx, hb, hml, hown, hts⟩ (cq_L_vectorBit l D H.size qx U cu i4_18 1 hl0 u11 hu11) (vx_cwSW 3 hts gL_areLevels_L_vectorBit rfl rfl rfl (by decide +kernel) ⟨Nat.le_of_ble_eq_true rfl, Nat.le_of_ble_eq_true rfl⟩) ⟨hb1, hp1⟩ rfl rfl hl.1 rfl (lv_room (Nat.le_of_ble_eq_true rfl)) dL_areLevels_110 ⟨show (cells18 + 2) + 2 ≤ 4352 by omega, show (slots18 + 12) + 12 ≤ 26112 by omega⟩) (fun H locs hP hD hS => ?_)
                    have hP : va_P D vwCl (TWC qx U cu) H := hP
                    have hD : va_D A (TWC qx U cu) := hD
                    refine lv_iconst (v := 1) hx hb dL_areLevels_113 (by decide) ?_
                    refine lv_icmp_ne (tgt := 121) hx hb dL_areLevels_114 (by decide) (fun cd114 => ?_) (fun cd114 => ?_)
                    · replace hf := zite_f cd114 hf
                      exact W.widen (k := cells18 + 4) (n := slots18 + 24) (by omega) (by omega) (j121  hf H locs ls hP hD hS (lv_sub hl [1, 2, 0, 3, 4] rfl))
                    · replace hf := zite_t cd114 hf
                      refine lv_iconst (v := 1) hx hb dL_areLevels_117 (by decide) ?_
                      refine lv_goto (tgt := 122) hx hb dL_areLevels_118 (by decide) ?_
                      exact W.widen (k := cells18 + 4) (n := slots18 + 24) (by omega) (by omega) (j122 1 hf H locs ls hP hD hS (lv_sub hl [1, 2, 0, 3, 4] rfl))
              · replace hf := zite_t cd58 hf
                refine lv_iload hx hb dL_areLevels_61 (lv_at hl 4 rfl) ?_
                replace hf := zjp_some hf
                obtain ⟨K91, eK91, hf⟩ := hf
                have j91 : ∀ (s0_91 : Int32), K91 s0_91 = some res → ∀ (H : Heap) (locs : List Loc) (ls : Array Slot), va_P D vwCl (TWC qx U cu) H → va_D A (TWC qx U cu) → va_S A s.heap H locs → lv_has ls 9 [(0, .ref qx), (1, .int a1), (2, .int x4), (4, .int i4_18)] → W p l e rm_L_areLevels s m args below meth c H locs (cells18 + 6) (slots18 + 36) Q (F0 m 91 ls [.int s0_91]) := by
                  intro s0_91 hf H locs ls hP hD hS hl
                  replace hf := zap1 eK91 hf
                  refine lv_istore_n (lv' := [(3, .int s0_91), (0, .ref qx), (1, .int a1), (2, .int x4), (4, .int i4_18)]) hx hb dL_areLevels_91 rfl hl (by decide) rfl (fun ls hl => ?_)
                  refine lv_goto (tgt := 228) hx hb dL_areLevels_92 (by decide) ?_
                  exact W.widen (k := cells18 + 68) (n := slots18 + 408) (by omega) (by omega) (j228 s0_91 hf H locs ls hP hD hS (lv_sub hl [1, 2, 3, 0, 4] rfl))
                replace hf := zjp_some hf
                obtain ⟨K90, eK90, hf⟩ := hf
                have j90 : K90 = some res → ∀ (H : Heap) (locs : List Loc) (ls : Array Slot), va_P D vwCl (TWC qx U cu) H → va_D A (TWC qx U cu) → va_S A s.heap H locs → lv_has ls 9 [(0, .ref qx), (1, .int a1), (2, .int x4), (4, .int i4_18)] → W p l e rm_L_areLevels s m args below meth c H locs (cells18 + 6) (slots18 + 36) Q (F0 m 90 ls []) := by
                  intro  hf H locs ls hP hD hS hl
                  replace hf := zap0 eK90 hf
                  refine lv_iconst (v := 0) hx hb dL_areLevels_90 (by decide) ?_
                  exact W.widen (k := cells18 + 6) (n := slots18 + 36) (by omega) (by omega) (j91 0 hf H locs ls hP hD hS (lv_sub hl [0, 1, 2, 3] rfl))
                refine lv_if_ne (tgt := 90) hx hb dL_areLevels_63 (by decide) (fun cd63 => ?_) (fun cd63 => ?_)
                · replace hf := zite_f cd63 hf
                  exact W.widen (k := cells18 + 6) (n := slots18 + 36) (by omega) (by omega) (j90  hf H locs ls hP hD hS (lv_sub hl [1, 2, 0, 3] rfl))
                · replace hf := zite_t cd63 hf
                  refine lv_aload_n hx hb dL_areLevels_66 rfl (lv_at hl 1 rfl) ?_
                  refine lv_iload hx hb dL_areLevels_67 (lv_at hl 3 rfl) ?_
                  refine lv_iconst (v := 1) hx hb dL_areLevels_69 (by decide) ?_
                  replace hf := zob_some hf
                  obtain ⟨u12, hu12, hf⟩ := hf
                  refine kz_i (D := D) (v := u12) (w1 := TWC qx U cu) (av := [.ref qx, .int i4_18, .int 1]) hK hP hD hS hA hE (fun hb1 hp1 => vx_runSW (As := [.ref qx, .int i4_18, .int 1]) (rest := []) ⟨hx, hb, hml, hown, hts⟩ (cq_L_vectorBit l D H.size qx U cu i4_18 1 hl0 u12 hu12) (vx_cwSW 3 hts gL_areLevels_L_vectorBit rfl rfl rfl (by decide +kernel) ⟨Nat.le_of_ble_eq_true rfl, Nat.le_of_ble_eq_true rfl⟩) ⟨hb1, hp1⟩ rfl rfl hl.1 rfl (lv_room (Nat.le_of_ble_eq_true rfl)) dL_areLevels_70 ⟨show (cells18 + 2) + 2 ≤ 4352 by omega, show (slots18 + 12) + 12 ≤ 26112 by omega⟩) (fun H locs hP hD hS => ?_)
                  have hP : va_P D vwCl (TWC qx U cu) H := hP
                  have hD : va_D A (TWC qx U cu) := hD
                  refine lv_if_ne (tgt := 90) hx hb dL_areLevels_73 (by decide) (fun cd73 => ?_) (fun cd73 => ?_)
                  · replace hf := zite_f cd73 hf
                    exact W.widen (k := cells18 + 6) (n := slots18 + 36) (by omega) (by omega) (j90  hf H locs ls hP hD hS (lv_sub hl [1, 2, 0, 3] rfl))
                  · replace hf := zite_t cd73 hf
                    refine lv_aload_n hx hb dL_areLevels_76 rfl (lv_at hl 1 rfl) ?_
                    refine lv_iload hx hb dL_areLevels_77 (lv_at hl 3 rfl) ?_
                    refine lv_iload_n hx hb dL_areLevels_79 rfl (lv_at hl 2 rfl) ?_
                    replace hf := zob_some hf
                    obtain ⟨u13, hu13, hf⟩ := hf
                    refine kz_i (D := D) (v := u13) (w1 := TWC qx U cu) (av := [.ref qx, .int i4_18, .int a1]) hK hP hD hS hA hE (fun hb1 hp1 => vx_runSW (As := [.ref qx, .int i4_18, .int a1]) (rest := []) ⟨hx, hb, hml, hown, hts⟩ (cq_L_vectorBit l D H.size qx U cu i4_18 a1 hl0 u13 hu13) (vx_cwSW 3 hts gL_areLevels_L_vectorBit rfl rfl rfl (by decide +kernel) ⟨Nat.le_of_ble_eq_true rfl, Nat.le_of_ble_eq_true rfl⟩) ⟨hb1, hp1⟩ rfl rfl hl.1 rfl (lv_room (Nat.le_of_ble_eq_true rfl)) dL_areLevels_80 ⟨show (cells18 + 4) + 2 ≤ 4352 by omega, show (slots18 + 24) + 12 ≤ 26112 by omega⟩) (fun H locs hP hD hS => ?_)
                    have hP : va_P D vwCl (TWC qx U cu) H := hP
                    have hD : va_D A (TWC qx U cu) := hD
                    refine lv_if_ne (tgt := 90) hx hb dL_areLevels_83 (by decide) (fun cd83 => ?_) (fun cd83 => ?_)
                    · replace hf := zite_f cd83 hf
                      exact W.widen (k := cells18 + 6) (n := slots18 + 36) (by omega) (by omega) (j90  hf H locs ls hP hD hS (lv_sub hl [1, 2, 0, 3] rfl))
                    · replace hf := zite_t cd83 hf
                      refine lv_iconst (v := 1) hx hb dL_areLevels_86 (by decide) ?_
                      refine lv_goto (tgt := 91) hx hb dL_areLevels_87 (by decide) ?_
                      exact W.widen (k := cells18 + 6) (n := slots18 + 36) (by omega) (by omega) (j91 1 hf H locs ls hP hD hS (lv_sub hl [1, 2, 0, 3] rfl))
            refine lv_icmp_ne (tgt := 49) hx hb dL_areLevels_42 (by decide) (fun cd42 => ?_) (fun cd42 => ?_)
            · replace hf := zite_f cd42 hf
              refine lv_iconst (v := 0) hx hb dL_areLevels_49 (by decide) ?_
              exact W.widen (k := cells18 + 1) (n := slots18 + 6) (by omega) (by omega) (j50 i2_18 0 hf H locs ls hP hD hS (lv_sub hl [1, 2, 5, 0] rfl))
            · replace hf := zite_t cd42 hf
              refine lv_iconst (v := 1) hx hb dL_areLevels_45 (by decide) ?_
              refine lv_goto (tgt := 50) hx hb dL_areLevels_46 (by decide) ?_
              exact W.widen (k := cells18 + 1) (n := slots18 + 6) (by omega) (by omega) (j50 i2_18 1 hf H locs ls hP hD hS (lv_sub hl [1, 2, 5, 0] rfl))
    exact h18 64 0 s0_14 0 hf 0 0 (by omega) (by omega) H locs ls hP hD hS (lv_sub hl [2, 3, 4, 1, 0] rfl)
  refine lv_if_lt (tgt := 13) hx hb dL_areLevels_6 (by decide) (fun cd6 => ?_) (fun cd6 => ?_)
  · replace hf := zite_t cd6 hf
    refine lv_iconst (v := 0) hx hb dL_areLevels_13 (by decide) ?_
    exact W.widen (k := 0) (n := 0) (by omega) (by omega) (j14 0 hf H locs ls hP hD hS (lv_sub hl [1, 2, 0] rfl))
  · replace hf := zite_f cd6 hf
    refine lv_iconst (v := 1) hx hb dL_areLevels_9 (by decide) ?_
    refine lv_goto (tgt := 14) hx hb dL_areLevels_10 (by decide) ?_
    exact W.widen (k := 0) (n := 0) (by omega) (by omega) (j14 1 hf H locs ls hP hD hS (lv_sub hl [1, 2, 0] rfl))
abbrev rm_L_isBroadcast : Room := { frames := 10, cells := 331, slots := 1986, locals := 188 }
set_option maxHeartbeats 4000000 in
set_option maxRecDepth 100000 in
theorem c_L_isBroadcast (l : Launch) (D : va_G) (sz qx : Nat) (U : (Nat → Nat) × (Nat → ClassId)) (cu : CU) (a1 : Int32) (a2 : Int32) (hl0 : l.stackTraces = false) (res : rt_L_isBroadcast) (hf : f_L_isBroadcast a1 a2 cu = some res) : Met l yL_isBroadcast wsL_isBroadcast rm_L_isBroadcast (kP D [.ref qx, .int a1, .int a2] (TWC qx U cu) (TTC U) sz) (kZi D (va_A (TWC qx U cu) sz) res.1 (TWC qx U res.2)) 331 1986 (va_A (TWC qx U cu) sz) := by
  refine Met.ofW (cc := cL_isBroadcast) (maxL := 7) (ret := (some .boolean)) (by decide +kernel) rfl ?_
  intro p e s m args below meth c s₁ B hml hv
  obtain ⟨hargs, hsz, hP, hK, hD0, hE⟩ := hv
  have hx := B.exec
  have hb := B.bytes
  have hr := B.returns
  have hts := atoms_spec (ws := wsL_isBroadcast) B.pre
  have hown : s.vm.findClass RL = some m.cls := findClass_of_methodNamed B.named
  have hlocks := B.notSynchronized
  subst hsz
  have hD := hD0.self (sz := s.heap.size)
  generalize hAe : va_A (TWC qx U cu) s.heap.size = A at hD hE ⊢
  have hA : ∀ q : Nat, s.heap.size ≤ q → A q := fun q h => by rw [← hAe]; exact Or.inr h
  have hS : va_S A s.heap s.heap [] := va_S.rf
  refine kgen (fun Q eQ => ?_)
  refine kent (av := [.ref qx, .int a1, .int a2]) hargs (Nat.le_of_ble_eq_true rfl) (fun ls hl => ?_)
  have hl : lv_has ls 7 [(0, .ref qx), (1, .int a1), (2, .int a2)] := hl
  show W p l e rm_L_isBroadcast s m args below meth c s.heap [] 0 0 Q (F0 m 0 ls [])
  unfold f_L_isBroadcast at hf
  refine lv_iconst (v := 0) hx hb dL_isBroadcast_0 (by decide) ?_
  refine lv_istore_n (lv' := [(3, .int 0), (0, .ref qx), (1, .int a1), (2, .int a2)]) hx hb dL_isBroadcast_1 rfl hl (by decide) rfl (fun ls hl => ?_)
  refine lv_iconst (v := 1) hx hb dL_isBroadcast_2 (by decide) ?_
  refine lv_istore (lv' := [(4, .int 1), (3, .int 0), (0, .ref qx), (1, .int a1), (2, .int a2)]) hx hb dL_isBroadcast_3 hl (by decide) rfl (fun ls hl => ?_)
  refine lv_iconst (v := 0) hx hb dL_isBroadcast_5 (by decide) ?_
  refine lv_istore (lv' := [(5, .int 0), (4, .int 1), (3, .int 0), (0, .ref qx), (1, .int a1), (2, .int a2)]) hx hb dL_isBroadcast_6 hl (by decide) rfl (fun ls hl => ?_)
  replace hf := zl4_some hf
  obtain ⟨F8, eF8, hf⟩ := hf
  have h8 : ∀ (n8 : Nat) (i3_8 : Int32) (i4_8 : Int32) (i5_8 : Int32) (v_p0_S_8 : CU), zl4 F8 n8 i3_8 i4_8 i5_8 v_p0_S_8 = some res → ∀ (cells8 slots8 : Nat), cells8 + n8 * 4 ≤ 256 → slots8 + n8 * 24 ≤ 1536 → ∀ (H : Heap) (locs : List Loc) (ls : Array Slot), va_P D vwCl (TWC qx U v_p0_S_8) H → va_D A (TWC qx U v_p0_S_8) → va_S A s.heap H locs → lv_has ls 7 [(0, .ref qx), (1, .int a1), (2, .int a2), (3, .int i3_8), (4, .int i4_8), (5, .int i5_8)] → W p l e rm_L_isBroadcast s m args below meth c H locs (cells8 + 0) (slots8 + 0) Q (F0 m 8 ls []) := by
    intro n8
    induction n8 with
    | zero => intro i3_8 i4_8 i5_8 v_p0_S_8 hf; exact (zl4_zero hf).elim
    | succ n8 ih8 =>
      intro i3_8 i4_8 i5_8 v_p0_S_8 hf cells8 slots8 hc8 hs8 H locs ls hP hD hS hl
      replace hf := zl4_step eF8 hf
      generalize zl4 F8 n8 = k8 at hf ih8
      refine lv_iload hx hb dL_isBroadcast_8 (lv_at hl 5 rfl) ?_
      refine lv_iconst (v := 1) hx hb dL_isBroadcast_10 (by decide) ?_
      refine lv_iload_n hx hb dL_isBroadcast_11 rfl (lv_at hl 1 rfl) ?_
      refine lv_ishl hx hb dL_isBroadcast_12 ?_
      replace hf := zjp_some hf
      obtain ⟨K84, eK84, hf⟩ := hf
      have j84 : K84 = some res → ∀ (H : Heap) (locs : List Loc) (ls : Array Slot), va_P D vwCl (TWC qx U v_p0_S_8) H → va_D A (TWC qx U v_p0_S_8) → va_S A s.heap H locs → lv_has ls 7 [(0, .ref qx), (1, .int a1), (2, .int a2), (3, .int i3_8), (4, .int i4_8)] → W p l e rm_L_isBroadcast s m args below meth c H locs 256 1536 Q (F0 m 84 ls []) := by
        intro  hf H locs ls hP hD hS hl
        replace hf := zap0 eK84 hf
        refine lv_iload hx hb dL_isBroadcast_84 (lv_at hl 4 rfl) ?_
        replace hf := zjp_some hf
        obtain ⟨K141, eK141, hf⟩ := hf
        have j141 : ∀ (v_p0_S_141 : CU), K141 v_p0_S_141 = some res → ∀ (H : Heap) (locs : List Loc) (ls : Array Slot), va_P D vwCl (TWC qx U v_p0_S_141) H → va_D A (TWC qx U v_p0_S_141) → va_S A s.heap H locs → lv_has ls 7 [] → W p l e rm_L_isBroadcast s m args below meth c H locs 331 1986 Q (F0 m 141 ls []) := by
          intro v_p0_S_141 hf H locs ls hP hD hS hl
          replace hf := zap1 eK141 hf
          refine lv_iconst (v := 0) hx hb dL_isBroadcast_141 (by decide) ?_
          obtain rfl := Option.some.inj hf
          subst eQ
          exact kzr_z hx hb hr nar_0 hlocks hP hD hS dL_isBroadcast_142 (by omega) (by omega)
        refine lv_if_eq (tgt := 141) hx hb dL_isBroadcast_86 (by decide) (fun cd86 => ?_) (fun cd86 => ?_)
        · replace hf := zite_t cd86 hf
          exact W.widen (k := 331) (n := 1986) (by omega) (by omega) (j141 v_p0_S_8 hf H locs ls hP hD hS (lv_sub hl [] rfl))
        · replace hf := zite_f cd86 hf
          refine lv_aload_n hx hb dL_isBroadcast_89 rfl (lv_at hl 0 rfl) ?_
          refine lv_iload_n hx hb dL_isBroadcast_90 rfl (lv_at hl 2 rfl) ?_
          replace hf := zob_some hf
          obtain ⟨u1, hu1, hf⟩ := hf
          refine kz_i (D := D) (v := u1.1) (w1 := TWC qx U u1.2) (av := [.ref qx, .int a2]) hK hP hD hS hA hE (fun hb1 hp1 => vx_runSW (As := [.ref qx, .int a2]) (rest := []) ⟨hx, hb, hml, hown, hts⟩ (cq_L_broadcastSize l D H.size qx U v_p0_S_8 a2 hl0 u1 hu1) (vx_cwSW 2 hts gL_isBroadcast_L_broadcastSize rfl rfl rfl (by decide +kernel) ⟨Nat.le_of_ble_eq_true rfl, Nat.le_of_ble_eq_true rfl⟩) ⟨hb1, hp1⟩ rfl rfl hl.1 rfl (lv_room (Nat.le_of_ble_eq_true rfl)) dL_isBroadcast_91 ⟨show 256 + 2 ≤ 331 by omega, show 1536 + 12 ≤ 1986 by omega⟩) (fun H locs hP hD hS => ?_)
          have hP : va_P D vwCl (TWC qx U u1.2) H := hP
          have hD : va_D A (TWC qx U u1.2) := hD
          refine lv_iload_n hx hb dL_isBroadcast_94 rfl (lv_at hl 3 rfl) ?_
          refine lv_icmp_ne (tgt := 141) hx hb dL_isBroadcast_95 (by decide) (fun cd95 => ?_) (fun cd95 => ?_)
          · replace hf := zite_f cd95 hf
            exact W.widen (k := 331) (n := 1986) (by omega) (by omega) (j141 u1.2 hf H locs ls hP hD hS (lv_sub hl [] rfl))
          · replace hf := zite_t cd95 hf
            refine lv_aload_n hx hb dL_isBroadcast_98 rfl (lv_at hl 0 rfl) ?_
            refine lv_iload_n hx hb dL_isBroadcast_99 rfl (lv_at hl 2 rfl) ?_
            refine lv_iload_n hx hb dL_isBroadcast_100 rfl (lv_at hl 2 rfl) ?_
            replace hf := zob_some hf
            obtain ⟨u2, hu2, hf⟩ := hf
            refine kz_i (D := D) (v := u2.1) (w1 := TWC qx U u2.2) (av := [.ref qx, .int a2, .int a2]) hK hP hD hS hA hE (fun hb1 hp1 => vx_runSW (As := [.ref qx, .int a2, .int a2]) (rest := []) ⟨hx, hb, hml, hown, hts⟩ (cq_L_broadcastTime l D H.size qx U u1.2 a2 a2 hl0 u2 hu2) (vx_cwSW 3 hts gL_isBroadcast_L_broadcastTime rfl rfl rfl (by decide +kernel) ⟨Nat.le_of_ble_eq_true rfl, Nat.le_of_ble_eq_true rfl⟩) ⟨hb1, hp1⟩ rfl rfl hl.1 rfl (lv_room (Nat.le_of_ble_eq_true rfl)) dL_isBroadcast_101 ⟨show 258 + 3 ≤ 331 by omega, show 1548 + 18 ≤ 1986 by omega⟩) (fun H locs hP hD hS => ?_)
            have hP : va_P D vwCl (TWC qx U u2.2) H := hP
            have hD : va_D A (TWC qx U u2.2) := hD
            refine lv_if_ne (tgt := 141) hx hb dL_isBroadcast_104 (by decide) (fun cd104 => ?_) (fun cd104 => ?_)
            · replace hf := zite_f cd104 hf
              exact W.widen (k := 331) (n := 1986) (by omega) (by omega) (j141 u2.2 hf H locs ls hP hD hS (lv_sub hl [] rfl))
            · replace hf := zite_t cd104 hf
              refine lv_aload_n hx hb dL_isBroadcast_107 rfl (lv_at hl 0 rfl) ?_
              refine lv_iload_n hx hb dL_isBroadcast_108 rfl (lv_at hl 2 rfl) ?_
              refine lv_iconst (v := 0) hx hb dL_isBroadcast_109 (by decide) ?_
              replace hf := zob_some hf
              obtain ⟨u3, hu3, hf⟩ := hf
              refine kz_i (D := D) (v := u3) (w1 := TWC qx U u2.2) (av := [.ref qx, .int a2, .int 0]) hK hP hD hS hA hE (fun hb1 hp1 => vx_runSW (As := [.ref qx, .int a2, .int 0]) (rest := []) ⟨hx, hb, hml, hown, hts⟩ (cq_L_reach l D H.size qx U u2.2 a2 0 hl0 u3 hu3) (vx_cwSW 3 hts gL_isBroadcast_L_reach rfl rfl rfl (by decide +kernel) ⟨Nat.le_of_ble_eq_true rfl, Nat.le_of_ble_eq_true rfl⟩) ⟨hb1, hp1⟩ rfl rfl hl.1 rfl (lv_room (Nat.le_of_ble_eq_true rfl)) dL_isBroadcast_110 ⟨show 261 + 2 ≤ 331 by omega, show 1566 + 12 ≤ 1986 by omega⟩) (fun H locs hP hD hS => ?_)
              have hP : va_P D vwCl (TWC qx U u2.2) H := hP
              have hD : va_D A (TWC qx U u2.2) := hD
              refine lv_aload_n hx hb dL_isBroadcast_113 rfl (lv_at hl 0 rfl) ?_
              refine lv_iload_n hx hb dL_isBroadcast_114 rfl (lv_at hl 2 rfl) ?_
              refine lv_iconst (v := 1) hx hb dL_isBroadcast_115 (by decide) ?_
              replace hf := zob_some hf
              obtain ⟨u4, hu4, hf⟩ := hf
              refine kz_i (D := D) (v := u4) (w1 := TWC qx U u2.2) (av := [.ref qx, .int a2, .int 1]) hK hP hD hS hA hE (fun hb1 hp1 => vx_runSW (As := [.ref qx, .int a2, .int 1]) (rest := [.int u3]) ⟨hx, hb, hml, hown, hts⟩ (cq_L_reach l D H.size qx U u2.2 a2 1 hl0 u4 hu4) (vx_cwSW 3 hts gL_isBroadcast_L_reach rfl rfl rfl (by decide +kernel) ⟨Nat.le_of_ble_eq_true rfl, Nat.le_of_ble_eq_true rfl⟩) ⟨hb1, hp1⟩ rfl rfl hl.1 rfl (lv_room (Nat.le_of_ble_eq_true rfl)) dL_isBroadcast_116 ⟨show 263 + 2 ≤ 331 by omega, show 1578 + 12 ≤ 1986 by omega⟩) (fun H locs hP hD hS => ?_)
              have hP : va_P D vwCl (TWC qx U u2.2) H := hP
              have hD : va_D A (TWC qx U u2.2) := hD
              refine lv_iadd hx hb dL_isBroadcast_119 ?_
              refine lv_aload_n hx hb dL_isBroadcast_120 rfl (lv_at hl 0 rfl) ?_
              refine lv_iload_n hx hb dL_isBroadcast_121 rfl (lv_at hl 2 rfl) ?_
              refine lv_iconst (v := 2) hx hb dL_isBroadcast_122 (by decide) ?_
              replace hf := zob_some hf
              obtain ⟨u5, hu5, hf⟩ := hf
              refine kz_i (D := D) (v := u5) (w1 := TWC qx U u2.2) (av := [.ref qx, .int a2, .int 2]) hK hP hD hS hA hE (fun hb1 hp1 => vx_runSW (As := [.ref qx, .int a2, .int 2]) (rest := [.int (u3 + u4)]) ⟨hx, hb, hml, hown, hts⟩ (cq_L_reach l D H.size qx U u2.2 a2 2 hl0 u5 hu5) (vx_cwSW 3 hts gL_isBroadcast_L_reach rfl rfl rfl (by decide +kernel) ⟨Nat.le_of_ble_eq_true rfl, Nat.le_of_ble_eq_true rfl⟩) ⟨hb1, hp1⟩ rfl rfl hl.1 rfl (lv_room (Nat.le_of_ble_eq_true rfl)) dL_isBroadcast_123 ⟨show 265 + 2 ≤ 331 by omega, show 1590 + 12 ≤ 1986 by omega⟩) (fun H locs hP hD hS => ?_)
              have hP : va_P D vwCl (TWC qx U u2.2) H := hP
              have hD : va_D A (TWC qx U u2.2) := hD
              refine lv_iadd hx hb dL_isBroadcast_126 ?_
              refine lv_aload_n hx hb dL_isBroadcast_127 rfl (lv_at hl 0 rfl) ?_
              refine lv_iload_n hx hb dL_isBroadcast_128 rfl (lv_at hl 1 rfl) ?_
              replace hf := zob_some hf
              obtain ⟨u6, hu6, hf⟩ := hf
              refine kz_i (D := D) (v := u6) (w1 := TWC qx U u2.2) (av := [.ref qx, .int a1]) hK hP hD hS hA hE (fun hb1 hp1 => va_runS (As := [.ref qx, .int a1]) (rest := [.int ((u3 + u4) + u5)]) ⟨hx, hb, hml, hown, hts⟩ (c_L_alive l D H.size qx U u2.2 a1 hl0 u6 hu6) (va_cwS 2 hts gL_isBroadcast_L_alive rfl rfl rfl (by decide +kernel) ⟨Nat.le_of_ble_eq_true rfl, Nat.le_of_ble_eq_true rfl⟩) ⟨hb1, hp1⟩ rfl rfl hl.1 rfl (lv_room (Nat.le_of_ble_eq_true rfl)) dL_isBroadcast_129 ⟨show 267 + 64 ≤ 331 by omega, show 1602 + 384 ≤ 1986 by omega⟩) (fun H locs hP hD hS => ?_)
              have hP : va_P D vwCl (TWC qx U u2.2) H := hP
              have hD : va_D A (TWC qx U u2.2) := hD
              refine lv_iconst (v := 1) hx hb dL_isBroadcast_132 (by decide) ?_
              refine lv_isub hx hb dL_isBroadcast_133 ?_
              refine lv_icmp_ne (tgt := 141) hx hb dL_isBroadcast_134 (by decide) (fun cd134 => ?_) (fun cd134 => ?_)
              · replace hf := zite_f cd134 hf
                exact W.widen (k := 331) (n := 1986) (by omega) (by omega) (j141 u2.2 hf H locs ls hP hD hS (lv_sub hl [] rfl))
              · replace hf := zite_t cd134 hf
                refine lv_iconst (v := 1) hx hb dL_isBroadcast_137 (by decide) ?_
                refine lv_goto (tgt := 142) hx hb dL_isBroadcast_138 (by decide) ?_
                obtain rfl := Option.some.inj hf
                subst eQ
                exact kzr_z hx hb hr nar_1 hlocks hP hD hS dL_isBroadcast_142 (by omega) (by omega)
      refine lv_icmp_ge (tgt := 84) hx hb dL_isBroadcast_13 (by decide) (fun cd13 => ?_) (fun cd13 => ?_)
      · replace hf := zite_t cd13 hf
        exact W.widen (k := 256) (n := 1536) (by omega) (by omega) (j84  hf H locs ls hP hD hS (lv_sub hl [0, 1, 2, 3, 4] rfl))
      · replace hf := zite_f cd13 hf
        refine lv_iload hx hb dL_isBroadcast_16 (lv_at hl 4 rfl) ?_
        refine lv_if_eq (tgt := 84) hx hb dL_isBroadcast_18 (by decide) (fun cd18 => ?_) (fun cd18 => ?_)
        · replace hf := zite_t cd18 hf
          exact W.widen (k := 256) (n := 1536) (by omega) (by omega) (j84  hf H locs ls hP hD hS (lv_sub hl [0, 1, 2, 3, 4] rfl))
        · replace hf := zite_f cd18 hf
          refine lv_aload_n hx hb dL_isBroadcast_21 rfl (lv_at hl 0 rfl) ?_
          refine lv_iload_n hx hb dL_isBroadcast_22 rfl (lv_at hl 2 rfl) ?_
          refine lv_iload hx hb dL_isBroadcast_23 (lv_at hl 5 rfl) ?_
          replace hf := zob_some hf
          obtain ⟨u7, hu7, hf⟩ := hf
          refine kz_i (D := D) (v := u7.1) (w1 := TWC qx U u7.2) (av := [.ref qx, .int a2, .int i5_8]) hK hP hD hS hA hE (fun hb1 hp1 => vx_runSW (As := [.ref qx, .int a2, .int i5_8]) (rest := []) ⟨hx, hb, hml, hown, hts⟩ (cq_L_broadcastTime l D H.size qx U v_p0_S_8 a2 i5_8 hl0 u7 hu7) (vx_cwSW 3 hts gL_isBroadcast_L_broadcastTime rfl rfl rfl (by decide +kernel) ⟨Nat.le_of_ble_eq_true rfl, Nat.le_of_ble_eq_true rfl⟩) ⟨hb1, hp1⟩ rfl rfl hl.1 rfl (lv_room (Nat.le_of_ble_eq_true rfl)) dL_isBroadcast_25 ⟨show (cells8 + 0) + 3 ≤ 331 by omega, show (slots8 + 0) + 18 ≤ 1986 by omega⟩) (fun H locs hP hD hS => ?_)
          have hP : va_P D vwCl (TWC qx U u7.2) H := hP
          have hD : va_D A (TWC qx U u7.2) := hD
          refine lv_topi (fun x8 ex8 => ?_)
          replace hf := zbd_of ex8 hf
          refine lv_istore (lv' := [(6, .int x8), (0, .ref qx), (1, .int a1), (2, .int a2), (3, .int i3_8), (4, .int i4_8), (5, .int i5_8)]) hx hb dL_isBroadcast_28 hl (by decide) rfl (fun ls hl => ?_)
          refine lv_iload hx hb dL_isBroadcast_30 (lv_at hl 0 rfl) ?_
          refine lv_iconst (v := (-1)) hx hb dL_isBroadcast_32 (by decide) ?_
          replace hf := zjp_some hf
          obtain ⟨K63, eK63, hf⟩ := hf
          have j63 : ∀ (s0_63 : Int32), K63 s0_63 = some res → ∀ (H : Heap) (locs : List Loc) (ls : Array Slot), va_P D vwCl (TWC qx U u7.2) H → va_D A (TWC qx U u7.2) → va_S A s.heap H locs → lv_has ls 7 [(0, .ref qx), (1, .int a1), (2, .int a2), (3, .int i3_8), (5, .int i5_8), (6, .int x8)] → W p l e rm_L_isBroadcast s m args below meth c H locs (cells8 + 4) (slots8 + 24) Q (F0 m 63 ls [.int s0_63]) := by
            intro s0_63 hf H locs ls hP hD hS hl
            replace hf := zap1 eK63 hf
            refine lv_istore (lv' := [(4, .int s0_63), (0, .ref qx), (1, .int a1), (2, .int a2), (3, .int i3_8), (5, .int i5_8), (6, .int x8)]) hx hb dL_isBroadcast_63 hl (by decide) rfl (fun ls hl => ?_)
            refine lv_iload_n hx hb dL_isBroadcast_65 rfl (lv_at hl 4 rfl) ?_
            refine lv_iload hx hb dL_isBroadcast_66 (lv_at hl 6 rfl) ?_
            replace hf := zjp_some hf
            obtain ⟨K76, eK76, hf⟩ := hf
            have j76 : ∀ (s0_76 : Int32) (s1_76 : Int32), K76 s0_76 s1_76 = some res → ∀ (H : Heap) (locs : List Loc) (ls : Array Slot), va_P D vwCl (TWC qx U u7.2) H → va_D A (TWC qx U u7.2) → va_S A s.heap H locs → lv_has ls 7 [(0, .ref qx), (1, .int a1), (2, .int a2), (4, .int s0_63), (5, .int i5_8)] → W p l e rm_L_isBroadcast s m args below meth c H locs (cells8 + 4) (slots8 + 24) Q (F0 m 76 ls [.int s1_76, .int s0_76]) := by
              intro s0_76 s1_76 hf H locs ls hP hD hS hl
              replace hf := zap2 eK76 hf
              refine lv_iadd hx hb dL_isBroadcast_76 ?_
              refine lv_topi (fun x9 ex9 => ?_)
              replace hf := zbd_of ex9 hf
              refine lv_istore_n (lv' := [(3, .int x9), (0, .ref qx), (1, .int a1), (2, .int a2), (4, .int s0_63), (5, .int i5_8)]) hx hb dL_isBroadcast_77 rfl hl (by decide) rfl (fun ls hl => ?_)
              obtain ⟨x10, ex10⟩ : ∃ y : Int32, y = i5_8 + 1 := ⟨_, rfl⟩
              replace hf := zbd_of ex10 hf
              refine lv_iinc (v := x10) (lv' := [(5, .int x10), (3, .int x9), (0, .ref qx), (1, .int a1), (2, .int a2), (4, .int s0_63)]) hx hb dL_isBroadcast_78 hl (k := 5) rfl (by rw [ex10]; rfl) (by decide) rfl (fun ls hl => ?_)
              refine lv_goto (tgt := 8) hx hb dL_isBroadcast_81 (by decide) ?_
              exact ih8 x9 s0_63 x10 u7.2 hf (cells8 + 4) (slots8 + 24) (by omega) (by omega) H locs ls hP hD hS (lv_sub hl [2, 3, 4, 1, 5, 0] rfl)
            refine lv_if_lt (tgt := 75) hx hb dL_isBroadcast_68 (by decide) (fun cd68 => ?_) (fun cd68 => ?_)
            · replace hf := zite_t cd68 hf
              refine lv_iconst (v := 0) hx hb dL_isBroadcast_75 (by decide) ?_
              exact W.widen (k := cells8 + 4) (n := slots8 + 24) (by omega) (by omega) (j76 i3_8 0 hf H locs ls hP hD hS (lv_sub hl [1, 2, 3, 0, 5] rfl))
            · replace hf := zite_f cd68 hf
              refine lv_iconst (v := 1) hx hb dL_isBroadcast_71 (by decide) ?_
              refine lv_goto (tgt := 76) hx hb dL_isBroadcast_72 (by decide) ?_
              exact W.widen (k := cells8 + 4) (n := slots8 + 24) (by omega) (by omega) (j76 i3_8 1 hf H locs ls hP hD hS (lv_sub hl [1, 2, 3, 0, 5] rfl))
          replace hf := zjp_some hf
          obtain ⟨K58, eK58, hf⟩ := hf
          have j58 : K58 = some res → ∀ (H : Heap) (locs : List Loc) (ls : Array Slot), va_P D vwCl (TWC qx U u7.2) H → va_D A (TWC qx U u7.2) → va_S A s.heap H locs → lv_has ls 7 [(0, .ref qx), (1, .int a1), (2, .int a2), (3, .int i3_8), (5, .int i5_8), (6, .int x8)] → W p l e rm_L_isBroadcast s m args below meth c H locs (cells8 + 4) (slots8 + 24) Q (F0 m 58 ls []) := by
            intro  hf H locs ls hP hD hS hl
            replace hf := zap0 eK58 hf
            refine lv_iconst (v := 1) hx hb dL_isBroadcast_58 (by decide) ?_
            refine lv_goto (tgt := 63) hx hb dL_isBroadcast_59 (by decide) ?_
            exact W.widen (k := cells8 + 4) (n := slots8 + 24) (by omega) (by omega) (j63 1 hf H locs ls hP hD hS (lv_sub hl [0, 1, 2, 3, 4, 5] rfl))
          refine lv_icmp_eq (tgt := 58) hx hb dL_isBroadcast_33 (by decide) (fun cd33 => ?_) (fun cd33 => ?_)
          · replace hf := zite_t cd33 hf
            exact W.widen (k := cells8 + 4) (n := slots8 + 24) (by omega) (by omega) (j58  hf H locs ls hP hD hS (lv_sub hl [1, 2, 3, 4, 6, 0] rfl))
          · replace hf := zite_f cd33 hf
            refine lv_iload hx hb dL_isBroadcast_36 (lv_at hl 0 rfl) ?_
            refine lv_iload_n hx hb dL_isBroadcast_38 rfl (lv_at hl 3 rfl) ?_
            refine lv_iload hx hb dL_isBroadcast_39 (lv_at hl 6 rfl) ?_
            refine lv_ixor hx hb dL_isBroadcast_41 ?_
            replace hf := zob_some hf
            obtain ⟨u11, hu11, hf⟩ := hf
            refine kz0_i (D := D) (v := u11) (av := [.int (a2 ^^^ i5_8)]) hK hP hD hS hA hE (fun hb1 hp1 => va_runS (As := [.int (a2 ^^^ i5_8)]) (rest := [.int x8]) ⟨hx, hb, hml, hown, hts⟩ (c_L_ones l D H.size (a2 ^^^ i5_8) u11 hu11) (va_cwS 1 hts gL_isBroadcast_L_ones rfl rfl rfl (by decide +kernel) ⟨Nat.le_of_ble_eq_true rfl, Nat.le_of_ble_eq_true rfl⟩) ⟨hb1, hp1⟩ rfl rfl hl.1 rfl (lv_room (Nat.le_of_ble_eq_true rfl)) dL_isBroadcast_42 ⟨show (cells8 + 3) + 0 ≤ 331 by omega, show (slots8 + 18) + 0 ≤ 1986 by omega⟩) (fun H locs hP hD hS => ?_)
            have hP : va_P D vwCl (TWC qx U u7.2) H := hP
            have hD : va_D A (TWC qx U u7.2) := hD
            replace hf := zjp_some hf
            obtain ⟨K62, eK62, hf⟩ := hf
            have j62 : K62 = some res → ∀ (H : Heap) (locs : List Loc) (ls : Array Slot), va_P D vwCl (TWC qx U u7.2) H → va_D A (TWC qx U u7.2) → va_S A s.heap H locs → lv_has ls 7 [(0, .ref qx), (1, .int a1), (2, .int a2), (3, .int i3_8), (5, .int i5_8), (6, .int x8)] → W p l e rm_L_isBroadcast s m args below meth c H locs (cells8 + 4) (slots8 + 24) Q (F0 m 62 ls []) := by
              intro  hf H locs ls hP hD hS hl
              replace hf := zap0 eK62 hf
              refine lv_iconst (v := 0) hx hb dL_isBroadcast_62 (by decide) ?_
              exact W.widen (k := cells8 + 4) (n := slots8 + 24) (by omega) (by omega) (j63 0 hf H locs ls hP hD hS (lv_sub hl [0, 1, 2, 3, 4, 5] rfl))
            refine lv_icmp_ne (tgt := 62) hx hb dL_isBroadcast_45 (by decide) (fun cd45 => ?_) (fun cd45 => ?_)
            · replace hf := zite_f cd45 hf
              exact W.widen (k := cells8 + 4) (n := slots8 + 24) (by omega) (by omega) (j62  hf H locs ls hP hD hS (lv_sub hl [1, 2, 3, 4, 6, 0] rfl))
            · replace hf := zite_t cd45 hf
              refine lv_aload_n hx hb dL_isBroadcast_48 rfl (lv_at hl 1 rfl) ?_
              refine lv_iload hx hb dL_isBroadcast_49 (lv_at hl 6 rfl) ?_
              replace hf := zob_some hf
              obtain ⟨u12, hu12, hf⟩ := hf
              refine kz_i (D := D) (v := u12) (w1 := TWC qx U u7.2) (av := [.ref qx, .int i5_8]) hK hP hD hS hA hE (fun hb1 hp1 => vx_runSW (As := [.ref qx, .int i5_8]) (rest := []) ⟨hx, hb, hml, hown, hts⟩ (cq_L_isAlive l D H.size qx U u7.2 i5_8 hl0 u12 hu12) (vx_cwSW 2 hts gL_isBroadcast_L_isAlive rfl rfl rfl (by decide +kernel) ⟨Nat.le_of_ble_eq_true rfl, Nat.le_of_ble_eq_true rfl⟩) ⟨hb1, hp1⟩ rfl rfl hl.1 rfl (lv_room (Nat.le_of_ble_eq_true rfl)) dL_isBroadcast_51 ⟨show (cells8 + 3) + 1 ≤ 331 by omega, show (slots8 + 18) + 6 ≤ 1986 by omega⟩) (fun H locs hP hD hS => ?_)
              have hP : va_P D vwCl (TWC qx U u7.2) H := hP
              have hD : va_D A (TWC qx U u7.2) := hD
              refine lv_iconst (v := 1) hx hb dL_isBroadcast_54 (by decide) ?_
              refine lv_icmp_ne (tgt := 62) hx hb dL_isBroadcast_55 (by decide) (fun cd55 => ?_) (fun cd55 => ?_)
              · replace hf := zite_f cd55 hf
                exact W.widen (k := cells8 + 4) (n := slots8 + 24) (by omega) (by omega) (j62  hf H locs ls hP hD hS (lv_sub hl [1, 2, 3, 4, 6, 0] rfl))
              · replace hf := zite_t cd55 hf
                exact W.widen (k := cells8 + 4) (n := slots8 + 24) (by omega) (by omega) (j58  hf H locs ls hP hD hS (lv_sub hl [1, 2, 3, 4, 6, 0] rfl))
  exact h8 64 0 1 0 cu hf 0 0 (by omega) (by omega) s.heap [] ls hP hD hS (lv_sub hl [3, 4, 5, 2, 1, 0] rfl)
abbrev rm_L_arePaths : Room := { frames := 10, cells := 204, slots := 1224, locals := 192 }
set_option maxHeartbeats 4000000 in
set_option maxRecDepth 100000 in
theorem c_L_arePaths (l : Launch) (D : va_G) (sz qx : Nat) (U : (Nat → Nat) × (Nat → ClassId)) (cu : CU) (a1 : Int32) (a2 : Int32) (a3 : Int32) (hl0 : l.stackTraces = false) (res : rt_L_arePaths) (hf : f_L_arePaths a1 a2 a3 cu = some res) : Met l yL_arePaths wsL_arePaths rm_L_arePaths (kP D [.ref qx, .int a1, .int a2, .int a3] (TWC qx U cu) (TTC U) sz) (kZi D (va_A (TWC qx U cu) sz) res.1 (TWC qx U res.2)) 204 1224 (va_A (TWC qx U cu) sz) := by
  refine Met.ofW (cc := cL_arePaths) (maxL := 8) (ret := (some .boolean)) (by decide +kernel) rfl ?_
  intro p e s m args below meth c s₁ B hml hv
  obtain ⟨hargs, hsz, hP, hK, hD0, hE⟩ := hv
  have hx := B.exec
  have hb := B.bytes
  have hr := B.returns
  have hts := atoms_spec (ws := wsL_arePaths) B.pre
  have hown : s.vm.findClass RL = some m.cls := findClass_of_methodNamed B.named
  have hlocks := B.notSynchronized
  subst hsz
  have hD := hD0.self (sz := s.heap.size)
  generalize hAe : va_A (TWC qx U cu) s.heap.size = A at hD hE ⊢
  have hA : ∀ q : Nat, s.heap.size ≤ q → A q := fun q h => by rw [← hAe]; exact Or.inr h
  have hS : va_S A s.heap s.heap [] := va_S.rf
  refine kgen (fun Q eQ => ?_)
  refine kent (av := [.ref qx, .int a1, .int a2, .int a3]) hargs (Nat.le_of_ble_eq_true rfl) (fun ls hl => ?_)
  have hl : lv_has ls 8 [(0, .ref qx), (1, .int a1), (2, .int a2), (3, .int a3)] := hl
  show W p l e rm_L_arePaths s m args below meth c s.heap [] 0 0 Q (F0 m 0 ls [])
  unfold f_L_arePaths at hf
  refine lv_aload_n hx hb dL_arePaths_0 rfl (lv_at hl 0 rfl) ?_
  refine lv_iload_n hx hb dL_arePaths_1 rfl (lv_at hl 2 rfl) ?_
  refine lv_iload_n hx hb dL_arePaths_2 rfl (lv_at hl 3 rfl) ?_
  replace hf := zob_some hf
  obtain ⟨u1, hu1, hf⟩ := hf
  refine kz_i (D := D) (v := u1.1) (w1 := TWC qx U u1.2) (av := [.ref qx, .int a2, .int a3]) hK hP hD hS hA hE (fun hb1 hp1 => vx_runSW (As := [.ref qx, .int a2, .int a3]) (rest := []) ⟨hx, hb, hml, hown, hts⟩ (cq_L_disjointPaths l D s.heap.size qx U cu a2 a3 hl0 u1 hu1) (vx_cwSW 3 hts gL_arePaths_L_disjointPaths rfl rfl rfl (by decide +kernel) ⟨Nat.le_of_ble_eq_true rfl, Nat.le_of_ble_eq_true rfl⟩) ⟨hb1, hp1⟩ rfl rfl hl.1 rfl (lv_room (Nat.le_of_ble_eq_true rfl)) dL_arePaths_3 ⟨show 0 + 4 ≤ 204 by omega, show 0 + 24 ≤ 1224 by omega⟩) (fun H locs hP hD hS => ?_)
  have hP : va_P D vwCl (TWC qx U u1.2) H := hP
  have hD : va_D A (TWC qx U u1.2) := hD
  refine lv_topi (fun x2 ex2 => ?_)
  replace hf := zbd_of ex2 hf
  refine lv_istore (lv' := [(4, .int x2), (0, .ref qx), (1, .int a1), (2, .int a2), (3, .int a3)]) hx hb dL_arePaths_6 hl (by decide) rfl (fun ls hl => ?_)
  refine lv_iconst (v := 0) hx hb dL_arePaths_8 (by decide) ?_
  refine lv_istore (lv' := [(5, .int 0), (4, .int x2), (0, .ref qx), (1, .int a1), (2, .int a2), (3, .int a3)]) hx hb dL_arePaths_9 hl (by decide) rfl (fun ls hl => ?_)
  refine lv_iconst (v := 0) hx hb dL_arePaths_11 (by decide) ?_
  refine lv_istore (lv' := [(6, .int 0), (5, .int 0), (4, .int x2), (0, .ref qx), (1, .int a1), (2, .int a2), (3, .int a3)]) hx hb dL_arePaths_12 hl (by decide) rfl (fun ls hl => ?_)
  refine lv_iconst (v := 0) hx hb dL_arePaths_14 (by decide) ?_
  refine lv_istore (lv' := [(7, .int 0), (6, .int 0), (5, .int 0), (4, .int x2), (0, .ref qx), (1, .int a1), (2, .int a2), (3, .int a3)]) hx hb dL_arePaths_15 hl (by decide) rfl (fun ls hl => ?_)
  replace hf := zl3_some hf
  obtain ⟨F17, eF17, hf⟩ := hf
  have h17 : ∀ (n17 : Nat) (i5_17 : Int32) (i6_17 : Int32) (i7_17 : Int32), zl3 F17 n17 i5_17 i6_17 i7_17 = some res → ∀ (cells17 slots17 : Nat), cells17 + n17 * 2 ≤ 132 → slots17 + n17 * 12 ≤ 792 → ∀ (H : Heap) (locs : List Loc) (ls : Array Slot), va_P D vwCl (TWC qx U u1.2) H → va_D A (TWC qx U u1.2) → va_S A s.heap H locs → lv_has ls 8 [(0, .ref qx), (1, .int a1), (2, .int a2), (3, .int a3), (4, .int x2), (5, .int i5_17), (6, .int i6_17), (7, .int i7_17)] → W p l e rm_L_arePaths s m args below meth c H locs (cells17 + 0) (slots17 + 0) Q (F0 m 17 ls []) := by
    intro n17
    induction n17 with
    | zero => intro i5_17 i6_17 i7_17 hf; exact (zl3_zero hf).elim
    | succ n17 ih17 =>
      intro i5_17 i6_17 i7_17 hf cells17 slots17 hc17 hs17 H locs ls hP hD hS hl
      replace hf := zl3_step eF17 hf
      generalize zl3 F17 n17 = k17 at hf ih17
      refine lv_iload hx hb dL_arePaths_17 (lv_at hl 7 rfl) ?_
      refine lv_iload_n hx hb dL_arePaths_19 rfl (lv_at hl 1 rfl) ?_
      refine lv_icmp_ge (tgt := 59) hx hb dL_arePaths_20 (by decide) (fun cd20 => ?_) (fun cd20 => ?_)
      · replace hf := zite_t cd20 hf
        refine W.widen (k := 132) (n := 792) (by omega) (by omega) ?_
        refine lv_iload hx hb dL_arePaths_59 (lv_at hl 4 rfl) ?_
        refine lv_aload_n hx hb dL_arePaths_61 rfl (lv_at hl 0 rfl) ?_
        refine lv_iload_n hx hb dL_arePaths_62 rfl (lv_at hl 3 rfl) ?_
        refine lv_iload_n hx hb dL_arePaths_63 rfl (lv_at hl 2 rfl) ?_
        replace hf := zob_some hf
        obtain ⟨u3, hu3, hf⟩ := hf
        refine kz_i (D := D) (v := u3.1) (w1 := TWC qx U u3.2) (av := [.ref qx, .int a3, .int a2]) hK hP hD hS hA hE (fun hb1 hp1 => vx_runSW (As := [.ref qx, .int a3, .int a2]) (rest := [.int x2]) ⟨hx, hb, hml, hown, hts⟩ (cq_L_disjointPaths l D H.size qx U u1.2 a3 a2 hl0 u3 hu3) (vx_cwSW 3 hts gL_arePaths_L_disjointPaths rfl rfl rfl (by decide +kernel) ⟨Nat.le_of_ble_eq_true rfl, Nat.le_of_ble_eq_true rfl⟩) ⟨hb1, hp1⟩ rfl rfl hl.1 rfl (lv_room (Nat.le_of_ble_eq_true rfl)) dL_arePaths_64 ⟨show 132 + 4 ≤ 204 by omega, show 792 + 24 ≤ 1224 by omega⟩) (fun H locs hP hD hS => ?_)
        have hP : va_P D vwCl (TWC qx U u3.2) H := hP
        have hD : va_D A (TWC qx U u3.2) := hD
        replace hf := zjp_some hf
        obtain ⟨K138, eK138, hf⟩ := hf
        have j138 : K138 = some res → ∀ (H : Heap) (locs : List Loc) (ls : Array Slot), va_P D vwCl (TWC qx U u3.2) H → va_D A (TWC qx U u3.2) → va_S A s.heap H locs → lv_has ls 8 [] → W p l e rm_L_arePaths s m args below meth c H locs 204 1224 Q (F0 m 138 ls []) := by
          intro  hf H locs ls hP hD hS hl
          replace hf := zap0 eK138 hf
          refine lv_iconst (v := 0) hx hb dL_arePaths_138 (by decide) ?_
          obtain rfl := Option.some.inj hf
          subst eQ
          exact kzr_z hx hb hr nar_0 hlocks hP hD hS dL_arePaths_139 (by omega) (by omega)
        refine lv_icmp_ne (tgt := 138) hx hb dL_arePaths_67 (by decide) (fun cd67 => ?_) (fun cd67 => ?_)
        · replace hf := zite_f cd67 hf
          exact W.widen (k := 204) (n := 1224) (by omega) (by omega) (j138  hf H locs ls hP hD hS (lv_sub hl [] rfl))
        · replace hf := zite_t cd67 hf
          refine lv_iload hx hb dL_arePaths_70 (lv_at hl 4 rfl) ?_
          refine lv_if_lt (tgt := 138) hx hb dL_arePaths_72 (by decide) (fun cd72 => ?_) (fun cd72 => ?_)
          · replace hf := zite_t cd72 hf
            exact W.widen (k := 204) (n := 1224) (by omega) (by omega) (j138  hf H locs ls hP hD hS (lv_sub hl [] rfl))
          · replace hf := zite_f cd72 hf
            refine lv_iload hx hb dL_arePaths_75 (lv_at hl 4 rfl) ?_
            refine lv_iload hx hb dL_arePaths_77 (lv_at hl 5 rfl) ?_
            refine lv_icmp_gt (tgt := 138) hx hb dL_arePaths_79 (by decide) (fun cd79 => ?_) (fun cd79 => ?_)
            · replace hf := zite_t cd79 hf
              exact W.widen (k := 204) (n := 1224) (by omega) (by omega) (j138  hf H locs ls hP hD hS (lv_sub hl [] rfl))
            · replace hf := zite_f cd79 hf
              refine lv_iload hx hb dL_arePaths_82 (lv_at hl 4 rfl) ?_
              refine lv_iload hx hb dL_arePaths_84 (lv_at hl 6 rfl) ?_
              refine lv_icmp_gt (tgt := 138) hx hb dL_arePaths_86 (by decide) (fun cd86 => ?_) (fun cd86 => ?_)
              · replace hf := zite_t cd86 hf
                exact W.widen (k := 204) (n := 1224) (by omega) (by omega) (j138  hf H locs ls hP hD hS (lv_sub hl [] rfl))
              · replace hf := zite_f cd86 hf
                refine lv_iload hx hb dL_arePaths_89 (lv_at hl 4 rfl) ?_
                replace hf := zjp_some hf
                obtain ⟨K99, eK99, hf⟩ := hf
                have j99 : ∀ (s0_99 : Int32), K99 s0_99 = some res → ∀ (H : Heap) (locs : List Loc) (ls : Array Slot), va_P D vwCl (TWC qx U u3.2) H → va_D A (TWC qx U u3.2) → va_S A s.heap H locs → lv_has ls 8 [(0, .ref qx), (1, .int a1), (2, .int a2), (3, .int a3), (4, .int x2)] → W p l e rm_L_arePaths s m args below meth c H locs 136 816 Q (F0 m 99 ls [.int s0_99]) := by
                  intro s0_99 hf H locs ls hP hD hS hl
                  replace hf := zap1 eK99 hf
                  refine lv_aload_n hx hb dL_arePaths_99 rfl (lv_at hl 0 rfl) ?_
                  refine lv_iload_n hx hb dL_arePaths_100 rfl (lv_at hl 2 rfl) ?_
                  refine lv_iload_n hx hb dL_arePaths_101 rfl (lv_at hl 3 rfl) ?_
                  replace hf := zob_some hf
                  obtain ⟨u4, hu4, hf⟩ := hf
                  refine kz_i (D := D) (v := u4) (w1 := TWC qx U u3.2) (av := [.ref qx, .int a2, .int a3]) hK hP hD hS hA hE (fun hb1 hp1 => vx_runSW (As := [.ref qx, .int a2, .int a3]) (rest := [.int s0_99]) ⟨hx, hb, hml, hown, hts⟩ (cq_L_shortest l D H.size qx U u3.2 a2 a3 hl0 u4 hu4) (vx_cwSW 3 hts gL_arePaths_L_shortest rfl rfl rfl (by decide +kernel) ⟨Nat.le_of_ble_eq_true rfl, Nat.le_of_ble_eq_true rfl⟩) ⟨hb1, hp1⟩ rfl rfl hl.1 rfl (lv_room (Nat.le_of_ble_eq_true rfl)) dL_arePaths_102 ⟨show 136 + 4 ≤ 204 by omega, show 816 + 24 ≤ 1224 by omega⟩) (fun H locs hP hD hS => ?_)
                  have hP : va_P D vwCl (TWC qx U u3.2) H := hP
                  have hD : va_D A (TWC qx U u3.2) := hD
                  refine lv_iconst (v := (-1)) hx hb dL_arePaths_105 (by decide) ?_
                  replace hf := zjp_some hf
                  obtain ⟨K114, eK114, hf⟩ := hf
                  have j114 : ∀ (s0_114 : Int32) (s1_114 : Int32), K114 s0_114 s1_114 = some res → ∀ (H : Heap) (locs : List Loc) (ls : Array Slot), va_P D vwCl (TWC qx U u3.2) H → va_D A (TWC qx U u3.2) → va_S A s.heap H locs → lv_has ls 8 [(0, .ref qx), (1, .int a1), (4, .int x2)] → W p l e rm_L_arePaths s m args below meth c H locs 140 840 Q (F0 m 114 ls [.int s1_114, .int s0_114]) := by
                    intro s0_114 s1_114 hf H locs ls hP hD hS hl
                    replace hf := zap2 eK114 hf
                    refine lv_icmp_ne (tgt := 138) hx hb dL_arePaths_114 (by decide) (fun cd114 => ?_) (fun cd114 => ?_)
                    · replace hf := zite_f cd114 hf
                      exact W.widen (k := 204) (n := 1224) (by omega) (by omega) (j138  hf H locs ls hP hD hS (lv_sub hl [] rfl))
                    · replace hf := zite_t cd114 hf
                      refine lv_aload_n hx hb dL_arePaths_117 rfl (lv_at hl 0 rfl) ?_
                      refine lv_iload_n hx hb dL_arePaths_118 rfl (lv_at hl 1 rfl) ?_
                      replace hf := zob_some hf
                      obtain ⟨u5, hu5, hf⟩ := hf
                      refine kz_i (D := D) (v := u5) (w1 := TWC qx U u3.2) (av := [.ref qx, .int a1]) hK hP hD hS hA hE (fun hb1 hp1 => va_runS (As := [.ref qx, .int a1]) (rest := []) ⟨hx, hb, hml, hown, hts⟩ (c_L_alive l D H.size qx U u3.2 a1 hl0 u5 hu5) (va_cwS 2 hts gL_arePaths_L_alive rfl rfl rfl (by decide +kernel) ⟨Nat.le_of_ble_eq_true rfl, Nat.le_of_ble_eq_true rfl⟩) ⟨hb1, hp1⟩ rfl rfl hl.1 rfl (lv_room (Nat.le_of_ble_eq_true rfl)) dL_arePaths_119 ⟨show 140 + 64 ≤ 204 by omega, show 840 + 384 ≤ 1224 by omega⟩) (fun H locs hP hD hS => ?_)
                      have hP : va_P D vwCl (TWC qx U u3.2) H := hP
                      have hD : va_D A (TWC qx U u3.2) := hD
                      refine lv_iconst (v := 1) hx hb dL_arePaths_122 (by decide) ?_
                      refine lv_iload_n hx hb dL_arePaths_123 rfl (lv_at hl 1 rfl) ?_
                      refine lv_ishl hx hb dL_arePaths_124 ?_
                      replace hf := zjp_some hf
                      obtain ⟨K134, eK134, hf⟩ := hf
                      have j134 : K134 = some res → ∀ (H : Heap) (locs : List Loc) (ls : Array Slot), va_P D vwCl (TWC qx U u3.2) H → va_D A (TWC qx U u3.2) → va_S A s.heap H locs → lv_has ls 8 [] → W p l e rm_L_arePaths s m args below meth c H locs 204 1224 Q (F0 m 134 ls []) := by
                        intro  hf H locs ls hP hD hS hl
                        replace hf := zap0 eK134 hf
                        refine lv_iconst (v := 1) hx hb dL_arePaths_134 (by decide) ?_
                        refine lv_goto (tgt := 139) hx hb dL_arePaths_135 (by decide) ?_
                        obtain rfl := Option.some.inj hf
                        subst eQ
                        exact kzr_z hx hb hr nar_1 hlocks hP hD hS dL_arePaths_139 (by omega) (by omega)
                      refine lv_icmp_lt (tgt := 134) hx hb dL_arePaths_125 (by decide) (fun cd125 => ?_) (fun cd125 => ?_)
                      · replace hf := zite_t cd125 hf
                        exact W.widen (k := 204) (n := 1224) (by omega) (by omega) (j134  hf H locs ls hP hD hS (lv_sub hl [] rfl))
                      · replace hf := zite_f cd125 hf
                        refine lv_iload hx hb dL_arePaths_128 (lv_at hl 2 rfl) ?_
                        refine lv_iload_n hx hb dL_arePaths_130 rfl (lv_at hl 1 rfl) ?_
                        refine lv_icmp_ne (tgt := 138) hx hb dL_arePaths_131 (by decide) (fun cd131 => ?_) (fun cd131 => ?_)
                        · replace hf := zite_f cd131 hf
                          exact W.widen (k := 204) (n := 1224) (by omega) (by omega) (j138  hf H locs ls hP hD hS (lv_sub hl [] rfl))
                        · replace hf := zite_t cd131 hf
                          exact W.widen (k := 204) (n := 1224) (by omega) (by omega) (j134  hf H locs ls hP hD hS (lv_sub hl [] rfl))
                  refine lv_icmp_ne (tgt := 113) hx hb dL_arePaths_106 (by decide) (fun cd106 => ?_) (fun cd106 => ?_)
                  · replace hf := zite_f cd106 hf
                    refine lv_iconst (v := 0) hx hb dL_arePaths_113 (by decide) ?_
                    exact W.widen (k := 140) (n := 840) (by omega) (by omega) (j114 s0_99 0 hf H locs ls hP hD hS (lv_sub hl [0, 1, 4] rfl))
                  · replace hf := zite_t cd106 hf
                    refine lv_iconst (v := 1) hx hb dL_arePaths_109 (by decide) ?_
                    refine lv_goto (tgt := 114) hx hb dL_arePaths_110 (by decide) ?_
                    exact W.widen (k := 140) (n := 840) (by omega) (by omega) (j114 s0_99 1 hf H locs ls hP hD hS (lv_sub hl [0, 1, 4] rfl))
                refine lv_if_ne (tgt := 98) hx hb dL_arePaths_91 (by decide) (fun cd91 => ?_) (fun cd91 => ?_)
                · replace hf := zite_f cd91 hf
                  refine lv_iconst (v := 0) hx hb dL_arePaths_98 (by decide) ?_
                  exact W.widen (k := 136) (n := 816) (by omega) (by omega) (j99 0 hf H locs ls hP hD hS (lv_sub hl [0, 1, 2, 3, 4] rfl))
                · replace hf := zite_t cd91 hf
                  refine lv_iconst (v := 1) hx hb dL_arePaths_94 (by decide) ?_
                  refine lv_goto (tgt := 99) hx hb dL_arePaths_95 (by decide) ?_
                  exact W.widen (k := 136) (n := 816) (by omega) (by omega) (j99 1 hf H locs ls hP hD hS (lv_sub hl [0, 1, 2, 3, 4] rfl))
      · replace hf := zite_f cd20 hf
        refine lv_iload hx hb dL_arePaths_23 (lv_at hl 5 rfl) ?_
        refine lv_aload_n hx hb dL_arePaths_25 rfl (lv_at hl 0 rfl) ?_
        refine lv_iload_n hx hb dL_arePaths_26 rfl (lv_at hl 2 rfl) ?_
        refine lv_iconst (v := 1) hx hb dL_arePaths_27 (by decide) ?_
        refine lv_iload hx hb dL_arePaths_28 (lv_at hl 7 rfl) ?_
        refine lv_ishl hx hb dL_arePaths_30 ?_
        refine lv_ixor hx hb dL_arePaths_31 ?_
        replace hf := zob_some hf
        obtain ⟨u6, hu6, hf⟩ := hf
        refine kz_i (D := D) (v := u6) (w1 := TWC qx U u1.2) (av := [.ref qx, .int (a2 ^^^ ((1 : Int32) <<< (i7_17 &&& 31)))]) hK hP hD hS hA hE (fun hb1 hp1 => vx_runSW (As := [.ref qx, .int (a2 ^^^ ((1 : Int32) <<< (i7_17 &&& 31)))]) (rest := [.int i5_17]) ⟨hx, hb, hml, hown, hts⟩ (cq_L_isAlive l D H.size qx U u1.2 (a2 ^^^ ((1 : Int32) <<< (i7_17 &&& 31))) hl0 u6 hu6) (vx_cwSW 2 hts gL_arePaths_L_isAlive rfl rfl rfl (by decide +kernel) ⟨Nat.le_of_ble_eq_true rfl, Nat.le_of_ble_eq_true rfl⟩) ⟨hb1, hp1⟩ rfl rfl hl.1 rfl (lv_room (Nat.le_of_ble_eq_true rfl)) dL_arePaths_32 ⟨show (cells17 + 0) + 1 ≤ 204 by omega, show (slots17 + 0) + 6 ≤ 1224 by omega⟩) (fun H locs hP hD hS => ?_)
        have hP : va_P D vwCl (TWC qx U u1.2) H := hP
        have hD : va_D A (TWC qx U u1.2) := hD
        refine lv_iadd hx hb dL_arePaths_35 ?_
        refine lv_topi (fun x7 ex7 => ?_)
        replace hf := zbd_of ex7 hf
        refine lv_istore (lv' := [(5, .int x7), (0, .ref qx), (1, .int a1), (2, .int a2), (3, .int a3), (4, .int x2), (6, .int i6_17), (7, .int i7_17)]) hx hb dL_arePaths_36 hl (by decide) rfl (fun ls hl => ?_)
        refine lv_iload hx hb dL_arePaths_38 (lv_at hl 6 rfl) ?_
        refine lv_aload_n hx hb dL_arePaths_40 rfl (lv_at hl 1 rfl) ?_
        refine lv_iload_n hx hb dL_arePaths_41 rfl (lv_at hl 4 rfl) ?_
        refine lv_iconst (v := 1) hx hb dL_arePaths_42 (by decide) ?_
        refine lv_iload hx hb dL_arePaths_43 (lv_at hl 7 rfl) ?_
        refine lv_ishl hx hb dL_arePaths_45 ?_
        refine lv_ixor hx hb dL_arePaths_46 ?_
        replace hf := zob_some hf
        obtain ⟨u8, hu8, hf⟩ := hf
        refine kz_i (D := D) (v := u8) (w1 := TWC qx U u1.2) (av := [.ref qx, .int (a3 ^^^ ((1 : Int32) <<< (i7_17 &&& 31)))]) hK hP hD hS hA hE (fun hb1 hp1 => vx_runSW (As := [.ref qx, .int (a3 ^^^ ((1 : Int32) <<< (i7_17 &&& 31)))]) (rest := [.int i6_17]) ⟨hx, hb, hml, hown, hts⟩ (cq_L_isAlive l D H.size qx U u1.2 (a3 ^^^ ((1 : Int32) <<< (i7_17 &&& 31))) hl0 u8 hu8) (vx_cwSW 2 hts gL_arePaths_L_isAlive rfl rfl rfl (by decide +kernel) ⟨Nat.le_of_ble_eq_true rfl, Nat.le_of_ble_eq_true rfl⟩) ⟨hb1, hp1⟩ rfl rfl hl.1 rfl (lv_room (Nat.le_of_ble_eq_true rfl)) dL_arePaths_47 ⟨show (cells17 + 1) + 1 ≤ 204 by omega, show (slots17 + 6) + 6 ≤ 1224 by omega⟩) (fun H locs hP hD hS => ?_)
        have hP : va_P D vwCl (TWC qx U u1.2) H := hP
        have hD : va_D A (TWC qx U u1.2) := hD
        refine lv_iadd hx hb dL_arePaths_50 ?_
        refine lv_topi (fun x9 ex9 => ?_)
        replace hf := zbd_of ex9 hf
        refine lv_istore (lv' := [(6, .int x9), (5, .int x7), (0, .ref qx), (1, .int a1), (2, .int a2), (3, .int a3), (4, .int x2), (7, .int i7_17)]) hx hb dL_arePaths_51 hl (by decide) rfl (fun ls hl => ?_)
        obtain ⟨x10, ex10⟩ : ∃ y : Int32, y = i7_17 + 1 := ⟨_, rfl⟩
        replace hf := zbd_of ex10 hf
        refine lv_iinc (v := x10) (lv' := [(7, .int x10), (6, .int x9), (5, .int x7), (0, .ref qx), (1, .int a1), (2, .int a2), (3, .int a3), (4, .int x2)]) hx hb dL_arePaths_53 hl (k := 7) rfl (by rw [ex10]; rfl) (by decide) rfl (fun ls hl => ?_)
        refine lv_goto (tgt := 17) hx hb dL_arePaths_56 (by decide) ?_
        exact ih17 x7 x9 x10 hf (cells17 + 2) (slots17 + 12) (by omega) (by omega) H locs ls hP hD hS (lv_sub hl [3, 4, 5, 6, 7, 2, 1, 0] rfl)
  exact h17 64 0 0 0 hf 4 24 (by omega) (by omega) H locs ls hP hD hS (lv_sub hl [4, 5, 6, 7, 3, 2, 1, 0] rfl)
abbrev rm_L_areSubcubes : Room := { frames := 10, cells := 132, slots := 792, locals := 188 }
set_option maxHeartbeats 4000000 in
set_option maxRecDepth 100000 in
theorem c_L_areSubcubes (l : Launch) (D : va_G) (sz qx : Nat) (U : (Nat → Nat) × (Nat → ClassId)) (cu : CU) (a1 : Int32) (hl0 : l.stackTraces = false) (res : rt_L_areSubcubes) (hf : f_L_areSubcubes a1 cu = some res) : Met l yL_areSubcubes wsL_areSubcubes rm_L_areSubcubes (kP D [.ref qx, .int a1] (TWC qx U cu) (TTC U) sz) (kZi D (va_A (TWC qx U cu) sz) res (TWC qx U cu)) 132 792 (va_A (TWC qx U cu) sz) := by
  refine Met.ofW (cc := cL_areSubcubes) (maxL := 8) (ret := (some .boolean)) (by decide +kernel) rfl ?_
  intro p e s m args below meth c s₁ B hml hv
  obtain ⟨hargs, hsz, hP, hK, hD0, hE⟩ := hv
  have hx := B.exec
  have hb := B.bytes
  have hr := B.returns
  have hts := atoms_spec (ws := wsL_areSubcubes) B.pre
  have hown : s.vm.findClass RL = some m.cls := findClass_of_methodNamed B.named
  have hlocks := B.notSynchronized
  subst hsz
  have hD := hD0.self (sz := s.heap.size)
  generalize hAe : va_A (TWC qx U cu) s.heap.size = A at hD hE ⊢
  have hA : ∀ q : Nat, s.heap.size ≤ q → A q := fun q h => by rw [← hAe]; exact Or.inr h
  have hS : va_S A s.heap s.heap [] := va_S.rf
  refine kgen (fun Q eQ => ?_)
  refine kent (av := [.ref qx, .int a1]) hargs (Nat.le_of_ble_eq_true rfl) (fun ls hl => ?_)
  have hl : lv_has ls 8 [(0, .ref qx), (1, .int a1)] := hl
  show W p l e rm_L_areSubcubes s m args below meth c s.heap [] 0 0 Q (F0 m 0 ls [])
  unfold f_L_areSubcubes at hf
  refine lv_aload_n hx hb dL_areSubcubes_0 rfl (lv_at hl 0 rfl) ?_
  refine lv_iload_n hx hb dL_areSubcubes_1 rfl (lv_at hl 1 rfl) ?_
  replace hf := zob_some hf
  obtain ⟨u1, hu1, hf⟩ := hf
  refine kz_i (D := D) (v := u1) (w1 := TWC qx U cu) (av := [.ref qx, .int a1]) hK hP hD hS hA hE (fun hb1 hp1 => va_runS (As := [.ref qx, .int a1]) (rest := []) ⟨hx, hb, hml, hown, hts⟩ (c_L_alive l D s.heap.size qx U cu a1 hl0 u1 hu1) (va_cwS 2 hts gL_areSubcubes_L_alive rfl rfl rfl (by decide +kernel) ⟨Nat.le_of_ble_eq_true rfl, Nat.le_of_ble_eq_true rfl⟩) ⟨hb1, hp1⟩ rfl rfl hl.1 rfl (lv_room (Nat.le_of_ble_eq_true rfl)) dL_areSubcubes_2 ⟨show 0 + 64 ≤ 132 by omega, show 0 + 384 ≤ 792 by omega⟩) (fun H locs hP hD hS => ?_)
  have hP : va_P D vwCl (TWC qx U cu) H := hP
  have hD : va_D A (TWC qx U cu) := hD
  refine lv_istore_n (lv' := [(2, .int u1), (0, .ref qx), (1, .int a1)]) hx hb dL_areSubcubes_5 rfl hl (by decide) rfl (fun ls hl => ?_)
  refine lv_aload_n hx hb dL_areSubcubes_6 rfl (lv_at hl 1 rfl) ?_
  replace hf := zob_some hf
  obtain ⟨u2, hu2, hf⟩ := hf
  refine kz_i (D := D) (v := u2) (w1 := TWC qx U cu) (av := [.ref qx]) hK hP hD hS hA hE (fun hb1 hp1 => va_runV (As := []) (rest := []) ⟨hx, hb, hml, hown, hts⟩ (cq_X6_largestSubcube l D H.size qx U cu  hl0 u2 hu2) (cwV 0 hts gL_areSubcubes_X6_largestSubcube rfl rfl rfl (by decide +kernel) ⟨Nat.le_of_ble_eq_true rfl, Nat.le_of_ble_eq_true rfl⟩) ⟨hb1, va_recv hK hP (ci := 6) (q0 := 0) rfl TWC_0, hp1⟩ rfl rfl hl.1 rfl (lv_room (Nat.le_of_ble_eq_true rfl)) dL_areSubcubes_7 ⟨show 64 + 0 ≤ 132 by omega, show 384 + 0 ≤ 792 by omega⟩) (fun H locs hP hD hS => ?_)
  have hP : va_P D vwCl (TWC qx U cu) H := hP
  have hD : va_D A (TWC qx U cu) := hD
  refine lv_istore_n (lv' := [(3, .int u2), (2, .int u1), (0, .ref qx), (1, .int a1)]) hx hb dL_areSubcubes_10 rfl hl (by decide) rfl (fun ls hl => ?_)
  refine lv_aload_n hx hb dL_areSubcubes_11 rfl (lv_at hl 2 rfl) ?_
  refine lv_iconst (v := 0) hx hb dL_areSubcubes_12 (by decide) ?_
  replace hf := zob_some hf
  obtain ⟨u3, hu3, hf⟩ := hf
  refine kz_i (D := D) (v := u3) (w1 := TWC qx U cu) (av := [.ref qx, .int 0]) hK hP hD hS hA hE (fun hb1 hp1 => vx_runSW (As := [.ref qx, .int 0]) (rest := []) ⟨hx, hb, hml, hown, hts⟩ (cq_L_freeSubcubes l D H.size qx U cu 0 hl0 u3 hu3) (vx_cwSW 2 hts gL_areSubcubes_L_freeSubcubes rfl rfl rfl (by decide +kernel) ⟨Nat.le_of_ble_eq_true rfl, Nat.le_of_ble_eq_true rfl⟩) ⟨hb1, hp1⟩ rfl rfl hl.1 rfl (lv_room (Nat.le_of_ble_eq_true rfl)) dL_areSubcubes_13 ⟨show 64 + 1 ≤ 132 by omega, show 384 + 6 ≤ 792 by omega⟩) (fun H locs hP hD hS => ?_)
  have hP : va_P D vwCl (TWC qx U cu) H := hP
  have hD : va_D A (TWC qx U cu) := hD
  refine lv_iload_n hx hb dL_areSubcubes_16 rfl (lv_at hl 1 rfl) ?_
  replace hf := zjp_some hf
  obtain ⟨K67, eK67, hf⟩ := hf
  have j67 : ∀ (s0_67 : Int32), K67 s0_67 = some res → ∀ (H : Heap) (locs : List Loc) (ls : Array Slot), va_P D vwCl (TWC qx U cu) H → va_D A (TWC qx U cu) → va_S A s.heap H locs → lv_has ls 8 [(0, .ref qx), (1, .int a1), (3, .int u2)] → W p l e rm_L_areSubcubes s m args below meth c H locs 66 396 Q (F0 m 67 ls [.int s0_67]) := by
    intro s0_67 hf H locs ls hP hD hS hl
    replace hf := zap1 eK67 hf
    refine lv_istore (lv' := [(4, .int s0_67), (0, .ref qx), (1, .int a1), (3, .int u2)]) hx hb dL_areSubcubes_67 hl (by decide) rfl (fun ls hl => ?_)
    refine lv_iload hx hb dL_areSubcubes_69 (lv_at hl 0 rfl) ?_
    refine lv_if_eq (tgt := 78) hx hb dL_areSubcubes_71 (by decide) (fun cd71 => ?_) (fun cd71 => ?_)
    · replace hf := zite_t cd71 hf
      refine lv_iload hx hb dL_areSubcubes_78 (lv_at hl 0 rfl) ?_
      replace hf := zgd_some hf
      obtain ⟨gz, hf⟩ := hf
      obtain rfl := Option.some.inj hf
      subst eQ
      exact kzr_z hx hb hr (isb_ok gz) hlocks hP hD hS dL_areSubcubes_80 (by omega) (by omega)
    · replace hf := zite_f cd71 hf
      refine lv_iload_n hx hb dL_areSubcubes_74 rfl (lv_at hl 3 rfl) ?_
      refine lv_if_ge (tgt := 81) hx hb dL_areSubcubes_75 (by decide) (fun cd75 => ?_) (fun cd75 => ?_)
      · replace hf := zite_t cd75 hf
        refine lv_iload_n hx hb dL_areSubcubes_81 rfl (lv_at hl 3 rfl) ?_
        refine lv_bipush (v := 6) hx hb dL_areSubcubes_82 (by decide) ?_
        refine lv_ishr hx hb dL_areSubcubes_84 ?_
        refine lv_topi (fun x4 ex4 => ?_)
        replace hf := zbd_of ex4 hf
        refine lv_istore (lv' := [(5, .int x4), (4, .int s0_67), (0, .ref qx), (1, .int a1), (3, .int u2)]) hx hb dL_areSubcubes_85 hl (by decide) rfl (fun ls hl => ?_)
        refine lv_iload_n hx hb dL_areSubcubes_87 rfl (lv_at hl 4 rfl) ?_
        refine lv_bipush (v := 63) hx hb dL_areSubcubes_88 (by decide) ?_
        refine lv_iand hx hb dL_areSubcubes_90 ?_
        refine lv_topi (fun x5 ex5 => ?_)
        replace hf := zbd_of ex5 hf
        refine lv_istore (lv' := [(6, .int x5), (5, .int x4), (4, .int s0_67), (0, .ref qx), (1, .int a1), (3, .int u2)]) hx hb dL_areSubcubes_91 hl (by decide) rfl (fun ls hl => ?_)
        refine lv_iload hx hb dL_areSubcubes_93 (lv_at hl 1 rfl) ?_
        refine lv_iconst (v := 1) hx hb dL_areSubcubes_95 (by decide) ?_
        refine lv_iload_n hx hb dL_areSubcubes_96 rfl (lv_at hl 4 rfl) ?_
        refine lv_ishl hx hb dL_areSubcubes_97 ?_
        replace hf := zjp_some hf
        obtain ⟨K157, eK157, hf⟩ := hf
        have j157 : ∀ (s0_157 : Int32), K157 s0_157 = some res → ∀ (H : Heap) (locs : List Loc) (ls : Array Slot), va_P D vwCl (TWC qx U cu) H → va_D A (TWC qx U cu) → va_S A s.heap H locs → lv_has ls 8 [(0, .ref qx), (1, .int a1), (5, .int x4), (6, .int x5)] → W p l e rm_L_areSubcubes s m args below meth c H locs 68 408 Q (F0 m 157 ls [.int s0_157]) := by
          intro s0_157 hf H locs ls hP hD hS hl
          replace hf := zap1 eK157 hf
          refine lv_istore (lv' := [(4, .int s0_157), (0, .ref qx), (1, .int a1), (5, .int x4), (6, .int x5)]) hx hb dL_areSubcubes_157 hl (by decide) rfl (fun ls hl => ?_)
          refine lv_iconst (v := 0) hx hb dL_areSubcubes_159 (by decide) ?_
          refine lv_istore (lv' := [(7, .int 0), (4, .int s0_157), (0, .ref qx), (1, .int a1), (5, .int x4), (6, .int x5)]) hx hb dL_areSubcubes_160 hl (by decide) rfl (fun ls hl => ?_)
          replace hf := zl2_some hf
          obtain ⟨F162, eF162, hf⟩ := hf
          have h162 : ∀ (n162 : Nat) (i4_162 : Int32) (i7_162 : Int32), zl2 F162 n162 i4_162 i7_162 = some res → ∀ (cells162 slots162 : Nat), cells162 + n162 * 1 ≤ 132 → slots162 + n162 * 6 ≤ 792 → ∀ (H : Heap) (locs : List Loc) (ls : Array Slot), va_P D vwCl (TWC qx U cu) H → va_D A (TWC qx U cu) → va_S A s.heap H locs → lv_has ls 8 [(0, .ref qx), (1, .int a1), (4, .int i4_162), (5, .int x4), (6, .int x5), (7, .int i7_162)] → W p l e rm_L_areSubcubes s m args below meth c H locs (cells162 + 0) (slots162 + 0) Q (F0 m 162 ls []) := by
            intro n162
            induction n162 with
            | zero => intro i4_162 i7_162 hf; exact (zl2_zero hf).elim
            | succ n162 ih162 =>
              intro i4_162 i7_162 hf cells162 slots162 hc162 hs162 H locs ls hP hD hS hl
              replace hf := zl2_step eF162 hf
              generalize zl2 F162 n162 = k162 at hf ih162
              refine lv_iload hx hb dL_areSubcubes_162 (lv_at hl 5 rfl) ?_
              refine lv_iconst (v := 1) hx hb dL_areSubcubes_164 (by decide) ?_
              refine lv_iload_n hx hb dL_areSubcubes_165 rfl (lv_at hl 1 rfl) ?_
              refine lv_ishl hx hb dL_areSubcubes_166 ?_
              refine lv_icmp_ge (tgt := 210) hx hb dL_areSubcubes_167 (by decide) (fun cd167 => ?_) (fun cd167 => ?_)
              · replace hf := zite_t cd167 hf
                refine W.widen (k := 132) (n := 792) (by omega) (by omega) ?_
                refine lv_iload hx hb dL_areSubcubes_210 (lv_at hl 2 rfl) ?_
                replace hf := zgd_some hf
                obtain ⟨gz, hf⟩ := hf
                obtain rfl := Option.some.inj hf
                subst eQ
                exact kzr_z hx hb hr (isb_ok gz) hlocks hP hD hS dL_areSubcubes_212 (by omega) (by omega)
              · replace hf := zite_f cd167 hf
                refine lv_iload hx hb dL_areSubcubes_170 (lv_at hl 2 rfl) ?_
                refine lv_if_eq (tgt := 210) hx hb dL_areSubcubes_172 (by decide) (fun cd172 => ?_) (fun cd172 => ?_)
                · replace hf := zite_t cd172 hf
                  refine W.widen (k := 132) (n := 792) (by omega) (by omega) ?_
                  refine lv_iload hx hb dL_areSubcubes_210 (lv_at hl 2 rfl) ?_
                  replace hf := zgd_some hf
                  obtain ⟨gz, hf⟩ := hf
                  obtain rfl := Option.some.inj hf
                  subst eQ
                  exact kzr_z hx hb hr (isb_ok gz) hlocks hP hD hS dL_areSubcubes_212 (by omega) (by omega)
                · replace hf := zite_f cd172 hf
                  refine lv_iload hx hb dL_areSubcubes_175 (lv_at hl 5 rfl) ?_
                  refine lv_iload hx hb dL_areSubcubes_177 (lv_at hl 3 rfl) ?_
                  refine lv_iconst (v := (-1)) hx hb dL_areSubcubes_179 (by decide) ?_
                  refine lv_ixor hx hb dL_areSubcubes_180 ?_
                  refine lv_iand hx hb dL_areSubcubes_181 ?_
                  refine lv_iload hx hb dL_areSubcubes_182 (lv_at hl 4 rfl) ?_
                  replace hf := zjp_some hf
                  obtain ⟨K202, eK202, hf⟩ := hf
                  have j202 : ∀ (s0_202 : Int32), K202 s0_202 = some res → ∀ (H : Heap) (locs : List Loc) (ls : Array Slot), va_P D vwCl (TWC qx U cu) H → va_D A (TWC qx U cu) → va_S A s.heap H locs → lv_has ls 8 [(0, .ref qx), (1, .int a1), (5, .int x4), (6, .int x5), (7, .int i7_162)] → W p l e rm_L_areSubcubes s m args below meth c H locs (cells162 + 1) (slots162 + 6) Q (F0 m 202 ls [.int s0_202]) := by
                    intro s0_202 hf H locs ls hP hD hS hl
                    replace hf := zap1 eK202 hf
                    refine lv_istore (lv' := [(4, .int s0_202), (0, .ref qx), (1, .int a1), (5, .int x4), (6, .int x5), (7, .int i7_162)]) hx hb dL_areSubcubes_202 hl (by decide) rfl (fun ls hl => ?_)
                    obtain ⟨x6, ex6⟩ : ∃ y : Int32, y = i7_162 + 1 := ⟨_, rfl⟩
                    replace hf := zbd_of ex6 hf
                    refine lv_iinc (v := x6) (lv' := [(7, .int x6), (4, .int s0_202), (0, .ref qx), (1, .int a1), (5, .int x4), (6, .int x5)]) hx hb dL_areSubcubes_204 hl (k := 5) rfl (by rw [ex6]; rfl) (by decide) rfl (fun ls hl => ?_)
                    refine lv_goto (tgt := 162) hx hb dL_areSubcubes_207 (by decide) ?_
                    exact ih162 s0_202 x6 hf (cells162 + 1) (slots162 + 6) (by omega) (by omega) H locs ls hP hD hS (lv_sub hl [2, 3, 1, 4, 5, 0] rfl)
                  replace hf := zjp_some hf
                  obtain ⟨K197, eK197, hf⟩ := hf
                  have j197 : K197 = some res → ∀ (H : Heap) (locs : List Loc) (ls : Array Slot), va_P D vwCl (TWC qx U cu) H → va_D A (TWC qx U cu) → va_S A s.heap H locs → lv_has ls 8 [(0, .ref qx), (1, .int a1), (5, .int x4), (6, .int x5), (7, .int i7_162)] → W p l e rm_L_areSubcubes s m args below meth c H locs (cells162 + 1) (slots162 + 6) Q (F0 m 197 ls []) := by
                    intro  hf H locs ls hP hD hS hl
                    replace hf := zap0 eK197 hf
                    refine lv_iconst (v := 1) hx hb dL_areSubcubes_197 (by decide) ?_
                    refine lv_goto (tgt := 202) hx hb dL_areSubcubes_198 (by decide) ?_
                    exact W.widen (k := cells162 + 1) (n := slots162 + 6) (by omega) (by omega) (j202 1 hf H locs ls hP hD hS (lv_sub hl [0, 1, 2, 3, 4] rfl))
                  refine lv_icmp_ne (tgt := 197) hx hb dL_areSubcubes_184 (by decide) (fun cd184 => ?_) (fun cd184 => ?_)
                  · replace hf := zite_f cd184 hf
                    exact W.widen (k := cells162 + 1) (n := slots162 + 6) (by omega) (by omega) (j197  hf H locs ls hP hD hS (lv_sub hl [0, 1, 3, 4, 5] rfl))
                  · replace hf := zite_t cd184 hf
                    refine lv_aload_n hx hb dL_areSubcubes_187 rfl (lv_at hl 0 rfl) ?_
                    refine lv_iload hx hb dL_areSubcubes_188 (lv_at hl 5 rfl) ?_
                    replace hf := zob_some hf
                    obtain ⟨u7, hu7, hf⟩ := hf
                    refine kz_i (D := D) (v := u7) (w1 := TWC qx U cu) (av := [.ref qx, .int i7_162]) hK hP hD hS hA hE (fun hb1 hp1 => vx_runSW (As := [.ref qx, .int i7_162]) (rest := []) ⟨hx, hb, hml, hown, hts⟩ (cq_L_isAlive l D H.size qx U cu i7_162 hl0 u7 hu7) (vx_cwSW 2 hts gL_areSubcubes_L_isAlive rfl rfl rfl (by decide +kernel) ⟨Nat.le_of_ble_eq_true rfl, Nat.le_of_ble_eq_true rfl⟩) ⟨hb1, hp1⟩ rfl rfl hl.1 rfl (lv_room (Nat.le_of_ble_eq_true rfl)) dL_areSubcubes_190 ⟨show (cells162 + 0) + 1 ≤ 132 by omega, show (slots162 + 0) + 6 ≤ 792 by omega⟩) (fun H locs hP hD hS => ?_)
                    have hP : va_P D vwCl (TWC qx U cu) H := hP
                    have hD : va_D A (TWC qx U cu) := hD
                    refine lv_iconst (v := 1) hx hb dL_areSubcubes_193 (by decide) ?_
                    refine lv_icmp_ne (tgt := 201) hx hb dL_areSubcubes_194 (by decide) (fun cd194 => ?_) (fun cd194 => ?_)
                    · replace hf := zite_f cd194 hf
                      refine lv_iconst (v := 0) hx hb dL_areSubcubes_201 (by decide) ?_
                      exact W.widen (k := cells162 + 1) (n := slots162 + 6) (by omega) (by omega) (j202 0 hf H locs ls hP hD hS (lv_sub hl [0, 1, 3, 4, 5] rfl))
                    · replace hf := zite_t cd194 hf
                      exact W.widen (k := cells162 + 1) (n := slots162 + 6) (by omega) (by omega) (j197  hf H locs ls hP hD hS (lv_sub hl [0, 1, 3, 4, 5] rfl))
          exact h162 64 s0_157 0 hf 68 408 (by omega) (by omega) H locs ls hP hD hS (lv_sub hl [2, 3, 1, 4, 5, 0] rfl)
        replace hf := zjp_some hf
        obtain ⟨K156, eK156, hf⟩ := hf
        have j156 : K156 = some res → ∀ (H : Heap) (locs : List Loc) (ls : Array Slot), va_P D vwCl (TWC qx U cu) H → va_D A (TWC qx U cu) → va_S A s.heap H locs → lv_has ls 8 [(0, .ref qx), (1, .int a1), (5, .int x4), (6, .int x5)] → W p l e rm_L_areSubcubes s m args below meth c H locs 68 408 Q (F0 m 156 ls []) := by
          intro  hf H locs ls hP hD hS hl
          replace hf := zap0 eK156 hf
          refine lv_iconst (v := 0) hx hb dL_areSubcubes_156 (by decide) ?_
          exact W.widen (k := 68) (n := 408) (by omega) (by omega) (j157 0 hf H locs ls hP hD hS (lv_sub hl [0, 1, 2, 3] rfl))
        refine lv_icmp_ge (tgt := 156) hx hb dL_areSubcubes_98 (by decide) (fun cd98 => ?_) (fun cd98 => ?_)
        · replace hf := zite_t cd98 hf
          exact W.widen (k := 68) (n := 408) (by omega) (by omega) (j156  hf H locs ls hP hD hS (lv_sub hl [3, 4, 1, 0] rfl))
        · replace hf := zite_f cd98 hf
          refine lv_iload hx hb dL_areSubcubes_101 (lv_at hl 0 rfl) ?_
          refine lv_iconst (v := 1) hx hb dL_areSubcubes_103 (by decide) ?_
          refine lv_iload_n hx hb dL_areSubcubes_104 rfl (lv_at hl 4 rfl) ?_
          refine lv_ishl hx hb dL_areSubcubes_105 ?_
          refine lv_icmp_ge (tgt := 156) hx hb dL_areSubcubes_106 (by decide) (fun cd106 => ?_) (fun cd106 => ?_)
          · replace hf := zite_t cd106 hf
            exact W.widen (k := 68) (n := 408) (by omega) (by omega) (j156  hf H locs ls hP hD hS (lv_sub hl [3, 4, 1, 0] rfl))
          · replace hf := zite_f cd106 hf
            refine lv_iload hx hb dL_areSubcubes_109 (lv_at hl 1 rfl) ?_
            refine lv_iload hx hb dL_areSubcubes_111 (lv_at hl 0 rfl) ?_
            refine lv_iand hx hb dL_areSubcubes_113 ?_
            refine lv_if_ne (tgt := 156) hx hb dL_areSubcubes_114 (by decide) (fun cd114 => ?_) (fun cd114 => ?_)
            · replace hf := zite_f cd114 hf
              exact W.widen (k := 68) (n := 408) (by omega) (by omega) (j156  hf H locs ls hP hD hS (lv_sub hl [3, 4, 1, 0] rfl))
            · replace hf := zite_t cd114 hf
              refine lv_aload_n hx hb dL_areSubcubes_117 rfl (lv_at hl 3 rfl) ?_
              refine lv_iload hx hb dL_areSubcubes_118 (lv_at hl 1 rfl) ?_
              replace hf := zob_some hf
              obtain ⟨u8, hu8, hf⟩ := hf
              refine kz0_i (D := D) (v := u8) (av := [.int x4]) hK hP hD hS hA hE (fun hb1 hp1 => va_runS (As := [.int x4]) (rest := [.ref qx]) ⟨hx, hb, hml, hown, hts⟩ (c_L_ones l D H.size x4 u8 hu8) (va_cwS 1 hts gL_areSubcubes_L_ones rfl rfl rfl (by decide +kernel) ⟨Nat.le_of_ble_eq_true rfl, Nat.le_of_ble_eq_true rfl⟩) ⟨hb1, hp1⟩ rfl rfl hl.1 rfl (lv_room (Nat.le_of_ble_eq_true rfl)) dL_areSubcubes_120 ⟨show 66 + 0 ≤ 132 by omega, show 396 + 0 ≤ 792 by omega⟩) (fun H locs hP hD hS => ?_)
              have hP : va_P D vwCl (TWC qx U cu) H := hP
              have hD : va_D A (TWC qx U cu) := hD
              replace hf := zob_some hf
              obtain ⟨u9, hu9, hf⟩ := hf
              refine kz_i (D := D) (v := u9) (w1 := TWC qx U cu) (av := [.ref qx, .int u8]) hK hP hD hS hA hE (fun hb1 hp1 => vx_runSW (As := [.ref qx, .int u8]) (rest := []) ⟨hx, hb, hml, hown, hts⟩ (cq_L_freeSubcubes l D H.size qx U cu u8 hl0 u9 hu9) (vx_cwSW 2 hts gL_areSubcubes_L_freeSubcubes rfl rfl rfl (by decide +kernel) ⟨Nat.le_of_ble_eq_true rfl, Nat.le_of_ble_eq_true rfl⟩) ⟨hb1, hp1⟩ rfl rfl hl.1 rfl (lv_room (Nat.le_of_ble_eq_true rfl)) dL_areSubcubes_123 ⟨show 66 + 1 ≤ 132 by omega, show 396 + 6 ≤ 792 by omega⟩) (fun H locs hP hD hS => ?_)
              have hP : va_P D vwCl (TWC qx U cu) H := hP
              have hD : va_D A (TWC qx U cu) := hD
              refine lv_if_le (tgt := 156) hx hb dL_areSubcubes_126 (by decide) (fun cd126 => ?_) (fun cd126 => ?_)
              · replace hf := zite_t cd126 hf
                exact W.widen (k := 68) (n := 408) (by omega) (by omega) (j156  hf H locs ls hP hD hS (lv_sub hl [3, 4, 1, 0] rfl))
              · replace hf := zite_f cd126 hf
                refine lv_iload hx hb dL_areSubcubes_129 (lv_at hl 1 rfl) ?_
                replace hf := zob_some hf
                obtain ⟨u10, hu10, hf⟩ := hf
                refine kz0_i (D := D) (v := u10) (av := [.int x4]) hK hP hD hS hA hE (fun hb1 hp1 => va_runS (As := [.int x4]) (rest := []) ⟨hx, hb, hml, hown, hts⟩ (c_L_ones l D H.size x4 u10 hu10) (va_cwS 1 hts gL_areSubcubes_L_ones rfl rfl rfl (by decide +kernel) ⟨Nat.le_of_ble_eq_true rfl, Nat.le_of_ble_eq_true rfl⟩) ⟨hb1, hp1⟩ rfl rfl hl.1 rfl (lv_room (Nat.le_of_ble_eq_true rfl)) dL_areSubcubes_131 ⟨show 67 + 0 ≤ 132 by omega, show 402 + 0 ≤ 792 by omega⟩) (fun H locs hP hD hS => ?_)
                have hP : va_P D vwCl (TWC qx U cu) H := hP
                have hD : va_D A (TWC qx U cu) := hD
                refine lv_iload_n hx hb dL_areSubcubes_134 rfl (lv_at hl 4 rfl) ?_
                replace hf := zjp_some hf
                obtain ⟨K152, eK152, hf⟩ := hf
                have j152 : K152 = some res → ∀ (H : Heap) (locs : List Loc) (ls : Array Slot), va_P D vwCl (TWC qx U cu) H → va_D A (TWC qx U cu) → va_S A s.heap H locs → lv_has ls 8 [(0, .ref qx), (1, .int a1), (5, .int x4), (6, .int x5)] → W p l e rm_L_areSubcubes s m args below meth c H locs 68 408 Q (F0 m 152 ls []) := by
                  intro  hf H locs ls hP hD hS hl
                  replace hf := zap0 eK152 hf
                  refine lv_iconst (v := 1) hx hb dL_areSubcubes_152 (by decide) ?_
                  refine lv_goto (tgt := 157) hx hb dL_areSubcubes_153 (by decide) ?_
                  exact W.widen (k := 68) (n := 408) (by omega) (by omega) (j157 1 hf H locs ls hP hD hS (lv_sub hl [0, 1, 2, 3] rfl))
                refine lv_icmp_eq (tgt := 152) hx hb dL_areSubcubes_135 (by decide) (fun cd135 => ?_) (fun cd135 => ?_)
                · replace hf := zite_t cd135 hf
                  exact W.widen (k := 68) (n := 408) (by omega) (by omega) (j152  hf H locs ls hP hD hS (lv_sub hl [3, 4, 1, 0] rfl))
                · replace hf := zite_f cd135 hf
                  refine lv_aload_n hx hb dL_areSubcubes_138 rfl (lv_at hl 3 rfl) ?_
                  refine lv_iload hx hb dL_areSubcubes_139 (lv_at hl 1 rfl) ?_
                  replace hf := zob_some hf
                  obtain ⟨u11, hu11, hf⟩ := hf
                  refine kz0_i (D := D) (v := u11) (av := [.int x4]) hK hP hD hS hA hE (fun hb1 hp1 => va_runS (As := [.int x4]) (rest := [.ref qx]) ⟨hx, hb, hml, hown, hts⟩ (c_L_ones l D H.size x4 u11 hu11) (va_cwS 1 hts gL_areSubcubes_L_ones rfl rfl rfl (by decide +kernel) ⟨Nat.le_of_ble_eq_true rfl, Nat.le_of_ble_eq_true rfl⟩) ⟨hb1, hp1⟩ rfl rfl hl.1 rfl (lv_room (Nat.le_of_ble_eq_true rfl)) dL_areSubcubes_141 ⟨show 67 + 0 ≤ 132 by omega, show 402 + 0 ≤ 792 by omega⟩) (fun H locs hP hD hS => ?_)
                  have hP : va_P D vwCl (TWC qx U cu) H := hP
                  have hD : va_D A (TWC qx U cu) := hD
                  refine lv_iconst (v := 1) hx hb dL_areSubcubes_144 (by decide) ?_
                  refine lv_iadd hx hb dL_areSubcubes_145 ?_
                  replace hf := zob_some hf
                  obtain ⟨u12, hu12, hf⟩ := hf
                  refine kz_i (D := D) (v := u12) (w1 := TWC qx U cu) (av := [.ref qx, .int (u11 + (1 : Int32))]) hK hP hD hS hA hE (fun hb1 hp1 => vx_runSW (As := [.ref qx, .int (u11 + (1 : Int32))]) (rest := []) ⟨hx, hb, hml, hown, hts⟩ (cq_L_freeSubcubes l D H.size qx U cu (u11 + (1 : Int32)) hl0 u12 hu12) (vx_cwSW 2 hts gL_areSubcubes_L_freeSubcubes rfl rfl rfl (by decide +kernel) ⟨Nat.le_of_ble_eq_true rfl, Nat.le_of_ble_eq_true rfl⟩) ⟨hb1, hp1⟩ rfl rfl hl.1 rfl (lv_room (Nat.le_of_ble_eq_true rfl)) dL_areSubcubes_146 ⟨show 67 + 1 ≤ 132 by omega, show 402 + 6 ≤ 792 by omega⟩) (fun H locs hP hD hS => ?_)
                  have hP : va_P D vwCl (TWC qx U cu) H := hP
                  have hD : va_D A (TWC qx U cu) := hD
                  refine lv_if_ne (tgt := 156) hx hb dL_areSubcubes_149 (by decide) (fun cd149 => ?_) (fun cd149 => ?_)
                  · replace hf := zite_f cd149 hf
                    exact W.widen (k := 68) (n := 408) (by omega) (by omega) (j156  hf H locs ls hP hD hS (lv_sub hl [3, 4, 1, 0] rfl))
                  · replace hf := zite_t cd149 hf
                    exact W.widen (k := 68) (n := 408) (by omega) (by omega) (j152  hf H locs ls hP hD hS (lv_sub hl [3, 4, 1, 0] rfl))
      · replace hf := zite_f cd75 hf
        refine lv_iload hx hb dL_areSubcubes_78 (lv_at hl 0 rfl) ?_
        replace hf := zgd_some hf
        obtain ⟨gz, hf⟩ := hf
        obtain rfl := Option.some.inj hf
        subst eQ
        exact kzr_z hx hb hr (isb_ok gz) hlocks hP hD hS dL_areSubcubes_80 (by omega) (by omega)
  replace hf := zjp_some hf
  obtain ⟨K66, eK66, hf⟩ := hf
  have j66 : K66 = some res → ∀ (H : Heap) (locs : List Loc) (ls : Array Slot), va_P D vwCl (TWC qx U cu) H → va_D A (TWC qx U cu) → va_S A s.heap H locs → lv_has ls 8 [(0, .ref qx), (1, .int a1), (3, .int u2)] → W p l e rm_L_areSubcubes s m args below meth c H locs 66 396 Q (F0 m 66 ls []) := by
    intro  hf H locs ls hP hD hS hl
    replace hf := zap0 eK66 hf
    refine lv_iconst (v := 0) hx hb dL_areSubcubes_66 (by decide) ?_
    exact W.widen (k := 66) (n := 396) (by omega) (by omega) (j67 0 hf H locs ls hP hD hS (lv_sub hl [0, 1, 2] rfl))
  refine lv_icmp_ne (tgt := 66) hx hb dL_areSubcubes_17 (by decide) (fun cd17 => ?_) (fun cd17 => ?_)
  · replace hf := zite_f cd17 hf
    exact W.widen (k := 66) (n := 396) (by omega) (by omega) (j66  hf H locs ls hP hD hS (lv_sub hl [2, 3, 0] rfl))
  · replace hf := zite_t cd17 hf
    refine lv_aload_n hx hb dL_areSubcubes_20 rfl (lv_at hl 2 rfl) ?_
    refine lv_iload_n hx hb dL_areSubcubes_21 rfl (lv_at hl 3 rfl) ?_
    replace hf := zob_some hf
    obtain ⟨u13, hu13, hf⟩ := hf
    refine kz_i (D := D) (v := u13) (w1 := TWC qx U cu) (av := [.ref qx, .int a1]) hK hP hD hS hA hE (fun hb1 hp1 => vx_runSW (As := [.ref qx, .int a1]) (rest := []) ⟨hx, hb, hml, hown, hts⟩ (cq_L_freeSubcubes l D H.size qx U cu a1 hl0 u13 hu13) (vx_cwSW 2 hts gL_areSubcubes_L_freeSubcubes rfl rfl rfl (by decide +kernel) ⟨Nat.le_of_ble_eq_true rfl, Nat.le_of_ble_eq_true rfl⟩) ⟨hb1, hp1⟩ rfl rfl hl.1 rfl (lv_room (Nat.le_of_ble_eq_true rfl)) dL_areSubcubes_22 ⟨show 65 + 1 ≤ 132 by omega, show 390 + 6 ≤ 792 by omega⟩) (fun H locs hP hD hS => ?_)
    have hP : va_P D vwCl (TWC qx U cu) H := hP
    have hD : va_D A (TWC qx U cu) := hD
    refine lv_iload_n hx hb dL_areSubcubes_25 rfl (lv_at hl 1 rfl) ?_
    refine lv_iconst (v := 1) hx hb dL_areSubcubes_26 (by decide) ?_
    refine lv_iload_n hx hb dL_areSubcubes_27 rfl (lv_at hl 3 rfl) ?_
    refine lv_ishl hx hb dL_areSubcubes_28 ?_
    replace hf := zjp_some hf
    obtain ⟨K37, eK37, hf⟩ := hf
    have j37 : ∀ (s0_37 : Int32) (s1_37 : Int32), K37 s0_37 s1_37 = some res → ∀ (H : Heap) (locs : List Loc) (ls : Array Slot), va_P D vwCl (TWC qx U cu) H → va_D A (TWC qx U cu) → va_S A s.heap H locs → lv_has ls 8 [(0, .ref qx), (1, .int a1), (2, .int u1), (3, .int u2)] → W p l e rm_L_areSubcubes s m args below meth c H locs 66 396 Q (F0 m 37 ls [.int s1_37, .int s0_37]) := by
      intro s0_37 s1_37 hf H locs ls hP hD hS hl
      replace hf := zap2 eK37 hf
      refine lv_icmp_ne (tgt := 66) hx hb dL_areSubcubes_37 (by decide) (fun cd37 => ?_) (fun cd37 => ?_)
      · replace hf := zite_f cd37 hf
        exact W.widen (k := 66) (n := 396) (by omega) (by omega) (j66  hf H locs ls hP hD hS (lv_sub hl [0, 1, 3] rfl))
      · replace hf := zite_t cd37 hf
        refine lv_iload_n hx hb dL_areSubcubes_40 rfl (lv_at hl 3 rfl) ?_
        refine lv_iconst (v := (-1)) hx hb dL_areSubcubes_41 (by decide) ?_
        replace hf := zjp_some hf
        obtain ⟨K50, eK50, hf⟩ := hf
        have j50 : ∀ (s0_50 : Int32), K50 s0_50 = some res → ∀ (H : Heap) (locs : List Loc) (ls : Array Slot), va_P D vwCl (TWC qx U cu) H → va_D A (TWC qx U cu) → va_S A s.heap H locs → lv_has ls 8 [(0, .ref qx), (1, .int a1), (2, .int u1), (3, .int u2)] → W p l e rm_L_areSubcubes s m args below meth c H locs 66 396 Q (F0 m 50 ls [.int s0_50]) := by
          intro s0_50 hf H locs ls hP hD hS hl
          replace hf := zap1 eK50 hf
          refine lv_iload_n hx hb dL_areSubcubes_50 rfl (lv_at hl 2 rfl) ?_
          replace hf := zjp_some hf
          obtain ⟨K59, eK59, hf⟩ := hf
          have j59 : ∀ (s0_59 : Int32) (s1_59 : Int32), K59 s0_59 s1_59 = some res → ∀ (H : Heap) (locs : List Loc) (ls : Array Slot), va_P D vwCl (TWC qx U cu) H → va_D A (TWC qx U cu) → va_S A s.heap H locs → lv_has ls 8 [(0, .ref qx), (1, .int a1), (3, .int u2)] → W p l e rm_L_areSubcubes s m args below meth c H locs 66 396 Q (F0 m 59 ls [.int s1_59, .int s0_59]) := by
            intro s0_59 s1_59 hf H locs ls hP hD hS hl
            replace hf := zap2 eK59 hf
            refine lv_icmp_ne (tgt := 66) hx hb dL_areSubcubes_59 (by decide) (fun cd59 => ?_) (fun cd59 => ?_)
            · replace hf := zite_f cd59 hf
              exact W.widen (k := 66) (n := 396) (by omega) (by omega) (j66  hf H locs ls hP hD hS (lv_sub hl [0, 1, 2] rfl))
            · replace hf := zite_t cd59 hf
              refine lv_iconst (v := 1) hx hb dL_areSubcubes_62 (by decide) ?_
              refine lv_goto (tgt := 67) hx hb dL_areSubcubes_63 (by decide) ?_
              exact W.widen (k := 66) (n := 396) (by omega) (by omega) (j67 1 hf H locs ls hP hD hS (lv_sub hl [0, 1, 2] rfl))
          refine lv_if_ne (tgt := 58) hx hb dL_areSubcubes_51 (by decide) (fun cd51 => ?_) (fun cd51 => ?_)
          · replace hf := zite_f cd51 hf
            refine lv_iconst (v := 0) hx hb dL_areSubcubes_58 (by decide) ?_
            exact W.widen (k := 66) (n := 396) (by omega) (by omega) (j59 s0_50 0 hf H locs ls hP hD hS (lv_sub hl [0, 1, 3] rfl))
          · replace hf := zite_t cd51 hf
            refine lv_iconst (v := 1) hx hb dL_areSubcubes_54 (by decide) ?_
            refine lv_goto (tgt := 59) hx hb dL_areSubcubes_55 (by decide) ?_
            exact W.widen (k := 66) (n := 396) (by omega) (by omega) (j59 s0_50 1 hf H locs ls hP hD hS (lv_sub hl [0, 1, 3] rfl))
        refine lv_icmp_ne (tgt := 49) hx hb dL_areSubcubes_42 (by decide) (fun cd42 => ?_) (fun cd42 => ?_)
        · replace hf := zite_f cd42 hf
          refine lv_iconst (v := 0) hx hb dL_areSubcubes_49 (by decide) ?_
          exact W.widen (k := 66) (n := 396) (by omega) (by omega) (j50 0 hf H locs ls hP hD hS (lv_sub hl [0, 1, 2, 3] rfl))
        · replace hf := zite_t cd42 hf
          refine lv_iconst (v := 1) hx hb dL_areSubcubes_45 (by decide) ?_
          refine lv_goto (tgt := 50) hx hb dL_areSubcubes_46 (by decide) ?_
          exact W.widen (k := 66) (n := 396) (by omega) (by omega) (j50 1 hf H locs ls hP hD hS (lv_sub hl [0, 1, 2, 3] rfl))
    refine lv_icmp_ne (tgt := 36) hx hb dL_areSubcubes_29 (by decide) (fun cd29 => ?_) (fun cd29 => ?_)
    · replace hf := zite_f cd29 hf
      refine lv_iconst (v := 0) hx hb dL_areSubcubes_36 (by decide) ?_
      exact W.widen (k := 66) (n := 396) (by omega) (by omega) (j37 u13 0 hf H locs ls hP hD hS (lv_sub hl [2, 3, 1, 0] rfl))
    · replace hf := zite_t cd29 hf
      refine lv_iconst (v := 1) hx hb dL_areSubcubes_32 (by decide) ?_
      refine lv_goto (tgt := 37) hx hb dL_areSubcubes_33 (by decide) ?_
      exact W.widen (k := 66) (n := 396) (by omega) (by omega) (j37 u13 1 hf H locs ls hP hD hS (lv_sub hl [2, 3, 1, 0] rfl))
abbrev rm_L_print : Room := { frames := 9, cells := 256, slots := 1536, locals := 165 }
set_option maxHeartbeats 4000000 in
set_option maxRecDepth 100000 in
theorem c_L_print (l : Launch) (D : va_G) (sz qx : Nat) (U : (Nat → Nat) × (Nat → ClassId)) (cu : CU) (a1 : Int32) (hl0 : l.stackTraces = false) (res : rt_L_print) (hf : f_L_print a1 cu = some res) : Met l yL_print wsL_print rm_L_print (kP D [.ref qx, .int a1] (TWC qx U cu) (TTC U) sz) (kZl D (va_A (TWC qx U cu) sz) res (TWC qx U cu)) 256 1536 (va_A (TWC qx U cu) sz) := by
  refine Met.ofW (cc := cL_print) (maxL := 5) (ret := (some .long)) (by decide +kernel) rfl ?_
  intro p e s m args below meth c s₁ B hml hv
  obtain ⟨hargs, hsz, hP, hK, hD0, hE⟩ := hv
  have hx := B.exec
  have hb := B.bytes
  have hr := B.returns
  have hts := atoms_spec (ws := wsL_print) B.pre
  have hown : s.vm.findClass RL = some m.cls := findClass_of_methodNamed B.named
  have hlocks := B.notSynchronized
  subst hsz
  have hD := hD0.self (sz := s.heap.size)
  generalize hAe : va_A (TWC qx U cu) s.heap.size = A at hD hE ⊢
  have hA : ∀ q : Nat, s.heap.size ≤ q → A q := fun q h => by rw [← hAe]; exact Or.inr h
  have hS : va_S A s.heap s.heap [] := va_S.rf
  refine kgen (fun Q eQ => ?_)
  refine kent (av := [.ref qx, .int a1]) hargs (Nat.le_of_ble_eq_true rfl) (fun ls hl => ?_)
  have hl : lv_has ls 5 [(0, .ref qx), (1, .int a1)] := hl
  show W p l e rm_L_print s m args below meth c s.heap [] 0 0 Q (F0 m 0 ls [])
  unfold f_L_print at hf
  refine lv_ldc2 (v := 31) hx hb hown (hts (.constantLong RL 135 31) (by decide +kernel)) dL_print_0 ?_
  refine lv_ldc2 (v := 31) hx hb hown (hts (.constantLong RL 135 31) (by decide +kernel)) dL_print_3 ?_
  refine lv_aload_n hx hb dL_print_6 rfl (lv_at hl 0 rfl) ?_
  replace hf := zob_some hf
  obtain ⟨u1, hu1, hf⟩ := hf
  refine kz_i (D := D) (v := u1) (w1 := TWC qx U cu) (av := [.ref qx]) hK hP hD hS hA hE (fun hb1 hp1 => va_runV (As := []) (rest := [.long 31, .long 31]) ⟨hx, hb, hml, hown, hts⟩ (cq_X6_rounds l D s.heap.size qx U cu  hl0 u1 hu1) (cwV 0 hts gL_print_X6_rounds rfl rfl rfl (by decide +kernel) ⟨Nat.le_of_ble_eq_true rfl, Nat.le_of_ble_eq_true rfl⟩) ⟨hb1, va_recv hK hP (ci := 6) (q0 := 0) rfl TWC_0, hp1⟩ rfl rfl hl.1 rfl (lv_room (Nat.le_of_ble_eq_true rfl)) dL_print_7 ⟨show 0 + 0 ≤ 256 by omega, show 0 + 0 ≤ 1536 by omega⟩) (fun H locs hP hD hS => ?_)
  have hP : va_P D vwCl (TWC qx U cu) H := hP
  have hD : va_D A (TWC qx U cu) := hD
  refine lv_i2l (v := (u1 : Int32).toInt64) hx hb dL_print_10 rfl ?_
  refine lv_lmul hx hb dL_print_11 ?_
  refine lv_aload_n hx hb dL_print_12 rfl (lv_at hl 0 rfl) ?_
  replace hf := zob_some hf
  obtain ⟨u2, hu2, hf⟩ := hf
  refine kz_i (D := D) (v := u2) (w1 := TWC qx U cu) (av := [.ref qx]) hK hP hD hS hA hE (fun hb1 hp1 => va_runV (As := []) (rest := [.long ((31 : Int64) * (u1 : Int32).toInt64), .long 31]) ⟨hx, hb, hml, hown, hts⟩ (cq_X6_safeNodes l D H.size qx U cu  hl0 u2 hu2) (cwV 0 hts gL_print_X6_safeNodes rfl rfl rfl (by decide +kernel) ⟨Nat.le_of_ble_eq_true rfl, Nat.le_of_ble_eq_true rfl⟩) ⟨hb1, va_recv hK hP (ci := 6) (q0 := 0) rfl TWC_0, hp1⟩ rfl rfl hl.1 rfl (lv_room (Nat.le_of_ble_eq_true rfl)) dL_print_13 ⟨show 0 + 0 ≤ 256 by omega, show 0 + 0 ≤ 1536 by omega⟩) (fun H locs hP hD hS => ?_)
  have hP : va_P D vwCl (TWC qx U cu) H := hP
  have hD : va_D A (TWC qx U cu) := hD
  refine lv_i2l (v := (u2 : Int32).toInt64) hx hb dL_print_16 rfl ?_
  refine lv_ladd hx hb dL_print_17 ?_
  refine lv_lmul hx hb dL_print_18 ?_
  refine lv_aload_n hx hb dL_print_19 rfl (lv_at hl 0 rfl) ?_
  replace hf := zob_some hf
  obtain ⟨u3, hu3, hf⟩ := hf
  refine kz_i (D := D) (v := u3) (w1 := TWC qx U cu) (av := [.ref qx]) hK hP hD hS hA hE (fun hb1 hp1 => va_runV (As := []) (rest := [.long ((31 : Int64) * (((31 : Int64) * (u1 : Int32).toInt64) + (u2 : Int32).toInt64))]) ⟨hx, hb, hml, hown, hts⟩ (cq_X6_largestSubcube l D H.size qx U cu  hl0 u3 hu3) (cwV 0 hts gL_print_X6_largestSubcube rfl rfl rfl (by decide +kernel) ⟨Nat.le_of_ble_eq_true rfl, Nat.le_of_ble_eq_true rfl⟩) ⟨hb1, va_recv hK hP (ci := 6) (q0 := 0) rfl TWC_0, hp1⟩ rfl rfl hl.1 rfl (lv_room (Nat.le_of_ble_eq_true rfl)) dL_print_20 ⟨show 0 + 0 ≤ 256 by omega, show 0 + 0 ≤ 1536 by omega⟩) (fun H locs hP hD hS => ?_)
  have hP : va_P D vwCl (TWC qx U cu) H := hP
  have hD : va_D A (TWC qx U cu) := hD
  refine lv_i2l (v := (u3 : Int32).toInt64) hx hb dL_print_23 rfl ?_
  refine lv_ladd hx hb dL_print_24 ?_
  refine lv_topl (fun x4 ex4 => ?_)
  replace hf := zbd_of ex4 hf
  refine lv_lstore_n (lv' := [(2, .long x4), (0, .ref qx), (1, .int a1)]) hx hb dL_print_25 rfl hl (by decide) rfl (fun ls hl => ?_)
  refine lv_iconst (v := 0) hx hb dL_print_26 (by decide) ?_
  refine lv_istore (lv' := [(4, .int 0), (2, .long x4), (0, .ref qx), (1, .int a1)]) hx hb dL_print_27 hl (by decide) rfl (fun ls hl => ?_)
  replace hf := zl2_some hf
  obtain ⟨F29, eF29, hf⟩ := hf
  have h29 : ∀ (n29 : Nat) (i2_29 : Int64) (i4_29 : Int32), zl2 F29 n29 i2_29 i4_29 = some res → ∀ (cells29 slots29 : Nat), cells29 + n29 * 1 ≤ 64 → slots29 + n29 * 6 ≤ 384 → ∀ (H : Heap) (locs : List Loc) (ls : Array Slot), va_P D vwCl (TWC qx U cu) H → va_D A (TWC qx U cu) → va_S A s.heap H locs → lv_has ls 5 [(0, .ref qx), (1, .int a1), (2, .long i2_29), (4, .int i4_29)] → W p l e rm_L_print s m args below meth c H locs (cells29 + 0) (slots29 + 0) Q (F0 m 29 ls []) := by
    intro n29
    induction n29 with
    | zero => intro i2_29 i4_29 hf; exact (zl2_zero hf).elim
    | succ n29 ih29 =>
      intro i2_29 i4_29 hf cells29 slots29 hc29 hs29 H locs ls hP hD hS hl
      replace hf := zl2_step eF29 hf
      generalize zl2 F29 n29 = k29 at hf ih29
      refine lv_iload hx hb dL_print_29 (lv_at hl 3 rfl) ?_
      refine lv_iconst (v := 1) hx hb dL_print_31 (by decide) ?_
      refine lv_iload_n hx hb dL_print_32 rfl (lv_at hl 1 rfl) ?_
      refine lv_ishl hx hb dL_print_33 ?_
      refine lv_icmp_ge (tgt := 57) hx hb dL_print_34 (by decide) (fun cd34 => ?_) (fun cd34 => ?_)
      · replace hf := zite_t cd34 hf
        refine W.widen (k := 64) (n := 384) (by omega) (by omega) ?_
        refine lv_iconst (v := 0) hx hb dL_print_57 (by decide) ?_
        refine lv_istore (lv' := [(4, .int 0), (0, .ref qx), (1, .int a1), (2, .long i2_29)]) hx hb dL_print_58 hl (by decide) rfl (fun ls hl => ?_)
        replace hf := zl2_some hf
        obtain ⟨F60, eF60, hf⟩ := hf
        have h60 : ∀ (n60 : Nat) (i2_60 : Int64) (i4_60 : Int32), zl2 F60 n60 i2_60 i4_60 = some res → ∀ (cells60 slots60 : Nat), cells60 + n60 * 3 ≤ 256 → slots60 + n60 * 18 ≤ 1536 → ∀ (H : Heap) (locs : List Loc) (ls : Array Slot), va_P D vwCl (TWC qx U cu) H → va_D A (TWC qx U cu) → va_S A s.heap H locs → lv_has ls 5 [(0, .ref qx), (2, .long i2_60), (4, .int i4_60)] → W p l e rm_L_print s m args below meth c H locs (cells60 + 0) (slots60 + 0) Q (F0 m 60 ls []) := by
          intro n60
          induction n60 with
          | zero => intro i2_60 i4_60 hf; exact (zl2_zero hf).elim
          | succ n60 ih60 =>
            intro i2_60 i4_60 hf cells60 slots60 hc60 hs60 H locs ls hP hD hS hl
            replace hf := zl2_step eF60 hf
            generalize zl2 F60 n60 = k60 at hf ih60
            refine lv_iload hx hb dL_print_60 (lv_at hl 2 rfl) ?_
            refine lv_bipush (v := 25) hx hb dL_print_62 (by decide) ?_
            refine lv_icmp_ge (tgt := 111) hx hb dL_print_64 (by decide) (fun cd64 => ?_) (fun cd64 => ?_)
            · replace hf := zite_t cd64 hf
              refine W.widen (k := 256) (n := 1536) (by omega) (by omega) ?_
              refine lv_lload_n hx hb dL_print_111 rfl (lv_at hl 1 rfl) ?_
              obtain rfl := Option.some.inj hf
              subst eQ
              exact kzr_l hx hb hr hlocks hP hD hS dL_print_112 (by omega) (by omega)
            · replace hf := zite_f cd64 hf
              refine lv_ldc2 (v := 31) hx hb hown (hts (.constantLong RL 135 31) (by decide +kernel)) dL_print_67 ?_
              refine lv_ldc2 (v := 31) hx hb hown (hts (.constantLong RL 135 31) (by decide +kernel)) dL_print_70 ?_
              refine lv_ldc2 (v := 31) hx hb hown (hts (.constantLong RL 135 31) (by decide +kernel)) dL_print_73 ?_
              refine lv_lload_n hx hb dL_print_76 rfl (lv_at hl 1 rfl) ?_
              refine lv_lmul hx hb dL_print_77 ?_
              refine lv_aload_n hx hb dL_print_78 rfl (lv_at hl 0 rfl) ?_
              refine lv_iload hx hb dL_print_79 (lv_at hl 2 rfl) ?_
              replace hf := zob_some hf
              obtain ⟨u5, hu5, hf⟩ := hf
              refine kz_i (D := D) (v := u5) (w1 := TWC qx U cu) (av := [.ref qx, .int i4_60]) hK hP hD hS hA hE (fun hb1 hp1 => vx_runSW (As := [.ref qx, .int i4_60]) (rest := [.long ((31 : Int64) * i2_60), .long 31, .long 31]) ⟨hx, hb, hml, hown, hts⟩ (cq_L_state l D H.size qx U cu i4_60 hl0 u5 hu5) (vx_cwSW 2 hts gL_print_L_state rfl rfl rfl (by decide +kernel) ⟨Nat.le_of_ble_eq_true rfl, Nat.le_of_ble_eq_true rfl⟩) ⟨hb1, hp1⟩ rfl rfl hl.1 rfl (lv_room (Nat.le_of_ble_eq_true rfl)) dL_print_81 ⟨show (cells60 + 0) + 1 ≤ 256 by omega, show (slots60 + 0) + 6 ≤ 1536 by omega⟩) (fun H locs hP hD hS => ?_)
              have hP : va_P D vwCl (TWC qx U cu) H := hP
              have hD : va_D A (TWC qx U cu) := hD
              refine lv_i2l (v := (u5 : Int32).toInt64) hx hb dL_print_84 rfl ?_
              refine lv_ladd hx hb dL_print_85 ?_
              refine lv_lmul hx hb dL_print_86 ?_
              refine lv_aload_n hx hb dL_print_87 rfl (lv_at hl 0 rfl) ?_
              refine lv_iload hx hb dL_print_88 (lv_at hl 2 rfl) ?_
              replace hf := zob_some hf
              obtain ⟨u6, hu6, hf⟩ := hf
              refine kz_i (D := D) (v := u6) (w1 := TWC qx U cu) (av := [.ref qx, .int i4_60]) hK hP hD hS hA hE (fun hb1 hp1 => vx_runSW (As := [.ref qx, .int i4_60]) (rest := [.long ((31 : Int64) * (((31 : Int64) * i2_60) + (u5 : Int32).toInt64)), .long 31]) ⟨hx, hb, hml, hown, hts⟩ (cq_L_position l D H.size qx U cu i4_60 hl0 u6 hu6) (vx_cwSW 2 hts gL_print_L_position rfl rfl rfl (by decide +kernel) ⟨Nat.le_of_ble_eq_true rfl, Nat.le_of_ble_eq_true rfl⟩) ⟨hb1, hp1⟩ rfl rfl hl.1 rfl (lv_room (Nat.le_of_ble_eq_true rfl)) dL_print_90 ⟨show (cells60 + 1) + 1 ≤ 256 by omega, show (slots60 + 6) + 6 ≤ 1536 by omega⟩) (fun H locs hP hD hS => ?_)
              have hP : va_P D vwCl (TWC qx U cu) H := hP
              have hD : va_D A (TWC qx U cu) := hD
              refine lv_i2l (v := (u6 : Int32).toInt64) hx hb dL_print_93 rfl ?_
              refine lv_ladd hx hb dL_print_94 ?_
              refine lv_lmul hx hb dL_print_95 ?_
              refine lv_aload_n hx hb dL_print_96 rfl (lv_at hl 0 rfl) ?_
              refine lv_iload hx hb dL_print_97 (lv_at hl 2 rfl) ?_
              replace hf := zob_some hf
              obtain ⟨u7, hu7, hf⟩ := hf
              refine kz_i (D := D) (v := u7) (w1 := TWC qx U cu) (av := [.ref qx, .int i4_60]) hK hP hD hS hA hE (fun hb1 hp1 => vx_runSW (As := [.ref qx, .int i4_60]) (rest := [.long ((31 : Int64) * (((31 : Int64) * (((31 : Int64) * i2_60) + (u5 : Int32).toInt64)) + (u6 : Int32).toInt64))]) ⟨hx, hb, hml, hown, hts⟩ (cq_L_moves l D H.size qx U cu i4_60 hl0 u7 hu7) (vx_cwSW 2 hts gL_print_L_moves rfl rfl rfl (by decide +kernel) ⟨Nat.le_of_ble_eq_true rfl, Nat.le_of_ble_eq_true rfl⟩) ⟨hb1, hp1⟩ rfl rfl hl.1 rfl (lv_room (Nat.le_of_ble_eq_true rfl)) dL_print_99 ⟨show (cells60 + 2) + 1 ≤ 256 by omega, show (slots60 + 12) + 6 ≤ 1536 by omega⟩) (fun H locs hP hD hS => ?_)
              have hP : va_P D vwCl (TWC qx U cu) H := hP
              have hD : va_D A (TWC qx U cu) := hD
              refine lv_i2l (v := (u7 : Int32).toInt64) hx hb dL_print_102 rfl ?_
              refine lv_ladd hx hb dL_print_103 ?_
              refine lv_topl (fun x8 ex8 => ?_)
              replace hf := zbd_of ex8 hf
              refine lv_lstore_n (lv' := [(2, .long x8), (0, .ref qx), (4, .int i4_60)]) hx hb dL_print_104 rfl hl (by decide) rfl (fun ls hl => ?_)
              obtain ⟨x9, ex9⟩ : ∃ y : Int32, y = i4_60 + 1 := ⟨_, rfl⟩
              replace hf := zbd_of ex9 hf
              refine lv_iinc (v := x9) (lv' := [(4, .int x9), (2, .long x8), (0, .ref qx)]) hx hb dL_print_105 hl (k := 2) rfl (by rw [ex9]; rfl) (by decide) rfl (fun ls hl => ?_)
              refine lv_goto (tgt := 60) hx hb dL_print_108 (by decide) ?_
              exact ih60 x8 x9 hf (cells60 + 3) (slots60 + 18) (by omega) (by omega) H locs ls hP hD hS (lv_sub hl [2, 1, 0] rfl)
        exact h60 64 i2_29 0 hf 64 384 (by omega) (by omega) H locs ls hP hD hS (lv_sub hl [1, 3, 0] rfl)
      · replace hf := zite_f cd34 hf
        refine lv_ldc2 (v := 31) hx hb hown (hts (.constantLong RL 135 31) (by decide +kernel)) dL_print_37 ?_
        refine lv_lload_n hx hb dL_print_40 rfl (lv_at hl 2 rfl) ?_
        refine lv_lmul hx hb dL_print_41 ?_
        refine lv_aload_n hx hb dL_print_42 rfl (lv_at hl 0 rfl) ?_
        refine lv_iload hx hb dL_print_43 (lv_at hl 3 rfl) ?_
        replace hf := zob_some hf
        obtain ⟨u10, hu10, hf⟩ := hf
        refine kz_i (D := D) (v := u10) (w1 := TWC qx U cu) (av := [.ref qx, .int i4_29]) hK hP hD hS hA hE (fun hb1 hp1 => vx_runSW (As := [.ref qx, .int i4_29]) (rest := [.long ((31 : Int64) * i2_29)]) ⟨hx, hb, hml, hown, hts⟩ (cq_L_level l D H.size qx U cu i4_29 hl0 u10 hu10) (vx_cwSW 2 hts gL_print_L_level rfl rfl rfl (by decide +kernel) ⟨Nat.le_of_ble_eq_true rfl, Nat.le_of_ble_eq_true rfl⟩) ⟨hb1, hp1⟩ rfl rfl hl.1 rfl (lv_room (Nat.le_of_ble_eq_true rfl)) dL_print_45 ⟨show (cells29 + 0) + 1 ≤ 256 by omega, show (slots29 + 0) + 6 ≤ 1536 by omega⟩) (fun H locs hP hD hS => ?_)
        have hP : va_P D vwCl (TWC qx U cu) H := hP
        have hD : va_D A (TWC qx U cu) := hD
        refine lv_i2l (v := (u10 : Int32).toInt64) hx hb dL_print_48 rfl ?_
        refine lv_ladd hx hb dL_print_49 ?_
        refine lv_topl (fun x11 ex11 => ?_)
        replace hf := zbd_of ex11 hf
        refine lv_lstore_n (lv' := [(2, .long x11), (0, .ref qx), (1, .int a1), (4, .int i4_29)]) hx hb dL_print_50 rfl hl (by decide) rfl (fun ls hl => ?_)
        obtain ⟨x12, ex12⟩ : ∃ y : Int32, y = i4_29 + 1 := ⟨_, rfl⟩
        replace hf := zbd_of ex12 hf
        refine lv_iinc (v := x12) (lv' := [(4, .int x12), (2, .long x11), (0, .ref qx), (1, .int a1)]) hx hb dL_print_51 hl (k := 3) rfl (by rw [ex12]; rfl) (by decide) rfl (fun ls hl => ?_)
        refine lv_goto (tgt := 29) hx hb dL_print_54 (by decide) ?_
        exact ih29 x11 x12 hf (cells29 + 1) (slots29 + 6) (by omega) (by omega) H locs ls hP hD hS (lv_sub hl [2, 3, 1, 0] rfl)
  exact h29 64 x4 0 hf 0 0 (by omega) (by omega) H locs ls hP hD hS (lv_sub hl [2, 3, 1, 0] rfl)
