abbrev rm_L_isRoute : Room := { frames := 10, cells := 208, slots := 1248, locals := 192 }
set_option maxHeartbeats 4000000 in
set_option maxRecDepth 100000 in
theorem c_L_isRoute (l : Launch) (D : va_G) (sz qx : Nat) (U : (Nat → Nat) × (Nat → ClassId)) (cu : CU) (a1 : Int32) (a2 : Int32) (hl0 : l.stackTraces = false) (res : rt_L_isRoute) (hf : f_L_isRoute a1 a2 cu = some res) : Met l yL_isRoute wsL_isRoute rm_L_isRoute (kP D [.ref qx, .int a1, .int a2] (TWC qx U cu) (TTC U) sz) (kZi D (va_A (TWC qx U cu) sz) res (TWC qx U cu)) 208 1248 (va_A (TWC qx U cu) sz) := by
  refine Met.ofW (cc := cL_isRoute) (maxL := 10) (ret := (some .boolean)) (by decide +kernel) rfl ?_
  intro p e s m args below meth c s₁ B hml hv
  obtain ⟨hargs, hsz, hP, hK, hD0, hE⟩ := hv
  have hx := B.exec
  have hb := B.bytes
  have hr := B.returns
  have hts := atoms_spec (ws := wsL_isRoute) B.pre
  have hown : s.vm.findClass RL = some m.cls := findClass_of_methodNamed B.named
  have hlocks := B.notSynchronized
  subst hsz
  have hD := hD0.self (sz := s.heap.size)
  generalize hAe : va_A (TWC qx U cu) s.heap.size = A at hD hE ⊢
  have hA : ∀ q : Nat, s.heap.size ≤ q → A q := fun q h => by rw [← hAe]; exact Or.inr h
  have hS : va_S A s.heap s.heap [] := va_S.rf
  refine kgen (fun Q eQ => ?_)
  refine kent (av := [.ref qx, .int a1, .int a2]) hargs (Nat.le_of_ble_eq_true rfl) (fun ls hl => ?_)
  have hl : lv_has ls 10 [(0, .ref qx), (1, .int a1), (2, .int a2)] := hl
  show W p l e rm_L_isRoute s m args below meth c s.heap [] 0 0 Q (F0 m 0 ls [])
  unfold f_L_isRoute at hf
  refine lv_aload_n hx hb dL_isRoute_0 rfl (lv_at hl 0 rfl) ?_
  refine lv_iload_n hx hb dL_isRoute_1 rfl (lv_at hl 1 rfl) ?_
  refine lv_iload_n hx hb dL_isRoute_2 rfl (lv_at hl 2 rfl) ?_
  replace hf := zob_some hf
  obtain ⟨u1, hu1, hf⟩ := hf
  refine kz_i (D := D) (v := u1) (w1 := TWC qx U cu) (av := [.ref qx, .int a1, .int a2]) hK hP hD hS hA hE (fun hb1 hp1 => vx_runSW (As := [.ref qx, .int a1, .int a2]) (rest := []) ⟨hx, hb, hml, hown, hts⟩ (cq_L_distance l D s.heap.size qx U cu a1 a2 hl0 u1 hu1) (vx_cwSW 3 hts gL_isRoute_L_distance rfl rfl rfl (by decide +kernel) ⟨Nat.le_of_ble_eq_true rfl, Nat.le_of_ble_eq_true rfl⟩) ⟨hb1, hp1⟩ rfl rfl hl.1 rfl (lv_room (Nat.le_of_ble_eq_true rfl)) dL_isRoute_3 ⟨show 0 + 2 ≤ 208 by omega, show 0 + 12 ≤ 1248 by omega⟩) (fun H locs hP hD hS => ?_)
  have hP : va_P D vwCl (TWC qx U cu) H := hP
  have hD : va_D A (TWC qx U cu) := hD
  refine lv_istore_n (lv' := [(3, .int u1), (0, .ref qx), (1, .int a1), (2, .int a2)]) hx hb dL_isRoute_6 rfl hl (by decide) rfl (fun ls hl => ?_)
  refine lv_aload_n hx hb dL_isRoute_7 rfl (lv_at hl 1 rfl) ?_
  refine lv_iload_n hx hb dL_isRoute_8 rfl (lv_at hl 2 rfl) ?_
  refine lv_iload_n hx hb dL_isRoute_9 rfl (lv_at hl 3 rfl) ?_
  replace hf := zob_some hf
  obtain ⟨u2, hu2, hf⟩ := hf
  refine kz_i (D := D) (v := u2) (w1 := TWC qx U cu) (av := [.ref qx, .int a1, .int a2]) hK hP hD hS hA hE (fun hb1 hp1 => vx_runSW (As := [.ref qx, .int a1, .int a2]) (rest := []) ⟨hx, hb, hml, hown, hts⟩ (cq_L_shortest l D H.size qx U cu a1 a2 hl0 u2 hu2) (vx_cwSW 3 hts gL_isRoute_L_shortest rfl rfl rfl (by decide +kernel) ⟨Nat.le_of_ble_eq_true rfl, Nat.le_of_ble_eq_true rfl⟩) ⟨hb1, hp1⟩ rfl rfl hl.1 rfl (lv_room (Nat.le_of_ble_eq_true rfl)) dL_isRoute_10 ⟨show 2 + 4 ≤ 208 by omega, show 12 + 24 ≤ 1248 by omega⟩) (fun H locs hP hD hS => ?_)
  have hP : va_P D vwCl (TWC qx U cu) H := hP
  have hD : va_D A (TWC qx U cu) := hD
  refine lv_istore (lv' := [(4, .int u2), (3, .int u1), (0, .ref qx), (1, .int a1), (2, .int a2)]) hx hb dL_isRoute_13 hl (by decide) rfl (fun ls hl => ?_)
  refine lv_iload hx hb dL_isRoute_15 (lv_at hl 0 rfl) ?_
  refine lv_sipush (v := (-2000)) hx hb dL_isRoute_17 (by decide) ?_
  refine lv_icmp_ne (tgt := 69) hx hb dL_isRoute_20 (by decide) (fun cd20 => ?_) (fun cd20 => ?_)
  · replace hf := zite_f cd20 hf
    refine lv_aload_n hx hb dL_isRoute_69 rfl (lv_at hl 2 rfl) ?_
    refine lv_iload_n hx hb dL_isRoute_70 rfl (lv_at hl 3 rfl) ?_
    refine lv_iload_n hx hb dL_isRoute_71 rfl (lv_at hl 4 rfl) ?_
    replace hf := zob_some hf
    obtain ⟨u3, hu3, hf⟩ := hf
    refine kz_i (D := D) (v := u3) (w1 := TWC qx U cu) (av := [.ref qx, .int a1, .int a2]) hK hP hD hS hA hE (fun hb1 hp1 => vx_runSW (As := [.ref qx, .int a1, .int a2]) (rest := []) ⟨hx, hb, hml, hown, hts⟩ (cq_L_decide l D H.size qx U cu a1 a2 hl0 u3 hu3) (vx_cwSW 3 hts gL_isRoute_L_decide rfl rfl rfl (by decide +kernel) ⟨Nat.le_of_ble_eq_true rfl, Nat.le_of_ble_eq_true rfl⟩) ⟨hb1, hp1⟩ rfl rfl hl.1 rfl (lv_room (Nat.le_of_ble_eq_true rfl)) dL_isRoute_72 ⟨show 6 + 4 ≤ 208 by omega, show 36 + 24 ≤ 1248 by omega⟩) (fun H locs hP hD hS => ?_)
    have hP : va_P D vwCl (TWC qx U cu) H := hP
    have hD : va_D A (TWC qx U cu) := hD
    refine lv_istore (lv' := [(5, .int u3), (4, .int u2), (3, .int u1), (0, .ref qx), (1, .int a1), (2, .int a2)]) hx hb dL_isRoute_75 hl (by decide) rfl (fun ls hl => ?_)
    refine lv_aload_n hx hb dL_isRoute_77 rfl (lv_at hl 3 rfl) ?_
    refine lv_iload_n hx hb dL_isRoute_78 rfl (lv_at hl 4 rfl) ?_
    refine lv_iload_n hx hb dL_isRoute_79 rfl (lv_at hl 5 rfl) ?_
    replace hf := zob_some hf
    obtain ⟨u4, hu4, hf⟩ := hf
    refine kz_i (D := D) (v := u4) (w1 := TWC qx U cu) (av := [.ref qx, .int a1, .int a2]) hK hP hD hS hA hE (fun hb1 hp1 => vx_runSW (As := [.ref qx, .int a1, .int a2]) (rest := []) ⟨hx, hb, hml, hown, hts⟩ (cq_L_routeLength l D H.size qx U cu a1 a2 hl0 u4 hu4) (vx_cwSW 3 hts gL_isRoute_L_routeLength rfl rfl rfl (by decide +kernel) ⟨Nat.le_of_ble_eq_true rfl, Nat.le_of_ble_eq_true rfl⟩) ⟨hb1, hp1⟩ rfl rfl hl.1 rfl (lv_room (Nat.le_of_ble_eq_true rfl)) dL_isRoute_80 ⟨show 10 + 4 ≤ 208 by omega, show 60 + 24 ≤ 1248 by omega⟩) (fun H locs hP hD hS => ?_)
    have hP : va_P D vwCl (TWC qx U cu) H := hP
    have hD : va_D A (TWC qx U cu) := hD
    refine lv_istore (lv' := [(6, .int u4), (5, .int u3), (4, .int u2), (3, .int u1), (0, .ref qx), (1, .int a1), (2, .int a2)]) hx hb dL_isRoute_83 hl (by decide) rfl (fun ls hl => ?_)
    refine lv_iload_n hx hb dL_isRoute_85 rfl (lv_at hl 3 rfl) ?_
    refine lv_aload_n hx hb dL_isRoute_86 rfl (lv_at hl 4 rfl) ?_
    refine lv_iload_n hx hb dL_isRoute_87 rfl (lv_at hl 6 rfl) ?_
    refine lv_iload_n hx hb dL_isRoute_88 rfl (lv_at hl 5 rfl) ?_
    replace hf := zob_some hf
    obtain ⟨u5, hu5, hf⟩ := hf
    refine kz_i (D := D) (v := u5) (w1 := TWC qx U cu) (av := [.ref qx, .int a2, .int a1]) hK hP hD hS hA hE (fun hb1 hp1 => vx_runSW (As := [.ref qx, .int a2, .int a1]) (rest := [.int u1]) ⟨hx, hb, hml, hown, hts⟩ (cq_L_distance l D H.size qx U cu a2 a1 hl0 u5 hu5) (vx_cwSW 3 hts gL_isRoute_L_distance rfl rfl rfl (by decide +kernel) ⟨Nat.le_of_ble_eq_true rfl, Nat.le_of_ble_eq_true rfl⟩) ⟨hb1, hp1⟩ rfl rfl hl.1 rfl (lv_room (Nat.le_of_ble_eq_true rfl)) dL_isRoute_89 ⟨show 14 + 2 ≤ 208 by omega, show 84 + 12 ≤ 1248 by omega⟩) (fun H locs hP hD hS => ?_)
    have hP : va_P D vwCl (TWC qx U cu) H := hP
    have hD : va_D A (TWC qx U cu) := hD
    replace hf := zjp_some hf
    obtain ⟨K153, eK153, hf⟩ := hf
    have j153 : ∀ (s0_153 : Int32), K153 s0_153 = some res → ∀ (H : Heap) (locs : List Loc) (ls : Array Slot), va_P D vwCl (TWC qx U cu) H → va_D A (TWC qx U cu) → va_S A s.heap H locs → lv_has ls 10 [(0, .ref qx), (1, .int a1), (2, .int a2), (3, .int u1), (4, .int u2), (5, .int u3), (6, .int u4)] → W p l e rm_L_isRoute s m args below meth c H locs 20 120 Q (F0 m 153 ls [.int s0_153]) := by
      intro s0_153 hf H locs ls hP hD hS hl
      replace hf := zap1 eK153 hf
      refine lv_istore (lv' := [(7, .int s0_153), (0, .ref qx), (1, .int a1), (2, .int a2), (3, .int u1), (4, .int u2), (5, .int u3), (6, .int u4)]) hx hb dL_isRoute_153 hl (by decide) rfl (fun ls hl => ?_)
      refine lv_iload hx hb dL_isRoute_155 (lv_at hl 6 rfl) ?_
      refine lv_iconst (v := 2) hx hb dL_isRoute_157 (by decide) ?_
      refine lv_icmp_ne (tgt := 189) hx hb dL_isRoute_158 (by decide) (fun cd158 => ?_) (fun cd158 => ?_)
      · replace hf := zite_f cd158 hf
        refine lv_iload hx hb dL_isRoute_189 (lv_at hl 0 rfl) ?_
        replace hf := zjp_some hf
        obtain ⟨K259, eK259, hf⟩ := hf
        have j259 : ∀ (s0_259 : Int32), K259 s0_259 = some res → ∀ (H : Heap) (locs : List Loc) (ls : Array Slot), va_P D vwCl (TWC qx U cu) H → va_D A (TWC qx U cu) → va_S A s.heap H locs → lv_has ls 10 [(0, .ref qx), (1, .int a1), (2, .int a2), (6, .int u4)] → W p l e rm_L_isRoute s m args below meth c H locs 32 192 Q (F0 m 259 ls [.int s0_259]) := by
          intro s0_259 hf H locs ls hP hD hS hl
          replace hf := zap1 eK259 hf
          refine lv_istore (lv' := [(7, .int s0_259), (0, .ref qx), (1, .int a1), (2, .int a2), (6, .int u4)]) hx hb dL_isRoute_259 hl (by decide) rfl (fun ls hl => ?_)
          refine lv_iconst (v := 1) hx hb dL_isRoute_261 (by decide) ?_
          refine lv_istore (lv' := [(8, .int 1), (7, .int s0_259), (0, .ref qx), (1, .int a1), (2, .int a2), (6, .int u4)]) hx hb dL_isRoute_262 hl (by decide) rfl (fun ls hl => ?_)
          replace hf := zl2_some hf
          obtain ⟨F264, eF264, hf⟩ := hf
          have h264 : ∀ (n264 : Nat) (i7_264 : Int32) (i8_264 : Int32), zl2 F264 n264 i7_264 i8_264 = some res → ∀ (cells264 slots264 : Nat), cells264 + n264 * 11 ≤ 208 → slots264 + n264 * 66 ≤ 1248 → ∀ (H : Heap) (locs : List Loc) (ls : Array Slot), va_P D vwCl (TWC qx U cu) H → va_D A (TWC qx U cu) → va_S A s.heap H locs → lv_has ls 10 [(0, .ref qx), (1, .int a1), (2, .int a2), (6, .int u4), (7, .int i7_264), (8, .int i8_264)] → W p l e rm_L_isRoute s m args below meth c H locs (cells264 + 0) (slots264 + 0) Q (F0 m 264 ls []) := by
            intro n264
            induction n264 with
            | zero => intro i7_264 i8_264 hf; exact (zl2_zero hf).elim
            | succ n264 ih264 =>
              intro i7_264 i8_264 hf cells264 slots264 hc264 hs264 H locs ls hP hD hS hl
              replace hf := zl2_step eF264 hf
              generalize zl2 F264 n264 = k264 at hf ih264
              refine lv_iload hx hb dL_isRoute_264 (lv_at hl 5 rfl) ?_
              refine lv_iload hx hb dL_isRoute_266 (lv_at hl 3 rfl) ?_
              refine lv_icmp_gt (tgt := 334) hx hb dL_isRoute_268 (by decide) (fun cd268 => ?_) (fun cd268 => ?_)
              · replace hf := zite_t cd268 hf
                refine W.widen (k := 208) (n := 1248) (by omega) (by omega) ?_
                refine lv_iload hx hb dL_isRoute_334 (lv_at hl 4 rfl) ?_
                replace hf := zgd_some hf
                obtain ⟨gz, hf⟩ := hf
                obtain rfl := Option.some.inj hf
                subst eQ
                exact kzr_z hx hb hr (isb_ok gz) hlocks hP hD hS dL_isRoute_336 (by omega) (by omega)
              · replace hf := zite_f cd268 hf
                refine lv_iload hx hb dL_isRoute_271 (lv_at hl 4 rfl) ?_
                refine lv_if_eq (tgt := 334) hx hb dL_isRoute_273 (by decide) (fun cd273 => ?_) (fun cd273 => ?_)
                · replace hf := zite_t cd273 hf
                  refine W.widen (k := 208) (n := 1248) (by omega) (by omega) ?_
                  refine lv_iload hx hb dL_isRoute_334 (lv_at hl 4 rfl) ?_
                  replace hf := zgd_some hf
                  obtain ⟨gz, hf⟩ := hf
                  obtain rfl := Option.some.inj hf
                  subst eQ
                  exact kzr_z hx hb hr (isb_ok gz) hlocks hP hD hS dL_isRoute_336 (by omega) (by omega)
                · replace hf := zite_f cd273 hf
                  refine lv_aload_n hx hb dL_isRoute_276 rfl (lv_at hl 0 rfl) ?_
                  refine lv_iload_n hx hb dL_isRoute_277 rfl (lv_at hl 1 rfl) ?_
                  refine lv_iload_n hx hb dL_isRoute_278 rfl (lv_at hl 2 rfl) ?_
                  refine lv_iload hx hb dL_isRoute_279 (lv_at hl 5 rfl) ?_
                  replace hf := zob_some hf
                  obtain ⟨u6, hu6, hf⟩ := hf
                  refine kz_i (D := D) (v := u6) (w1 := TWC qx U cu) (av := [.ref qx, .int a1, .int a2, .int i8_264]) hK hP hD hS hA hE (fun hb1 hp1 => vx_runSW (As := [.ref qx, .int a1, .int a2, .int i8_264]) (rest := []) ⟨hx, hb, hml, hown, hts⟩ (cq_L_routeNode l D H.size qx U cu a1 a2 i8_264 hl0 u6 hu6) (vx_cwSW 4 hts gL_isRoute_L_routeNode rfl rfl rfl (by decide +kernel) ⟨Nat.le_of_ble_eq_true rfl, Nat.le_of_ble_eq_true rfl⟩) ⟨hb1, hp1⟩ rfl rfl hl.1 rfl (lv_room (Nat.le_of_ble_eq_true rfl)) dL_isRoute_281 ⟨show (cells264 + 0) + 4 ≤ 208 by omega, show (slots264 + 0) + 24 ≤ 1248 by omega⟩) (fun H locs hP hD hS => ?_)
                  have hP : va_P D vwCl (TWC qx U cu) H := hP
                  have hD : va_D A (TWC qx U cu) := hD
                  refine lv_istore (lv' := [(9, .int u6), (0, .ref qx), (1, .int a1), (2, .int a2), (6, .int u4), (7, .int i7_264), (8, .int i8_264)]) hx hb dL_isRoute_284 hl (by decide) rfl (fun ls hl => ?_)
                  refine lv_iload hx hb dL_isRoute_286 (lv_at hl 0 rfl) ?_
                  replace hf := zjp_some hf
                  obtain ⟨K326, eK326, hf⟩ := hf
                  have j326 : ∀ (s0_326 : Int32), K326 s0_326 = some res → ∀ (H : Heap) (locs : List Loc) (ls : Array Slot), va_P D vwCl (TWC qx U cu) H → va_D A (TWC qx U cu) → va_S A s.heap H locs → lv_has ls 10 [(0, .ref qx), (1, .int a1), (2, .int a2), (6, .int u4), (8, .int i8_264)] → W p l e rm_L_isRoute s m args below meth c H locs (cells264 + 11) (slots264 + 66) Q (F0 m 326 ls [.int s0_326]) := by
                    intro s0_326 hf H locs ls hP hD hS hl
                    replace hf := zap1 eK326 hf
                    refine lv_istore (lv' := [(7, .int s0_326), (0, .ref qx), (1, .int a1), (2, .int a2), (6, .int u4), (8, .int i8_264)]) hx hb dL_isRoute_326 hl (by decide) rfl (fun ls hl => ?_)
                    obtain ⟨x7, ex7⟩ : ∃ y : Int32, y = i8_264 + 1 := ⟨_, rfl⟩
                    replace hf := zbd_of ex7 hf
                    refine lv_iinc (v := x7) (lv' := [(8, .int x7), (7, .int s0_326), (0, .ref qx), (1, .int a1), (2, .int a2), (6, .int u4)]) hx hb dL_isRoute_328 hl (k := 5) rfl (by rw [ex7]; rfl) (by decide) rfl (fun ls hl => ?_)
                    refine lv_goto (tgt := 264) hx hb dL_isRoute_331 (by decide) ?_
                    exact ih264 s0_326 x7 hf (cells264 + 11) (slots264 + 66) (by omega) (by omega) H locs ls hP hD hS (lv_sub hl [2, 3, 4, 5, 1, 0] rfl)
                  replace hf := zjp_some hf
                  obtain ⟨K325, eK325, hf⟩ := hf
                  have j325 : K325 = some res → ∀ (H : Heap) (locs : List Loc) (ls : Array Slot), va_P D vwCl (TWC qx U cu) H → va_D A (TWC qx U cu) → va_S A s.heap H locs → lv_has ls 10 [(0, .ref qx), (1, .int a1), (2, .int a2), (6, .int u4), (8, .int i8_264)] → W p l e rm_L_isRoute s m args below meth c H locs (cells264 + 11) (slots264 + 66) Q (F0 m 325 ls []) := by
                    intro  hf H locs ls hP hD hS hl
                    replace hf := zap0 eK325 hf
                    refine lv_iconst (v := 0) hx hb dL_isRoute_325 (by decide) ?_
                    exact W.widen (k := cells264 + 11) (n := slots264 + 66) (by omega) (by omega) (j326 0 hf H locs ls hP hD hS (lv_sub hl [0, 1, 2, 3, 4] rfl))
                  refine lv_if_lt (tgt := 325) hx hb dL_isRoute_288 (by decide) (fun cd288 => ?_) (fun cd288 => ?_)
                  · replace hf := zite_t cd288 hf
                    exact W.widen (k := cells264 + 11) (n := slots264 + 66) (by omega) (by omega) (j325  hf H locs ls hP hD hS (lv_sub hl [1, 2, 3, 4, 6] rfl))
                  · replace hf := zite_f cd288 hf
                    refine lv_aload_n hx hb dL_isRoute_291 rfl (lv_at hl 1 rfl) ?_
                    refine lv_iload hx hb dL_isRoute_292 (lv_at hl 0 rfl) ?_
                    refine lv_aload_n hx hb dL_isRoute_294 rfl (lv_at hl 1 rfl) ?_
                    refine lv_iload_n hx hb dL_isRoute_295 rfl (lv_at hl 2 rfl) ?_
                    refine lv_iload_n hx hb dL_isRoute_296 rfl (lv_at hl 3 rfl) ?_
                    refine lv_iload hx hb dL_isRoute_297 (lv_at hl 6 rfl) ?_
                    refine lv_iconst (v := 1) hx hb dL_isRoute_299 (by decide) ?_
                    refine lv_isub hx hb dL_isRoute_300 ?_
                    replace hf := zob_some hf
                    obtain ⟨u8, hu8, hf⟩ := hf
                    refine kz_i (D := D) (v := u8) (w1 := TWC qx U cu) (av := [.ref qx, .int a1, .int a2, .int (i8_264 - (1 : Int32))]) hK hP hD hS hA hE (fun hb1 hp1 => vx_runSW (As := [.ref qx, .int a1, .int a2, .int (i8_264 - (1 : Int32))]) (rest := [.int u6, .ref qx]) ⟨hx, hb, hml, hown, hts⟩ (cq_L_routeNode l D H.size qx U cu a1 a2 (i8_264 - (1 : Int32)) hl0 u8 hu8) (vx_cwSW 4 hts gL_isRoute_L_routeNode rfl rfl rfl (by decide +kernel) ⟨Nat.le_of_ble_eq_true rfl, Nat.le_of_ble_eq_true rfl⟩) ⟨hb1, hp1⟩ rfl rfl hl.1 rfl (lv_room (Nat.le_of_ble_eq_true rfl)) dL_isRoute_301 ⟨show (cells264 + 4) + 4 ≤ 208 by omega, show (slots264 + 24) + 24 ≤ 1248 by omega⟩) (fun H locs hP hD hS => ?_)
                    have hP : va_P D vwCl (TWC qx U cu) H := hP
                    have hD : va_D A (TWC qx U cu) := hD
                    replace hf := zob_some hf
                    obtain ⟨u9, hu9, hf⟩ := hf
                    refine kz_i (D := D) (v := u9) (w1 := TWC qx U cu) (av := [.ref qx, .int u6, .int u8]) hK hP hD hS hA hE (fun hb1 hp1 => vx_runSW (As := [.ref qx, .int u6, .int u8]) (rest := []) ⟨hx, hb, hml, hown, hts⟩ (cq_L_distance l D H.size qx U cu u6 u8 hl0 u9 hu9) (vx_cwSW 3 hts gL_isRoute_L_distance rfl rfl rfl (by decide +kernel) ⟨Nat.le_of_ble_eq_true rfl, Nat.le_of_ble_eq_true rfl⟩) ⟨hb1, hp1⟩ rfl rfl hl.1 rfl (lv_room (Nat.le_of_ble_eq_true rfl)) dL_isRoute_304 ⟨show (cells264 + 8) + 2 ≤ 208 by omega, show (slots264 + 48) + 12 ≤ 1248 by omega⟩) (fun H locs hP hD hS => ?_)
                    have hP : va_P D vwCl (TWC qx U cu) H := hP
                    have hD : va_D A (TWC qx U cu) := hD
                    refine lv_iconst (v := 1) hx hb dL_isRoute_307 (by decide) ?_
                    refine lv_icmp_ne (tgt := 325) hx hb dL_isRoute_308 (by decide) (fun cd308 => ?_) (fun cd308 => ?_)
                    · replace hf := zite_f cd308 hf
                      exact W.widen (k := cells264 + 11) (n := slots264 + 66) (by omega) (by omega) (j325  hf H locs ls hP hD hS (lv_sub hl [1, 2, 3, 4, 6] rfl))
                    · replace hf := zite_t cd308 hf
                      refine lv_aload_n hx hb dL_isRoute_311 rfl (lv_at hl 1 rfl) ?_
                      refine lv_iload hx hb dL_isRoute_312 (lv_at hl 0 rfl) ?_
                      replace hf := zob_some hf
                      obtain ⟨u10, hu10, hf⟩ := hf
                      refine kz_i (D := D) (v := u10) (w1 := TWC qx U cu) (av := [.ref qx, .int u6]) hK hP hD hS hA hE (fun hb1 hp1 => vx_runSW (As := [.ref qx, .int u6]) (rest := []) ⟨hx, hb, hml, hown, hts⟩ (cq_L_isAlive l D H.size qx U cu u6 hl0 u10 hu10) (vx_cwSW 2 hts gL_isRoute_L_isAlive rfl rfl rfl (by decide +kernel) ⟨Nat.le_of_ble_eq_true rfl, Nat.le_of_ble_eq_true rfl⟩) ⟨hb1, hp1⟩ rfl rfl hl.1 rfl (lv_room (Nat.le_of_ble_eq_true rfl)) dL_isRoute_314 ⟨show (cells264 + 10) + 1 ≤ 208 by omega, show (slots264 + 60) + 6 ≤ 1248 by omega⟩) (fun H locs hP hD hS => ?_)
                      have hP : va_P D vwCl (TWC qx U cu) H := hP
                      have hD : va_D A (TWC qx U cu) := hD
                      refine lv_iconst (v := 1) hx hb dL_isRoute_317 (by decide) ?_
                      refine lv_icmp_ne (tgt := 325) hx hb dL_isRoute_318 (by decide) (fun cd318 => ?_) (fun cd318 => ?_)
                      · replace hf := zite_f cd318 hf
                        exact W.widen (k := cells264 + 11) (n := slots264 + 66) (by omega) (by omega) (j325  hf H locs ls hP hD hS (lv_sub hl [1, 2, 3, 4, 6] rfl))
                      · replace hf := zite_t cd318 hf
                        refine lv_iconst (v := 1) hx hb dL_isRoute_321 (by decide) ?_
                        refine lv_goto (tgt := 326) hx hb dL_isRoute_322 (by decide) ?_
                        exact W.widen (k := cells264 + 11) (n := slots264 + 66) (by omega) (by omega) (j326 1 hf H locs ls hP hD hS (lv_sub hl [1, 2, 3, 4, 6] rfl))
          exact h264 16 s0_259 1 hf 32 192 (by omega) (by omega) H locs ls hP hD hS (lv_sub hl [2, 3, 4, 5, 1, 0] rfl)
        replace hf := zjp_some hf
        obtain ⟨K258, eK258, hf⟩ := hf
        have j258 : K258 = some res → ∀ (H : Heap) (locs : List Loc) (ls : Array Slot), va_P D vwCl (TWC qx U cu) H → va_D A (TWC qx U cu) → va_S A s.heap H locs → lv_has ls 10 [(0, .ref qx), (1, .int a1), (2, .int a2), (6, .int u4)] → W p l e rm_L_isRoute s m args below meth c H locs 32 192 Q (F0 m 258 ls []) := by
          intro  hf H locs ls hP hD hS hl
          replace hf := zap0 eK258 hf
          refine lv_iconst (v := 0) hx hb dL_isRoute_258 (by decide) ?_
          exact W.widen (k := 32) (n := 192) (by omega) (by omega) (j259 0 hf H locs ls hP hD hS (lv_sub hl [0, 1, 2, 3] rfl))
        refine lv_if_eq (tgt := 258) hx hb dL_isRoute_191 (by decide) (fun cd191 => ?_) (fun cd191 => ?_)
        · replace hf := zite_t cd191 hf
          exact W.widen (k := 32) (n := 192) (by omega) (by omega) (j258  hf H locs ls hP hD hS (lv_sub hl [1, 2, 3, 7] rfl))
        · replace hf := zite_f cd191 hf
          refine lv_iload hx hb dL_isRoute_194 (lv_at hl 7 rfl) ?_
          refine lv_iload_n hx hb dL_isRoute_196 rfl (lv_at hl 4 rfl) ?_
          refine lv_iconst (v := 2) hx hb dL_isRoute_197 (by decide) ?_
          refine lv_iload hx hb dL_isRoute_198 (lv_at hl 6 rfl) ?_
          refine lv_imul hx hb dL_isRoute_200 ?_
          refine lv_iadd hx hb dL_isRoute_201 ?_
          refine lv_icmp_ne (tgt := 258) hx hb dL_isRoute_202 (by decide) (fun cd202 => ?_) (fun cd202 => ?_)
          · replace hf := zite_f cd202 hf
            exact W.widen (k := 32) (n := 192) (by omega) (by omega) (j258  hf H locs ls hP hD hS (lv_sub hl [1, 2, 3, 7] rfl))
          · replace hf := zite_t cd202 hf
            refine lv_iload hx hb dL_isRoute_205 (lv_at hl 5 rfl) ?_
            refine lv_if_lt (tgt := 258) hx hb dL_isRoute_207 (by decide) (fun cd207 => ?_) (fun cd207 => ?_)
            · replace hf := zite_t cd207 hf
              exact W.widen (k := 32) (n := 192) (by omega) (by omega) (j258  hf H locs ls hP hD hS (lv_sub hl [1, 2, 3, 7] rfl))
            · replace hf := zite_f cd207 hf
              refine lv_iload hx hb dL_isRoute_210 (lv_at hl 5 rfl) ?_
              refine lv_iload hx hb dL_isRoute_212 (lv_at hl 7 rfl) ?_
              refine lv_icmp_gt (tgt := 258) hx hb dL_isRoute_214 (by decide) (fun cd214 => ?_) (fun cd214 => ?_)
              · replace hf := zite_t cd214 hf
                exact W.widen (k := 32) (n := 192) (by omega) (by omega) (j258  hf H locs ls hP hD hS (lv_sub hl [1, 2, 3, 7] rfl))
              · replace hf := zite_f cd214 hf
                refine lv_aload_n hx hb dL_isRoute_217 rfl (lv_at hl 1 rfl) ?_
                refine lv_iload_n hx hb dL_isRoute_218 rfl (lv_at hl 2 rfl) ?_
                refine lv_iload_n hx hb dL_isRoute_219 rfl (lv_at hl 3 rfl) ?_
                refine lv_iconst (v := 0) hx hb dL_isRoute_220 (by decide) ?_
                replace hf := zob_some hf
                obtain ⟨u11, hu11, hf⟩ := hf
                refine kz_i (D := D) (v := u11) (w1 := TWC qx U cu) (av := [.ref qx, .int a1, .int a2, .int 0]) hK hP hD hS hA hE (fun hb1 hp1 => vx_runSW (As := [.ref qx, .int a1, .int a2, .int 0]) (rest := []) ⟨hx, hb, hml, hown, hts⟩ (cq_L_routeNode l D H.size qx U cu a1 a2 0 hl0 u11 hu11) (vx_cwSW 4 hts gL_isRoute_L_routeNode rfl rfl rfl (by decide +kernel) ⟨Nat.le_of_ble_eq_true rfl, Nat.le_of_ble_eq_true rfl⟩) ⟨hb1, hp1⟩ rfl rfl hl.1 rfl (lv_room (Nat.le_of_ble_eq_true rfl)) dL_isRoute_221 ⟨show 20 + 4 ≤ 208 by omega, show 120 + 24 ≤ 1248 by omega⟩) (fun H locs hP hD hS => ?_)
                have hP : va_P D vwCl (TWC qx U cu) H := hP
                have hD : va_D A (TWC qx U cu) := hD
                refine lv_iload_n hx hb dL_isRoute_224 rfl (lv_at hl 2 rfl) ?_
                refine lv_icmp_ne (tgt := 258) hx hb dL_isRoute_225 (by decide) (fun cd225 => ?_) (fun cd225 => ?_)
                · replace hf := zite_f cd225 hf
                  exact W.widen (k := 32) (n := 192) (by omega) (by omega) (j258  hf H locs ls hP hD hS (lv_sub hl [1, 2, 3, 7] rfl))
                · replace hf := zite_t cd225 hf
                  refine lv_aload_n hx hb dL_isRoute_228 rfl (lv_at hl 1 rfl) ?_
                  refine lv_iload_n hx hb dL_isRoute_229 rfl (lv_at hl 2 rfl) ?_
                  refine lv_iload_n hx hb dL_isRoute_230 rfl (lv_at hl 3 rfl) ?_
                  refine lv_iload hx hb dL_isRoute_231 (lv_at hl 7 rfl) ?_
                  replace hf := zob_some hf
                  obtain ⟨u12, hu12, hf⟩ := hf
                  refine kz_i (D := D) (v := u12) (w1 := TWC qx U cu) (av := [.ref qx, .int a1, .int a2, .int u4]) hK hP hD hS hA hE (fun hb1 hp1 => vx_runSW (As := [.ref qx, .int a1, .int a2, .int u4]) (rest := []) ⟨hx, hb, hml, hown, hts⟩ (cq_L_routeNode l D H.size qx U cu a1 a2 u4 hl0 u12 hu12) (vx_cwSW 4 hts gL_isRoute_L_routeNode rfl rfl rfl (by decide +kernel) ⟨Nat.le_of_ble_eq_true rfl, Nat.le_of_ble_eq_true rfl⟩) ⟨hb1, hp1⟩ rfl rfl hl.1 rfl (lv_room (Nat.le_of_ble_eq_true rfl)) dL_isRoute_233 ⟨show 24 + 4 ≤ 208 by omega, show 144 + 24 ≤ 1248 by omega⟩) (fun H locs hP hD hS => ?_)
                  have hP : va_P D vwCl (TWC qx U cu) H := hP
                  have hD : va_D A (TWC qx U cu) := hD
                  refine lv_iload_n hx hb dL_isRoute_236 rfl (lv_at hl 3 rfl) ?_
                  refine lv_icmp_ne (tgt := 258) hx hb dL_isRoute_237 (by decide) (fun cd237 => ?_) (fun cd237 => ?_)
                  · replace hf := zite_f cd237 hf
                    exact W.widen (k := 32) (n := 192) (by omega) (by omega) (j258  hf H locs ls hP hD hS (lv_sub hl [1, 2, 3, 7] rfl))
                  · replace hf := zite_t cd237 hf
                    refine lv_aload_n hx hb dL_isRoute_240 rfl (lv_at hl 1 rfl) ?_
                    refine lv_iload_n hx hb dL_isRoute_241 rfl (lv_at hl 2 rfl) ?_
                    refine lv_iload_n hx hb dL_isRoute_242 rfl (lv_at hl 3 rfl) ?_
                    refine lv_iload hx hb dL_isRoute_243 (lv_at hl 7 rfl) ?_
                    refine lv_iconst (v := 1) hx hb dL_isRoute_245 (by decide) ?_
                    refine lv_iadd hx hb dL_isRoute_246 ?_
                    replace hf := zob_some hf
                    obtain ⟨u13, hu13, hf⟩ := hf
                    refine kz_i (D := D) (v := u13) (w1 := TWC qx U cu) (av := [.ref qx, .int a1, .int a2, .int (u4 + (1 : Int32))]) hK hP hD hS hA hE (fun hb1 hp1 => vx_runSW (As := [.ref qx, .int a1, .int a2, .int (u4 + (1 : Int32))]) (rest := []) ⟨hx, hb, hml, hown, hts⟩ (cq_L_routeNode l D H.size qx U cu a1 a2 (u4 + (1 : Int32)) hl0 u13 hu13) (vx_cwSW 4 hts gL_isRoute_L_routeNode rfl rfl rfl (by decide +kernel) ⟨Nat.le_of_ble_eq_true rfl, Nat.le_of_ble_eq_true rfl⟩) ⟨hb1, hp1⟩ rfl rfl hl.1 rfl (lv_room (Nat.le_of_ble_eq_true rfl)) dL_isRoute_247 ⟨show 28 + 4 ≤ 208 by omega, show 168 + 24 ≤ 1248 by omega⟩) (fun H locs hP hD hS => ?_)
                    have hP : va_P D vwCl (TWC qx U cu) H := hP
                    have hD : va_D A (TWC qx U cu) := hD
                    refine lv_iconst (v := (-1)) hx hb dL_isRoute_250 (by decide) ?_
                    refine lv_icmp_ne (tgt := 258) hx hb dL_isRoute_251 (by decide) (fun cd251 => ?_) (fun cd251 => ?_)
                    · replace hf := zite_f cd251 hf
                      exact W.widen (k := 32) (n := 192) (by omega) (by omega) (j258  hf H locs ls hP hD hS (lv_sub hl [1, 2, 3, 7] rfl))
                    · replace hf := zite_t cd251 hf
                      refine lv_iconst (v := 1) hx hb dL_isRoute_254 (by decide) ?_
                      refine lv_goto (tgt := 259) hx hb dL_isRoute_255 (by decide) ?_
                      exact W.widen (k := 32) (n := 192) (by omega) (by omega) (j259 1 hf H locs ls hP hD hS (lv_sub hl [1, 2, 3, 7] rfl))
      · replace hf := zite_t cd158 hf
        refine lv_iload hx hb dL_isRoute_161 (lv_at hl 0 rfl) ?_
        replace hf := zjp_some hf
        obtain ⟨K187, eK187, hf⟩ := hf
        have j187 : K187 = some res → ∀ (H : Heap) (locs : List Loc) (ls : Array Slot), va_P D vwCl (TWC qx U cu) H → va_D A (TWC qx U cu) → va_S A s.heap H locs → lv_has ls 10 [] → W p l e rm_L_isRoute s m args below meth c H locs 24 144 Q (F0 m 187 ls []) := by
          intro  hf H locs ls hP hD hS hl
          replace hf := zap0 eK187 hf
          refine lv_iconst (v := 0) hx hb dL_isRoute_187 (by decide) ?_
          obtain rfl := Option.some.inj hf
          subst eQ
          exact kzr_z hx hb hr nar_0 hlocks hP hD hS dL_isRoute_188 (by omega) (by omega)
        refine lv_if_eq (tgt := 187) hx hb dL_isRoute_163 (by decide) (fun cd163 => ?_) (fun cd163 => ?_)
        · replace hf := zite_t cd163 hf
          exact W.widen (k := 24) (n := 144) (by omega) (by omega) (j187  hf H locs ls hP hD hS (lv_sub hl [] rfl))
        · replace hf := zite_f cd163 hf
          refine lv_iload hx hb dL_isRoute_166 (lv_at hl 7 rfl) ?_
          refine lv_iconst (v := (-1)) hx hb dL_isRoute_168 (by decide) ?_
          refine lv_icmp_ne (tgt := 187) hx hb dL_isRoute_169 (by decide) (fun cd169 => ?_) (fun cd169 => ?_)
          · replace hf := zite_f cd169 hf
            exact W.widen (k := 24) (n := 144) (by omega) (by omega) (j187  hf H locs ls hP hD hS (lv_sub hl [] rfl))
          · replace hf := zite_t cd169 hf
            refine lv_aload_n hx hb dL_isRoute_172 rfl (lv_at hl 1 rfl) ?_
            refine lv_iload_n hx hb dL_isRoute_173 rfl (lv_at hl 2 rfl) ?_
            refine lv_iload_n hx hb dL_isRoute_174 rfl (lv_at hl 3 rfl) ?_
            refine lv_iconst (v := 0) hx hb dL_isRoute_175 (by decide) ?_
            replace hf := zob_some hf
            obtain ⟨u14, hu14, hf⟩ := hf
            refine kz_i (D := D) (v := u14) (w1 := TWC qx U cu) (av := [.ref qx, .int a1, .int a2, .int 0]) hK hP hD hS hA hE (fun hb1 hp1 => vx_runSW (As := [.ref qx, .int a1, .int a2, .int 0]) (rest := []) ⟨hx, hb, hml, hown, hts⟩ (cq_L_routeNode l D H.size qx U cu a1 a2 0 hl0 u14 hu14) (vx_cwSW 4 hts gL_isRoute_L_routeNode rfl rfl rfl (by decide +kernel) ⟨Nat.le_of_ble_eq_true rfl, Nat.le_of_ble_eq_true rfl⟩) ⟨hb1, hp1⟩ rfl rfl hl.1 rfl (lv_room (Nat.le_of_ble_eq_true rfl)) dL_isRoute_176 ⟨show 20 + 4 ≤ 208 by omega, show 120 + 24 ≤ 1248 by omega⟩) (fun H locs hP hD hS => ?_)
            have hP : va_P D vwCl (TWC qx U cu) H := hP
            have hD : va_D A (TWC qx U cu) := hD
            refine lv_iconst (v := (-1)) hx hb dL_isRoute_179 (by decide) ?_
            refine lv_icmp_ne (tgt := 187) hx hb dL_isRoute_180 (by decide) (fun cd180 => ?_) (fun cd180 => ?_)
            · replace hf := zite_f cd180 hf
              exact W.widen (k := 24) (n := 144) (by omega) (by omega) (j187  hf H locs ls hP hD hS (lv_sub hl [] rfl))
            · replace hf := zite_t cd180 hf
              refine lv_iconst (v := 1) hx hb dL_isRoute_183 (by decide) ?_
              refine lv_goto (tgt := 188) hx hb dL_isRoute_184 (by decide) ?_
              obtain rfl := Option.some.inj hf
              subst eQ
              exact kzr_z hx hb hr nar_1 hlocks hP hD hS dL_isRoute_188 (by omega) (by omega)
    replace hf := zjp_some hf
    obtain ⟨K152, eK152, hf⟩ := hf
    have j152 : K152 = some res → ∀ (H : Heap) (locs : List Loc) (ls : Array Slot), va_P D vwCl (TWC qx U cu) H → va_D A (TWC qx U cu) → va_S A s.heap H locs → lv_has ls 10 [(0, .ref qx), (1, .int a1), (2, .int a2), (3, .int u1), (4, .int u2), (5, .int u3), (6, .int u4)] → W p l e rm_L_isRoute s m args below meth c H locs 20 120 Q (F0 m 152 ls []) := by
      intro  hf H locs ls hP hD hS hl
      replace hf := zap0 eK152 hf
      refine lv_iconst (v := 0) hx hb dL_isRoute_152 (by decide) ?_
      exact W.widen (k := 20) (n := 120) (by omega) (by omega) (j153 0 hf H locs ls hP hD hS (lv_sub hl [0, 1, 2, 3, 4, 5, 6] rfl))
    refine lv_icmp_ne (tgt := 152) hx hb dL_isRoute_92 (by decide) (fun cd92 => ?_) (fun cd92 => ?_)
    · replace hf := zite_f cd92 hf
      exact W.widen (k := 20) (n := 120) (by omega) (by omega) (j152  hf H locs ls hP hD hS (lv_sub hl [4, 5, 6, 3, 2, 1, 0] rfl))
    · replace hf := zite_t cd92 hf
      refine lv_iload_n hx hb dL_isRoute_95 rfl (lv_at hl 3 rfl) ?_
      refine lv_iload_n hx hb dL_isRoute_96 rfl (lv_at hl 5 rfl) ?_
      refine lv_iload_n hx hb dL_isRoute_97 rfl (lv_at hl 6 rfl) ?_
      refine lv_ixor hx hb dL_isRoute_98 ?_
      replace hf := zob_some hf
      obtain ⟨u15, hu15, hf⟩ := hf
      refine kz0_i (D := D) (v := u15) (av := [.int (a1 ^^^ a2)]) hK hP hD hS hA hE (fun hb1 hp1 => va_runS (As := [.int (a1 ^^^ a2)]) (rest := [.int u1]) ⟨hx, hb, hml, hown, hts⟩ (c_L_ones l D H.size (a1 ^^^ a2) u15 hu15) (va_cwS 1 hts gL_isRoute_L_ones rfl rfl rfl (by decide +kernel) ⟨Nat.le_of_ble_eq_true rfl, Nat.le_of_ble_eq_true rfl⟩) ⟨hb1, hp1⟩ rfl rfl hl.1 rfl (lv_room (Nat.le_of_ble_eq_true rfl)) dL_isRoute_99 ⟨show 16 + 0 ≤ 208 by omega, show 96 + 0 ≤ 1248 by omega⟩) (fun H locs hP hD hS => ?_)
      have hP : va_P D vwCl (TWC qx U cu) H := hP
      have hD : va_D A (TWC qx U cu) := hD
      refine lv_icmp_ne (tgt := 152) hx hb dL_isRoute_102 (by decide) (fun cd102 => ?_) (fun cd102 => ?_)
      · replace hf := zite_f cd102 hf
        exact W.widen (k := 20) (n := 120) (by omega) (by omega) (j152  hf H locs ls hP hD hS (lv_sub hl [4, 5, 6, 3, 2, 1, 0] rfl))
      · replace hf := zite_t cd102 hf
        refine lv_iload hx hb dL_isRoute_105 (lv_at hl 2 rfl) ?_
        refine lv_aload_n hx hb dL_isRoute_107 rfl (lv_at hl 4 rfl) ?_
        refine lv_iload_n hx hb dL_isRoute_108 rfl (lv_at hl 6 rfl) ?_
        refine lv_iload_n hx hb dL_isRoute_109 rfl (lv_at hl 5 rfl) ?_
        replace hf := zob_some hf
        obtain ⟨u16, hu16, hf⟩ := hf
        refine kz_i (D := D) (v := u16) (w1 := TWC qx U cu) (av := [.ref qx, .int a2, .int a1]) hK hP hD hS hA hE (fun hb1 hp1 => vx_runSW (As := [.ref qx, .int a2, .int a1]) (rest := [.int u2]) ⟨hx, hb, hml, hown, hts⟩ (cq_L_shortest l D H.size qx U cu a2 a1 hl0 u16 hu16) (vx_cwSW 3 hts gL_isRoute_L_shortest rfl rfl rfl (by decide +kernel) ⟨Nat.le_of_ble_eq_true rfl, Nat.le_of_ble_eq_true rfl⟩) ⟨hb1, hp1⟩ rfl rfl hl.1 rfl (lv_room (Nat.le_of_ble_eq_true rfl)) dL_isRoute_110 ⟨show 16 + 4 ≤ 208 by omega, show 96 + 24 ≤ 1248 by omega⟩) (fun H locs hP hD hS => ?_)
        have hP : va_P D vwCl (TWC qx U cu) H := hP
        have hD : va_D A (TWC qx U cu) := hD
        refine lv_icmp_ne (tgt := 152) hx hb dL_isRoute_113 (by decide) (fun cd113 => ?_) (fun cd113 => ?_)
        · replace hf := zite_f cd113 hf
          exact W.widen (k := 20) (n := 120) (by omega) (by omega) (j152  hf H locs ls hP hD hS (lv_sub hl [4, 5, 6, 3, 2, 1, 0] rfl))
        · replace hf := zite_t cd113 hf
          refine lv_iload hx hb dL_isRoute_116 (lv_at hl 2 rfl) ?_
          refine lv_iconst (v := (-1)) hx hb dL_isRoute_118 (by decide) ?_
          replace hf := zjp_some hf
          obtain ⟨K137, eK137, hf⟩ := hf
          have j137 : K137 = some res → ∀ (H : Heap) (locs : List Loc) (ls : Array Slot), va_P D vwCl (TWC qx U cu) H → va_D A (TWC qx U cu) → va_S A s.heap H locs → lv_has ls 10 [(0, .ref qx), (1, .int a1), (2, .int a2), (3, .int u1), (4, .int u2), (5, .int u3), (6, .int u4)] → W p l e rm_L_isRoute s m args below meth c H locs 20 120 Q (F0 m 137 ls []) := by
            intro  hf H locs ls hP hD hS hl
            replace hf := zap0 eK137 hf
            refine lv_iload hx hb dL_isRoute_137 (lv_at hl 5 rfl) ?_
            refine lv_if_lt (tgt := 152) hx hb dL_isRoute_139 (by decide) (fun cd139 => ?_) (fun cd139 => ?_)
            · replace hf := zite_t cd139 hf
              exact W.widen (k := 20) (n := 120) (by omega) (by omega) (j152  hf H locs ls hP hD hS (lv_sub hl [0, 1, 2, 3, 4, 5, 6] rfl))
            · replace hf := zite_f cd139 hf
              refine lv_iload hx hb dL_isRoute_142 (lv_at hl 5 rfl) ?_
              refine lv_iconst (v := 3) hx hb dL_isRoute_144 (by decide) ?_
              refine lv_icmp_ge (tgt := 152) hx hb dL_isRoute_145 (by decide) (fun cd145 => ?_) (fun cd145 => ?_)
              · replace hf := zite_t cd145 hf
                exact W.widen (k := 20) (n := 120) (by omega) (by omega) (j152  hf H locs ls hP hD hS (lv_sub hl [0, 1, 2, 3, 4, 5, 6] rfl))
              · replace hf := zite_f cd145 hf
                refine lv_iconst (v := 1) hx hb dL_isRoute_148 (by decide) ?_
                refine lv_goto (tgt := 153) hx hb dL_isRoute_149 (by decide) ?_
                exact W.widen (k := 20) (n := 120) (by omega) (by omega) (j153 1 hf H locs ls hP hD hS (lv_sub hl [0, 1, 2, 3, 4, 5, 6] rfl))
          refine lv_icmp_eq (tgt := 137) hx hb dL_isRoute_119 (by decide) (fun cd119 => ?_) (fun cd119 => ?_)
          · replace hf := zite_t cd119 hf
            exact W.widen (k := 20) (n := 120) (by omega) (by omega) (j137  hf H locs ls hP hD hS (lv_sub hl [4, 5, 6, 3, 2, 1, 0] rfl))
          · replace hf := zite_f cd119 hf
            refine lv_iload hx hb dL_isRoute_122 (lv_at hl 2 rfl) ?_
            refine lv_iload_n hx hb dL_isRoute_124 rfl (lv_at hl 3 rfl) ?_
            refine lv_icmp_lt (tgt := 152) hx hb dL_isRoute_125 (by decide) (fun cd125 => ?_) (fun cd125 => ?_)
            · replace hf := zite_t cd125 hf
              exact W.widen (k := 20) (n := 120) (by omega) (by omega) (j152  hf H locs ls hP hD hS (lv_sub hl [4, 5, 6, 3, 2, 1, 0] rfl))
            · replace hf := zite_f cd125 hf
              refine lv_iload hx hb dL_isRoute_128 (lv_at hl 2 rfl) ?_
              refine lv_iload_n hx hb dL_isRoute_130 rfl (lv_at hl 3 rfl) ?_
              refine lv_isub hx hb dL_isRoute_131 ?_
              refine lv_iconst (v := 2) hx hb dL_isRoute_132 (by decide) ?_
              refine lv_irem hx hb dL_isRoute_133 (by decide) ?_
              refine lv_if_ne (tgt := 152) hx hb dL_isRoute_134 (by decide) (fun cd134 => ?_) (fun cd134 => ?_)
              · replace hf := zite_f cd134 hf
                exact W.widen (k := 20) (n := 120) (by omega) (by omega) (j152  hf H locs ls hP hD hS (lv_sub hl [4, 5, 6, 3, 2, 1, 0] rfl))
              · replace hf := zite_t cd134 hf
                exact W.widen (k := 20) (n := 120) (by omega) (by omega) (j137  hf H locs ls hP hD hS (lv_sub hl [4, 5, 6, 3, 2, 1, 0] rfl))
  · replace hf := zite_t cd20 hf
    refine lv_aload_n hx hb dL_isRoute_23 rfl (lv_at hl 2 rfl) ?_
    refine lv_iload_n hx hb dL_isRoute_24 rfl (lv_at hl 3 rfl) ?_
    replace hf := zob_some hf
    obtain ⟨u17, hu17, hf⟩ := hf
    refine kz_i (D := D) (v := u17) (w1 := TWC qx U cu) (av := [.ref qx, .int a1]) hK hP hD hS hA hE (fun hb1 hp1 => vx_runSW (As := [.ref qx, .int a1]) (rest := []) ⟨hx, hb, hml, hown, hts⟩ (cq_L_isAlive l D H.size qx U cu a1 hl0 u17 hu17) (vx_cwSW 2 hts gL_isRoute_L_isAlive rfl rfl rfl (by decide +kernel) ⟨Nat.le_of_ble_eq_true rfl, Nat.le_of_ble_eq_true rfl⟩) ⟨hb1, hp1⟩ rfl rfl hl.1 rfl (lv_room (Nat.le_of_ble_eq_true rfl)) dL_isRoute_25 ⟨show 6 + 1 ≤ 208 by omega, show 36 + 6 ≤ 1248 by omega⟩) (fun H locs hP hD hS => ?_)
    have hP : va_P D vwCl (TWC qx U cu) H := hP
    have hD : va_D A (TWC qx U cu) := hD
    replace hf := zjp_some hf
    obtain ⟨K67, eK67, hf⟩ := hf
    have j67 : K67 = some res → ∀ (H : Heap) (locs : List Loc) (ls : Array Slot), va_P D vwCl (TWC qx U cu) H → va_D A (TWC qx U cu) → va_S A s.heap H locs → lv_has ls 10 [] → W p l e rm_L_isRoute s m args below meth c H locs 16 96 Q (F0 m 67 ls []) := by
      intro  hf H locs ls hP hD hS hl
      replace hf := zap0 eK67 hf
      refine lv_iconst (v := 0) hx hb dL_isRoute_67 (by decide) ?_
      obtain rfl := Option.some.inj hf
      subst eQ
      exact kzr_z hx hb hr nar_0 hlocks hP hD hS dL_isRoute_68 (by omega) (by omega)
    replace hf := zjp_some hf
    obtain ⟨K39, eK39, hf⟩ := hf
    have j39 : K39 = some res → ∀ (H : Heap) (locs : List Loc) (ls : Array Slot), va_P D vwCl (TWC qx U cu) H → va_D A (TWC qx U cu) → va_S A s.heap H locs → lv_has ls 10 [(0, .ref qx), (1, .int a1), (2, .int a2)] → W p l e rm_L_isRoute s m args below meth c H locs 8 48 Q (F0 m 39 ls []) := by
      intro  hf H locs ls hP hD hS hl
      replace hf := zap0 eK39 hf
      refine lv_aload_n hx hb dL_isRoute_39 rfl (lv_at hl 0 rfl) ?_
      refine lv_iload_n hx hb dL_isRoute_40 rfl (lv_at hl 1 rfl) ?_
      refine lv_iload_n hx hb dL_isRoute_41 rfl (lv_at hl 2 rfl) ?_
      replace hf := zob_some hf
      obtain ⟨u18, hu18, hf⟩ := hf
      refine kz_i (D := D) (v := u18) (w1 := TWC qx U cu) (av := [.ref qx, .int a1, .int a2]) hK hP hD hS hA hE (fun hb1 hp1 => vx_runSW (As := [.ref qx, .int a1, .int a2]) (rest := []) ⟨hx, hb, hml, hown, hts⟩ (cq_L_decide l D H.size qx U cu a1 a2 hl0 u18 hu18) (vx_cwSW 3 hts gL_isRoute_L_decide rfl rfl rfl (by decide +kernel) ⟨Nat.le_of_ble_eq_true rfl, Nat.le_of_ble_eq_true rfl⟩) ⟨hb1, hp1⟩ rfl rfl hl.1 rfl (lv_room (Nat.le_of_ble_eq_true rfl)) dL_isRoute_42 ⟨show 8 + 4 ≤ 208 by omega, show 48 + 24 ≤ 1248 by omega⟩) (fun H locs hP hD hS => ?_)
      have hP : va_P D vwCl (TWC qx U cu) H := hP
      have hD : va_D A (TWC qx U cu) := hD
      refine lv_sipush (v := (-2000)) hx hb dL_isRoute_45 (by decide) ?_
      refine lv_icmp_ne (tgt := 67) hx hb dL_isRoute_48 (by decide) (fun cd48 => ?_) (fun cd48 => ?_)
      · replace hf := zite_f cd48 hf
        exact W.widen (k := 16) (n := 96) (by omega) (by omega) (j67  hf H locs ls hP hD hS (lv_sub hl [] rfl))
      · replace hf := zite_t cd48 hf
        refine lv_aload_n hx hb dL_isRoute_51 rfl (lv_at hl 0 rfl) ?_
        refine lv_iload_n hx hb dL_isRoute_52 rfl (lv_at hl 1 rfl) ?_
        refine lv_iload_n hx hb dL_isRoute_53 rfl (lv_at hl 2 rfl) ?_
        replace hf := zob_some hf
        obtain ⟨u19, hu19, hf⟩ := hf
        refine kz_i (D := D) (v := u19) (w1 := TWC qx U cu) (av := [.ref qx, .int a1, .int a2]) hK hP hD hS hA hE (fun hb1 hp1 => vx_runSW (As := [.ref qx, .int a1, .int a2]) (rest := []) ⟨hx, hb, hml, hown, hts⟩ (cq_L_routeLength l D H.size qx U cu a1 a2 hl0 u19 hu19) (vx_cwSW 3 hts gL_isRoute_L_routeLength rfl rfl rfl (by decide +kernel) ⟨Nat.le_of_ble_eq_true rfl, Nat.le_of_ble_eq_true rfl⟩) ⟨hb1, hp1⟩ rfl rfl hl.1 rfl (lv_room (Nat.le_of_ble_eq_true rfl)) dL_isRoute_54 ⟨show 12 + 4 ≤ 208 by omega, show 72 + 24 ≤ 1248 by omega⟩) (fun H locs hP hD hS => ?_)
        have hP : va_P D vwCl (TWC qx U cu) H := hP
        have hD : va_D A (TWC qx U cu) := hD
        refine lv_sipush (v := (-2000)) hx hb dL_isRoute_57 (by decide) ?_
        refine lv_icmp_ne (tgt := 67) hx hb dL_isRoute_60 (by decide) (fun cd60 => ?_) (fun cd60 => ?_)
        · replace hf := zite_f cd60 hf
          exact W.widen (k := 16) (n := 96) (by omega) (by omega) (j67  hf H locs ls hP hD hS (lv_sub hl [] rfl))
        · replace hf := zite_t cd60 hf
          refine lv_iconst (v := 1) hx hb dL_isRoute_63 (by decide) ?_
          refine lv_goto (tgt := 68) hx hb dL_isRoute_64 (by decide) ?_
          obtain rfl := Option.some.inj hf
          subst eQ
          exact kzr_z hx hb hr nar_1 hlocks hP hD hS dL_isRoute_68 (by omega) (by omega)
    refine lv_if_eq (tgt := 39) hx hb dL_isRoute_28 (by decide) (fun cd28 => ?_) (fun cd28 => ?_)
    · replace hf := zite_t cd28 hf
      exact W.widen (k := 8) (n := 48) (by omega) (by omega) (j39  hf H locs ls hP hD hS (lv_sub hl [2, 3, 4] rfl))
    · replace hf := zite_f cd28 hf
      refine lv_aload_n hx hb dL_isRoute_31 rfl (lv_at hl 2 rfl) ?_
      refine lv_iload_n hx hb dL_isRoute_32 rfl (lv_at hl 4 rfl) ?_
      replace hf := zob_some hf
      obtain ⟨u20, hu20, hf⟩ := hf
      refine kz_i (D := D) (v := u20) (w1 := TWC qx U cu) (av := [.ref qx, .int a2]) hK hP hD hS hA hE (fun hb1 hp1 => vx_runSW (As := [.ref qx, .int a2]) (rest := []) ⟨hx, hb, hml, hown, hts⟩ (cq_L_isAlive l D H.size qx U cu a2 hl0 u20 hu20) (vx_cwSW 2 hts gL_isRoute_L_isAlive rfl rfl rfl (by decide +kernel) ⟨Nat.le_of_ble_eq_true rfl, Nat.le_of_ble_eq_true rfl⟩) ⟨hb1, hp1⟩ rfl rfl hl.1 rfl (lv_room (Nat.le_of_ble_eq_true rfl)) dL_isRoute_33 ⟨show 7 + 1 ≤ 208 by omega, show 42 + 6 ≤ 1248 by omega⟩) (fun H locs hP hD hS => ?_)
      have hP : va_P D vwCl (TWC qx U cu) H := hP
      have hD : va_D A (TWC qx U cu) := hD
      refine lv_if_ne (tgt := 67) hx hb dL_isRoute_36 (by decide) (fun cd36 => ?_) (fun cd36 => ?_)
      · replace hf := zite_f cd36 hf
        exact W.widen (k := 16) (n := 96) (by omega) (by omega) (j67  hf H locs ls hP hD hS (lv_sub hl [] rfl))
      · replace hf := zite_t cd36 hf
        exact W.widen (k := 8) (n := 48) (by omega) (by omega) (j39  hf H locs ls hP hD hS (lv_sub hl [2, 3, 4] rfl))
abbrev rm_L_refused : Room := { frames := 10, cells := 543, slots := 3258, locals := 190 }
set_option maxHeartbeats 4000000 in
set_option maxRecDepth 100000 in
theorem c_L_refused (l : Launch) (D : va_G) (sz qx : Nat) (U : (Nat → Nat) × (Nat → ClassId)) (cu : CU) (a1 : Int32) (hl0 : l.stackTraces = false) (res : rt_L_refused) (hf : f_L_refused a1 cu = some res) : Met l yL_refused wsL_refused rm_L_refused (kP D [.ref qx, .int a1] (TWC qx U cu) (TTC U) sz) (kZi D (va_A (TWC qx U cu) sz) res.1 (TWC qx U res.2)) 543 3258 (va_A (TWC qx U cu) sz) := by
  refine Met.ofW (cc := cL_refused) (maxL := 6) (ret := (some .boolean)) (by decide +kernel) rfl ?_
  intro p e s m args below meth c s₁ B hml hv
  obtain ⟨hargs, hsz, hP, hK, hD0, hE⟩ := hv
  have hx := B.exec
  have hb := B.bytes
  have hr := B.returns
  have hts := atoms_spec (ws := wsL_refused) B.pre
  have hown : s.vm.findClass RL = some m.cls := findClass_of_methodNamed B.named
  have hlocks := B.notSynchronized
  subst hsz
  have hD := hD0.self (sz := s.heap.size)
  generalize hAe : va_A (TWC qx U cu) s.heap.size = A at hD hE ⊢
  have hA : ∀ q : Nat, s.heap.size ≤ q → A q := fun q h => by rw [← hAe]; exact Or.inr h
  have hS : va_S A s.heap s.heap [] := va_S.rf
  refine kgen (fun Q eQ => ?_)
  refine kent (av := [.ref qx, .int a1]) hargs (Nat.le_of_ble_eq_true rfl) (fun ls hl => ?_)
  have hl : lv_has ls 6 [(0, .ref qx), (1, .int a1)] := hl
  show W p l e rm_L_refused s m args below meth c s.heap [] 0 0 Q (F0 m 0 ls [])
  unfold f_L_refused at hf
  refine lv_aload_n hx hb dL_refused_0 rfl (lv_at hl 0 rfl) ?_
  refine lv_iload_n hx hb dL_refused_1 rfl (lv_at hl 1 rfl) ?_
  replace hf := zob_some hf
  obtain ⟨u1, hu1, hf⟩ := hf
  refine kz_l (D := D) (v := u1) (w1 := TWC qx U cu) (av := [.ref qx, .int a1]) hK hP hD hS hA hE (fun hb1 hp1 => va_runS (As := [.ref qx, .int a1]) (rest := []) ⟨hx, hb, hml, hown, hts⟩ (c_L_print l D s.heap.size qx U cu a1 hl0 u1 hu1) (va_cwS 2 hts gL_refused_L_print rfl rfl rfl (by decide +kernel) ⟨Nat.le_of_ble_eq_true rfl, Nat.le_of_ble_eq_true rfl⟩) ⟨hb1, hp1⟩ rfl rfl hl.1 rfl (lv_room (Nat.le_of_ble_eq_true rfl)) dL_refused_2 ⟨show 0 + 256 ≤ 543 by omega, show 0 + 1536 ≤ 3258 by omega⟩) (fun H locs hP hD hS => ?_)
  have hP : va_P D vwCl (TWC qx U cu) H := hP
  have hD : va_D A (TWC qx U cu) := hD
  refine lv_lstore_n (lv' := [(2, .long u1), (0, .ref qx), (1, .int a1)]) hx hb dL_refused_5 rfl hl (by decide) rfl (fun ls hl => ?_)
  refine lv_iconst (v := 1) hx hb dL_refused_6 (by decide) ?_
  refine lv_iload_n hx hb dL_refused_7 rfl (lv_at hl 2 rfl) ?_
  refine lv_ishl hx hb dL_refused_8 ?_
  refine lv_topi (fun x2 ex2 => ?_)
  replace hf := zbd_of ex2 hf
  refine lv_istore (lv' := [(4, .int x2), (2, .long u1), (0, .ref qx), (1, .int a1)]) hx hb dL_refused_9 hl (by decide) rfl (fun ls hl => ?_)
  refine lv_aload_n hx hb dL_refused_11 rfl (lv_at hl 2 rfl) ?_
  refine lv_iconst (v := (-1)) hx hb dL_refused_12 (by decide) ?_
  replace hf := zob_some hf
  obtain ⟨u3, hu3, hf⟩ := hf
  refine kz_i (D := D) (v := u3.1) (w1 := TWC qx U u3.2) (av := [.ref qx, .int (-1)]) hK hP hD hS hA hE (fun hb1 hp1 => vx_runSW (As := [.ref qx, .int (-1)]) (rest := []) ⟨hx, hb, hml, hown, hts⟩ (cq_L_setDimension l D H.size qx U cu (-1) hl0 u3 hu3) (vx_cwSW 2 hts gL_refused_L_setDimension rfl rfl rfl (by decide +kernel) ⟨Nat.le_of_ble_eq_true rfl, Nat.le_of_ble_eq_true rfl⟩) ⟨hb1, hp1⟩ rfl rfl hl.1 rfl (lv_room (Nat.le_of_ble_eq_true rfl)) dL_refused_13 ⟨show 256 + 1 ≤ 543 by omega, show 1536 + 6 ≤ 3258 by omega⟩) (fun H locs hP hD hS => ?_)
  have hP : va_P D vwCl (TWC qx U u3.2) H := hP
  have hD : va_D A (TWC qx U u3.2) := hD
  refine lv_sipush (v := (-1000)) hx hb dL_refused_16 (by decide) ?_
  replace hf := zjp_some hf
  obtain ⟨K208, eK208, hf⟩ := hf
  have j208 : ∀ (s0_208 : Int32) (v_p0_S_208 : CU), K208 s0_208 v_p0_S_208 = some res → ∀ (H : Heap) (locs : List Loc) (ls : Array Slot), va_P D vwCl (TWC qx U v_p0_S_208) H → va_D A (TWC qx U v_p0_S_208) → va_S A s.heap H locs → lv_has ls 6 [(0, .ref qx), (1, .int a1), (2, .long u1)] → W p l e rm_L_refused s m args below meth c H locs 287 1722 Q (F0 m 208 ls [.int s0_208]) := by
    intro s0_208 v_p0_S_208 hf H locs ls hP hD hS hl
    replace hf := zap2 eK208 hf
    refine lv_istore (lv' := [(5, .int s0_208), (0, .ref qx), (1, .int a1), (2, .long u1)]) hx hb dL_refused_208 hl (by decide) rfl (fun ls hl => ?_)
    refine lv_iload hx hb dL_refused_210 (lv_at hl 0 rfl) ?_
    replace hf := zjp_some hf
    obtain ⟨K229, eK229, hf⟩ := hf
    have j229 : K229 = some res → ∀ (H : Heap) (locs : List Loc) (ls : Array Slot), va_P D vwCl (TWC qx U v_p0_S_208) H → va_D A (TWC qx U v_p0_S_208) → va_S A s.heap H locs → lv_has ls 6 [] → W p l e rm_L_refused s m args below meth c H locs 543 3258 Q (F0 m 229 ls []) := by
      intro  hf H locs ls hP hD hS hl
      replace hf := zap0 eK229 hf
      refine lv_iconst (v := 0) hx hb dL_refused_229 (by decide) ?_
      obtain rfl := Option.some.inj hf
      subst eQ
      exact kzr_z hx hb hr nar_0 hlocks hP hD hS dL_refused_230 (by omega) (by omega)
    refine lv_if_eq (tgt := 229) hx hb dL_refused_212 (by decide) (fun cd212 => ?_) (fun cd212 => ?_)
    · replace hf := zite_t cd212 hf
      exact W.widen (k := 543) (n := 3258) (by omega) (by omega) (j229  hf H locs ls hP hD hS (lv_sub hl [] rfl))
    · replace hf := zite_f cd212 hf
      refine lv_aload_n hx hb dL_refused_215 rfl (lv_at hl 1 rfl) ?_
      refine lv_iload_n hx hb dL_refused_216 rfl (lv_at hl 2 rfl) ?_
      replace hf := zob_some hf
      obtain ⟨u4, hu4, hf⟩ := hf
      refine kz_l (D := D) (v := u4) (w1 := TWC qx U v_p0_S_208) (av := [.ref qx, .int a1]) hK hP hD hS hA hE (fun hb1 hp1 => va_runS (As := [.ref qx, .int a1]) (rest := []) ⟨hx, hb, hml, hown, hts⟩ (c_L_print l D H.size qx U v_p0_S_208 a1 hl0 u4 hu4) (va_cwS 2 hts gL_refused_L_print rfl rfl rfl (by decide +kernel) ⟨Nat.le_of_ble_eq_true rfl, Nat.le_of_ble_eq_true rfl⟩) ⟨hb1, hp1⟩ rfl rfl hl.1 rfl (lv_room (Nat.le_of_ble_eq_true rfl)) dL_refused_217 ⟨show 287 + 256 ≤ 543 by omega, show 1722 + 1536 ≤ 3258 by omega⟩) (fun H locs hP hD hS => ?_)
      have hP : va_P D vwCl (TWC qx U v_p0_S_208) H := hP
      have hD : va_D A (TWC qx U v_p0_S_208) := hD
      refine lv_lload_n hx hb dL_refused_220 rfl (lv_at hl 3 rfl) ?_
      refine W.lcmp hx hb dL_refused_221 ?_
      refine lv_if_ne (tgt := 229) hx hb dL_refused_222 (by decide) (fun cd222 => ?_) (fun cd222 => ?_)
      · replace hf := zite_f cd222 hf
        exact W.widen (k := 543) (n := 3258) (by omega) (by omega) (j229  hf H locs ls hP hD hS (lv_sub hl [] rfl))
      · replace hf := zite_t cd222 hf
        refine lv_iconst (v := 1) hx hb dL_refused_225 (by decide) ?_
        refine lv_goto (tgt := 230) hx hb dL_refused_226 (by decide) ?_
        obtain rfl := Option.some.inj hf
        subst eQ
        exact kzr_z hx hb hr nar_1 hlocks hP hD hS dL_refused_230 (by omega) (by omega)
  replace hf := zjp_some hf
  obtain ⟨K207, eK207, hf⟩ := hf
  have j207 : ∀ (v_p0_S_207 : CU), K207 v_p0_S_207 = some res → ∀ (H : Heap) (locs : List Loc) (ls : Array Slot), va_P D vwCl (TWC qx U v_p0_S_207) H → va_D A (TWC qx U v_p0_S_207) → va_S A s.heap H locs → lv_has ls 6 [(0, .ref qx), (1, .int a1), (2, .long u1)] → W p l e rm_L_refused s m args below meth c H locs 287 1722 Q (F0 m 207 ls []) := by
    intro v_p0_S_207 hf H locs ls hP hD hS hl
    replace hf := zap1 eK207 hf
    refine lv_iconst (v := 0) hx hb dL_refused_207 (by decide) ?_
    exact W.widen (k := 287) (n := 1722) (by omega) (by omega) (j208 0 v_p0_S_207 hf H locs ls hP hD hS (lv_sub hl [0, 1, 2] rfl))
  refine lv_icmp_ne (tgt := 207) hx hb dL_refused_19 (by decide) (fun cd19 => ?_) (fun cd19 => ?_)
  · replace hf := zite_f cd19 hf
    exact W.widen (k := 287) (n := 1722) (by omega) (by omega) (j207 u3.2 hf H locs ls hP hD hS (lv_sub hl [2, 3, 1] rfl))
  · replace hf := zite_t cd19 hf
    refine lv_aload_n hx hb dL_refused_22 rfl (lv_at hl 2 rfl) ?_
    refine lv_iload hx hb dL_refused_23 (lv_at hl 0 rfl) ?_
    replace hf := zob_some hf
    obtain ⟨u5, hu5, hf⟩ := hf
    refine kz_i (D := D) (v := u5.1) (w1 := TWC qx U u5.2) (av := [.ref qx, .int x2]) hK hP hD hS hA hE (fun hb1 hp1 => vx_runSW (As := [.ref qx, .int x2]) (rest := []) ⟨hx, hb, hml, hown, hts⟩ (cq_L_kill l D H.size qx U u3.2 x2 hl0 u5 hu5) (vx_cwSW 2 hts gL_refused_L_kill rfl rfl rfl (by decide +kernel) ⟨Nat.le_of_ble_eq_true rfl, Nat.le_of_ble_eq_true rfl⟩) ⟨hb1, hp1⟩ rfl rfl hl.1 rfl (lv_room (Nat.le_of_ble_eq_true rfl)) dL_refused_25 ⟨show 257 + 2 ≤ 543 by omega, show 1542 + 12 ≤ 3258 by omega⟩) (fun H locs hP hD hS => ?_)
    have hP : va_P D vwCl (TWC qx U u5.2) H := hP
    have hD : va_D A (TWC qx U u5.2) := hD
    refine lv_sipush (v := (-1000)) hx hb dL_refused_28 (by decide) ?_
    refine lv_icmp_ne (tgt := 207) hx hb dL_refused_31 (by decide) (fun cd31 => ?_) (fun cd31 => ?_)
    · replace hf := zite_f cd31 hf
      exact W.widen (k := 287) (n := 1722) (by omega) (by omega) (j207 u5.2 hf H locs ls hP hD hS (lv_sub hl [2, 3, 1] rfl))
    · replace hf := zite_t cd31 hf
      refine lv_aload_n hx hb dL_refused_34 rfl (lv_at hl 2 rfl) ?_
      refine lv_iconst (v := (-1)) hx hb dL_refused_35 (by decide) ?_
      replace hf := zob_some hf
      obtain ⟨u6, hu6, hf⟩ := hf
      refine kz_i (D := D) (v := u6.1) (w1 := TWC qx U u6.2) (av := [.ref qx, .int (-1)]) hK hP hD hS hA hE (fun hb1 hp1 => vx_runSW (As := [.ref qx, .int (-1)]) (rest := []) ⟨hx, hb, hml, hown, hts⟩ (cq_L_revive l D H.size qx U u5.2 (-1) hl0 u6 hu6) (vx_cwSW 2 hts gL_refused_L_revive rfl rfl rfl (by decide +kernel) ⟨Nat.le_of_ble_eq_true rfl, Nat.le_of_ble_eq_true rfl⟩) ⟨hb1, hp1⟩ rfl rfl hl.1 rfl (lv_room (Nat.le_of_ble_eq_true rfl)) dL_refused_36 ⟨show 259 + 2 ≤ 543 by omega, show 1554 + 12 ≤ 3258 by omega⟩) (fun H locs hP hD hS => ?_)
      have hP : va_P D vwCl (TWC qx U u6.2) H := hP
      have hD : va_D A (TWC qx U u6.2) := hD
      refine lv_sipush (v := (-1000)) hx hb dL_refused_39 (by decide) ?_
      refine lv_icmp_ne (tgt := 207) hx hb dL_refused_42 (by decide) (fun cd42 => ?_) (fun cd42 => ?_)
      · replace hf := zite_f cd42 hf
        exact W.widen (k := 287) (n := 1722) (by omega) (by omega) (j207 u6.2 hf H locs ls hP hD hS (lv_sub hl [2, 3, 1] rfl))
      · replace hf := zite_t cd42 hf
        refine lv_aload_n hx hb dL_refused_45 rfl (lv_at hl 2 rfl) ?_
        refine lv_iload hx hb dL_refused_46 (lv_at hl 0 rfl) ?_
        refine lv_iconst (v := 0) hx hb dL_refused_48 (by decide) ?_
        replace hf := zob_some hf
        obtain ⟨u7, hu7, hf⟩ := hf
        refine kz_i (D := D) (v := u7) (w1 := TWC qx U u6.2) (av := [.ref qx, .int x2, .int 0]) hK hP hD hS hA hE (fun hb1 hp1 => vx_runSW (As := [.ref qx, .int x2, .int 0]) (rest := []) ⟨hx, hb, hml, hown, hts⟩ (cq_L_distance l D H.size qx U u6.2 x2 0 hl0 u7 hu7) (vx_cwSW 3 hts gL_refused_L_distance rfl rfl rfl (by decide +kernel) ⟨Nat.le_of_ble_eq_true rfl, Nat.le_of_ble_eq_true rfl⟩) ⟨hb1, hp1⟩ rfl rfl hl.1 rfl (lv_room (Nat.le_of_ble_eq_true rfl)) dL_refused_49 ⟨show 261 + 2 ≤ 543 by omega, show 1566 + 12 ≤ 3258 by omega⟩) (fun H locs hP hD hS => ?_)
        have hP : va_P D vwCl (TWC qx U u6.2) H := hP
        have hD : va_D A (TWC qx U u6.2) := hD
        refine lv_sipush (v := (-1000)) hx hb dL_refused_52 (by decide) ?_
        refine lv_icmp_ne (tgt := 207) hx hb dL_refused_55 (by decide) (fun cd55 => ?_) (fun cd55 => ?_)
        · replace hf := zite_f cd55 hf
          exact W.widen (k := 287) (n := 1722) (by omega) (by omega) (j207 u6.2 hf H locs ls hP hD hS (lv_sub hl [2, 3, 1] rfl))
        · replace hf := zite_t cd55 hf
          refine lv_aload_n hx hb dL_refused_58 rfl (lv_at hl 2 rfl) ?_
          refine lv_iconst (v := (-1)) hx hb dL_refused_59 (by decide) ?_
          replace hf := zob_some hf
          obtain ⟨u8, hu8, hf⟩ := hf
          refine kz_i (D := D) (v := u8) (w1 := TWC qx U u6.2) (av := [.ref qx, .int (-1)]) hK hP hD hS hA hE (fun hb1 hp1 => vx_runSW (As := [.ref qx, .int (-1)]) (rest := []) ⟨hx, hb, hml, hown, hts⟩ (cq_L_level l D H.size qx U u6.2 (-1) hl0 u8 hu8) (vx_cwSW 2 hts gL_refused_L_level rfl rfl rfl (by decide +kernel) ⟨Nat.le_of_ble_eq_true rfl, Nat.le_of_ble_eq_true rfl⟩) ⟨hb1, hp1⟩ rfl rfl hl.1 rfl (lv_room (Nat.le_of_ble_eq_true rfl)) dL_refused_60 ⟨show 263 + 1 ≤ 543 by omega, show 1578 + 6 ≤ 3258 by omega⟩) (fun H locs hP hD hS => ?_)
          have hP : va_P D vwCl (TWC qx U u6.2) H := hP
          have hD : va_D A (TWC qx U u6.2) := hD
          refine lv_sipush (v := (-1000)) hx hb dL_refused_63 (by decide) ?_
          refine lv_icmp_ne (tgt := 207) hx hb dL_refused_66 (by decide) (fun cd66 => ?_) (fun cd66 => ?_)
          · replace hf := zite_f cd66 hf
            exact W.widen (k := 287) (n := 1722) (by omega) (by omega) (j207 u6.2 hf H locs ls hP hD hS (lv_sub hl [2, 3, 1] rfl))
          · replace hf := zite_t cd66 hf
            refine lv_aload_n hx hb dL_refused_69 rfl (lv_at hl 2 rfl) ?_
            refine lv_iconst (v := 0) hx hb dL_refused_70 (by decide) ?_
            refine lv_iload_n hx hb dL_refused_71 rfl (lv_at hl 3 rfl) ?_
            refine lv_iconst (v := 1) hx hb dL_refused_72 (by decide) ?_
            refine lv_iadd hx hb dL_refused_73 ?_
            replace hf := zob_some hf
            obtain ⟨u9, hu9, hf⟩ := hf
            refine kz_i (D := D) (v := u9) (w1 := TWC qx U u6.2) (av := [.ref qx, .int 0, .int (a1 + (1 : Int32))]) hK hP hD hS hA hE (fun hb1 hp1 => vx_runSW (As := [.ref qx, .int 0, .int (a1 + (1 : Int32))]) (rest := []) ⟨hx, hb, hml, hown, hts⟩ (cq_L_vectorBit l D H.size qx U u6.2 0 (a1 + (1 : Int32)) hl0 u9 hu9) (vx_cwSW 3 hts gL_refused_L_vectorBit rfl rfl rfl (by decide +kernel) ⟨Nat.le_of_ble_eq_true rfl, Nat.le_of_ble_eq_true rfl⟩) ⟨hb1, hp1⟩ rfl rfl hl.1 rfl (lv_room (Nat.le_of_ble_eq_true rfl)) dL_refused_74 ⟨show 264 + 2 ≤ 543 by omega, show 1584 + 12 ≤ 3258 by omega⟩) (fun H locs hP hD hS => ?_)
            have hP : va_P D vwCl (TWC qx U u6.2) H := hP
            have hD : va_D A (TWC qx U u6.2) := hD
            refine lv_sipush (v := (-1000)) hx hb dL_refused_77 (by decide) ?_
            refine lv_icmp_ne (tgt := 207) hx hb dL_refused_80 (by decide) (fun cd80 => ?_) (fun cd80 => ?_)
            · replace hf := zite_f cd80 hf
              exact W.widen (k := 287) (n := 1722) (by omega) (by omega) (j207 u6.2 hf H locs ls hP hD hS (lv_sub hl [2, 3, 1] rfl))
            · replace hf := zite_t cd80 hf
              refine lv_aload_n hx hb dL_refused_83 rfl (lv_at hl 2 rfl) ?_
              refine lv_iconst (v := 0) hx hb dL_refused_84 (by decide) ?_
              refine lv_iconst (v := 0) hx hb dL_refused_85 (by decide) ?_
              refine lv_iconst (v := (-1)) hx hb dL_refused_86 (by decide) ?_
              replace hf := zob_some hf
              obtain ⟨u10, hu10, hf⟩ := hf
              refine kz_i (D := D) (v := u10) (w1 := TWC qx U u6.2) (av := [.ref qx, .int 0, .int 0, .int (-1)]) hK hP hD hS hA hE (fun hb1 hp1 => vx_runSW (As := [.ref qx, .int 0, .int 0, .int (-1)]) (rest := []) ⟨hx, hb, hml, hown, hts⟩ (cq_L_routeNode l D H.size qx U u6.2 0 0 (-1) hl0 u10 hu10) (vx_cwSW 4 hts gL_refused_L_routeNode rfl rfl rfl (by decide +kernel) ⟨Nat.le_of_ble_eq_true rfl, Nat.le_of_ble_eq_true rfl⟩) ⟨hb1, hp1⟩ rfl rfl hl.1 rfl (lv_room (Nat.le_of_ble_eq_true rfl)) dL_refused_87 ⟨show 266 + 4 ≤ 543 by omega, show 1596 + 24 ≤ 3258 by omega⟩) (fun H locs hP hD hS => ?_)
              have hP : va_P D vwCl (TWC qx U u6.2) H := hP
              have hD : va_D A (TWC qx U u6.2) := hD
              refine lv_sipush (v := (-1000)) hx hb dL_refused_90 (by decide) ?_
              refine lv_icmp_ne (tgt := 207) hx hb dL_refused_93 (by decide) (fun cd93 => ?_) (fun cd93 => ?_)
              · replace hf := zite_f cd93 hf
                exact W.widen (k := 287) (n := 1722) (by omega) (by omega) (j207 u6.2 hf H locs ls hP hD hS (lv_sub hl [2, 3, 1] rfl))
              · replace hf := zite_t cd93 hf
                refine lv_aload_n hx hb dL_refused_96 rfl (lv_at hl 2 rfl) ?_
                refine lv_iconst (v := 0) hx hb dL_refused_97 (by decide) ?_
                refine lv_iconst (v := (-1)) hx hb dL_refused_98 (by decide) ?_
                replace hf := zob_some hf
                obtain ⟨u11, hu11, hf⟩ := hf
                refine kz_i (D := D) (v := u11) (w1 := TWC qx U u6.2) (av := [.ref qx, .int 0, .int (-1)]) hK hP hD hS hA hE (fun hb1 hp1 => vx_runSW (As := [.ref qx, .int 0, .int (-1)]) (rest := []) ⟨hx, hb, hml, hown, hts⟩ (cq_L_reach l D H.size qx U u6.2 0 (-1) hl0 u11 hu11) (vx_cwSW 3 hts gL_refused_L_reach rfl rfl rfl (by decide +kernel) ⟨Nat.le_of_ble_eq_true rfl, Nat.le_of_ble_eq_true rfl⟩) ⟨hb1, hp1⟩ rfl rfl hl.1 rfl (lv_room (Nat.le_of_ble_eq_true rfl)) dL_refused_99 ⟨show 270 + 2 ≤ 543 by omega, show 1620 + 12 ≤ 3258 by omega⟩) (fun H locs hP hD hS => ?_)
                have hP : va_P D vwCl (TWC qx U u6.2) H := hP
                have hD : va_D A (TWC qx U u6.2) := hD
                refine lv_sipush (v := (-1000)) hx hb dL_refused_102 (by decide) ?_
                refine lv_icmp_ne (tgt := 207) hx hb dL_refused_105 (by decide) (fun cd105 => ?_) (fun cd105 => ?_)
                · replace hf := zite_f cd105 hf
                  exact W.widen (k := 287) (n := 1722) (by omega) (by omega) (j207 u6.2 hf H locs ls hP hD hS (lv_sub hl [2, 3, 1] rfl))
                · replace hf := zite_t cd105 hf
                  refine lv_aload_n hx hb dL_refused_108 rfl (lv_at hl 2 rfl) ?_
                  refine lv_iload_n hx hb dL_refused_109 rfl (lv_at hl 3 rfl) ?_
                  refine lv_iconst (v := 1) hx hb dL_refused_110 (by decide) ?_
                  refine lv_iadd hx hb dL_refused_111 ?_
                  replace hf := zob_some hf
                  obtain ⟨u12, hu12, hf⟩ := hf
                  refine kz_i (D := D) (v := u12) (w1 := TWC qx U u6.2) (av := [.ref qx, .int (a1 + (1 : Int32))]) hK hP hD hS hA hE (fun hb1 hp1 => vx_runSW (As := [.ref qx, .int (a1 + (1 : Int32))]) (rest := []) ⟨hx, hb, hml, hown, hts⟩ (cq_L_freeSubcubes l D H.size qx U u6.2 (a1 + (1 : Int32)) hl0 u12 hu12) (vx_cwSW 2 hts gL_refused_L_freeSubcubes rfl rfl rfl (by decide +kernel) ⟨Nat.le_of_ble_eq_true rfl, Nat.le_of_ble_eq_true rfl⟩) ⟨hb1, hp1⟩ rfl rfl hl.1 rfl (lv_room (Nat.le_of_ble_eq_true rfl)) dL_refused_112 ⟨show 272 + 1 ≤ 543 by omega, show 1632 + 6 ≤ 3258 by omega⟩) (fun H locs hP hD hS => ?_)
                  have hP : va_P D vwCl (TWC qx U u6.2) H := hP
                  have hD : va_D A (TWC qx U u6.2) := hD
                  refine lv_sipush (v := (-1000)) hx hb dL_refused_115 (by decide) ?_
                  refine lv_icmp_ne (tgt := 207) hx hb dL_refused_118 (by decide) (fun cd118 => ?_) (fun cd118 => ?_)
                  · replace hf := zite_f cd118 hf
                    exact W.widen (k := 287) (n := 1722) (by omega) (by omega) (j207 u6.2 hf H locs ls hP hD hS (lv_sub hl [2, 3, 1] rfl))
                  · replace hf := zite_t cd118 hf
                    refine lv_aload_n hx hb dL_refused_121 rfl (lv_at hl 2 rfl) ?_
                    refine lv_iconst (v := 0) hx hb dL_refused_122 (by decide) ?_
                    refine lv_iconst (v := 0) hx hb dL_refused_123 (by decide) ?_
                    replace hf := zob_some hf
                    obtain ⟨u13, hu13, hf⟩ := hf
                    refine kz_i (D := D) (v := u13.1) (w1 := TWC qx U u13.2) (av := [.ref qx, .int 0, .int 0]) hK hP hD hS hA hE (fun hb1 hp1 => vx_runSW (As := [.ref qx, .int 0, .int 0]) (rest := []) ⟨hx, hb, hml, hown, hts⟩ (cq_L_disjointPaths l D H.size qx U u6.2 0 0 hl0 u13 hu13) (vx_cwSW 3 hts gL_refused_L_disjointPaths rfl rfl rfl (by decide +kernel) ⟨Nat.le_of_ble_eq_true rfl, Nat.le_of_ble_eq_true rfl⟩) ⟨hb1, hp1⟩ rfl rfl hl.1 rfl (lv_room (Nat.le_of_ble_eq_true rfl)) dL_refused_124 ⟨show 273 + 4 ≤ 543 by omega, show 1638 + 24 ≤ 3258 by omega⟩) (fun H locs hP hD hS => ?_)
                    have hP : va_P D vwCl (TWC qx U u13.2) H := hP
                    have hD : va_D A (TWC qx U u13.2) := hD
                    refine lv_sipush (v := (-1000)) hx hb dL_refused_127 (by decide) ?_
                    refine lv_icmp_ne (tgt := 207) hx hb dL_refused_130 (by decide) (fun cd130 => ?_) (fun cd130 => ?_)
                    · replace hf := zite_f cd130 hf
                      exact W.widen (k := 287) (n := 1722) (by omega) (by omega) (j207 u13.2 hf H locs ls hP hD hS (lv_sub hl [2, 3, 1] rfl))
                    · replace hf := zite_t cd130 hf
                      refine lv_aload_n hx hb dL_refused_133 rfl (lv_at hl 2 rfl) ?_
                      refine lv_iconst (v := 0) hx hb dL_refused_134 (by decide) ?_
                      refine lv_iload hx hb dL_refused_135 (lv_at hl 0 rfl) ?_
                      replace hf := zob_some hf
                      obtain ⟨u14, hu14, hf⟩ := hf
                      refine kz_i (D := D) (v := u14.1) (w1 := TWC qx U u14.2) (av := [.ref qx, .int 0, .int x2]) hK hP hD hS hA hE (fun hb1 hp1 => vx_runSW (As := [.ref qx, .int 0, .int x2]) (rest := []) ⟨hx, hb, hml, hown, hts⟩ (cq_L_send l D H.size qx U u13.2 0 x2 hl0 u14 hu14) (vx_cwSW 3 hts gL_refused_L_send rfl rfl rfl (by decide +kernel) ⟨Nat.le_of_ble_eq_true rfl, Nat.le_of_ble_eq_true rfl⟩) ⟨hb1, hp1⟩ rfl rfl hl.1 rfl (lv_room (Nat.le_of_ble_eq_true rfl)) dL_refused_137 ⟨show 277 + 5 ≤ 543 by omega, show 1662 + 30 ≤ 3258 by omega⟩) (fun H locs hP hD hS => ?_)
                      have hP : va_P D vwCl (TWC qx U u14.2) H := hP
                      have hD : va_D A (TWC qx U u14.2) := hD
                      refine lv_sipush (v := (-1000)) hx hb dL_refused_140 (by decide) ?_
                      refine lv_icmp_ne (tgt := 207) hx hb dL_refused_143 (by decide) (fun cd143 => ?_) (fun cd143 => ?_)
                      · replace hf := zite_f cd143 hf
                        exact W.widen (k := 287) (n := 1722) (by omega) (by omega) (j207 u14.2 hf H locs ls hP hD hS (lv_sub hl [2, 3, 1] rfl))
                      · replace hf := zite_t cd143 hf
                        refine lv_aload_n hx hb dL_refused_146 rfl (lv_at hl 2 rfl) ?_
                        refine lv_iconst (v := 0) hx hb dL_refused_147 (by decide) ?_
                        replace hf := zob_some hf
                        obtain ⟨u15, hu15, hf⟩ := hf
                        refine kz_i (D := D) (v := u15.1) (w1 := TWC qx U u15.2) (av := [.ref qx, .int 0]) hK hP hD hS hA hE (fun hb1 hp1 => vx_runSW (As := [.ref qx, .int 0]) (rest := []) ⟨hx, hb, hml, hown, hts⟩ (cq_L_step l D H.size qx U u14.2 0 hl0 u15 hu15) (vx_cwSW 2 hts gL_refused_L_step rfl rfl rfl (by decide +kernel) ⟨Nat.le_of_ble_eq_true rfl, Nat.le_of_ble_eq_true rfl⟩) ⟨hb1, hp1⟩ rfl rfl hl.1 rfl (lv_room (Nat.le_of_ble_eq_true rfl)) dL_refused_148 ⟨show 282 + 1 ≤ 543 by omega, show 1692 + 6 ≤ 3258 by omega⟩) (fun H locs hP hD hS => ?_)
                        have hP : va_P D vwCl (TWC qx U u15.2) H := hP
                        have hD : va_D A (TWC qx U u15.2) := hD
                        refine lv_sipush (v := (-1000)) hx hb dL_refused_151 (by decide) ?_
                        refine lv_icmp_ne (tgt := 207) hx hb dL_refused_154 (by decide) (fun cd154 => ?_) (fun cd154 => ?_)
                        · replace hf := zite_f cd154 hf
                          exact W.widen (k := 287) (n := 1722) (by omega) (by omega) (j207 u15.2 hf H locs ls hP hD hS (lv_sub hl [2, 3, 1] rfl))
                        · replace hf := zite_t cd154 hf
                          refine lv_aload_n hx hb dL_refused_157 rfl (lv_at hl 2 rfl) ?_
                          refine lv_bipush (v := 24) hx hb dL_refused_158 (by decide) ?_
                          replace hf := zob_some hf
                          obtain ⟨u16, hu16, hf⟩ := hf
                          refine kz_i (D := D) (v := u16) (w1 := TWC qx U u15.2) (av := [.ref qx, .int 24]) hK hP hD hS hA hE (fun hb1 hp1 => vx_runSW (As := [.ref qx, .int 24]) (rest := []) ⟨hx, hb, hml, hown, hts⟩ (cq_L_state l D H.size qx U u15.2 24 hl0 u16 hu16) (vx_cwSW 2 hts gL_refused_L_state rfl rfl rfl (by decide +kernel) ⟨Nat.le_of_ble_eq_true rfl, Nat.le_of_ble_eq_true rfl⟩) ⟨hb1, hp1⟩ rfl rfl hl.1 rfl (lv_room (Nat.le_of_ble_eq_true rfl)) dL_refused_160 ⟨show 283 + 1 ≤ 543 by omega, show 1698 + 6 ≤ 3258 by omega⟩) (fun H locs hP hD hS => ?_)
                          have hP : va_P D vwCl (TWC qx U u15.2) H := hP
                          have hD : va_D A (TWC qx U u15.2) := hD
                          refine lv_sipush (v := (-1000)) hx hb dL_refused_163 (by decide) ?_
                          refine lv_icmp_ne (tgt := 207) hx hb dL_refused_166 (by decide) (fun cd166 => ?_) (fun cd166 => ?_)
                          · replace hf := zite_f cd166 hf
                            exact W.widen (k := 287) (n := 1722) (by omega) (by omega) (j207 u15.2 hf H locs ls hP hD hS (lv_sub hl [2, 3, 1] rfl))
                          · replace hf := zite_t cd166 hf
                            refine lv_aload_n hx hb dL_refused_169 rfl (lv_at hl 2 rfl) ?_
                            refine lv_iconst (v := (-1)) hx hb dL_refused_170 (by decide) ?_
                            replace hf := zob_some hf
                            obtain ⟨u17, hu17, hf⟩ := hf
                            refine kz_i (D := D) (v := u17) (w1 := TWC qx U u15.2) (av := [.ref qx, .int (-1)]) hK hP hD hS hA hE (fun hb1 hp1 => vx_runSW (As := [.ref qx, .int (-1)]) (rest := []) ⟨hx, hb, hml, hown, hts⟩ (cq_L_position l D H.size qx U u15.2 (-1) hl0 u17 hu17) (vx_cwSW 2 hts gL_refused_L_position rfl rfl rfl (by decide +kernel) ⟨Nat.le_of_ble_eq_true rfl, Nat.le_of_ble_eq_true rfl⟩) ⟨hb1, hp1⟩ rfl rfl hl.1 rfl (lv_room (Nat.le_of_ble_eq_true rfl)) dL_refused_171 ⟨show 284 + 1 ≤ 543 by omega, show 1704 + 6 ≤ 3258 by omega⟩) (fun H locs hP hD hS => ?_)
                            have hP : va_P D vwCl (TWC qx U u15.2) H := hP
                            have hD : va_D A (TWC qx U u15.2) := hD
                            refine lv_sipush (v := (-1000)) hx hb dL_refused_174 (by decide) ?_
                            refine lv_icmp_ne (tgt := 207) hx hb dL_refused_177 (by decide) (fun cd177 => ?_) (fun cd177 => ?_)
                            · replace hf := zite_f cd177 hf
                              exact W.widen (k := 287) (n := 1722) (by omega) (by omega) (j207 u15.2 hf H locs ls hP hD hS (lv_sub hl [2, 3, 1] rfl))
                            · replace hf := zite_t cd177 hf
                              refine lv_aload_n hx hb dL_refused_180 rfl (lv_at hl 2 rfl) ?_
                              refine lv_bipush (v := 24) hx hb dL_refused_181 (by decide) ?_
                              replace hf := zob_some hf
                              obtain ⟨u18, hu18, hf⟩ := hf
                              refine kz_i (D := D) (v := u18) (w1 := TWC qx U u15.2) (av := [.ref qx, .int 24]) hK hP hD hS hA hE (fun hb1 hp1 => vx_runSW (As := [.ref qx, .int 24]) (rest := []) ⟨hx, hb, hml, hown, hts⟩ (cq_L_moves l D H.size qx U u15.2 24 hl0 u18 hu18) (vx_cwSW 2 hts gL_refused_L_moves rfl rfl rfl (by decide +kernel) ⟨Nat.le_of_ble_eq_true rfl, Nat.le_of_ble_eq_true rfl⟩) ⟨hb1, hp1⟩ rfl rfl hl.1 rfl (lv_room (Nat.le_of_ble_eq_true rfl)) dL_refused_183 ⟨show 285 + 1 ≤ 543 by omega, show 1710 + 6 ≤ 3258 by omega⟩) (fun H locs hP hD hS => ?_)
                              have hP : va_P D vwCl (TWC qx U u15.2) H := hP
                              have hD : va_D A (TWC qx U u15.2) := hD
                              refine lv_sipush (v := (-1000)) hx hb dL_refused_186 (by decide) ?_
                              refine lv_icmp_ne (tgt := 207) hx hb dL_refused_189 (by decide) (fun cd189 => ?_) (fun cd189 => ?_)
                              · replace hf := zite_f cd189 hf
                                exact W.widen (k := 287) (n := 1722) (by omega) (by omega) (j207 u15.2 hf H locs ls hP hD hS (lv_sub hl [2, 3, 1] rfl))
                              · replace hf := zite_t cd189 hf
                                refine lv_aload_n hx hb dL_refused_192 rfl (lv_at hl 2 rfl) ?_
                                refine lv_iconst (v := 3) hx hb dL_refused_193 (by decide) ?_
                                replace hf := zob_some hf
                                obtain ⟨u19, hu19, hf⟩ := hf
                                refine kz_i (D := D) (v := u19) (w1 := TWC qx U u15.2) (av := [.ref qx, .int 3]) hK hP hD hS hA hE (fun hb1 hp1 => vx_runSW (As := [.ref qx, .int 3]) (rest := []) ⟨hx, hb, hml, hown, hts⟩ (cq_L_count l D H.size qx U u15.2 3 hl0 u19 hu19) (vx_cwSW 2 hts gL_refused_L_count rfl rfl rfl (by decide +kernel) ⟨Nat.le_of_ble_eq_true rfl, Nat.le_of_ble_eq_true rfl⟩) ⟨hb1, hp1⟩ rfl rfl hl.1 rfl (lv_room (Nat.le_of_ble_eq_true rfl)) dL_refused_194 ⟨show 286 + 1 ≤ 543 by omega, show 1716 + 6 ≤ 3258 by omega⟩) (fun H locs hP hD hS => ?_)
                                have hP : va_P D vwCl (TWC qx U u15.2) H := hP
                                have hD : va_D A (TWC qx U u15.2) := hD
                                refine lv_sipush (v := (-1000)) hx hb dL_refused_197 (by decide) ?_
                                refine lv_icmp_ne (tgt := 207) hx hb dL_refused_200 (by decide) (fun cd200 => ?_) (fun cd200 => ?_)
                                · replace hf := zite_f cd200 hf
                                  exact W.widen (k := 287) (n := 1722) (by omega) (by omega) (j207 u15.2 hf H locs ls hP hD hS (lv_sub hl [2, 3, 1] rfl))
                                · replace hf := zite_t cd200 hf
                                  refine lv_iconst (v := 1) hx hb dL_refused_203 (by decide) ?_
                                  refine lv_goto (tgt := 208) hx hb dL_refused_204 (by decide) ?_
                                  exact W.widen (k := 287) (n := 1722) (by omega) (by omega) (j208 1 u15.2 hf H locs ls hP hD hS (lv_sub hl [2, 3, 1] rfl))
