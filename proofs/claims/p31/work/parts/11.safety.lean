theorem n_X2_spareOf_X2 : ∀ w ∈ u_ws RX2 TX2 5, w ∈ wsX2_spareOf := by decide +kernel
abbrev rm_X2_spareOf : Room := { frames := 0, cells := 0, slots := 0, locals := 0 }
set_option maxHeartbeats 4000000 in
set_option maxRecDepth 100000 in
theorem c_X2_spareOf (l : Launch) (D : va_G) (sz : Nat) (q_this : Nat) (q_this_levels : Nat) (q_this_levelsBefore : Nat) (q_this_vectorSets : Nat) (v_this_dimension : Int32) (v_this_changingRounds : Int32) (a1 : Int32) (res : rt_X2_spareOf) (hf : f_X2_spareOf a1 v_this_dimension = some res) : Met l yX2_spareOf wsX2_spareOf rm_X2_spareOf (kP D [.ref q_this, .int a1] [(q_this, .inr (2, [.int v_this_dimension, .int v_this_changingRounds, .ref q_this_levels, .ref q_this_levelsBefore, .ref q_this_vectorSets]))] [] sz) (kQi D (va_A [(q_this, .inr (2, [.int v_this_dimension, .int v_this_changingRounds, .ref q_this_levels, .ref q_this_levelsBefore, .ref q_this_vectorSets]))] sz) [] res [(q_this, .inr (2, [.int v_this_dimension, .int v_this_changingRounds, .ref q_this_levels, .ref q_this_levelsBefore, .ref q_this_vectorSets]))]) 0 0 (va_A [(q_this, .inr (2, [.int v_this_dimension, .int v_this_changingRounds, .ref q_this_levels, .ref q_this_levelsBefore, .ref q_this_vectorSets]))] sz) := by
  refine Met.ofW (cc := cX2_spareOf) (maxL := 2) (ret := (some .int)) (by decide +kernel) rfl ?_
  intro p e s m args below meth c s₁ B hml hv
  obtain ⟨hargs, hsz, hP, hK, hD0, hE⟩ := hv
  have hx := B.exec
  have hb := B.bytes
  have hr := B.returns
  have hts := atoms_spec (ws := wsX2_spareOf) B.pre
  have hown : s.vm.findClass RX2 = some m.cls := findClass_of_methodNamed B.named
  have hlocks := B.notSynchronized
  subst hsz
  have hD := hD0.self (sz := s.heap.size)
  generalize hAe : va_A [(q_this, .inr (2, [.int v_this_dimension, .int v_this_changingRounds, .ref q_this_levels, .ref q_this_levelsBefore, .ref q_this_vectorSets]))] s.heap.size = A at hD hE ⊢
  have hA : ∀ q : Nat, s.heap.size ≤ q → A q := fun q h => by rw [← hAe]; exact Or.inr h
  have hS : va_S A s.heap s.heap [] := va_S.rf
  refine kgen (fun Q eQ => ?_)
  refine kent (av := [.ref q_this, .int a1]) hargs (Nat.le_of_ble_eq_true rfl) (fun ls hl => ?_)
  have hl : lv_has ls 2 [(0, .ref q_this), (1, .int a1)] := hl
  show W p l e rm_X2_spareOf s m args below meth c s.heap [] 0 0 Q (F0 m 0 ls [])
  unfold f_X2_spareOf at hf
  refine lv_iconst (v := 1) hx hb dX2_spareOf_0 (by decide) ?_
  refine lv_aload_n hx hb dX2_spareOf_1 rfl (lv_at hl 0 rfl) ?_
  refine va_get (D := D) (ci := 2) (v := .int v_this_dimension) (C := RX2) (T := TX2) (N := 5) hx hb hts n_X2_spareOf_X2 hown hK hP 0 rfl rfl 0 (by decide) (hts (.fieldLink RX2 22 "FaultyCube$Safety" "dimension" "I") (by decide +kernel)) (fun _ h9 => h9) rfl dX2_spareOf_2 ?_
  refine lv_ishl hx hb dX2_spareOf_5 ?_
  refine lv_iconst (v := 1) hx hb dX2_spareOf_6 (by decide) ?_
  refine lv_isub hx hb dX2_spareOf_7 ?_
  refine lv_iload_n hx hb dX2_spareOf_8 rfl (lv_at hl 1 rfl) ?_
  refine lv_iconst (v := (-1)) hx hb dX2_spareOf_9 (by decide) ?_
  refine lv_ixor hx hb dX2_spareOf_10 ?_
  refine lv_iand hx hb dX2_spareOf_11 ?_
  obtain rfl := Option.some.inj hf
  subst eQ
  exact kr_i hx hb hr hlocks hK hP hD hS dX2_spareOf_12
theorem n_X2_levelOf_X2 : ∀ w ∈ u_ws RX2 TX2 5, w ∈ wsX2_levelOf := by decide +kernel
abbrev rm_X2_levelOf : Room := { frames := 1, cells := 0, slots := 0, locals := 21 }
set_option maxHeartbeats 4000000 in
set_option maxRecDepth 100000 in
theorem c_X2_levelOf (l : Launch) (D : va_G) (sz : Nat) (q_this : Nat) (q_this_levels : Nat) (q_this_levelsBefore : Nat) (q_this_vectorSets : Nat) (k_this_levels : ClassId) (v_this_dimension : Int32) (v_this_changingRounds : Int32) (c_this_levels : (Nat → Int32)) (a1 : Int32) (res : rt_X2_levelOf) (hf : f_X2_levelOf a1 c_this_levels = some res) : Met l yX2_levelOf wsX2_levelOf rm_X2_levelOf (kP D [.ref q_this, .int a1] [(q_this, .inr (2, [.int v_this_dimension, .int v_this_changingRounds, .ref q_this_levels, .ref q_this_levelsBefore, .ref q_this_vectorSets])), (q_this_levels, .inl (k_this_levels, 64, .inl c_this_levels))] [(k_this_levels, .int)] sz) (kQi D (va_A [(q_this, .inr (2, [.int v_this_dimension, .int v_this_changingRounds, .ref q_this_levels, .ref q_this_levelsBefore, .ref q_this_vectorSets])), (q_this_levels, .inl (k_this_levels, 64, .inl c_this_levels))] sz) [(k_this_levels, .int)] res [(q_this, .inr (2, [.int v_this_dimension, .int v_this_changingRounds, .ref q_this_levels, .ref q_this_levelsBefore, .ref q_this_vectorSets])), (q_this_levels, .inl (k_this_levels, 64, .inl c_this_levels))]) 0 0 (va_A [(q_this, .inr (2, [.int v_this_dimension, .int v_this_changingRounds, .ref q_this_levels, .ref q_this_levelsBefore, .ref q_this_vectorSets])), (q_this_levels, .inl (k_this_levels, 64, .inl c_this_levels))] sz) := by
  refine Met.ofW (cc := cX2_levelOf) (maxL := 2) (ret := (some .int)) (by decide +kernel) rfl ?_
  intro p e s m args below meth c s₁ B hml hv
  obtain ⟨hargs, hsz, hP, hK, hD0, hE⟩ := hv
  have hx := B.exec
  have hb := B.bytes
  have hr := B.returns
  have hts := atoms_spec (ws := wsX2_levelOf) B.pre
  have hown : s.vm.findClass RX2 = some m.cls := findClass_of_methodNamed B.named
  have hlocks := B.notSynchronized
  subst hsz
  have hD := hD0.self (sz := s.heap.size)
  generalize hAe : va_A [(q_this, .inr (2, [.int v_this_dimension, .int v_this_changingRounds, .ref q_this_levels, .ref q_this_levelsBefore, .ref q_this_vectorSets])), (q_this_levels, .inl (k_this_levels, 64, .inl c_this_levels))] s.heap.size = A at hD hE ⊢
  have hA : ∀ q : Nat, s.heap.size ≤ q → A q := fun q h => by rw [← hAe]; exact Or.inr h
  have hS : va_S A s.heap s.heap [] := va_S.rf
  refine kgen (fun Q eQ => ?_)
  refine kent (av := [.ref q_this, .int a1]) hargs (Nat.le_of_ble_eq_true rfl) (fun ls hl => ?_)
  have hl : lv_has ls 2 [(0, .ref q_this), (1, .int a1)] := hl
  show W p l e rm_X2_levelOf s m args below meth c s.heap [] 0 0 Q (F0 m 0 ls [])
  unfold f_X2_levelOf at hf
  refine lv_aload_n hx hb dX2_levelOf_0 rfl (lv_at hl 0 rfl) ?_
  refine va_get (D := D) (ci := 2) (v := .ref q_this_levels) (C := RX2) (T := TX2) (N := 5) hx hb hts n_X2_levelOf_X2 hown hK hP 0 rfl rfl 2 (by decide) (hts (.fieldLink RX2 9 "FaultyCube$Safety" "levels" "[I") (by decide +kernel)) (fun _ h9 => h9) rfl dX2_levelOf_1 ?_
  refine lv_iload_n hx hb dX2_levelOf_4 rfl (lv_at hl 1 rfl) ?_
  replace hf := zob_some hf
  obtain ⟨u1, hu1, hf⟩ := hf
  refine kd_i (D := D) (v := u1) (av := [.ref q_this_levels, .int a1]) (wc := [(q_this_levels, .inl (k_this_levels, 64, .inl c_this_levels))]) (w1 := [(q_this_levels, .inl (k_this_levels, 64, .inl c_this_levels))]) (ws2 := [(q_this, .inr (2, [.int v_this_dimension, .int v_this_changingRounds, .ref q_this_levels, .ref q_this_levelsBefore, .ref q_this_vectorSets])), (q_this_levels, .inl (k_this_levels, 64, .inl c_this_levels))]) hK hP hD hS hA hE [1] [0] [0] [0, 1] (fun hb1 hp1 => va_runSN (As := [.ref q_this_levels, .int a1]) (rest := []) ⟨hx, hb, hml, hown, hts⟩ (c_X6_read l D s.heap.size q_this_levels k_this_levels 64 c_this_levels a1 u1 hu1) ⟨va_cnB 2 hts gX2_levelOf_X6_read_n58 rfl rfl rfl (hE.1 (RX2, 58, yX6_read, RX6) (List.mem_of_getElem? (i := 9) rfl)) (hts (.initialized RX6) (by decide +kernel)) (by decide +kernel) ⟨Nat.le_of_ble_eq_true rfl, Nat.le_of_ble_eq_true rfl⟩, (hts (.static yX6_read) (by decide +kernel)), trivial⟩ ⟨hb1, hp1⟩ rfl rfl hl.1 rfl (lv_room (Nat.le_of_ble_eq_true rfl)) dX2_levelOf_5 ⟨Nat.le_of_ble_eq_true rfl, Nat.le_of_ble_eq_true rfl⟩) rfl rfl rfl rfl rfl rfl rfl rfl rfl rfl (fun H locs hP hD hS => ?_)
  have hP : va_P D vwCl [(q_this, .inr (2, [.int v_this_dimension, .int v_this_changingRounds, .ref q_this_levels, .ref q_this_levelsBefore, .ref q_this_vectorSets])), (q_this_levels, .inl (k_this_levels, 64, .inl c_this_levels))] H := hP
  have hD : va_D A [(q_this, .inr (2, [.int v_this_dimension, .int v_this_changingRounds, .ref q_this_levels, .ref q_this_levelsBefore, .ref q_this_vectorSets])), (q_this_levels, .inl (k_this_levels, 64, .inl c_this_levels))] := hD
  obtain rfl := Option.some.inj hf
  subst eQ
  exact kr_i hx hb hr hlocks hK hP hD hS dX2_levelOf_8
theorem n_X2_bestDimension_X2 : ∀ w ∈ u_ws RX2 TX2 5, w ∈ wsX2_bestDimension := by decide +kernel
abbrev rm_X2_bestDimension : Room := { frames := 2, cells := 0, slots := 0, locals := 42 }
set_option maxHeartbeats 4000000 in
set_option maxRecDepth 100000 in
theorem c_X2_bestDimension (l : Launch) (D : va_G) (sz : Nat) (q_this : Nat) (q_this_levels : Nat) (q_this_levelsBefore : Nat) (q_this_vectorSets : Nat) (k_this_levels : ClassId) (v_this_dimension : Int32) (v_this_changingRounds : Int32) (c_this_levels : (Nat → Int32)) (a1 : Int32) (a2 : Int32) (res : rt_X2_bestDimension) (hf : f_X2_bestDimension a1 a2 v_this_dimension c_this_levels = some res) : Met l yX2_bestDimension wsX2_bestDimension rm_X2_bestDimension (kP D [.ref q_this, .int a1, .int a2] [(q_this, .inr (2, [.int v_this_dimension, .int v_this_changingRounds, .ref q_this_levels, .ref q_this_levelsBefore, .ref q_this_vectorSets])), (q_this_levels, .inl (k_this_levels, 64, .inl c_this_levels))] [(k_this_levels, .int)] sz) (kQi D (va_A [(q_this, .inr (2, [.int v_this_dimension, .int v_this_changingRounds, .ref q_this_levels, .ref q_this_levelsBefore, .ref q_this_vectorSets])), (q_this_levels, .inl (k_this_levels, 64, .inl c_this_levels))] sz) [(k_this_levels, .int)] res [(q_this, .inr (2, [.int v_this_dimension, .int v_this_changingRounds, .ref q_this_levels, .ref q_this_levelsBefore, .ref q_this_vectorSets])), (q_this_levels, .inl (k_this_levels, 64, .inl c_this_levels))]) 0 0 (va_A [(q_this, .inr (2, [.int v_this_dimension, .int v_this_changingRounds, .ref q_this_levels, .ref q_this_levelsBefore, .ref q_this_vectorSets])), (q_this_levels, .inl (k_this_levels, 64, .inl c_this_levels))] sz) := by
  refine Met.ofW (cc := cX2_bestDimension) (maxL := 6) (ret := (some .int)) (by decide +kernel) rfl ?_
  intro p e s m args below meth c s₁ B hml hv
  obtain ⟨hargs, hsz, hP, hK, hD0, hE⟩ := hv
  have hx := B.exec
  have hb := B.bytes
  have hr := B.returns
  have hts := atoms_spec (ws := wsX2_bestDimension) B.pre
  have hown : s.vm.findClass RX2 = some m.cls := findClass_of_methodNamed B.named
  have hlocks := B.notSynchronized
  subst hsz
  have hD := hD0.self (sz := s.heap.size)
  generalize hAe : va_A [(q_this, .inr (2, [.int v_this_dimension, .int v_this_changingRounds, .ref q_this_levels, .ref q_this_levelsBefore, .ref q_this_vectorSets])), (q_this_levels, .inl (k_this_levels, 64, .inl c_this_levels))] s.heap.size = A at hD hE ⊢
  have hA : ∀ q : Nat, s.heap.size ≤ q → A q := fun q h => by rw [← hAe]; exact Or.inr h
  have hS : va_S A s.heap s.heap [] := va_S.rf
  refine kgen (fun Q eQ => ?_)
  refine kent (av := [.ref q_this, .int a1, .int a2]) hargs (Nat.le_of_ble_eq_true rfl) (fun ls hl => ?_)
  have hl : lv_has ls 6 [(0, .ref q_this), (1, .int a1), (2, .int a2)] := hl
  show W p l e rm_X2_bestDimension s m args below meth c s.heap [] 0 0 Q (F0 m 0 ls [])
  unfold f_X2_bestDimension at hf
  refine lv_iconst (v := (-1)) hx hb dX2_bestDimension_0 (by decide) ?_
  refine lv_topi (fun x1 ex1 => ?_)
  replace hf := zbd_of ex1 hf
  refine lv_istore_n (lv' := [(3, .int x1), (0, .ref q_this), (1, .int a1), (2, .int a2)]) hx hb dX2_bestDimension_1 rfl hl (by decide) rfl (fun ls hl => ?_)
  refine lv_iconst (v := (-1)) hx hb dX2_bestDimension_2 (by decide) ?_
  refine lv_topi (fun x2 ex2 => ?_)
  replace hf := zbd_of ex2 hf
  refine lv_istore (lv' := [(4, .int x2), (3, .int x1), (0, .ref q_this), (1, .int a1), (2, .int a2)]) hx hb dX2_bestDimension_3 hl (by decide) rfl (fun ls hl => ?_)
  refine lv_iconst (v := 0) hx hb dX2_bestDimension_5 (by decide) ?_
  refine lv_istore (lv' := [(5, .int 0), (4, .int x2), (3, .int x1), (0, .ref q_this), (1, .int a1), (2, .int a2)]) hx hb dX2_bestDimension_6 hl (by decide) rfl (fun ls hl => ?_)
  replace hf := zl3_some hf
  obtain ⟨F8, eF8, hf⟩ := hf
  have h8 : ∀ (n8 : Nat) (i3_8 : Int32) (i4_8 : Int32) (i5_8 : Int32), zl3 F8 n8 i3_8 i4_8 i5_8 = some res → ∀ (H : Heap) (locs : List Loc) (ls : Array Slot), va_P D vwCl [(q_this, .inr (2, [.int v_this_dimension, .int v_this_changingRounds, .ref q_this_levels, .ref q_this_levelsBefore, .ref q_this_vectorSets])), (q_this_levels, .inl (k_this_levels, 64, .inl c_this_levels))] H → va_D A [(q_this, .inr (2, [.int v_this_dimension, .int v_this_changingRounds, .ref q_this_levels, .ref q_this_levelsBefore, .ref q_this_vectorSets])), (q_this_levels, .inl (k_this_levels, 64, .inl c_this_levels))] → va_S A s.heap H locs → lv_has ls 6 [(0, .ref q_this), (1, .int a1), (2, .int a2), (3, .int i3_8), (4, .int i4_8), (5, .int i5_8)] → W p l e rm_X2_bestDimension s m args below meth c H locs 0 0 Q (F0 m 8 ls []) := by
    intro n8
    induction n8 with
    | zero => intro i3_8 i4_8 i5_8 hf; exact (zl3_zero hf).elim
    | succ n8 ih8 =>
      intro i3_8 i4_8 i5_8 hf H locs ls hP hD hS hl
      replace hf := zl3_step eF8 hf
      generalize zl3 F8 n8 = k8 at hf ih8
      refine lv_iload hx hb dX2_bestDimension_8 (lv_at hl 5 rfl) ?_
      refine lv_aload_n hx hb dX2_bestDimension_10 rfl (lv_at hl 0 rfl) ?_
      refine va_get (D := D) (ci := 2) (v := .int v_this_dimension) (C := RX2) (T := TX2) (N := 5) hx hb hts n_X2_bestDimension_X2 hown hK hP 0 rfl rfl 0 (by decide) (hts (.fieldLink RX2 22 "FaultyCube$Safety" "dimension" "I") (by decide +kernel)) (fun _ h9 => h9) rfl dX2_bestDimension_11 ?_
      refine lv_icmp_ge (tgt := 62) hx hb dX2_bestDimension_14 (by decide) (fun cd14 => ?_) (fun cd14 => ?_)
      · replace hf := zite_t cd14 hf
        refine lv_iload_n hx hb dX2_bestDimension_62 rfl (lv_at hl 3 rfl) ?_
        obtain rfl := Option.some.inj hf
        subst eQ
        exact kr_i hx hb hr hlocks hK hP hD hS dX2_bestDimension_63
      · replace hf := zite_f cd14 hf
        refine lv_iload_n hx hb dX2_bestDimension_17 rfl (lv_at hl 2 rfl) ?_
        refine lv_iload hx hb dX2_bestDimension_18 (lv_at hl 5 rfl) ?_
        replace hf := zob_some hf
        obtain ⟨u3, hu3, hf⟩ := hf
        refine kd_i (D := D) (v := u3) (av := [.int a2, .int i5_8]) (wc := []) (w1 := []) (ws2 := [(q_this, .inr (2, [.int v_this_dimension, .int v_this_changingRounds, .ref q_this_levels, .ref q_this_levelsBefore, .ref q_this_vectorSets])), (q_this_levels, .inl (k_this_levels, 64, .inl c_this_levels))]) hK hP hD hS hA hE [] [] [0, 1] [0, 1] (fun hb1 hp1 => va_runSN (As := [.int a2, .int i5_8]) (rest := []) ⟨hx, hb, hml, hown, hts⟩ (c_X6_hasBit l D H.size a2 i5_8 u3 hu3) ⟨va_cnB 2 hts gX2_bestDimension_X6_hasBit_n79 rfl rfl rfl (hE.1 (RX2, 79, yX6_hasBit, RX6) (List.mem_of_getElem? (i := 14) rfl)) (hts (.initialized RX6) (by decide +kernel)) (by decide +kernel) ⟨Nat.le_of_ble_eq_true rfl, Nat.le_of_ble_eq_true rfl⟩, (hts (.static yX6_hasBit) (by decide +kernel)), trivial⟩ ⟨hb1, hp1⟩ rfl rfl hl.1 rfl (lv_room (Nat.le_of_ble_eq_true rfl)) dX2_bestDimension_20 ⟨Nat.le_of_ble_eq_true rfl, Nat.le_of_ble_eq_true rfl⟩) rfl rfl rfl rfl rfl rfl rfl rfl rfl rfl (fun H locs hP hD hS => ?_)
        have hP : va_P D vwCl [(q_this, .inr (2, [.int v_this_dimension, .int v_this_changingRounds, .ref q_this_levels, .ref q_this_levelsBefore, .ref q_this_vectorSets])), (q_this_levels, .inl (k_this_levels, 64, .inl c_this_levels))] H := hP
        have hD : va_D A [(q_this, .inr (2, [.int v_this_dimension, .int v_this_changingRounds, .ref q_this_levels, .ref q_this_levelsBefore, .ref q_this_vectorSets])), (q_this_levels, .inl (k_this_levels, 64, .inl c_this_levels))] := hD
        replace hf := zjp_some hf
        obtain ⟨K56, eK56, hf⟩ := hf
        have j56 : ∀ (i3_56 : Int32) (i4_56 : Int32), K56 i3_56 i4_56 = some res → ∀ (H : Heap) (locs : List Loc) (ls : Array Slot), va_P D vwCl [(q_this, .inr (2, [.int v_this_dimension, .int v_this_changingRounds, .ref q_this_levels, .ref q_this_levelsBefore, .ref q_this_vectorSets])), (q_this_levels, .inl (k_this_levels, 64, .inl c_this_levels))] H → va_D A [(q_this, .inr (2, [.int v_this_dimension, .int v_this_changingRounds, .ref q_this_levels, .ref q_this_levelsBefore, .ref q_this_vectorSets])), (q_this_levels, .inl (k_this_levels, 64, .inl c_this_levels))] → va_S A s.heap H locs → lv_has ls 6 [(0, .ref q_this), (1, .int a1), (2, .int a2), (3, .int i3_56), (4, .int i4_56), (5, .int i5_8)] → W p l e rm_X2_bestDimension s m args below meth c H locs 0 0 Q (F0 m 56 ls []) := by
          intro i3_56 i4_56 hf H locs ls hP hD hS hl
          replace hf := zap2 eK56 hf
          obtain ⟨x4, ex4⟩ : ∃ y : Int32, y = i5_8 + 1 := ⟨_, rfl⟩
          replace hf := zbd_of ex4 hf
          refine lv_iinc (v := x4) (lv' := [(5, .int x4), (0, .ref q_this), (1, .int a1), (2, .int a2), (3, .int i3_56), (4, .int i4_56)]) hx hb dX2_bestDimension_56 hl (k := 5) rfl (by rw [ex4]; rfl) (by decide) rfl (fun ls hl => ?_)
          refine lv_goto (tgt := 8) hx hb dX2_bestDimension_59 (by decide) ?_
          exact ih8 i3_56 i4_56 x4 hf H locs ls hP hD hS (lv_sub hl [1, 2, 3, 4, 5, 0] rfl)
        refine lv_if_eq (tgt := 56) hx hb dX2_bestDimension_23 (by decide) (fun cd23 => ?_) (fun cd23 => ?_)
        · replace hf := zite_t cd23 hf
          exact j56 i3_8 i4_8 hf H locs ls hP hD hS (lv_sub hl [0, 1, 2, 3, 4, 5] rfl)
        · replace hf := zite_f cd23 hf
          refine lv_aload_n hx hb dX2_bestDimension_26 rfl (lv_at hl 0 rfl) ?_
          refine lv_iload_n hx hb dX2_bestDimension_27 rfl (lv_at hl 1 rfl) ?_
          refine lv_iload hx hb dX2_bestDimension_28 (lv_at hl 5 rfl) ?_
          replace hf := zob_some hf
          obtain ⟨u5, hu5, hf⟩ := hf
          refine kd_i (D := D) (v := u5) (av := [.int a1, .int i5_8]) (wc := []) (w1 := []) (ws2 := [(q_this, .inr (2, [.int v_this_dimension, .int v_this_changingRounds, .ref q_this_levels, .ref q_this_levelsBefore, .ref q_this_vectorSets])), (q_this_levels, .inl (k_this_levels, 64, .inl c_this_levels))]) hK hP hD hS hA hE [] [] [0, 1] [0, 1] (fun hb1 hp1 => va_runSN (As := [.int a1, .int i5_8]) (rest := [.ref q_this]) ⟨hx, hb, hml, hown, hts⟩ (c_X6_neighbour l D H.size a1 i5_8 u5 hu5) ⟨va_cnB 2 hts gX2_bestDimension_X6_neighbour_n66 rfl rfl rfl (hE.1 (RX2, 66, yX6_neighbour, RX6) (List.mem_of_getElem? (i := 8) rfl)) (hts (.initialized RX6) (by decide +kernel)) (by decide +kernel) ⟨Nat.le_of_ble_eq_true rfl, Nat.le_of_ble_eq_true rfl⟩, (hts (.static yX6_neighbour) (by decide +kernel)), trivial⟩ ⟨hb1, hp1⟩ rfl rfl hl.1 rfl (lv_room (Nat.le_of_ble_eq_true rfl)) dX2_bestDimension_30 ⟨Nat.le_of_ble_eq_true rfl, Nat.le_of_ble_eq_true rfl⟩) rfl rfl rfl rfl rfl rfl rfl rfl rfl rfl (fun H locs hP hD hS => ?_)
          have hP : va_P D vwCl [(q_this, .inr (2, [.int v_this_dimension, .int v_this_changingRounds, .ref q_this_levels, .ref q_this_levelsBefore, .ref q_this_vectorSets])), (q_this_levels, .inl (k_this_levels, 64, .inl c_this_levels))] H := hP
          have hD : va_D A [(q_this, .inr (2, [.int v_this_dimension, .int v_this_changingRounds, .ref q_this_levels, .ref q_this_levelsBefore, .ref q_this_vectorSets])), (q_this_levels, .inl (k_this_levels, 64, .inl c_this_levels))] := hD
          replace hf := zob_some hf
          obtain ⟨u6, hu6, hf⟩ := hf
          refine kd_i (D := D) (v := u6) (av := [.ref q_this, .int u5]) (wc := [(q_this, .inr (2, [.int v_this_dimension, .int v_this_changingRounds, .ref q_this_levels, .ref q_this_levelsBefore, .ref q_this_vectorSets])), (q_this_levels, .inl (k_this_levels, 64, .inl c_this_levels))]) (w1 := [(q_this, .inr (2, [.int v_this_dimension, .int v_this_changingRounds, .ref q_this_levels, .ref q_this_levelsBefore, .ref q_this_vectorSets])), (q_this_levels, .inl (k_this_levels, 64, .inl c_this_levels))]) (ws2 := [(q_this, .inr (2, [.int v_this_dimension, .int v_this_changingRounds, .ref q_this_levels, .ref q_this_levelsBefore, .ref q_this_vectorSets])), (q_this_levels, .inl (k_this_levels, 64, .inl c_this_levels))]) hK hP hD hS hA hE [0, 1] [0] [] [0, 1] (fun hb1 hp1 => va_runV (As := [.int u5]) (rest := []) ⟨hx, hb, hml, hown, hts⟩ (c_X2_levelOf l D H.size q_this q_this_levels q_this_levelsBefore q_this_vectorSets k_this_levels v_this_dimension v_this_changingRounds c_this_levels u5 u6 hu6) (cwV 1 hts gX2_bestDimension_X2_levelOf rfl rfl rfl (by decide +kernel) ⟨Nat.le_of_ble_eq_true rfl, Nat.le_of_ble_eq_true rfl⟩) ⟨hb1, va_recv hK hP (ci := 2) (q0 := 0) rfl rfl, hp1⟩ rfl rfl hl.1 rfl (lv_room (Nat.le_of_ble_eq_true rfl)) dX2_bestDimension_33 ⟨Nat.le_of_ble_eq_true rfl, Nat.le_of_ble_eq_true rfl⟩) rfl rfl rfl rfl rfl rfl rfl rfl rfl rfl (fun H locs hP hD hS => ?_)
          have hP : va_P D vwCl [(q_this, .inr (2, [.int v_this_dimension, .int v_this_changingRounds, .ref q_this_levels, .ref q_this_levelsBefore, .ref q_this_vectorSets])), (q_this_levels, .inl (k_this_levels, 64, .inl c_this_levels))] H := hP
          have hD : va_D A [(q_this, .inr (2, [.int v_this_dimension, .int v_this_changingRounds, .ref q_this_levels, .ref q_this_levelsBefore, .ref q_this_vectorSets])), (q_this_levels, .inl (k_this_levels, 64, .inl c_this_levels))] := hD
          refine lv_iload hx hb dX2_bestDimension_36 (lv_at hl 4 rfl) ?_
          refine lv_icmp_le (tgt := 56) hx hb dX2_bestDimension_38 (by decide) (fun cd38 => ?_) (fun cd38 => ?_)
          · replace hf := zite_t cd38 hf
            exact j56 i3_8 i4_8 hf H locs ls hP hD hS (lv_sub hl [0, 1, 2, 3, 4, 5] rfl)
          · replace hf := zite_f cd38 hf
            refine lv_iload hx hb dX2_bestDimension_41 (lv_at hl 5 rfl) ?_
            refine lv_istore_n (lv' := [(3, .int i5_8), (0, .ref q_this), (1, .int a1), (2, .int a2), (4, .int i4_8), (5, .int i5_8)]) hx hb dX2_bestDimension_43 rfl hl (by decide) rfl (fun ls hl => ?_)
            refine lv_aload_n hx hb dX2_bestDimension_44 rfl (lv_at hl 1 rfl) ?_
            refine lv_iload_n hx hb dX2_bestDimension_45 rfl (lv_at hl 2 rfl) ?_
            refine lv_iload hx hb dX2_bestDimension_46 (lv_at hl 5 rfl) ?_
            replace hf := zob_some hf
            obtain ⟨u7, hu7, hf⟩ := hf
            refine kd_i (D := D) (v := u7) (av := [.int a1, .int i5_8]) (wc := []) (w1 := []) (ws2 := [(q_this, .inr (2, [.int v_this_dimension, .int v_this_changingRounds, .ref q_this_levels, .ref q_this_levelsBefore, .ref q_this_vectorSets])), (q_this_levels, .inl (k_this_levels, 64, .inl c_this_levels))]) hK hP hD hS hA hE [] [] [0, 1] [0, 1] (fun hb1 hp1 => va_runSN (As := [.int a1, .int i5_8]) (rest := [.ref q_this]) ⟨hx, hb, hml, hown, hts⟩ (c_X6_neighbour l D H.size a1 i5_8 u7 hu7) ⟨va_cnB 2 hts gX2_bestDimension_X6_neighbour_n66 rfl rfl rfl (hE.1 (RX2, 66, yX6_neighbour, RX6) (List.mem_of_getElem? (i := 8) rfl)) (hts (.initialized RX6) (by decide +kernel)) (by decide +kernel) ⟨Nat.le_of_ble_eq_true rfl, Nat.le_of_ble_eq_true rfl⟩, (hts (.static yX6_neighbour) (by decide +kernel)), trivial⟩ ⟨hb1, hp1⟩ rfl rfl hl.1 rfl (lv_room (Nat.le_of_ble_eq_true rfl)) dX2_bestDimension_48 ⟨Nat.le_of_ble_eq_true rfl, Nat.le_of_ble_eq_true rfl⟩) rfl rfl rfl rfl rfl rfl rfl rfl rfl rfl (fun H locs hP hD hS => ?_)
            have hP : va_P D vwCl [(q_this, .inr (2, [.int v_this_dimension, .int v_this_changingRounds, .ref q_this_levels, .ref q_this_levelsBefore, .ref q_this_vectorSets])), (q_this_levels, .inl (k_this_levels, 64, .inl c_this_levels))] H := hP
            have hD : va_D A [(q_this, .inr (2, [.int v_this_dimension, .int v_this_changingRounds, .ref q_this_levels, .ref q_this_levelsBefore, .ref q_this_vectorSets])), (q_this_levels, .inl (k_this_levels, 64, .inl c_this_levels))] := hD
            replace hf := zob_some hf
            obtain ⟨u8, hu8, hf⟩ := hf
            refine kd_i (D := D) (v := u8) (av := [.ref q_this, .int u7]) (wc := [(q_this, .inr (2, [.int v_this_dimension, .int v_this_changingRounds, .ref q_this_levels, .ref q_this_levelsBefore, .ref q_this_vectorSets])), (q_this_levels, .inl (k_this_levels, 64, .inl c_this_levels))]) (w1 := [(q_this, .inr (2, [.int v_this_dimension, .int v_this_changingRounds, .ref q_this_levels, .ref q_this_levelsBefore, .ref q_this_vectorSets])), (q_this_levels, .inl (k_this_levels, 64, .inl c_this_levels))]) (ws2 := [(q_this, .inr (2, [.int v_this_dimension, .int v_this_changingRounds, .ref q_this_levels, .ref q_this_levelsBefore, .ref q_this_vectorSets])), (q_this_levels, .inl (k_this_levels, 64, .inl c_this_levels))]) hK hP hD hS hA hE [0, 1] [0] [] [0, 1] (fun hb1 hp1 => va_runV (As := [.int u7]) (rest := []) ⟨hx, hb, hml, hown, hts⟩ (c_X2_levelOf l D H.size q_this q_this_levels q_this_levelsBefore q_this_vectorSets k_this_levels v_this_dimension v_this_changingRounds c_this_levels u7 u8 hu8) (cwV 1 hts gX2_bestDimension_X2_levelOf rfl rfl rfl (by decide +kernel) ⟨Nat.le_of_ble_eq_true rfl, Nat.le_of_ble_eq_true rfl⟩) ⟨hb1, va_recv hK hP (ci := 2) (q0 := 0) rfl rfl, hp1⟩ rfl rfl hl.1 rfl (lv_room (Nat.le_of_ble_eq_true rfl)) dX2_bestDimension_51 ⟨Nat.le_of_ble_eq_true rfl, Nat.le_of_ble_eq_true rfl⟩) rfl rfl rfl rfl rfl rfl rfl rfl rfl rfl (fun H locs hP hD hS => ?_)
            have hP : va_P D vwCl [(q_this, .inr (2, [.int v_this_dimension, .int v_this_changingRounds, .ref q_this_levels, .ref q_this_levelsBefore, .ref q_this_vectorSets])), (q_this_levels, .inl (k_this_levels, 64, .inl c_this_levels))] H := hP
            have hD : va_D A [(q_this, .inr (2, [.int v_this_dimension, .int v_this_changingRounds, .ref q_this_levels, .ref q_this_levelsBefore, .ref q_this_vectorSets])), (q_this_levels, .inl (k_this_levels, 64, .inl c_this_levels))] := hD
            refine lv_istore (lv' := [(4, .int u8), (3, .int i5_8), (0, .ref q_this), (1, .int a1), (2, .int a2), (5, .int i5_8)]) hx hb dX2_bestDimension_54 hl (by decide) rfl (fun ls hl => ?_)
            exact j56 i5_8 u8 hf H locs ls hP hD hS (lv_sub hl [2, 3, 4, 1, 0, 5] rfl)
  exact h8 zfu x1 x2 0 hf s.heap [] ls hP hD hS (lv_sub hl [3, 4, 5, 2, 1, 0] rfl)
theorem n_X2_startLevels_X2 : ∀ w ∈ u_ws RX2 TX2 5, w ∈ wsX2_startLevels := by decide +kernel
abbrev rm_X2_startLevels : Room := { frames := 1, cells := 0, slots := 0, locals := 22 }
set_option maxHeartbeats 4000000 in
set_option maxRecDepth 100000 in
theorem c_X2_startLevels (l : Launch) (D : va_G) (sz : Nat) (q_this : Nat) (q_this_levels : Nat) (q_this_levelsBefore : Nat) (q_this_vectorSets : Nat) (k_this_levels : ClassId) (v_this_dimension : Int32) (v_this_changingRounds : Int32) (c_this_levels : (Nat → Int32)) (a1 : Int64) (res : rt_X2_startLevels) (hf : f_X2_startLevels a1 v_this_dimension c_this_levels = some res) : Met l yX2_startLevels wsX2_startLevels rm_X2_startLevels (kP D [.ref q_this, .long a1] [(q_this, .inr (2, [.int v_this_dimension, .int v_this_changingRounds, .ref q_this_levels, .ref q_this_levelsBefore, .ref q_this_vectorSets])), (q_this_levels, .inl (k_this_levels, 64, .inl c_this_levels))] [(k_this_levels, .int)] sz) (kQv D (va_A [(q_this, .inr (2, [.int v_this_dimension, .int v_this_changingRounds, .ref q_this_levels, .ref q_this_levelsBefore, .ref q_this_vectorSets])), (q_this_levels, .inl (k_this_levels, 64, .inl c_this_levels))] sz) [(k_this_levels, .int)] [(q_this, .inr (2, [.int v_this_dimension, .int v_this_changingRounds, .ref q_this_levels, .ref q_this_levelsBefore, .ref q_this_vectorSets])), (q_this_levels, .inl (k_this_levels, 64, .inl res))]) 0 0 (va_A [(q_this, .inr (2, [.int v_this_dimension, .int v_this_changingRounds, .ref q_this_levels, .ref q_this_levelsBefore, .ref q_this_vectorSets])), (q_this_levels, .inl (k_this_levels, 64, .inl c_this_levels))] sz) := by
  refine Met.ofW (cc := cX2_startLevels) (maxL := 4) (ret := none) (by decide +kernel) rfl ?_
  intro p e s m args below meth c s₁ B hml hv
  obtain ⟨hargs, hsz, hP, hK, hD0, hE⟩ := hv
  have hx := B.exec
  have hb := B.bytes
  have hr := B.returns
  have hts := atoms_spec (ws := wsX2_startLevels) B.pre
  have hown : s.vm.findClass RX2 = some m.cls := findClass_of_methodNamed B.named
  have hlocks := B.notSynchronized
  subst hsz
  have hD := hD0.self (sz := s.heap.size)
  generalize hAe : va_A [(q_this, .inr (2, [.int v_this_dimension, .int v_this_changingRounds, .ref q_this_levels, .ref q_this_levelsBefore, .ref q_this_vectorSets])), (q_this_levels, .inl (k_this_levels, 64, .inl c_this_levels))] s.heap.size = A at hD hE ⊢
  have hA : ∀ q : Nat, s.heap.size ≤ q → A q := fun q h => by rw [← hAe]; exact Or.inr h
  have hS : va_S A s.heap s.heap [] := va_S.rf
  refine kgen (fun Q eQ => ?_)
  refine kent (av := [.ref q_this, .long a1]) hargs (Nat.le_of_ble_eq_true rfl) (fun ls hl => ?_)
  have hl : lv_has ls 4 [(0, .ref q_this), (1, .long a1)] := hl
  show W p l e rm_X2_startLevels s m args below meth c s.heap [] 0 0 Q (F0 m 0 ls [])
  unfold f_X2_startLevels at hf
  refine lv_iconst (v := 0) hx hb dX2_startLevels_0 (by decide) ?_
  refine lv_istore_n (lv' := [(3, .int 0), (0, .ref q_this), (1, .long a1)]) hx hb dX2_startLevels_1 rfl hl (by decide) rfl (fun ls hl => ?_)
  replace hf := zl2_some hf
  obtain ⟨F2, eF2, hf⟩ := hf
  have h2 : ∀ (n2 : Nat) (i3_2 : Int32) (c_this_levels_2 : (Nat → Int32)), zl2 F2 n2 i3_2 c_this_levels_2 = some res → ∀ (H : Heap) (locs : List Loc) (ls : Array Slot), va_P D vwCl [(q_this, .inr (2, [.int v_this_dimension, .int v_this_changingRounds, .ref q_this_levels, .ref q_this_levelsBefore, .ref q_this_vectorSets])), (q_this_levels, .inl (k_this_levels, 64, .inl c_this_levels_2))] H → va_D A [(q_this, .inr (2, [.int v_this_dimension, .int v_this_changingRounds, .ref q_this_levels, .ref q_this_levelsBefore, .ref q_this_vectorSets])), (q_this_levels, .inl (k_this_levels, 64, .inl c_this_levels_2))] → va_S A s.heap H locs → lv_has ls 4 [(0, .ref q_this), (1, .long a1), (3, .int i3_2)] → W p l e rm_X2_startLevels s m args below meth c H locs 0 0 Q (F0 m 2 ls []) := by
    intro n2
    induction n2 with
    | zero => intro i3_2 c_this_levels_2 hf; exact (zl2_zero hf).elim
    | succ n2 ih2 =>
      intro i3_2 c_this_levels_2 hf H locs ls hP hD hS hl
      replace hf := zl2_step eF2 hf
      generalize zl2 F2 n2 = k2 at hf ih2
      refine lv_iload_n hx hb dX2_startLevels_2 rfl (lv_at hl 2 rfl) ?_
      refine lv_bipush (v := 64) hx hb dX2_startLevels_3 (by decide) ?_
      refine lv_icmp_ge (tgt := 38) hx hb dX2_startLevels_5 (by decide) (fun cd5 => ?_) (fun cd5 => ?_)
      · replace hf := zite_t cd5 hf
        obtain rfl := Option.some.inj hf
        subst eQ
        exact kr_v hx hb hr hlocks hK hP hD hS dX2_startLevels_38
      · replace hf := zite_f cd5 hf
        refine lv_aload_n hx hb dX2_startLevels_8 rfl (lv_at hl 0 rfl) ?_
        refine va_get (D := D) (ci := 2) (v := .ref q_this_levels) (C := RX2) (T := TX2) (N := 5) hx hb hts n_X2_startLevels_X2 hown hK hP 0 rfl rfl 2 (by decide) (hts (.fieldLink RX2 9 "FaultyCube$Safety" "levels" "[I") (by decide +kernel)) (fun _ h9 => h9) rfl dX2_startLevels_9 ?_
        refine lv_iload_n hx hb dX2_startLevels_12 rfl (lv_at hl 2 rfl) ?_
        refine lv_lload_n hx hb dX2_startLevels_13 rfl (lv_at hl 1 rfl) ?_
        refine lv_iload_n hx hb dX2_startLevels_14 rfl (lv_at hl 2 rfl) ?_
        replace hf := zob_some hf
        obtain ⟨u1, hu1, hf⟩ := hf
        refine kd_i (D := D) (v := u1) (av := [.long a1, .int i3_2]) (wc := []) (w1 := []) (ws2 := [(q_this, .inr (2, [.int v_this_dimension, .int v_this_changingRounds, .ref q_this_levels, .ref q_this_levelsBefore, .ref q_this_vectorSets])), (q_this_levels, .inl (k_this_levels, 64, .inl c_this_levels_2))]) hK hP hD hS hA hE [] [] [0, 1] [0, 1] (fun hb1 hp1 => va_runSN (As := [.long a1, .int i3_2]) (rest := [.int i3_2, .ref q_this_levels]) ⟨hx, hb, hml, hown, hts⟩ (c_X6_contains l D H.size a1 i3_2 u1 hu1) ⟨va_cnB 2 hts gX2_startLevels_X6_contains_n40 rfl rfl rfl (hE.1 (RX2, 40, yX6_contains, RX6) (List.mem_of_getElem? (i := 6) rfl)) (hts (.initialized RX6) (by decide +kernel)) (by decide +kernel) ⟨Nat.le_of_ble_eq_true rfl, Nat.le_of_ble_eq_true rfl⟩, (hts (.static yX6_contains) (by decide +kernel)), trivial⟩ ⟨hb1, hp1⟩ rfl rfl hl.1 rfl (lv_room (Nat.le_of_ble_eq_true rfl)) dX2_startLevels_15 ⟨Nat.le_of_ble_eq_true rfl, Nat.le_of_ble_eq_true rfl⟩) rfl rfl rfl rfl rfl rfl rfl rfl rfl rfl (fun H locs hP hD hS => ?_)
        have hP : va_P D vwCl [(q_this, .inr (2, [.int v_this_dimension, .int v_this_changingRounds, .ref q_this_levels, .ref q_this_levelsBefore, .ref q_this_vectorSets])), (q_this_levels, .inl (k_this_levels, 64, .inl c_this_levels_2))] H := hP
        have hD : va_D A [(q_this, .inr (2, [.int v_this_dimension, .int v_this_changingRounds, .ref q_this_levels, .ref q_this_levelsBefore, .ref q_this_vectorSets])), (q_this_levels, .inl (k_this_levels, 64, .inl c_this_levels_2))] := hD
        replace hf := zjp_some hf
        obtain ⟨K29, eK29, hf⟩ := hf
        have j29 : ∀ (s1_29 : Int32) (s2_29 : Int32), K29 s1_29 s2_29 = some res → ∀ (H : Heap) (locs : List Loc) (ls : Array Slot), va_P D vwCl [(q_this, .inr (2, [.int v_this_dimension, .int v_this_changingRounds, .ref q_this_levels, .ref q_this_levelsBefore, .ref q_this_vectorSets])), (q_this_levels, .inl (k_this_levels, 64, .inl c_this_levels_2))] H → va_D A [(q_this, .inr (2, [.int v_this_dimension, .int v_this_changingRounds, .ref q_this_levels, .ref q_this_levelsBefore, .ref q_this_vectorSets])), (q_this_levels, .inl (k_this_levels, 64, .inl c_this_levels_2))] → va_S A s.heap H locs → lv_has ls 4 [(0, .ref q_this), (1, .long a1), (3, .int i3_2)] → W p l e rm_X2_startLevels s m args below meth c H locs 0 0 Q (F0 m 29 ls [.int s2_29, .int s1_29, .ref q_this_levels]) := by
          intro s1_29 s2_29 hf H locs ls hP hD hS hl
          replace hf := zap2 eK29 hf
          replace hf := zob_some hf
          obtain ⟨u2, hu2, hf⟩ := hf
          refine kd_v (D := D) (av := [.ref q_this_levels, .int s1_29, .int s2_29]) (wc := [(q_this_levels, .inl (k_this_levels, 64, .inl c_this_levels_2))]) (w1 := [(q_this_levels, .inl (k_this_levels, 64, .inl u2))]) (ws2 := [(q_this, .inr (2, [.int v_this_dimension, .int v_this_changingRounds, .ref q_this_levels, .ref q_this_levelsBefore, .ref q_this_vectorSets])), (q_this_levels, .inl (k_this_levels, 64, .inl u2))]) hK hP hD hS hA hE [1] [0] [0] [0, 1] (fun hb1 hp1 => va_runSN (As := [.ref q_this_levels, .int s1_29, .int s2_29]) (rest := []) ⟨hx, hb, hml, hown, hts⟩ (c_X6_write l D H.size q_this_levels k_this_levels 64 c_this_levels_2 s1_29 s2_29 u2 hu2) ⟨va_cnB 3 hts gX2_startLevels_X6_write_n44 rfl rfl rfl (hE.1 (RX2, 44, yX6_write, RX6) (List.mem_of_getElem? (i := 7) rfl)) (hts (.initialized RX6) (by decide +kernel)) (by decide +kernel) ⟨Nat.le_of_ble_eq_true rfl, Nat.le_of_ble_eq_true rfl⟩, (hts (.static yX6_write) (by decide +kernel)), trivial⟩ ⟨hb1, hp1⟩ rfl rfl hl.1 rfl (lv_room (Nat.le_of_ble_eq_true rfl)) dX2_startLevels_29 ⟨Nat.le_of_ble_eq_true rfl, Nat.le_of_ble_eq_true rfl⟩) rfl rfl rfl rfl rfl rfl rfl rfl rfl rfl (fun H locs hP hD hS => ?_)
          have hP : va_P D vwCl [(q_this, .inr (2, [.int v_this_dimension, .int v_this_changingRounds, .ref q_this_levels, .ref q_this_levelsBefore, .ref q_this_vectorSets])), (q_this_levels, .inl (k_this_levels, 64, .inl u2))] H := hP
          have hD : va_D A [(q_this, .inr (2, [.int v_this_dimension, .int v_this_changingRounds, .ref q_this_levels, .ref q_this_levelsBefore, .ref q_this_vectorSets])), (q_this_levels, .inl (k_this_levels, 64, .inl u2))] := hD
          obtain ⟨x3, ex3⟩ : ∃ y : Int32, y = i3_2 + 1 := ⟨_, rfl⟩
          replace hf := zbd_of ex3 hf
          refine lv_iinc (v := x3) (lv' := [(3, .int x3), (0, .ref q_this), (1, .long a1)]) hx hb dX2_startLevels_32 hl (k := 2) rfl (by rw [ex3]; rfl) (by decide) rfl (fun ls hl => ?_)
          refine lv_goto (tgt := 2) hx hb dX2_startLevels_35 (by decide) ?_
          exact ih2 x3 u2 hf H locs ls hP hD hS (lv_sub hl [1, 2, 0] rfl)
        refine lv_if_eq (tgt := 28) hx hb dX2_startLevels_18 (by decide) (fun cd18 => ?_) (fun cd18 => ?_)
        · replace hf := zite_t cd18 hf
          refine lv_iconst (v := 0) hx hb dX2_startLevels_28 (by decide) ?_
          exact j29 i3_2 0 hf H locs ls hP hD hS (lv_sub hl [0, 1, 2] rfl)
        · replace hf := zite_f cd18 hf
          refine lv_aload_n hx hb dX2_startLevels_21 rfl (lv_at hl 0 rfl) ?_
          refine va_get (D := D) (ci := 2) (v := .int v_this_dimension) (C := RX2) (T := TX2) (N := 5) hx hb hts n_X2_startLevels_X2 hown hK hP 0 rfl rfl 0 (by decide) (hts (.fieldLink RX2 22 "FaultyCube$Safety" "dimension" "I") (by decide +kernel)) (fun _ h9 => h9) rfl dX2_startLevels_22 ?_
          refine lv_goto (tgt := 29) hx hb dX2_startLevels_25 (by decide) ?_
          exact j29 i3_2 v_this_dimension hf H locs ls hP hD hS (lv_sub hl [0, 1, 2] rfl)
  exact h2 zfu 0 c_this_levels hf s.heap [] ls hP hD hS (lv_sub hl [1, 2, 0] rfl)
theorem n_X2_withNeighboursAbove_X2 : ∀ w ∈ u_ws RX2 TX2 5, w ∈ wsX2_withNeighboursAbove := by decide +kernel
abbrev rm_X2_withNeighboursAbove : Room := { frames := 1, cells := 0, slots := 0, locals := 22 }
set_option maxHeartbeats 4000000 in
set_option maxRecDepth 100000 in
theorem c_X2_withNeighboursAbove (l : Launch) (D : va_G) (sz : Nat) (q_this : Nat) (q_this_levels : Nat) (q_this_levelsBefore : Nat) (q_this_vectorSets : Nat) (v_this_dimension : Int32) (v_this_changingRounds : Int32) (a1 : Int64) (a3 : Int32) (res : rt_X2_withNeighboursAbove) (hf : f_X2_withNeighboursAbove a1 a3 v_this_dimension = some res) : Met l yX2_withNeighboursAbove wsX2_withNeighboursAbove rm_X2_withNeighboursAbove (kP D [.ref q_this, .long a1, .int a3] [(q_this, .inr (2, [.int v_this_dimension, .int v_this_changingRounds, .ref q_this_levels, .ref q_this_levelsBefore, .ref q_this_vectorSets]))] [] sz) (kQl D (va_A [(q_this, .inr (2, [.int v_this_dimension, .int v_this_changingRounds, .ref q_this_levels, .ref q_this_levelsBefore, .ref q_this_vectorSets]))] sz) [] res [(q_this, .inr (2, [.int v_this_dimension, .int v_this_changingRounds, .ref q_this_levels, .ref q_this_levelsBefore, .ref q_this_vectorSets]))]) 0 0 (va_A [(q_this, .inr (2, [.int v_this_dimension, .int v_this_changingRounds, .ref q_this_levels, .ref q_this_levelsBefore, .ref q_this_vectorSets]))] sz) := by
  refine Met.ofW (cc := cX2_withNeighboursAbove) (maxL := 9) (ret := (some .long)) (by decide +kernel) rfl ?_
  intro p e s m args below meth c s₁ B hml hv
  obtain ⟨hargs, hsz, hP, hK, hD0, hE⟩ := hv
  have hx := B.exec
  have hb := B.bytes
  have hr := B.returns
  have hts := atoms_spec (ws := wsX2_withNeighboursAbove) B.pre
  have hown : s.vm.findClass RX2 = some m.cls := findClass_of_methodNamed B.named
  have hlocks := B.notSynchronized
  subst hsz
  have hD := hD0.self (sz := s.heap.size)
  generalize hAe : va_A [(q_this, .inr (2, [.int v_this_dimension, .int v_this_changingRounds, .ref q_this_levels, .ref q_this_levelsBefore, .ref q_this_vectorSets]))] s.heap.size = A at hD hE ⊢
  have hA : ∀ q : Nat, s.heap.size ≤ q → A q := fun q h => by rw [← hAe]; exact Or.inr h
  have hS : va_S A s.heap s.heap [] := va_S.rf
  refine kgen (fun Q eQ => ?_)
  refine kent (av := [.ref q_this, .long a1, .int a3]) hargs (Nat.le_of_ble_eq_true rfl) (fun ls hl => ?_)
  have hl : lv_has ls 9 [(0, .ref q_this), (1, .long a1), (3, .int a3)] := hl
  show W p l e rm_X2_withNeighboursAbove s m args below meth c s.heap [] 0 0 Q (F0 m 0 ls [])
  unfold f_X2_withNeighboursAbove at hf
  refine lv_lconst (v := 0) hx hb dX2_withNeighboursAbove_0 (by decide) ?_
  refine lv_lstore (lv' := [(4, .long 0), (0, .ref q_this), (1, .long a1), (3, .int a3)]) hx hb dX2_withNeighboursAbove_1 hl (by decide) rfl (fun ls hl => ?_)
  refine lv_iconst (v := 0) hx hb dX2_withNeighboursAbove_3 (by decide) ?_
  refine lv_istore (lv' := [(6, .int 0), (4, .long 0), (0, .ref q_this), (1, .long a1), (3, .int a3)]) hx hb dX2_withNeighboursAbove_4 hl (by decide) rfl (fun ls hl => ?_)
  replace hf := zl2_some hf
  obtain ⟨F6, eF6, hf⟩ := hf
  have h6 : ∀ (n6 : Nat) (i4_6 : Int64) (i6_6 : Int32), zl2 F6 n6 i4_6 i6_6 = some res → ∀ (H : Heap) (locs : List Loc) (ls : Array Slot), va_P D vwCl [(q_this, .inr (2, [.int v_this_dimension, .int v_this_changingRounds, .ref q_this_levels, .ref q_this_levelsBefore, .ref q_this_vectorSets]))] H → va_D A [(q_this, .inr (2, [.int v_this_dimension, .int v_this_changingRounds, .ref q_this_levels, .ref q_this_levelsBefore, .ref q_this_vectorSets]))] → va_S A s.heap H locs → lv_has ls 9 [(0, .ref q_this), (1, .long a1), (3, .int a3), (4, .long i4_6), (6, .int i6_6)] → W p l e rm_X2_withNeighboursAbove s m args below meth c H locs 0 0 Q (F0 m 6 ls []) := by
    intro n6
    induction n6 with
    | zero => intro i4_6 i6_6 hf; exact (zl2_zero hf).elim
    | succ n6 ih6 =>
      intro i4_6 i6_6 hf H locs ls hP hD hS hl
      replace hf := zl2_step eF6 hf
      generalize zl2 F6 n6 = k6 at hf ih6
      refine lv_iload hx hb dX2_withNeighboursAbove_6 (lv_at hl 4 rfl) ?_
      refine lv_bipush (v := 64) hx hb dX2_withNeighboursAbove_8 (by decide) ?_
      refine lv_icmp_ge (tgt := 72) hx hb dX2_withNeighboursAbove_10 (by decide) (fun cd10 => ?_) (fun cd10 => ?_)
      · replace hf := zite_t cd10 hf
        refine lv_lload hx hb dX2_withNeighboursAbove_72 (lv_at hl 3 rfl) ?_
        obtain rfl := Option.some.inj hf
        subst eQ
        exact kr_l hx hb hr hlocks hK hP hD hS dX2_withNeighboursAbove_74
      · replace hf := zite_f cd10 hf
        refine lv_iconst (v := 0) hx hb dX2_withNeighboursAbove_13 (by decide) ?_
        refine lv_istore (lv' := [(7, .int 0), (0, .ref q_this), (1, .long a1), (3, .int a3), (4, .long i4_6), (6, .int i6_6)]) hx hb dX2_withNeighboursAbove_14 hl (by decide) rfl (fun ls hl => ?_)
        refine lv_iconst (v := 0) hx hb dX2_withNeighboursAbove_16 (by decide) ?_
        refine lv_istore (lv' := [(8, .int 0), (7, .int 0), (0, .ref q_this), (1, .long a1), (3, .int a3), (4, .long i4_6), (6, .int i6_6)]) hx hb dX2_withNeighboursAbove_17 hl (by decide) rfl (fun ls hl => ?_)
        replace hf := zl2_some hf
        obtain ⟨F19, eF19, hf⟩ := hf
        have h19 : ∀ (n19 : Nat) (i7_19 : Int32) (i8_19 : Int32), zl2 F19 n19 i7_19 i8_19 = some res → ∀ (H : Heap) (locs : List Loc) (ls : Array Slot), va_P D vwCl [(q_this, .inr (2, [.int v_this_dimension, .int v_this_changingRounds, .ref q_this_levels, .ref q_this_levelsBefore, .ref q_this_vectorSets]))] H → va_D A [(q_this, .inr (2, [.int v_this_dimension, .int v_this_changingRounds, .ref q_this_levels, .ref q_this_levelsBefore, .ref q_this_vectorSets]))] → va_S A s.heap H locs → lv_has ls 9 [(0, .ref q_this), (1, .long a1), (3, .int a3), (4, .long i4_6), (6, .int i6_6), (7, .int i7_19), (8, .int i8_19)] → W p l e rm_X2_withNeighboursAbove s m args below meth c H locs 0 0 Q (F0 m 19 ls []) := by
          intro n19
          induction n19 with
          | zero => intro i7_19 i8_19 hf; exact (zl2_zero hf).elim
          | succ n19 ih19 =>
            intro i7_19 i8_19 hf H locs ls hP hD hS hl
            replace hf := zl2_step eF19 hf
            generalize zl2 F19 n19 = k19 at hf ih19
            refine lv_iload hx hb dX2_withNeighboursAbove_19 (lv_at hl 6 rfl) ?_
            refine lv_aload_n hx hb dX2_withNeighboursAbove_21 rfl (lv_at hl 0 rfl) ?_
            refine va_get (D := D) (ci := 2) (v := .int v_this_dimension) (C := RX2) (T := TX2) (N := 5) hx hb hts n_X2_withNeighboursAbove_X2 hown hK hP 0 rfl rfl 0 (by decide) (hts (.fieldLink RX2 22 "FaultyCube$Safety" "dimension" "I") (by decide +kernel)) (fun _ h9 => h9) rfl dX2_withNeighboursAbove_22 ?_
            refine lv_icmp_ge (tgt := 51) hx hb dX2_withNeighboursAbove_25 (by decide) (fun cd25 => ?_) (fun cd25 => ?_)
            · replace hf := zite_t cd25 hf
              refine lv_iload hx hb dX2_withNeighboursAbove_51 (lv_at hl 5 rfl) ?_
              refine lv_iload_n hx hb dX2_withNeighboursAbove_53 rfl (lv_at hl 2 rfl) ?_
              replace hf := zjp_some hf
              obtain ⟨K66, eK66, hf⟩ := hf
              have j66 : ∀ (i4_66 : Int64), K66 i4_66 = some res → ∀ (H : Heap) (locs : List Loc) (ls : Array Slot), va_P D vwCl [(q_this, .inr (2, [.int v_this_dimension, .int v_this_changingRounds, .ref q_this_levels, .ref q_this_levelsBefore, .ref q_this_vectorSets]))] H → va_D A [(q_this, .inr (2, [.int v_this_dimension, .int v_this_changingRounds, .ref q_this_levels, .ref q_this_levelsBefore, .ref q_this_vectorSets]))] → va_S A s.heap H locs → lv_has ls 9 [(0, .ref q_this), (1, .long a1), (3, .int a3), (4, .long i4_66), (6, .int i6_6)] → W p l e rm_X2_withNeighboursAbove s m args below meth c H locs 0 0 Q (F0 m 66 ls []) := by
                intro i4_66 hf H locs ls hP hD hS hl
                replace hf := zap1 eK66 hf
                obtain ⟨x1, ex1⟩ : ∃ y : Int32, y = i6_6 + 1 := ⟨_, rfl⟩
                replace hf := zbd_of ex1 hf
                refine lv_iinc (v := x1) (lv' := [(6, .int x1), (0, .ref q_this), (1, .long a1), (3, .int a3), (4, .long i4_66)]) hx hb dX2_withNeighboursAbove_66 hl (k := 4) rfl (by rw [ex1]; rfl) (by decide) rfl (fun ls hl => ?_)
                refine lv_goto (tgt := 6) hx hb dX2_withNeighboursAbove_69 (by decide) ?_
                exact ih6 i4_66 x1 hf H locs ls hP hD hS (lv_sub hl [1, 2, 3, 4, 0] rfl)
              refine lv_icmp_le (tgt := 66) hx hb dX2_withNeighboursAbove_54 (by decide) (fun cd54 => ?_) (fun cd54 => ?_)
              · replace hf := zite_t cd54 hf
                exact j66 i4_6 hf H locs ls hP hD hS (lv_sub hl [0, 1, 2, 3, 4] rfl)
              · replace hf := zite_f cd54 hf
                refine lv_lload hx hb dX2_withNeighboursAbove_57 (lv_at hl 3 rfl) ?_
                refine lv_lconst (v := 1) hx hb dX2_withNeighboursAbove_59 (by decide) ?_
                refine lv_iload hx hb dX2_withNeighboursAbove_60 (lv_at hl 4 rfl) ?_
                refine lv_lshl (v := j_lshl 1 i6_6) hx hb dX2_withNeighboursAbove_62 rfl ?_
                refine lv_lor hx hb dX2_withNeighboursAbove_63 ?_
                refine lv_topl (fun x2 ex2 => ?_)
                replace hf := zbd_of ex2 hf
                refine lv_lstore (lv' := [(4, .long x2), (0, .ref q_this), (1, .long a1), (3, .int a3), (6, .int i6_6), (7, .int i7_19), (8, .int i8_19)]) hx hb dX2_withNeighboursAbove_64 hl (by decide) rfl (fun ls hl => ?_)
                exact j66 x2 hf H locs ls hP hD hS (lv_sub hl [1, 2, 3, 0, 4] rfl)
            · replace hf := zite_f cd25 hf
              refine lv_lload_n hx hb dX2_withNeighboursAbove_28 rfl (lv_at hl 1 rfl) ?_
              refine lv_iload hx hb dX2_withNeighboursAbove_29 (lv_at hl 4 rfl) ?_
              refine lv_iload hx hb dX2_withNeighboursAbove_31 (lv_at hl 6 rfl) ?_
              replace hf := zob_some hf
              obtain ⟨u3, hu3, hf⟩ := hf
              refine kd_i (D := D) (v := u3) (av := [.int i6_6, .int i8_19]) (wc := []) (w1 := []) (ws2 := [(q_this, .inr (2, [.int v_this_dimension, .int v_this_changingRounds, .ref q_this_levels, .ref q_this_levelsBefore, .ref q_this_vectorSets]))]) hK hP hD hS hA hE [] [] [0] [0] (fun hb1 hp1 => va_runSN (As := [.int i6_6, .int i8_19]) (rest := [.long a1]) ⟨hx, hb, hml, hown, hts⟩ (c_X6_neighbour l D H.size i6_6 i8_19 u3 hu3) ⟨va_cnB 2 hts gX2_withNeighboursAbove_X6_neighbour_n66 rfl rfl rfl (hE.1 (RX2, 66, yX6_neighbour, RX6) (List.mem_of_getElem? (i := 8) rfl)) (hts (.initialized RX6) (by decide +kernel)) (by decide +kernel) ⟨Nat.le_of_ble_eq_true rfl, Nat.le_of_ble_eq_true rfl⟩, (hts (.static yX6_neighbour) (by decide +kernel)), trivial⟩ ⟨hb1, hp1⟩ rfl rfl hl.1 rfl (lv_room (Nat.le_of_ble_eq_true rfl)) dX2_withNeighboursAbove_33 ⟨Nat.le_of_ble_eq_true rfl, Nat.le_of_ble_eq_true rfl⟩) rfl rfl rfl rfl rfl rfl rfl rfl rfl rfl (fun H locs hP hD hS => ?_)
              have hP : va_P D vwCl [(q_this, .inr (2, [.int v_this_dimension, .int v_this_changingRounds, .ref q_this_levels, .ref q_this_levelsBefore, .ref q_this_vectorSets]))] H := hP
              have hD : va_D A [(q_this, .inr (2, [.int v_this_dimension, .int v_this_changingRounds, .ref q_this_levels, .ref q_this_levelsBefore, .ref q_this_vectorSets]))] := hD
              replace hf := zob_some hf
              obtain ⟨u4, hu4, hf⟩ := hf
              refine kd_i (D := D) (v := u4) (av := [.long a1, .int u3]) (wc := []) (w1 := []) (ws2 := [(q_this, .inr (2, [.int v_this_dimension, .int v_this_changingRounds, .ref q_this_levels, .ref q_this_levelsBefore, .ref q_this_vectorSets]))]) hK hP hD hS hA hE [] [] [0] [0] (fun hb1 hp1 => va_runSN (As := [.long a1, .int u3]) (rest := []) ⟨hx, hb, hml, hown, hts⟩ (c_X6_contains l D H.size a1 u3 u4 hu4) ⟨va_cnB 2 hts gX2_withNeighboursAbove_X6_contains_n40 rfl rfl rfl (hE.1 (RX2, 40, yX6_contains, RX6) (List.mem_of_getElem? (i := 6) rfl)) (hts (.initialized RX6) (by decide +kernel)) (by decide +kernel) ⟨Nat.le_of_ble_eq_true rfl, Nat.le_of_ble_eq_true rfl⟩, (hts (.static yX6_contains) (by decide +kernel)), trivial⟩ ⟨hb1, hp1⟩ rfl rfl hl.1 rfl (lv_room (Nat.le_of_ble_eq_true rfl)) dX2_withNeighboursAbove_36 ⟨Nat.le_of_ble_eq_true rfl, Nat.le_of_ble_eq_true rfl⟩) rfl rfl rfl rfl rfl rfl rfl rfl rfl rfl (fun H locs hP hD hS => ?_)
              have hP : va_P D vwCl [(q_this, .inr (2, [.int v_this_dimension, .int v_this_changingRounds, .ref q_this_levels, .ref q_this_levelsBefore, .ref q_this_vectorSets]))] H := hP
              have hD : va_D A [(q_this, .inr (2, [.int v_this_dimension, .int v_this_changingRounds, .ref q_this_levels, .ref q_this_levelsBefore, .ref q_this_vectorSets]))] := hD
              replace hf := zjp_some hf
              obtain ⟨K45, eK45, hf⟩ := hf
              have j45 : ∀ (i7_45 : Int32), K45 i7_45 = some res → ∀ (H : Heap) (locs : List Loc) (ls : Array Slot), va_P D vwCl [(q_this, .inr (2, [.int v_this_dimension, .int v_this_changingRounds, .ref q_this_levels, .ref q_this_levelsBefore, .ref q_this_vectorSets]))] H → va_D A [(q_this, .inr (2, [.int v_this_dimension, .int v_this_changingRounds, .ref q_this_levels, .ref q_this_levelsBefore, .ref q_this_vectorSets]))] → va_S A s.heap H locs → lv_has ls 9 [(0, .ref q_this), (1, .long a1), (3, .int a3), (4, .long i4_6), (6, .int i6_6), (7, .int i7_45), (8, .int i8_19)] → W p l e rm_X2_withNeighboursAbove s m args below meth c H locs 0 0 Q (F0 m 45 ls []) := by
                intro i7_45 hf H locs ls hP hD hS hl
                replace hf := zap1 eK45 hf
                obtain ⟨x5, ex5⟩ : ∃ y : Int32, y = i8_19 + 1 := ⟨_, rfl⟩
                replace hf := zbd_of ex5 hf
                refine lv_iinc (v := x5) (lv' := [(8, .int x5), (0, .ref q_this), (1, .long a1), (3, .int a3), (4, .long i4_6), (6, .int i6_6), (7, .int i7_45)]) hx hb dX2_withNeighboursAbove_45 hl (k := 6) rfl (by rw [ex5]; rfl) (by decide) rfl (fun ls hl => ?_)
                refine lv_goto (tgt := 19) hx hb dX2_withNeighboursAbove_48 (by decide) ?_
                exact ih19 i7_45 x5 hf H locs ls hP hD hS (lv_sub hl [1, 2, 3, 4, 5, 6, 0] rfl)
              refine lv_if_eq (tgt := 45) hx hb dX2_withNeighboursAbove_39 (by decide) (fun cd39 => ?_) (fun cd39 => ?_)
              · replace hf := zite_t cd39 hf
                exact j45 i7_19 hf H locs ls hP hD hS (lv_sub hl [0, 1, 2, 3, 4, 5, 6] rfl)
              · replace hf := zite_f cd39 hf
                obtain ⟨x6, ex6⟩ : ∃ y : Int32, y = i7_19 + 1 := ⟨_, rfl⟩
                replace hf := zbd_of ex6 hf
                refine lv_iinc (v := x6) (lv' := [(7, .int x6), (0, .ref q_this), (1, .long a1), (3, .int a3), (4, .long i4_6), (6, .int i6_6), (8, .int i8_19)]) hx hb dX2_withNeighboursAbove_42 hl (k := 5) rfl (by rw [ex6]; rfl) (by decide) rfl (fun ls hl => ?_)
                exact j45 x6 hf H locs ls hP hD hS (lv_sub hl [1, 2, 3, 4, 5, 0, 6] rfl)
        exact h19 zfu 0 0 hf H locs ls hP hD hS (lv_sub hl [2, 3, 4, 5, 6, 1, 0] rfl)
  exact h6 zfu 0 0 hf s.heap [] ls hP hD hS (lv_sub hl [2, 3, 4, 1, 0] rfl)
theorem n_X2_findVectors_X2 : ∀ w ∈ u_ws RX2 TX2 5, w ∈ wsX2_findVectors := by decide +kernel
abbrev rm_X2_findVectors : Room := { frames := 2, cells := 0, slots := 0, locals := 50 }
set_option maxHeartbeats 4000000 in
set_option maxRecDepth 100000 in
theorem c_X2_findVectors (l : Launch) (D : va_G) (sz : Nat) (q_this : Nat) (q_this_levels : Nat) (q_this_levelsBefore : Nat) (q_this_vectorSets : Nat) (k_this_vectorSets : ClassId) (v_this_dimension : Int32) (v_this_changingRounds : Int32) (c_this_vectorSets : (Nat → Int64)) (a1 : Int64) (res : rt_X2_findVectors) (hf : f_X2_findVectors a1 v_this_dimension c_this_vectorSets = some res) : Met l yX2_findVectors wsX2_findVectors rm_X2_findVectors (kP D [.ref q_this, .long a1] [(q_this, .inr (2, [.int v_this_dimension, .int v_this_changingRounds, .ref q_this_levels, .ref q_this_levelsBefore, .ref q_this_vectorSets])), (q_this_vectorSets, .inl (k_this_vectorSets, 7, .inr (.inl c_this_vectorSets)))] [(k_this_vectorSets, .long)] sz) (kQv D (va_A [(q_this, .inr (2, [.int v_this_dimension, .int v_this_changingRounds, .ref q_this_levels, .ref q_this_levelsBefore, .ref q_this_vectorSets])), (q_this_vectorSets, .inl (k_this_vectorSets, 7, .inr (.inl c_this_vectorSets)))] sz) [(k_this_vectorSets, .long)] [(q_this, .inr (2, [.int v_this_dimension, .int v_this_changingRounds, .ref q_this_levels, .ref q_this_levelsBefore, .ref q_this_vectorSets])), (q_this_vectorSets, .inl (k_this_vectorSets, 7, .inr (.inl res)))]) 0 0 (va_A [(q_this, .inr (2, [.int v_this_dimension, .int v_this_changingRounds, .ref q_this_levels, .ref q_this_levelsBefore, .ref q_this_vectorSets])), (q_this_vectorSets, .inl (k_this_vectorSets, 7, .inr (.inl c_this_vectorSets)))] sz) := by
  refine Met.ofW (cc := cX2_findVectors) (maxL := 6) (ret := none) (by decide +kernel) rfl ?_
  intro p e s m args below meth c s₁ B hml hv
  obtain ⟨hargs, hsz, hP, hK, hD0, hE⟩ := hv
  have hx := B.exec
  have hb := B.bytes
  have hr := B.returns
  have hts := atoms_spec (ws := wsX2_findVectors) B.pre
  have hown : s.vm.findClass RX2 = some m.cls := findClass_of_methodNamed B.named
  have hlocks := B.notSynchronized
  subst hsz
  have hD := hD0.self (sz := s.heap.size)
  generalize hAe : va_A [(q_this, .inr (2, [.int v_this_dimension, .int v_this_changingRounds, .ref q_this_levels, .ref q_this_levelsBefore, .ref q_this_vectorSets])), (q_this_vectorSets, .inl (k_this_vectorSets, 7, .inr (.inl c_this_vectorSets)))] s.heap.size = A at hD hE ⊢
  have hA : ∀ q : Nat, s.heap.size ≤ q → A q := fun q h => by rw [← hAe]; exact Or.inr h
  have hS : va_S A s.heap s.heap [] := va_S.rf
  refine kgen (fun Q eQ => ?_)
  refine kent (av := [.ref q_this, .long a1]) hargs (Nat.le_of_ble_eq_true rfl) (fun ls hl => ?_)
  have hl : lv_has ls 6 [(0, .ref q_this), (1, .long a1)] := hl
  show W p l e rm_X2_findVectors s m args below meth c s.heap [] 0 0 Q (F0 m 0 ls [])
  unfold f_X2_findVectors at hf
  refine lv_aload_n hx hb dX2_findVectors_0 rfl (lv_at hl 0 rfl) ?_
  refine va_get (D := D) (ci := 2) (v := .ref q_this_vectorSets) (C := RX2) (T := TX2) (N := 5) hx hb hts n_X2_findVectors_X2 hown hK hP 0 rfl rfl 4 (by decide) (hts (.fieldLink RX2 18 "FaultyCube$Safety" "vectorSets" "[J") (by decide +kernel)) (fun _ h9 => h9) rfl dX2_findVectors_1 ?_
  refine lv_lconst (v := 0) hx hb dX2_findVectors_4 (by decide) ?_
  replace hf := zob_some hf
  obtain ⟨u1, hu1, hf⟩ := hf
  refine kd_v (D := D) (av := [.ref q_this_vectorSets, .long 0]) (wc := [(q_this_vectorSets, .inl (k_this_vectorSets, 7, .inr (.inl c_this_vectorSets)))]) (w1 := [(q_this_vectorSets, .inl (k_this_vectorSets, 7, .inr (.inl u1)))]) (ws2 := [(q_this, .inr (2, [.int v_this_dimension, .int v_this_changingRounds, .ref q_this_levels, .ref q_this_levelsBefore, .ref q_this_vectorSets])), (q_this_vectorSets, .inl (k_this_vectorSets, 7, .inr (.inl u1)))]) hK hP hD hS hA hE [1] [0] [0] [0, 1] (fun hb1 hp1 => va_runS (As := [.ref q_this_vectorSets, .long 0]) (rest := []) ⟨hx, hb, hml, hown, hts⟩ (c_J7_fill_d0a16 l D s.heap.size q_this_vectorSets k_this_vectorSets 7 c_this_vectorSets 0 u1 hu1) (va_cwS 2 hts gX2_findVectors_J7_fill_d0a16 rfl rfl rfl (by decide +kernel) ⟨Nat.le_of_ble_eq_true rfl, Nat.le_of_ble_eq_true rfl⟩) ⟨hb1, hp1⟩ rfl rfl hl.1 rfl (lv_room (Nat.le_of_ble_eq_true rfl)) dX2_findVectors_5 ⟨Nat.le_of_ble_eq_true rfl, Nat.le_of_ble_eq_true rfl⟩) rfl rfl rfl rfl rfl rfl rfl rfl rfl rfl (fun H locs hP hD hS => ?_)
  have hP : va_P D vwCl [(q_this, .inr (2, [.int v_this_dimension, .int v_this_changingRounds, .ref q_this_levels, .ref q_this_levelsBefore, .ref q_this_vectorSets])), (q_this_vectorSets, .inl (k_this_vectorSets, 7, .inr (.inl u1)))] H := hP
  have hD : va_D A [(q_this, .inr (2, [.int v_this_dimension, .int v_this_changingRounds, .ref q_this_levels, .ref q_this_levelsBefore, .ref q_this_vectorSets])), (q_this_vectorSets, .inl (k_this_vectorSets, 7, .inr (.inl u1)))] := hD
  refine lv_lload_n hx hb dX2_findVectors_8 rfl (lv_at hl 1 rfl) ?_
  refine lv_lstore_n (lv' := [(3, .long a1), (0, .ref q_this), (1, .long a1)]) hx hb dX2_findVectors_9 rfl hl (by decide) rfl (fun ls hl => ?_)
  refine lv_iconst (v := 1) hx hb dX2_findVectors_10 (by decide) ?_
  refine lv_istore (lv' := [(5, .int 1), (3, .long a1), (0, .ref q_this), (1, .long a1)]) hx hb dX2_findVectors_11 hl (by decide) rfl (fun ls hl => ?_)
  replace hf := zl3_some hf
  obtain ⟨F13, eF13, hf⟩ := hf
  have h13 : ∀ (n13 : Nat) (i3_13 : Int64) (i5_13 : Int32) (c_this_vectorSets_13 : (Nat → Int64)), zl3 F13 n13 i3_13 i5_13 c_this_vectorSets_13 = some res → ∀ (H : Heap) (locs : List Loc) (ls : Array Slot), va_P D vwCl [(q_this, .inr (2, [.int v_this_dimension, .int v_this_changingRounds, .ref q_this_levels, .ref q_this_levelsBefore, .ref q_this_vectorSets])), (q_this_vectorSets, .inl (k_this_vectorSets, 7, .inr (.inl c_this_vectorSets_13)))] H → va_D A [(q_this, .inr (2, [.int v_this_dimension, .int v_this_changingRounds, .ref q_this_levels, .ref q_this_levelsBefore, .ref q_this_vectorSets])), (q_this_vectorSets, .inl (k_this_vectorSets, 7, .inr (.inl c_this_vectorSets_13)))] → va_S A s.heap H locs → lv_has ls 6 [(0, .ref q_this), (1, .long a1), (3, .long i3_13), (5, .int i5_13)] → W p l e rm_X2_findVectors s m args below meth c H locs 0 0 Q (F0 m 13 ls []) := by
    intro n13
    induction n13 with
    | zero => intro i3_13 i5_13 c_this_vectorSets_13 hf; exact (zl3_zero hf).elim
    | succ n13 ih13 =>
      intro i3_13 i5_13 c_this_vectorSets_13 hf H locs ls hP hD hS hl
      replace hf := zl3_step eF13 hf
      generalize zl3 F13 n13 = k13 at hf ih13
      refine lv_iload hx hb dX2_findVectors_13 (lv_at hl 3 rfl) ?_
      refine lv_aload_n hx hb dX2_findVectors_15 rfl (lv_at hl 0 rfl) ?_
      refine va_get (D := D) (ci := 2) (v := .ref q_this_vectorSets) (C := RX2) (T := TX2) (N := 5) hx hb hts n_X2_findVectors_X2 hown hK hP 0 rfl rfl 4 (by decide) (hts (.fieldLink RX2 18 "FaultyCube$Safety" "vectorSets" "[J") (by decide +kernel)) (fun _ h9 => h9) rfl dX2_findVectors_16 ?_
      refine va_alen (D := D) (v := 7) hx hb hK hP 1 0 rfl rfl rfl dX2_findVectors_19 ?_
      refine lv_icmp_ge (tgt := 67) hx hb dX2_findVectors_20 (by decide) (fun cd20 => ?_) (fun cd20 => ?_)
      · replace hf := zite_t cd20 hf
        obtain rfl := Option.some.inj hf
        subst eQ
        exact kr_v hx hb hr hlocks hK hP hD hS dX2_findVectors_67
      · replace hf := zite_f cd20 hf
        refine lv_iload hx hb dX2_findVectors_23 (lv_at hl 3 rfl) ?_
        refine lv_aload_n hx hb dX2_findVectors_25 rfl (lv_at hl 0 rfl) ?_
        refine va_get (D := D) (ci := 2) (v := .int v_this_dimension) (C := RX2) (T := TX2) (N := 5) hx hb hts n_X2_findVectors_X2 hown hK hP 0 rfl rfl 0 (by decide) (hts (.fieldLink RX2 22 "FaultyCube$Safety" "dimension" "I") (by decide +kernel)) (fun _ h9 => h9) rfl dX2_findVectors_26 ?_
        refine lv_icmp_gt (tgt := 67) hx hb dX2_findVectors_29 (by decide) (fun cd29 => ?_) (fun cd29 => ?_)
        · replace hf := zite_t cd29 hf
          obtain rfl := Option.some.inj hf
          subst eQ
          exact kr_v hx hb hr hlocks hK hP hD hS dX2_findVectors_67
        · replace hf := zite_f cd29 hf
          refine lv_iload hx hb dX2_findVectors_32 (lv_at hl 3 rfl) ?_
          refine lv_iconst (v := 1) hx hb dX2_findVectors_34 (by decide) ?_
          replace hf := zjp_some hf
          obtain ⟨K53, eK53, hf⟩ := hf
          have j53 : ∀ (i3_53 : Int64), K53 i3_53 = some res → ∀ (H : Heap) (locs : List Loc) (ls : Array Slot), va_P D vwCl [(q_this, .inr (2, [.int v_this_dimension, .int v_this_changingRounds, .ref q_this_levels, .ref q_this_levelsBefore, .ref q_this_vectorSets])), (q_this_vectorSets, .inl (k_this_vectorSets, 7, .inr (.inl c_this_vectorSets_13)))] H → va_D A [(q_this, .inr (2, [.int v_this_dimension, .int v_this_changingRounds, .ref q_this_levels, .ref q_this_levelsBefore, .ref q_this_vectorSets])), (q_this_vectorSets, .inl (k_this_vectorSets, 7, .inr (.inl c_this_vectorSets_13)))] → va_S A s.heap H locs → lv_has ls 6 [(0, .ref q_this), (1, .long a1), (3, .long i3_53), (5, .int i5_13)] → W p l e rm_X2_findVectors s m args below meth c H locs 0 0 Q (F0 m 53 ls []) := by
            intro i3_53 hf H locs ls hP hD hS hl
            replace hf := zap1 eK53 hf
            refine lv_aload_n hx hb dX2_findVectors_53 rfl (lv_at hl 0 rfl) ?_
            refine va_get (D := D) (ci := 2) (v := .ref q_this_vectorSets) (C := RX2) (T := TX2) (N := 5) hx hb hts n_X2_findVectors_X2 hown hK hP 0 rfl rfl 4 (by decide) (hts (.fieldLink RX2 18 "FaultyCube$Safety" "vectorSets" "[J") (by decide +kernel)) (fun _ h9 => h9) rfl dX2_findVectors_54 ?_
            refine lv_iload hx hb dX2_findVectors_57 (lv_at hl 3 rfl) ?_
            refine lv_lload_n hx hb dX2_findVectors_59 rfl (lv_at hl 2 rfl) ?_
            replace hf := zgd_some hf
            obtain ⟨g2, hf⟩ := hf
            refine va_last (D := D) hx hb hK hP hD hS 1 0 rfl rfl (inb_in g2) dX2_findVectors_60 (fun H locs hP hD hS => ?_)
            obtain ⟨y3, ey3⟩ : ∃ y : (Nat → Int64), y = vp_updL c_this_vectorSets_13 (i5_13 : Int32).toNatClampNeg i3_53 := ⟨_, rfl⟩
            replace hf := zbd_of ey3 hf
            have hP : va_P D vwCl [(q_this, .inr (2, [.int v_this_dimension, .int v_this_changingRounds, .ref q_this_levels, .ref q_this_levelsBefore, .ref q_this_vectorSets])), (q_this_vectorSets, .inl (k_this_vectorSets, 7, .inr (.inl y3)))] H := by rw [ey3]; exact hP
            have hD : va_D A [(q_this, .inr (2, [.int v_this_dimension, .int v_this_changingRounds, .ref q_this_levels, .ref q_this_levelsBefore, .ref q_this_vectorSets])), (q_this_vectorSets, .inl (k_this_vectorSets, 7, .inr (.inl y3)))] := by rw [ey3]; exact hD
            obtain ⟨x4, ex4⟩ : ∃ y : Int32, y = i5_13 + 1 := ⟨_, rfl⟩
            replace hf := zbd_of ex4 hf
            refine lv_iinc (v := x4) (lv' := [(5, .int x4), (0, .ref q_this), (1, .long a1), (3, .long i3_53)]) hx hb dX2_findVectors_61 hl (k := 3) rfl (by rw [ex4]; rfl) (by decide) rfl (fun ls hl => ?_)
            refine lv_goto (tgt := 13) hx hb dX2_findVectors_64 (by decide) ?_
            exact ih13 i3_53 x4 y3 hf H locs ls hP hD hS (lv_sub hl [1, 2, 3, 0] rfl)
          refine lv_icmp_le (tgt := 53) hx hb dX2_findVectors_35 (by decide) (fun cd35 => ?_) (fun cd35 => ?_)
          · replace hf := zite_t cd35 hf
            exact j53 i3_13 hf H locs ls hP hD hS (lv_sub hl [0, 1, 2, 3] rfl)
          · replace hf := zite_f cd35 hf
            refine lv_aload_n hx hb dX2_findVectors_38 rfl (lv_at hl 0 rfl) ?_
            refine lv_lload_n hx hb dX2_findVectors_39 rfl (lv_at hl 2 rfl) ?_
            refine lv_aload_n hx hb dX2_findVectors_40 rfl (lv_at hl 0 rfl) ?_
            refine va_get (D := D) (ci := 2) (v := .int v_this_dimension) (C := RX2) (T := TX2) (N := 5) hx hb hts n_X2_findVectors_X2 hown hK hP 0 rfl rfl 0 (by decide) (hts (.fieldLink RX2 22 "FaultyCube$Safety" "dimension" "I") (by decide +kernel)) (fun _ h9 => h9) rfl dX2_findVectors_41 ?_
            refine lv_iload hx hb dX2_findVectors_44 (lv_at hl 3 rfl) ?_
            refine lv_isub hx hb dX2_findVectors_46 ?_
            replace hf := zob_some hf
            obtain ⟨u5, hu5, hf⟩ := hf
            refine kd_l (D := D) (v := u5) (av := [.ref q_this, .long i3_13, .int (v_this_dimension - i5_13)]) (wc := [(q_this, .inr (2, [.int v_this_dimension, .int v_this_changingRounds, .ref q_this_levels, .ref q_this_levelsBefore, .ref q_this_vectorSets]))]) (w1 := [(q_this, .inr (2, [.int v_this_dimension, .int v_this_changingRounds, .ref q_this_levels, .ref q_this_levelsBefore, .ref q_this_vectorSets]))]) (ws2 := [(q_this, .inr (2, [.int v_this_dimension, .int v_this_changingRounds, .ref q_this_levels, .ref q_this_levelsBefore, .ref q_this_vectorSets])), (q_this_vectorSets, .inl (k_this_vectorSets, 7, .inr (.inl c_this_vectorSets_13)))]) hK hP hD hS hA hE [0] [] [1] [1, 0] (fun hb1 hp1 => va_runV (As := [.long i3_13, .int (v_this_dimension - i5_13)]) (rest := []) ⟨hx, hb, hml, hown, hts⟩ (c_X2_withNeighboursAbove l D H.size q_this q_this_levels q_this_levelsBefore q_this_vectorSets v_this_dimension v_this_changingRounds i3_13 (v_this_dimension - i5_13) u5 hu5) (cwV 2 hts gX2_findVectors_X2_withNeighboursAbove rfl rfl rfl (by decide +kernel) ⟨Nat.le_of_ble_eq_true rfl, Nat.le_of_ble_eq_true rfl⟩) ⟨hb1, va_recv hK hP (ci := 2) (q0 := 0) rfl rfl, hp1⟩ rfl rfl hl.1 rfl (lv_room (Nat.le_of_ble_eq_true rfl)) dX2_findVectors_47 ⟨Nat.le_of_ble_eq_true rfl, Nat.le_of_ble_eq_true rfl⟩) rfl rfl rfl rfl rfl rfl rfl rfl rfl rfl (fun H locs hP hD hS => ?_)
            have hP : va_P D vwCl [(q_this, .inr (2, [.int v_this_dimension, .int v_this_changingRounds, .ref q_this_levels, .ref q_this_levelsBefore, .ref q_this_vectorSets])), (q_this_vectorSets, .inl (k_this_vectorSets, 7, .inr (.inl c_this_vectorSets_13)))] H := hP
            have hD : va_D A [(q_this, .inr (2, [.int v_this_dimension, .int v_this_changingRounds, .ref q_this_levels, .ref q_this_levelsBefore, .ref q_this_vectorSets])), (q_this_vectorSets, .inl (k_this_vectorSets, 7, .inr (.inl c_this_vectorSets_13)))] := hD
            refine lv_lload_n hx hb dX2_findVectors_50 rfl (lv_at hl 1 rfl) ?_
            refine lv_land hx hb dX2_findVectors_51 ?_
            refine lv_topl (fun x6 ex6 => ?_)
            replace hf := zbd_of ex6 hf
            refine lv_lstore_n (lv' := [(3, .long x6), (0, .ref q_this), (1, .long a1), (5, .int i5_13)]) hx hb dX2_findVectors_52 rfl hl (by decide) rfl (fun ls hl => ?_)
            exact j53 x6 hf H locs ls hP hD hS (lv_sub hl [1, 2, 0, 3] rfl)
  exact h13 zfu a1 1 u1 hf H locs ls hP hD hS (lv_sub hl [2, 3, 1, 0] rfl)
theorem n_X2_neighboursBelow_X2 : ∀ w ∈ u_ws RX2 TX2 5, w ∈ wsX2_neighboursBelow := by decide +kernel
abbrev rm_X2_neighboursBelow : Room := { frames := 1, cells := 0, slots := 0, locals := 21 }
set_option maxHeartbeats 4000000 in
set_option maxRecDepth 100000 in
theorem c_X2_neighboursBelow (l : Launch) (D : va_G) (sz : Nat) (q_this : Nat) (q_this_levels : Nat) (q_this_levelsBefore : Nat) (q_this_vectorSets : Nat) (k_this_levelsBefore : ClassId) (v_this_dimension : Int32) (v_this_changingRounds : Int32) (c_this_levelsBefore : (Nat → Int32)) (a1 : Int32) (a2 : Int32) (res : rt_X2_neighboursBelow) (hf : f_X2_neighboursBelow a1 a2 v_this_dimension c_this_levelsBefore = some res) : Met l yX2_neighboursBelow wsX2_neighboursBelow rm_X2_neighboursBelow (kP D [.ref q_this, .int a1, .int a2] [(q_this, .inr (2, [.int v_this_dimension, .int v_this_changingRounds, .ref q_this_levels, .ref q_this_levelsBefore, .ref q_this_vectorSets])), (q_this_levelsBefore, .inl (k_this_levelsBefore, 64, .inl c_this_levelsBefore))] [(k_this_levelsBefore, .int)] sz) (kQi D (va_A [(q_this, .inr (2, [.int v_this_dimension, .int v_this_changingRounds, .ref q_this_levels, .ref q_this_levelsBefore, .ref q_this_vectorSets])), (q_this_levelsBefore, .inl (k_this_levelsBefore, 64, .inl c_this_levelsBefore))] sz) [(k_this_levelsBefore, .int)] res [(q_this, .inr (2, [.int v_this_dimension, .int v_this_changingRounds, .ref q_this_levels, .ref q_this_levelsBefore, .ref q_this_vectorSets])), (q_this_levelsBefore, .inl (k_this_levelsBefore, 64, .inl c_this_levelsBefore))]) 0 0 (va_A [(q_this, .inr (2, [.int v_this_dimension, .int v_this_changingRounds, .ref q_this_levels, .ref q_this_levelsBefore, .ref q_this_vectorSets])), (q_this_levelsBefore, .inl (k_this_levelsBefore, 64, .inl c_this_levelsBefore))] sz) := by
  refine Met.ofW (cc := cX2_neighboursBelow) (maxL := 5) (ret := (some .int)) (by decide +kernel) rfl ?_
  intro p e s m args below meth c s₁ B hml hv
  obtain ⟨hargs, hsz, hP, hK, hD0, hE⟩ := hv
  have hx := B.exec
  have hb := B.bytes
  have hr := B.returns
  have hts := atoms_spec (ws := wsX2_neighboursBelow) B.pre
  have hown : s.vm.findClass RX2 = some m.cls := findClass_of_methodNamed B.named
  have hlocks := B.notSynchronized
  subst hsz
  have hD := hD0.self (sz := s.heap.size)
  generalize hAe : va_A [(q_this, .inr (2, [.int v_this_dimension, .int v_this_changingRounds, .ref q_this_levels, .ref q_this_levelsBefore, .ref q_this_vectorSets])), (q_this_levelsBefore, .inl (k_this_levelsBefore, 64, .inl c_this_levelsBefore))] s.heap.size = A at hD hE ⊢
  have hA : ∀ q : Nat, s.heap.size ≤ q → A q := fun q h => by rw [← hAe]; exact Or.inr h
  have hS : va_S A s.heap s.heap [] := va_S.rf
  refine kgen (fun Q eQ => ?_)
  refine kent (av := [.ref q_this, .int a1, .int a2]) hargs (Nat.le_of_ble_eq_true rfl) (fun ls hl => ?_)
  have hl : lv_has ls 5 [(0, .ref q_this), (1, .int a1), (2, .int a2)] := hl
  show W p l e rm_X2_neighboursBelow s m args below meth c s.heap [] 0 0 Q (F0 m 0 ls [])
  unfold f_X2_neighboursBelow at hf
  refine lv_iconst (v := 0) hx hb dX2_neighboursBelow_0 (by decide) ?_
  refine lv_istore_n (lv' := [(3, .int 0), (0, .ref q_this), (1, .int a1), (2, .int a2)]) hx hb dX2_neighboursBelow_1 rfl hl (by decide) rfl (fun ls hl => ?_)
  refine lv_iconst (v := 0) hx hb dX2_neighboursBelow_2 (by decide) ?_
  refine lv_istore (lv' := [(4, .int 0), (3, .int 0), (0, .ref q_this), (1, .int a1), (2, .int a2)]) hx hb dX2_neighboursBelow_3 hl (by decide) rfl (fun ls hl => ?_)
  replace hf := zl2_some hf
  obtain ⟨F5, eF5, hf⟩ := hf
  have h5 : ∀ (n5 : Nat) (i3_5 : Int32) (i4_5 : Int32), zl2 F5 n5 i3_5 i4_5 = some res → ∀ (H : Heap) (locs : List Loc) (ls : Array Slot), va_P D vwCl [(q_this, .inr (2, [.int v_this_dimension, .int v_this_changingRounds, .ref q_this_levels, .ref q_this_levelsBefore, .ref q_this_vectorSets])), (q_this_levelsBefore, .inl (k_this_levelsBefore, 64, .inl c_this_levelsBefore))] H → va_D A [(q_this, .inr (2, [.int v_this_dimension, .int v_this_changingRounds, .ref q_this_levels, .ref q_this_levelsBefore, .ref q_this_vectorSets])), (q_this_levelsBefore, .inl (k_this_levelsBefore, 64, .inl c_this_levelsBefore))] → va_S A s.heap H locs → lv_has ls 5 [(0, .ref q_this), (1, .int a1), (2, .int a2), (3, .int i3_5), (4, .int i4_5)] → W p l e rm_X2_neighboursBelow s m args below meth c H locs 0 0 Q (F0 m 5 ls []) := by
    intro n5
    induction n5 with
    | zero => intro i3_5 i4_5 hf; exact (zl2_zero hf).elim
    | succ n5 ih5 =>
      intro i3_5 i4_5 hf H locs ls hP hD hS hl
      replace hf := zl2_step eF5 hf
      generalize zl2 F5 n5 = k5 at hf ih5
      refine lv_iload hx hb dX2_neighboursBelow_5 (lv_at hl 4 rfl) ?_
      refine lv_aload_n hx hb dX2_neighboursBelow_7 rfl (lv_at hl 0 rfl) ?_
      refine va_get (D := D) (ci := 2) (v := .int v_this_dimension) (C := RX2) (T := TX2) (N := 5) hx hb hts n_X2_neighboursBelow_X2 hown hK hP 0 rfl rfl 0 (by decide) (hts (.fieldLink RX2 22 "FaultyCube$Safety" "dimension" "I") (by decide +kernel)) (fun _ h9 => h9) rfl dX2_neighboursBelow_8 ?_
      refine lv_icmp_ge (tgt := 40) hx hb dX2_neighboursBelow_11 (by decide) (fun cd11 => ?_) (fun cd11 => ?_)
      · replace hf := zite_t cd11 hf
        refine lv_iload_n hx hb dX2_neighboursBelow_40 rfl (lv_at hl 3 rfl) ?_
        obtain rfl := Option.some.inj hf
        subst eQ
        exact kr_i hx hb hr hlocks hK hP hD hS dX2_neighboursBelow_41
      · replace hf := zite_f cd11 hf
        refine lv_aload_n hx hb dX2_neighboursBelow_14 rfl (lv_at hl 0 rfl) ?_
        refine va_get (D := D) (ci := 2) (v := .ref q_this_levelsBefore) (C := RX2) (T := TX2) (N := 5) hx hb hts n_X2_neighboursBelow_X2 hown hK hP 0 rfl rfl 3 (by decide) (hts (.fieldLink RX2 15 "FaultyCube$Safety" "levelsBefore" "[I") (by decide +kernel)) (fun _ h9 => h9) rfl dX2_neighboursBelow_15 ?_
        refine lv_iload_n hx hb dX2_neighboursBelow_18 rfl (lv_at hl 1 rfl) ?_
        refine lv_iload hx hb dX2_neighboursBelow_19 (lv_at hl 4 rfl) ?_
        replace hf := zob_some hf
        obtain ⟨u1, hu1, hf⟩ := hf
        refine kd_i (D := D) (v := u1) (av := [.int a1, .int i4_5]) (wc := []) (w1 := []) (ws2 := [(q_this, .inr (2, [.int v_this_dimension, .int v_this_changingRounds, .ref q_this_levels, .ref q_this_levelsBefore, .ref q_this_vectorSets])), (q_this_levelsBefore, .inl (k_this_levelsBefore, 64, .inl c_this_levelsBefore))]) hK hP hD hS hA hE [] [] [0, 1] [0, 1] (fun hb1 hp1 => va_runSN (As := [.int a1, .int i4_5]) (rest := [.ref q_this_levelsBefore]) ⟨hx, hb, hml, hown, hts⟩ (c_X6_neighbour l D H.size a1 i4_5 u1 hu1) ⟨va_cnB 2 hts gX2_neighboursBelow_X6_neighbour_n66 rfl rfl rfl (hE.1 (RX2, 66, yX6_neighbour, RX6) (List.mem_of_getElem? (i := 8) rfl)) (hts (.initialized RX6) (by decide +kernel)) (by decide +kernel) ⟨Nat.le_of_ble_eq_true rfl, Nat.le_of_ble_eq_true rfl⟩, (hts (.static yX6_neighbour) (by decide +kernel)), trivial⟩ ⟨hb1, hp1⟩ rfl rfl hl.1 rfl (lv_room (Nat.le_of_ble_eq_true rfl)) dX2_neighboursBelow_21 ⟨Nat.le_of_ble_eq_true rfl, Nat.le_of_ble_eq_true rfl⟩) rfl rfl rfl rfl rfl rfl rfl rfl rfl rfl (fun H locs hP hD hS => ?_)
        have hP : va_P D vwCl [(q_this, .inr (2, [.int v_this_dimension, .int v_this_changingRounds, .ref q_this_levels, .ref q_this_levelsBefore, .ref q_this_vectorSets])), (q_this_levelsBefore, .inl (k_this_levelsBefore, 64, .inl c_this_levelsBefore))] H := hP
        have hD : va_D A [(q_this, .inr (2, [.int v_this_dimension, .int v_this_changingRounds, .ref q_this_levels, .ref q_this_levelsBefore, .ref q_this_vectorSets])), (q_this_levelsBefore, .inl (k_this_levelsBefore, 64, .inl c_this_levelsBefore))] := hD
        replace hf := zob_some hf
        obtain ⟨u2, hu2, hf⟩ := hf
        refine kd_i (D := D) (v := u2) (av := [.ref q_this_levelsBefore, .int u1]) (wc := [(q_this_levelsBefore, .inl (k_this_levelsBefore, 64, .inl c_this_levelsBefore))]) (w1 := [(q_this_levelsBefore, .inl (k_this_levelsBefore, 64, .inl c_this_levelsBefore))]) (ws2 := [(q_this, .inr (2, [.int v_this_dimension, .int v_this_changingRounds, .ref q_this_levels, .ref q_this_levelsBefore, .ref q_this_vectorSets])), (q_this_levelsBefore, .inl (k_this_levelsBefore, 64, .inl c_this_levelsBefore))]) hK hP hD hS hA hE [1] [0] [0] [0, 1] (fun hb1 hp1 => va_runSN (As := [.ref q_this_levelsBefore, .int u1]) (rest := []) ⟨hx, hb, hml, hown, hts⟩ (c_X6_read l D H.size q_this_levelsBefore k_this_levelsBefore 64 c_this_levelsBefore u1 u2 hu2) ⟨va_cnB 2 hts gX2_neighboursBelow_X6_read_n58 rfl rfl rfl (hE.1 (RX2, 58, yX6_read, RX6) (List.mem_of_getElem? (i := 9) rfl)) (hts (.initialized RX6) (by decide +kernel)) (by decide +kernel) ⟨Nat.le_of_ble_eq_true rfl, Nat.le_of_ble_eq_true rfl⟩, (hts (.static yX6_read) (by decide +kernel)), trivial⟩ ⟨hb1, hp1⟩ rfl rfl hl.1 rfl (lv_room (Nat.le_of_ble_eq_true rfl)) dX2_neighboursBelow_24 ⟨Nat.le_of_ble_eq_true rfl, Nat.le_of_ble_eq_true rfl⟩) rfl rfl rfl rfl rfl rfl rfl rfl rfl rfl (fun H locs hP hD hS => ?_)
        have hP : va_P D vwCl [(q_this, .inr (2, [.int v_this_dimension, .int v_this_changingRounds, .ref q_this_levels, .ref q_this_levelsBefore, .ref q_this_vectorSets])), (q_this_levelsBefore, .inl (k_this_levelsBefore, 64, .inl c_this_levelsBefore))] H := hP
        have hD : va_D A [(q_this, .inr (2, [.int v_this_dimension, .int v_this_changingRounds, .ref q_this_levels, .ref q_this_levelsBefore, .ref q_this_vectorSets])), (q_this_levelsBefore, .inl (k_this_levelsBefore, 64, .inl c_this_levelsBefore))] := hD
        refine lv_iload_n hx hb dX2_neighboursBelow_27 rfl (lv_at hl 2 rfl) ?_
        replace hf := zjp_some hf
        obtain ⟨K34, eK34, hf⟩ := hf
        have j34 : ∀ (i3_34 : Int32), K34 i3_34 = some res → ∀ (H : Heap) (locs : List Loc) (ls : Array Slot), va_P D vwCl [(q_this, .inr (2, [.int v_this_dimension, .int v_this_changingRounds, .ref q_this_levels, .ref q_this_levelsBefore, .ref q_this_vectorSets])), (q_this_levelsBefore, .inl (k_this_levelsBefore, 64, .inl c_this_levelsBefore))] H → va_D A [(q_this, .inr (2, [.int v_this_dimension, .int v_this_changingRounds, .ref q_this_levels, .ref q_this_levelsBefore, .ref q_this_vectorSets])), (q_this_levelsBefore, .inl (k_this_levelsBefore, 64, .inl c_this_levelsBefore))] → va_S A s.heap H locs → lv_has ls 5 [(0, .ref q_this), (1, .int a1), (2, .int a2), (3, .int i3_34), (4, .int i4_5)] → W p l e rm_X2_neighboursBelow s m args below meth c H locs 0 0 Q (F0 m 34 ls []) := by
          intro i3_34 hf H locs ls hP hD hS hl
          replace hf := zap1 eK34 hf
          obtain ⟨x3, ex3⟩ : ∃ y : Int32, y = i4_5 + 1 := ⟨_, rfl⟩
          replace hf := zbd_of ex3 hf
          refine lv_iinc (v := x3) (lv' := [(4, .int x3), (0, .ref q_this), (1, .int a1), (2, .int a2), (3, .int i3_34)]) hx hb dX2_neighboursBelow_34 hl (k := 4) rfl (by rw [ex3]; rfl) (by decide) rfl (fun ls hl => ?_)
          refine lv_goto (tgt := 5) hx hb dX2_neighboursBelow_37 (by decide) ?_
          exact ih5 i3_34 x3 hf H locs ls hP hD hS (lv_sub hl [1, 2, 3, 4, 0] rfl)
        refine lv_icmp_ge (tgt := 34) hx hb dX2_neighboursBelow_28 (by decide) (fun cd28 => ?_) (fun cd28 => ?_)
        · replace hf := zite_t cd28 hf
          exact j34 i3_5 hf H locs ls hP hD hS (lv_sub hl [0, 1, 2, 3, 4] rfl)
        · replace hf := zite_f cd28 hf
          obtain ⟨x4, ex4⟩ : ∃ y : Int32, y = i3_5 + 1 := ⟨_, rfl⟩
          replace hf := zbd_of ex4 hf
          refine lv_iinc (v := x4) (lv' := [(3, .int x4), (0, .ref q_this), (1, .int a1), (2, .int a2), (4, .int i4_5)]) hx hb dX2_neighboursBelow_31 hl (k := 3) rfl (by rw [ex4]; rfl) (by decide) rfl (fun ls hl => ?_)
          exact j34 x4 hf H locs ls hP hD hS (lv_sub hl [1, 2, 3, 0, 4] rfl)
  exact h5 zfu 0 0 hf s.heap [] ls hP hD hS (lv_sub hl [2, 3, 4, 1, 0] rfl)
theorem n_X2_levelAfterRound_X2 : ∀ w ∈ u_ws RX2 TX2 5, w ∈ wsX2_levelAfterRound := by decide +kernel
abbrev rm_X2_levelAfterRound : Room := { frames := 2, cells := 0, slots := 0, locals := 45 }
set_option maxHeartbeats 4000000 in
set_option maxRecDepth 100000 in
theorem c_X2_levelAfterRound (l : Launch) (D : va_G) (sz : Nat) (q_this : Nat) (q_this_levels : Nat) (q_this_levelsBefore : Nat) (q_this_vectorSets : Nat) (k_this_levelsBefore : ClassId) (v_this_dimension : Int32) (v_this_changingRounds : Int32) (c_this_levelsBefore : (Nat → Int32)) (a1 : Int32) (res : rt_X2_levelAfterRound) (hf : f_X2_levelAfterRound a1 v_this_dimension c_this_levelsBefore = some res) : Met l yX2_levelAfterRound wsX2_levelAfterRound rm_X2_levelAfterRound (kP D [.ref q_this, .int a1] [(q_this, .inr (2, [.int v_this_dimension, .int v_this_changingRounds, .ref q_this_levels, .ref q_this_levelsBefore, .ref q_this_vectorSets])), (q_this_levelsBefore, .inl (k_this_levelsBefore, 64, .inl c_this_levelsBefore))] [(k_this_levelsBefore, .int)] sz) (kQi D (va_A [(q_this, .inr (2, [.int v_this_dimension, .int v_this_changingRounds, .ref q_this_levels, .ref q_this_levelsBefore, .ref q_this_vectorSets])), (q_this_levelsBefore, .inl (k_this_levelsBefore, 64, .inl c_this_levelsBefore))] sz) [(k_this_levelsBefore, .int)] res [(q_this, .inr (2, [.int v_this_dimension, .int v_this_changingRounds, .ref q_this_levels, .ref q_this_levelsBefore, .ref q_this_vectorSets])), (q_this_levelsBefore, .inl (k_this_levelsBefore, 64, .inl c_this_levelsBefore))]) 0 0 (va_A [(q_this, .inr (2, [.int v_this_dimension, .int v_this_changingRounds, .ref q_this_levels, .ref q_this_levelsBefore, .ref q_this_vectorSets])), (q_this_levelsBefore, .inl (k_this_levelsBefore, 64, .inl c_this_levelsBefore))] sz) := by
  refine Met.ofW (cc := cX2_levelAfterRound) (maxL := 3) (ret := (some .int)) (by decide +kernel) rfl ?_
  intro p e s m args below meth c s₁ B hml hv
  obtain ⟨hargs, hsz, hP, hK, hD0, hE⟩ := hv
  have hx := B.exec
  have hb := B.bytes
  have hr := B.returns
  have hts := atoms_spec (ws := wsX2_levelAfterRound) B.pre
  have hown : s.vm.findClass RX2 = some m.cls := findClass_of_methodNamed B.named
  have hlocks := B.notSynchronized
  subst hsz
  have hD := hD0.self (sz := s.heap.size)
  generalize hAe : va_A [(q_this, .inr (2, [.int v_this_dimension, .int v_this_changingRounds, .ref q_this_levels, .ref q_this_levelsBefore, .ref q_this_vectorSets])), (q_this_levelsBefore, .inl (k_this_levelsBefore, 64, .inl c_this_levelsBefore))] s.heap.size = A at hD hE ⊢
  have hA : ∀ q : Nat, s.heap.size ≤ q → A q := fun q h => by rw [← hAe]; exact Or.inr h
  have hS : va_S A s.heap s.heap [] := va_S.rf
  refine kgen (fun Q eQ => ?_)
  refine kent (av := [.ref q_this, .int a1]) hargs (Nat.le_of_ble_eq_true rfl) (fun ls hl => ?_)
  have hl : lv_has ls 3 [(0, .ref q_this), (1, .int a1)] := hl
  show W p l e rm_X2_levelAfterRound s m args below meth c s.heap [] 0 0 Q (F0 m 0 ls [])
  unfold f_X2_levelAfterRound at hf
  refine lv_iconst (v := 0) hx hb dX2_levelAfterRound_0 (by decide) ?_
  refine lv_istore_n (lv' := [(2, .int 0), (0, .ref q_this), (1, .int a1)]) hx hb dX2_levelAfterRound_1 rfl hl (by decide) rfl (fun ls hl => ?_)
  replace hf := zl1_some hf
  obtain ⟨F2, eF2, hf⟩ := hf
  have h2 : ∀ (n2 : Nat) (i2_2 : Int32), zl1 F2 n2 i2_2 = some res → ∀ (H : Heap) (locs : List Loc) (ls : Array Slot), va_P D vwCl [(q_this, .inr (2, [.int v_this_dimension, .int v_this_changingRounds, .ref q_this_levels, .ref q_this_levelsBefore, .ref q_this_vectorSets])), (q_this_levelsBefore, .inl (k_this_levelsBefore, 64, .inl c_this_levelsBefore))] H → va_D A [(q_this, .inr (2, [.int v_this_dimension, .int v_this_changingRounds, .ref q_this_levels, .ref q_this_levelsBefore, .ref q_this_vectorSets])), (q_this_levelsBefore, .inl (k_this_levelsBefore, 64, .inl c_this_levelsBefore))] → va_S A s.heap H locs → lv_has ls 3 [(0, .ref q_this), (1, .int a1), (2, .int i2_2)] → W p l e rm_X2_levelAfterRound s m args below meth c H locs 0 0 Q (F0 m 2 ls []) := by
    intro n2
    induction n2 with
    | zero => intro i2_2 hf; exact (zl1_zero hf).elim
    | succ n2 ih2 =>
      intro i2_2 hf H locs ls hP hD hS hl
      replace hf := zl1_step eF2 hf
      generalize zl1 F2 n2 = k2 at hf ih2
      refine lv_iload_n hx hb dX2_levelAfterRound_2 rfl (lv_at hl 2 rfl) ?_
      refine lv_aload_n hx hb dX2_levelAfterRound_3 rfl (lv_at hl 0 rfl) ?_
      refine va_get (D := D) (ci := 2) (v := .int v_this_dimension) (C := RX2) (T := TX2) (N := 5) hx hb hts n_X2_levelAfterRound_X2 hown hK hP 0 rfl rfl 0 (by decide) (hts (.fieldLink RX2 22 "FaultyCube$Safety" "dimension" "I") (by decide +kernel)) (fun _ h9 => h9) rfl dX2_levelAfterRound_4 ?_
      refine lv_icmp_ge (tgt := 28) hx hb dX2_levelAfterRound_7 (by decide) (fun cd7 => ?_) (fun cd7 => ?_)
      · replace hf := zite_t cd7 hf
        refine lv_aload_n hx hb dX2_levelAfterRound_28 rfl (lv_at hl 0 rfl) ?_
        refine va_get (D := D) (ci := 2) (v := .int v_this_dimension) (C := RX2) (T := TX2) (N := 5) hx hb hts n_X2_levelAfterRound_X2 hown hK hP 0 rfl rfl 0 (by decide) (hts (.fieldLink RX2 22 "FaultyCube$Safety" "dimension" "I") (by decide +kernel)) (fun _ h9 => h9) rfl dX2_levelAfterRound_29 ?_
        obtain rfl := Option.some.inj hf
        subst eQ
        exact kr_i hx hb hr hlocks hK hP hD hS dX2_levelAfterRound_32
      · replace hf := zite_f cd7 hf
        refine lv_aload_n hx hb dX2_levelAfterRound_10 rfl (lv_at hl 0 rfl) ?_
        refine lv_iload_n hx hb dX2_levelAfterRound_11 rfl (lv_at hl 1 rfl) ?_
        refine lv_iload_n hx hb dX2_levelAfterRound_12 rfl (lv_at hl 2 rfl) ?_
        replace hf := zob_some hf
        obtain ⟨u1, hu1, hf⟩ := hf
        refine kd_i (D := D) (v := u1) (av := [.ref q_this, .int a1, .int i2_2]) (wc := [(q_this, .inr (2, [.int v_this_dimension, .int v_this_changingRounds, .ref q_this_levels, .ref q_this_levelsBefore, .ref q_this_vectorSets])), (q_this_levelsBefore, .inl (k_this_levelsBefore, 64, .inl c_this_levelsBefore))]) (w1 := [(q_this, .inr (2, [.int v_this_dimension, .int v_this_changingRounds, .ref q_this_levels, .ref q_this_levelsBefore, .ref q_this_vectorSets])), (q_this_levelsBefore, .inl (k_this_levelsBefore, 64, .inl c_this_levelsBefore))]) (ws2 := [(q_this, .inr (2, [.int v_this_dimension, .int v_this_changingRounds, .ref q_this_levels, .ref q_this_levelsBefore, .ref q_this_vectorSets])), (q_this_levelsBefore, .inl (k_this_levelsBefore, 64, .inl c_this_levelsBefore))]) hK hP hD hS hA hE [0, 1] [0] [] [0, 1] (fun hb1 hp1 => va_runV (As := [.int a1, .int i2_2]) (rest := []) ⟨hx, hb, hml, hown, hts⟩ (c_X2_neighboursBelow l D H.size q_this q_this_levels q_this_levelsBefore q_this_vectorSets k_this_levelsBefore v_this_dimension v_this_changingRounds c_this_levelsBefore a1 i2_2 u1 hu1) (cwV 2 hts gX2_levelAfterRound_X2_neighboursBelow rfl rfl rfl (by decide +kernel) ⟨Nat.le_of_ble_eq_true rfl, Nat.le_of_ble_eq_true rfl⟩) ⟨hb1, va_recv hK hP (ci := 2) (q0 := 0) rfl rfl, hp1⟩ rfl rfl hl.1 rfl (lv_room (Nat.le_of_ble_eq_true rfl)) dX2_levelAfterRound_13 ⟨Nat.le_of_ble_eq_true rfl, Nat.le_of_ble_eq_true rfl⟩) rfl rfl rfl rfl rfl rfl rfl rfl rfl rfl (fun H locs hP hD hS => ?_)
        have hP : va_P D vwCl [(q_this, .inr (2, [.int v_this_dimension, .int v_this_changingRounds, .ref q_this_levels, .ref q_this_levelsBefore, .ref q_this_vectorSets])), (q_this_levelsBefore, .inl (k_this_levelsBefore, 64, .inl c_this_levelsBefore))] H := hP
        have hD : va_D A [(q_this, .inr (2, [.int v_this_dimension, .int v_this_changingRounds, .ref q_this_levels, .ref q_this_levelsBefore, .ref q_this_vectorSets])), (q_this_levelsBefore, .inl (k_this_levelsBefore, 64, .inl c_this_levelsBefore))] := hD
        refine lv_iload_n hx hb dX2_levelAfterRound_16 rfl (lv_at hl 2 rfl) ?_
        refine lv_icmp_le (tgt := 22) hx hb dX2_levelAfterRound_17 (by decide) (fun cd17 => ?_) (fun cd17 => ?_)
        · replace hf := zite_t cd17 hf
          obtain ⟨x2, ex2⟩ : ∃ y : Int32, y = i2_2 + 1 := ⟨_, rfl⟩
          replace hf := zbd_of ex2 hf
          refine lv_iinc (v := x2) (lv' := [(2, .int x2), (0, .ref q_this), (1, .int a1)]) hx hb dX2_levelAfterRound_22 hl (k := 2) rfl (by rw [ex2]; rfl) (by decide) rfl (fun ls hl => ?_)
          refine lv_goto (tgt := 2) hx hb dX2_levelAfterRound_25 (by decide) ?_
          exact ih2 x2 hf H locs ls hP hD hS (lv_sub hl [1, 2, 0] rfl)
        · replace hf := zite_f cd17 hf
          refine lv_iload_n hx hb dX2_levelAfterRound_20 rfl (lv_at hl 2 rfl) ?_
          obtain rfl := Option.some.inj hf
          subst eQ
          exact kr_i hx hb hr hlocks hK hP hD hS dX2_levelAfterRound_21
  exact h2 zfu 0 hf s.heap [] ls hP hD hS (lv_sub hl [1, 2, 0] rfl)
theorem n_X2_roundChanges_X2 : ∀ w ∈ u_ws RX2 TX2 5, w ∈ wsX2_roundChanges := by decide +kernel
abbrev rm_X2_roundChanges : Room := { frames := 3, cells := 0, slots := 0, locals := 67 }
set_option maxHeartbeats 4000000 in
set_option maxRecDepth 100000 in
theorem c_X2_roundChanges (l : Launch) (D : va_G) (sz : Nat) (q_this : Nat) (q_this_levels : Nat) (q_this_levelsBefore : Nat) (q_this_vectorSets : Nat) (k_this_levels : ClassId) (k_this_levelsBefore : ClassId) (v_this_dimension : Int32) (v_this_changingRounds : Int32) (c_this_levels : (Nat → Int32)) (c_this_levelsBefore : (Nat → Int32)) (a1 : Int64) (res : rt_X2_roundChanges) (hf : f_X2_roundChanges a1 v_this_dimension c_this_levels c_this_levelsBefore = some res) : Met l yX2_roundChanges wsX2_roundChanges rm_X2_roundChanges (kP D [.ref q_this, .long a1] [(q_this, .inr (2, [.int v_this_dimension, .int v_this_changingRounds, .ref q_this_levels, .ref q_this_levelsBefore, .ref q_this_vectorSets])), (q_this_levels, .inl (k_this_levels, 64, .inl c_this_levels)), (q_this_levelsBefore, .inl (k_this_levelsBefore, 64, .inl c_this_levelsBefore))] [(k_this_levels, .int), (k_this_levelsBefore, .int)] sz) (kQi D (va_A [(q_this, .inr (2, [.int v_this_dimension, .int v_this_changingRounds, .ref q_this_levels, .ref q_this_levelsBefore, .ref q_this_vectorSets])), (q_this_levels, .inl (k_this_levels, 64, .inl c_this_levels)), (q_this_levelsBefore, .inl (k_this_levelsBefore, 64, .inl c_this_levelsBefore))] sz) [(k_this_levels, .int), (k_this_levelsBefore, .int)] res.1 [(q_this, .inr (2, [.int v_this_dimension, .int v_this_changingRounds, .ref q_this_levels, .ref q_this_levelsBefore, .ref q_this_vectorSets])), (q_this_levels, .inl (k_this_levels, 64, .inl res.2.1)), (q_this_levelsBefore, .inl (k_this_levelsBefore, 64, .inl res.2.2))]) 0 0 (va_A [(q_this, .inr (2, [.int v_this_dimension, .int v_this_changingRounds, .ref q_this_levels, .ref q_this_levelsBefore, .ref q_this_vectorSets])), (q_this_levels, .inl (k_this_levels, 64, .inl c_this_levels)), (q_this_levelsBefore, .inl (k_this_levelsBefore, 64, .inl c_this_levelsBefore))] sz) := by
  refine Met.ofW (cc := cX2_roundChanges) (maxL := 6) (ret := (some .boolean)) (by decide +kernel) rfl ?_
  intro p e s m args below meth c s₁ B hml hv
  obtain ⟨hargs, hsz, hP, hK, hD0, hE⟩ := hv
  have hx := B.exec
  have hb := B.bytes
  have hr := B.returns
  have hts := atoms_spec (ws := wsX2_roundChanges) B.pre
  have hown : s.vm.findClass RX2 = some m.cls := findClass_of_methodNamed B.named
  have hlocks := B.notSynchronized
  subst hsz
  have hD := hD0.self (sz := s.heap.size)
  generalize hAe : va_A [(q_this, .inr (2, [.int v_this_dimension, .int v_this_changingRounds, .ref q_this_levels, .ref q_this_levelsBefore, .ref q_this_vectorSets])), (q_this_levels, .inl (k_this_levels, 64, .inl c_this_levels)), (q_this_levelsBefore, .inl (k_this_levelsBefore, 64, .inl c_this_levelsBefore))] s.heap.size = A at hD hE ⊢
  have hA : ∀ q : Nat, s.heap.size ≤ q → A q := fun q h => by rw [← hAe]; exact Or.inr h
  have hS : va_S A s.heap s.heap [] := va_S.rf
  refine kgen (fun Q eQ => ?_)
  refine kent (av := [.ref q_this, .long a1]) hargs (Nat.le_of_ble_eq_true rfl) (fun ls hl => ?_)
  have hl : lv_has ls 6 [(0, .ref q_this), (1, .long a1)] := hl
  show W p l e rm_X2_roundChanges s m args below meth c s.heap [] 0 0 Q (F0 m 0 ls [])
  unfold f_X2_roundChanges at hf
  refine lv_aload_n hx hb dX2_roundChanges_0 rfl (lv_at hl 0 rfl) ?_
  refine va_get (D := D) (ci := 2) (v := .ref q_this_levels) (C := RX2) (T := TX2) (N := 5) hx hb hts n_X2_roundChanges_X2 hown hK hP 0 rfl rfl 2 (by decide) (hts (.fieldLink RX2 9 "FaultyCube$Safety" "levels" "[I") (by decide +kernel)) (fun _ h9 => h9) rfl dX2_roundChanges_1 ?_
  refine lv_iconst (v := 0) hx hb dX2_roundChanges_4 (by decide) ?_
  refine lv_aload_n hx hb dX2_roundChanges_5 rfl (lv_at hl 0 rfl) ?_
  refine va_get (D := D) (ci := 2) (v := .ref q_this_levelsBefore) (C := RX2) (T := TX2) (N := 5) hx hb hts n_X2_roundChanges_X2 hown hK hP 0 rfl rfl 3 (by decide) (hts (.fieldLink RX2 15 "FaultyCube$Safety" "levelsBefore" "[I") (by decide +kernel)) (fun _ h9 => h9) rfl dX2_roundChanges_6 ?_
  refine lv_iconst (v := 0) hx hb dX2_roundChanges_9 (by decide) ?_
  refine lv_bipush (v := 64) hx hb dX2_roundChanges_10 (by decide) ?_
  refine va_copyi (D := D) hx hb (by rw [hml]; exact hl.1.symm) hown (hts (.methodLink RX2 48 arraycopyName) (by decide +kernel)) (hts (.native arraycopyName) (by decide +kernel)) (hts (.static arraycopyName) (by decide +kernel)) (hts (.initialized "java/lang/System") (by decide +kernel)) hK hP hD hS 1 2 0 1 rfl rfl rfl rfl rfl (by decide) (by decide) (by decide) (by decide) (by decide) (fun _ _ => rfl) (Nat.le_of_ble_eq_true rfl) (Nat.le_of_ble_eq_true rfl) dX2_roundChanges_12 (fun H locs hP hD hS => ?_)
  obtain ⟨y1, ey1⟩ : ∃ y : Nat → Int32, y = va_cpy c_this_levels c_this_levelsBefore (0 : Int32).toNatClampNeg (0 : Int32).toNatClampNeg (64 : Int32).toNatClampNeg := ⟨_, rfl⟩
  replace hf := zbd_of ey1 hf
  have hP : va_P D vwCl [(q_this, .inr (2, [.int v_this_dimension, .int v_this_changingRounds, .ref q_this_levels, .ref q_this_levelsBefore, .ref q_this_vectorSets])), (q_this_levels, .inl (k_this_levels, 64, .inl c_this_levels)), (q_this_levelsBefore, .inl (k_this_levelsBefore, 64, .inl y1))] H := by rw [ey1]; exact hP
  have hD : va_D A [(q_this, .inr (2, [.int v_this_dimension, .int v_this_changingRounds, .ref q_this_levels, .ref q_this_levelsBefore, .ref q_this_vectorSets])), (q_this_levels, .inl (k_this_levels, 64, .inl c_this_levels)), (q_this_levelsBefore, .inl (k_this_levelsBefore, 64, .inl y1))] := by rw [ey1]; exact hD
  refine lv_iconst (v := 0) hx hb dX2_roundChanges_15 (by decide) ?_
  refine lv_istore_n (lv' := [(3, .int 0), (0, .ref q_this), (1, .long a1)]) hx hb dX2_roundChanges_16 rfl hl (by decide) rfl (fun ls hl => ?_)
  refine lv_iconst (v := 0) hx hb dX2_roundChanges_17 (by decide) ?_
  refine lv_istore (lv' := [(4, .int 0), (3, .int 0), (0, .ref q_this), (1, .long a1)]) hx hb dX2_roundChanges_18 hl (by decide) rfl (fun ls hl => ?_)
  replace hf := zl3_some hf
  obtain ⟨F20, eF20, hf⟩ := hf
  have h20 : ∀ (n20 : Nat) (i3_20 : Int32) (i4_20 : Int32) (c_this_levels_20 : (Nat → Int32)), zl3 F20 n20 i3_20 i4_20 c_this_levels_20 = some res → ∀ (H : Heap) (locs : List Loc) (ls : Array Slot), va_P D vwCl [(q_this, .inr (2, [.int v_this_dimension, .int v_this_changingRounds, .ref q_this_levels, .ref q_this_levelsBefore, .ref q_this_vectorSets])), (q_this_levels, .inl (k_this_levels, 64, .inl c_this_levels_20)), (q_this_levelsBefore, .inl (k_this_levelsBefore, 64, .inl y1))] H → va_D A [(q_this, .inr (2, [.int v_this_dimension, .int v_this_changingRounds, .ref q_this_levels, .ref q_this_levelsBefore, .ref q_this_vectorSets])), (q_this_levels, .inl (k_this_levels, 64, .inl c_this_levels_20)), (q_this_levelsBefore, .inl (k_this_levelsBefore, 64, .inl y1))] → va_S A s.heap H locs → lv_has ls 6 [(0, .ref q_this), (1, .long a1), (3, .int i3_20), (4, .int i4_20)] → W p l e rm_X2_roundChanges s m args below meth c H locs 0 0 Q (F0 m 20 ls []) := by
    intro n20
    induction n20 with
    | zero => intro i3_20 i4_20 c_this_levels_20 hf; exact (zl3_zero hf).elim
    | succ n20 ih20 =>
      intro i3_20 i4_20 c_this_levels_20 hf H locs ls hP hD hS hl
      replace hf := zl3_step eF20 hf
      generalize zl3 F20 n20 = k20 at hf ih20
      refine lv_iload hx hb dX2_roundChanges_20 (lv_at hl 3 rfl) ?_
      refine lv_bipush (v := 64) hx hb dX2_roundChanges_22 (by decide) ?_
      refine lv_icmp_ge (tgt := 77) hx hb dX2_roundChanges_24 (by decide) (fun cd24 => ?_) (fun cd24 => ?_)
      · replace hf := zite_t cd24 hf
        refine lv_iload_n hx hb dX2_roundChanges_77 rfl (lv_at hl 2 rfl) ?_
        replace hf := zgd_some hf
        obtain ⟨gz, hf⟩ := hf
        obtain rfl := Option.some.inj hf
        subst eQ
        exact kr_z hx hb hr (isb_ok gz) hlocks hK hP hD hS dX2_roundChanges_78
      · replace hf := zite_f cd24 hf
        refine lv_lload_n hx hb dX2_roundChanges_27 rfl (lv_at hl 1 rfl) ?_
        refine lv_iload hx hb dX2_roundChanges_28 (lv_at hl 3 rfl) ?_
        replace hf := zob_some hf
        obtain ⟨u2, hu2, hf⟩ := hf
        refine kd_i (D := D) (v := u2) (av := [.long a1, .int i4_20]) (wc := []) (w1 := []) (ws2 := [(q_this, .inr (2, [.int v_this_dimension, .int v_this_changingRounds, .ref q_this_levels, .ref q_this_levelsBefore, .ref q_this_vectorSets])), (q_this_levels, .inl (k_this_levels, 64, .inl c_this_levels_20)), (q_this_levelsBefore, .inl (k_this_levelsBefore, 64, .inl y1))]) hK hP hD hS hA hE [] [] [0, 1, 2] [0, 1, 2] (fun hb1 hp1 => va_runSN (As := [.long a1, .int i4_20]) (rest := []) ⟨hx, hb, hml, hown, hts⟩ (c_X6_contains l D H.size a1 i4_20 u2 hu2) ⟨va_cnB 2 hts gX2_roundChanges_X6_contains_n40 rfl rfl rfl (hE.1 (RX2, 40, yX6_contains, RX6) (List.mem_of_getElem? (i := 6) rfl)) (hts (.initialized RX6) (by decide +kernel)) (by decide +kernel) ⟨Nat.le_of_ble_eq_true rfl, Nat.le_of_ble_eq_true rfl⟩, (hts (.static yX6_contains) (by decide +kernel)), trivial⟩ ⟨hb1, hp1⟩ rfl rfl hl.1 rfl (lv_room (Nat.le_of_ble_eq_true rfl)) dX2_roundChanges_30 ⟨Nat.le_of_ble_eq_true rfl, Nat.le_of_ble_eq_true rfl⟩) rfl rfl rfl rfl rfl rfl rfl rfl rfl rfl (fun H locs hP hD hS => ?_)
        have hP : va_P D vwCl [(q_this, .inr (2, [.int v_this_dimension, .int v_this_changingRounds, .ref q_this_levels, .ref q_this_levelsBefore, .ref q_this_vectorSets])), (q_this_levels, .inl (k_this_levels, 64, .inl c_this_levels_20)), (q_this_levelsBefore, .inl (k_this_levelsBefore, 64, .inl y1))] H := hP
        have hD : va_D A [(q_this, .inr (2, [.int v_this_dimension, .int v_this_changingRounds, .ref q_this_levels, .ref q_this_levelsBefore, .ref q_this_vectorSets])), (q_this_levels, .inl (k_this_levels, 64, .inl c_this_levels_20)), (q_this_levelsBefore, .inl (k_this_levelsBefore, 64, .inl y1))] := hD
        replace hf := zjp_some hf
        obtain ⟨K71, eK71, hf⟩ := hf
        have j71 : ∀ (i3_71 : Int32) (c_this_levels_71 : (Nat → Int32)), K71 i3_71 c_this_levels_71 = some res → ∀ (H : Heap) (locs : List Loc) (ls : Array Slot), va_P D vwCl [(q_this, .inr (2, [.int v_this_dimension, .int v_this_changingRounds, .ref q_this_levels, .ref q_this_levelsBefore, .ref q_this_vectorSets])), (q_this_levels, .inl (k_this_levels, 64, .inl c_this_levels_71)), (q_this_levelsBefore, .inl (k_this_levelsBefore, 64, .inl y1))] H → va_D A [(q_this, .inr (2, [.int v_this_dimension, .int v_this_changingRounds, .ref q_this_levels, .ref q_this_levelsBefore, .ref q_this_vectorSets])), (q_this_levels, .inl (k_this_levels, 64, .inl c_this_levels_71)), (q_this_levelsBefore, .inl (k_this_levelsBefore, 64, .inl y1))] → va_S A s.heap H locs → lv_has ls 6 [(0, .ref q_this), (1, .long a1), (3, .int i3_71), (4, .int i4_20)] → W p l e rm_X2_roundChanges s m args below meth c H locs 0 0 Q (F0 m 71 ls []) := by
          intro i3_71 c_this_levels_71 hf H locs ls hP hD hS hl
          replace hf := zap2 eK71 hf
          obtain ⟨x3, ex3⟩ : ∃ y : Int32, y = i4_20 + 1 := ⟨_, rfl⟩
          replace hf := zbd_of ex3 hf
          refine lv_iinc (v := x3) (lv' := [(4, .int x3), (0, .ref q_this), (1, .long a1), (3, .int i3_71)]) hx hb dX2_roundChanges_71 hl (k := 3) rfl (by rw [ex3]; rfl) (by decide) rfl (fun ls hl => ?_)
          refine lv_goto (tgt := 20) hx hb dX2_roundChanges_74 (by decide) ?_
          exact ih20 i3_71 x3 c_this_levels_71 hf H locs ls hP hD hS (lv_sub hl [1, 2, 3, 0] rfl)
        refine lv_if_eq (tgt := 71) hx hb dX2_roundChanges_33 (by decide) (fun cd33 => ?_) (fun cd33 => ?_)
        · replace hf := zite_t cd33 hf
          exact j71 i3_20 c_this_levels_20 hf H locs ls hP hD hS (lv_sub hl [0, 1, 2, 3] rfl)
        · replace hf := zite_f cd33 hf
          refine lv_aload_n hx hb dX2_roundChanges_36 rfl (lv_at hl 0 rfl) ?_
          refine lv_iload hx hb dX2_roundChanges_37 (lv_at hl 3 rfl) ?_
          replace hf := zob_some hf
          obtain ⟨u4, hu4, hf⟩ := hf
          refine kd_i (D := D) (v := u4) (av := [.ref q_this, .int i4_20]) (wc := [(q_this, .inr (2, [.int v_this_dimension, .int v_this_changingRounds, .ref q_this_levels, .ref q_this_levelsBefore, .ref q_this_vectorSets])), (q_this_levelsBefore, .inl (k_this_levelsBefore, 64, .inl y1))]) (w1 := [(q_this, .inr (2, [.int v_this_dimension, .int v_this_changingRounds, .ref q_this_levels, .ref q_this_levelsBefore, .ref q_this_vectorSets])), (q_this_levelsBefore, .inl (k_this_levelsBefore, 64, .inl y1))]) (ws2 := [(q_this, .inr (2, [.int v_this_dimension, .int v_this_changingRounds, .ref q_this_levels, .ref q_this_levelsBefore, .ref q_this_vectorSets])), (q_this_levels, .inl (k_this_levels, 64, .inl c_this_levels_20)), (q_this_levelsBefore, .inl (k_this_levelsBefore, 64, .inl y1))]) hK hP hD hS hA hE [0, 2] [1] [1] [1, 0, 2] (fun hb1 hp1 => va_runV (As := [.int i4_20]) (rest := []) ⟨hx, hb, hml, hown, hts⟩ (c_X2_levelAfterRound l D H.size q_this q_this_levels q_this_levelsBefore q_this_vectorSets k_this_levelsBefore v_this_dimension v_this_changingRounds y1 i4_20 u4 hu4) (cwV 1 hts gX2_roundChanges_X2_levelAfterRound rfl rfl rfl (by decide +kernel) ⟨Nat.le_of_ble_eq_true rfl, Nat.le_of_ble_eq_true rfl⟩) ⟨hb1, va_recv hK hP (ci := 2) (q0 := 0) rfl rfl, hp1⟩ rfl rfl hl.1 rfl (lv_room (Nat.le_of_ble_eq_true rfl)) dX2_roundChanges_39 ⟨Nat.le_of_ble_eq_true rfl, Nat.le_of_ble_eq_true rfl⟩) rfl rfl rfl rfl rfl rfl rfl rfl rfl rfl (fun H locs hP hD hS => ?_)
          have hP : va_P D vwCl [(q_this, .inr (2, [.int v_this_dimension, .int v_this_changingRounds, .ref q_this_levels, .ref q_this_levelsBefore, .ref q_this_vectorSets])), (q_this_levels, .inl (k_this_levels, 64, .inl c_this_levels_20)), (q_this_levelsBefore, .inl (k_this_levelsBefore, 64, .inl y1))] H := hP
          have hD : va_D A [(q_this, .inr (2, [.int v_this_dimension, .int v_this_changingRounds, .ref q_this_levels, .ref q_this_levelsBefore, .ref q_this_vectorSets])), (q_this_levels, .inl (k_this_levels, 64, .inl c_this_levels_20)), (q_this_levelsBefore, .inl (k_this_levelsBefore, 64, .inl y1))] := hD
          refine lv_istore (lv' := [(5, .int u4), (0, .ref q_this), (1, .long a1), (3, .int i3_20), (4, .int i4_20)]) hx hb dX2_roundChanges_42 hl (by decide) rfl (fun ls hl => ?_)
          refine lv_iload hx hb dX2_roundChanges_44 (lv_at hl 0 rfl) ?_
          refine lv_aload_n hx hb dX2_roundChanges_46 rfl (lv_at hl 1 rfl) ?_
          refine va_get (D := D) (ci := 2) (v := .ref q_this_levelsBefore) (C := RX2) (T := TX2) (N := 5) hx hb hts n_X2_roundChanges_X2 hown hK hP 0 rfl rfl 3 (by decide) (hts (.fieldLink RX2 15 "FaultyCube$Safety" "levelsBefore" "[I") (by decide +kernel)) (fun _ h9 => h9) rfl dX2_roundChanges_47 ?_
          refine lv_iload hx hb dX2_roundChanges_50 (lv_at hl 4 rfl) ?_
          replace hf := zob_some hf
          obtain ⟨u5, hu5, hf⟩ := hf
          refine kd_i (D := D) (v := u5) (av := [.ref q_this_levelsBefore, .int i4_20]) (wc := [(q_this_levelsBefore, .inl (k_this_levelsBefore, 64, .inl y1))]) (w1 := [(q_this_levelsBefore, .inl (k_this_levelsBefore, 64, .inl y1))]) (ws2 := [(q_this, .inr (2, [.int v_this_dimension, .int v_this_changingRounds, .ref q_this_levels, .ref q_this_levelsBefore, .ref q_this_vectorSets])), (q_this_levels, .inl (k_this_levels, 64, .inl c_this_levels_20)), (q_this_levelsBefore, .inl (k_this_levelsBefore, 64, .inl y1))]) hK hP hD hS hA hE [2] [1] [0, 1] [0, 1, 2] (fun hb1 hp1 => va_runSN (As := [.ref q_this_levelsBefore, .int i4_20]) (rest := [.int u4]) ⟨hx, hb, hml, hown, hts⟩ (c_X6_read l D H.size q_this_levelsBefore k_this_levelsBefore 64 y1 i4_20 u5 hu5) ⟨va_cnB 2 hts gX2_roundChanges_X6_read_n58 rfl rfl rfl (hE.1 (RX2, 58, yX6_read, RX6) (List.mem_of_getElem? (i := 9) rfl)) (hts (.initialized RX6) (by decide +kernel)) (by decide +kernel) ⟨Nat.le_of_ble_eq_true rfl, Nat.le_of_ble_eq_true rfl⟩, (hts (.static yX6_read) (by decide +kernel)), trivial⟩ ⟨hb1, hp1⟩ rfl rfl hl.1 rfl (lv_room (Nat.le_of_ble_eq_true rfl)) dX2_roundChanges_52 ⟨Nat.le_of_ble_eq_true rfl, Nat.le_of_ble_eq_true rfl⟩) rfl rfl rfl rfl rfl rfl rfl rfl rfl rfl (fun H locs hP hD hS => ?_)
          have hP : va_P D vwCl [(q_this, .inr (2, [.int v_this_dimension, .int v_this_changingRounds, .ref q_this_levels, .ref q_this_levelsBefore, .ref q_this_vectorSets])), (q_this_levels, .inl (k_this_levels, 64, .inl c_this_levels_20)), (q_this_levelsBefore, .inl (k_this_levelsBefore, 64, .inl y1))] H := hP
          have hD : va_D A [(q_this, .inr (2, [.int v_this_dimension, .int v_this_changingRounds, .ref q_this_levels, .ref q_this_levelsBefore, .ref q_this_vectorSets])), (q_this_levels, .inl (k_this_levels, 64, .inl c_this_levels_20)), (q_this_levelsBefore, .inl (k_this_levelsBefore, 64, .inl y1))] := hD
          replace hf := zjp_some hf
          obtain ⟨K60, eK60, hf⟩ := hf
          have j60 : ∀ (i3_60 : Int32), K60 i3_60 = some res → ∀ (H : Heap) (locs : List Loc) (ls : Array Slot), va_P D vwCl [(q_this, .inr (2, [.int v_this_dimension, .int v_this_changingRounds, .ref q_this_levels, .ref q_this_levelsBefore, .ref q_this_vectorSets])), (q_this_levels, .inl (k_this_levels, 64, .inl c_this_levels_20)), (q_this_levelsBefore, .inl (k_this_levelsBefore, 64, .inl y1))] H → va_D A [(q_this, .inr (2, [.int v_this_dimension, .int v_this_changingRounds, .ref q_this_levels, .ref q_this_levelsBefore, .ref q_this_vectorSets])), (q_this_levels, .inl (k_this_levels, 64, .inl c_this_levels_20)), (q_this_levelsBefore, .inl (k_this_levelsBefore, 64, .inl y1))] → va_S A s.heap H locs → lv_has ls 6 [(0, .ref q_this), (1, .long a1), (3, .int i3_60), (4, .int i4_20), (5, .int u4)] → W p l e rm_X2_roundChanges s m args below meth c H locs 0 0 Q (F0 m 60 ls []) := by
            intro i3_60 hf H locs ls hP hD hS hl
            replace hf := zap1 eK60 hf
            refine lv_aload_n hx hb dX2_roundChanges_60 rfl (lv_at hl 0 rfl) ?_
            refine va_get (D := D) (ci := 2) (v := .ref q_this_levels) (C := RX2) (T := TX2) (N := 5) hx hb hts n_X2_roundChanges_X2 hown hK hP 0 rfl rfl 2 (by decide) (hts (.fieldLink RX2 9 "FaultyCube$Safety" "levels" "[I") (by decide +kernel)) (fun _ h9 => h9) rfl dX2_roundChanges_61 ?_
            refine lv_iload hx hb dX2_roundChanges_64 (lv_at hl 3 rfl) ?_
            refine lv_iload hx hb dX2_roundChanges_66 (lv_at hl 4 rfl) ?_
            replace hf := zob_some hf
            obtain ⟨u6, hu6, hf⟩ := hf
            refine kd_v (D := D) (av := [.ref q_this_levels, .int i4_20, .int u4]) (wc := [(q_this_levels, .inl (k_this_levels, 64, .inl c_this_levels_20))]) (w1 := [(q_this_levels, .inl (k_this_levels, 64, .inl u6))]) (ws2 := [(q_this, .inr (2, [.int v_this_dimension, .int v_this_changingRounds, .ref q_this_levels, .ref q_this_levelsBefore, .ref q_this_vectorSets])), (q_this_levels, .inl (k_this_levels, 64, .inl u6)), (q_this_levelsBefore, .inl (k_this_levelsBefore, 64, .inl y1))]) hK hP hD hS hA hE [1] [0] [0, 2] [0, 2, 1] (fun hb1 hp1 => va_runSN (As := [.ref q_this_levels, .int i4_20, .int u4]) (rest := []) ⟨hx, hb, hml, hown, hts⟩ (c_X6_write l D H.size q_this_levels k_this_levels 64 c_this_levels_20 i4_20 u4 u6 hu6) ⟨va_cnB 3 hts gX2_roundChanges_X6_write_n44 rfl rfl rfl (hE.1 (RX2, 44, yX6_write, RX6) (List.mem_of_getElem? (i := 7) rfl)) (hts (.initialized RX6) (by decide +kernel)) (by decide +kernel) ⟨Nat.le_of_ble_eq_true rfl, Nat.le_of_ble_eq_true rfl⟩, (hts (.static yX6_write) (by decide +kernel)), trivial⟩ ⟨hb1, hp1⟩ rfl rfl hl.1 rfl (lv_room (Nat.le_of_ble_eq_true rfl)) dX2_roundChanges_68 ⟨Nat.le_of_ble_eq_true rfl, Nat.le_of_ble_eq_true rfl⟩) rfl rfl rfl rfl rfl rfl rfl rfl rfl rfl (fun H locs hP hD hS => ?_)
            have hP : va_P D vwCl [(q_this, .inr (2, [.int v_this_dimension, .int v_this_changingRounds, .ref q_this_levels, .ref q_this_levelsBefore, .ref q_this_vectorSets])), (q_this_levels, .inl (k_this_levels, 64, .inl u6)), (q_this_levelsBefore, .inl (k_this_levelsBefore, 64, .inl y1))] H := hP
            have hD : va_D A [(q_this, .inr (2, [.int v_this_dimension, .int v_this_changingRounds, .ref q_this_levels, .ref q_this_levelsBefore, .ref q_this_vectorSets])), (q_this_levels, .inl (k_this_levels, 64, .inl u6)), (q_this_levelsBefore, .inl (k_this_levelsBefore, 64, .inl y1))] := hD
            exact j71 i3_60 u6 hf H locs ls hP hD hS (lv_sub hl [0, 1, 2, 3] rfl)
          refine lv_icmp_eq (tgt := 60) hx hb dX2_roundChanges_55 (by decide) (fun cd55 => ?_) (fun cd55 => ?_)
          · replace hf := zite_t cd55 hf
            exact j60 i3_20 hf H locs ls hP hD hS (lv_sub hl [1, 2, 3, 4, 0] rfl)
          · replace hf := zite_f cd55 hf
            refine lv_iconst (v := 1) hx hb dX2_roundChanges_58 (by decide) ?_
            refine lv_istore_n (lv' := [(3, .int 1), (5, .int u4), (0, .ref q_this), (1, .long a1), (4, .int i4_20)]) hx hb dX2_roundChanges_59 rfl hl (by decide) rfl (fun ls hl => ?_)
            exact j60 1 hf H locs ls hP hD hS (lv_sub hl [2, 3, 0, 4, 1] rfl)
  exact h20 zfu 0 0 c_this_levels hf H locs ls hP hD hS (lv_sub hl [2, 3, 1, 0] rfl)
theorem n_X2_find_X2 : ∀ w ∈ u_ws RX2 TX2 5, w ∈ wsX2_find := by decide +kernel
abbrev rm_X2_find : Room := { frames := 4, cells := 0, slots := 0, locals := 92 }
set_option maxHeartbeats 4000000 in
set_option maxRecDepth 100000 in
theorem c_X2_find (l : Launch) (D : va_G) (sz : Nat) (q_this : Nat) (q_this_levels : Nat) (q_this_levelsBefore : Nat) (q_this_vectorSets : Nat) (k_this_levels : ClassId) (k_this_levelsBefore : ClassId) (k_this_vectorSets : ClassId) (v_this_dimension : Int32) (v_this_changingRounds : Int32) (c_this_levels : (Nat → Int32)) (c_this_levelsBefore : (Nat → Int32)) (c_this_vectorSets : (Nat → Int64)) (a1 : Int32) (a2 : Int64) (res : rt_X2_find) (hf : f_X2_find a1 a2 v_this_dimension v_this_changingRounds c_this_levels c_this_levelsBefore c_this_vectorSets = some res) : Met l yX2_find wsX2_find rm_X2_find (kP D [.ref q_this, .int a1, .long a2] [(q_this, .inr (2, [.int v_this_dimension, .int v_this_changingRounds, .ref q_this_levels, .ref q_this_levelsBefore, .ref q_this_vectorSets])), (q_this_levels, .inl (k_this_levels, 64, .inl c_this_levels)), (q_this_levelsBefore, .inl (k_this_levelsBefore, 64, .inl c_this_levelsBefore)), (q_this_vectorSets, .inl (k_this_vectorSets, 7, .inr (.inl c_this_vectorSets)))] [(k_this_levels, .int), (k_this_levelsBefore, .int), (k_this_vectorSets, .long)] sz) (kQv D (va_A [(q_this, .inr (2, [.int v_this_dimension, .int v_this_changingRounds, .ref q_this_levels, .ref q_this_levelsBefore, .ref q_this_vectorSets])), (q_this_levels, .inl (k_this_levels, 64, .inl c_this_levels)), (q_this_levelsBefore, .inl (k_this_levelsBefore, 64, .inl c_this_levelsBefore)), (q_this_vectorSets, .inl (k_this_vectorSets, 7, .inr (.inl c_this_vectorSets)))] sz) [(k_this_levels, .int), (k_this_levelsBefore, .int), (k_this_vectorSets, .long)] [(q_this, .inr (2, [.int res.1, .int res.2.1, .ref q_this_levels, .ref q_this_levelsBefore, .ref q_this_vectorSets])), (q_this_levels, .inl (k_this_levels, 64, .inl res.2.2.1)), (q_this_levelsBefore, .inl (k_this_levelsBefore, 64, .inl res.2.2.2.1)), (q_this_vectorSets, .inl (k_this_vectorSets, 7, .inr (.inl res.2.2.2.2)))]) 0 0 (va_A [(q_this, .inr (2, [.int v_this_dimension, .int v_this_changingRounds, .ref q_this_levels, .ref q_this_levelsBefore, .ref q_this_vectorSets])), (q_this_levels, .inl (k_this_levels, 64, .inl c_this_levels)), (q_this_levelsBefore, .inl (k_this_levelsBefore, 64, .inl c_this_levelsBefore)), (q_this_vectorSets, .inl (k_this_vectorSets, 7, .inr (.inl c_this_vectorSets)))] sz) := by
  refine Met.ofW (cc := cX2_find) (maxL := 6) (ret := none) (by decide +kernel) rfl ?_
  intro p e s m args below meth c s₁ B hml hv
  obtain ⟨hargs, hsz, hP, hK, hD0, hE⟩ := hv
  have hx := B.exec
  have hb := B.bytes
  have hr := B.returns
  have hts := atoms_spec (ws := wsX2_find) B.pre
  have hown : s.vm.findClass RX2 = some m.cls := findClass_of_methodNamed B.named
  have hlocks := B.notSynchronized
  subst hsz
  have hD := hD0.self (sz := s.heap.size)
  generalize hAe : va_A [(q_this, .inr (2, [.int v_this_dimension, .int v_this_changingRounds, .ref q_this_levels, .ref q_this_levelsBefore, .ref q_this_vectorSets])), (q_this_levels, .inl (k_this_levels, 64, .inl c_this_levels)), (q_this_levelsBefore, .inl (k_this_levelsBefore, 64, .inl c_this_levelsBefore)), (q_this_vectorSets, .inl (k_this_vectorSets, 7, .inr (.inl c_this_vectorSets)))] s.heap.size = A at hD hE ⊢
  have hA : ∀ q : Nat, s.heap.size ≤ q → A q := fun q h => by rw [← hAe]; exact Or.inr h
  have hS : va_S A s.heap s.heap [] := va_S.rf
  refine kgen (fun Q eQ => ?_)
  refine kent (av := [.ref q_this, .int a1, .long a2]) hargs (Nat.le_of_ble_eq_true rfl) (fun ls hl => ?_)
  have hl : lv_has ls 6 [(0, .ref q_this), (1, .int a1), (2, .long a2)] := hl
  show W p l e rm_X2_find s m args below meth c s.heap [] 0 0 Q (F0 m 0 ls [])
  unfold f_X2_find at hf
  refine lv_aload_n hx hb dX2_find_0 rfl (lv_at hl 0 rfl) ?_
  refine lv_iload_n hx hb dX2_find_1 rfl (lv_at hl 1 rfl) ?_
  refine va_put (D := D) (ci := 2) (v := .int a1) (ty := .int) (C := RX2) (T := TX2) (N := 5) hx hb hts n_X2_find_X2 tyX2 tyX2_ok nmX2 hown hK hP hD hS 0 rfl rfl 0 (by decide) (hts (.fieldLink RX2 22 "FaultyCube$Safety" "dimension" "I") (by decide +kernel)) (fun _ h9 => h9) rfl (by decide +kernel) rfl rfl (Nat.le_of_ble_eq_true rfl) dX2_find_2 (fun H locs hP hD hS => ?_)
  have hP : va_P D vwCl [(q_this, .inr (2, [.int a1, .int v_this_changingRounds, .ref q_this_levels, .ref q_this_levelsBefore, .ref q_this_vectorSets])), (q_this_levels, .inl (k_this_levels, 64, .inl c_this_levels)), (q_this_levelsBefore, .inl (k_this_levelsBefore, 64, .inl c_this_levelsBefore)), (q_this_vectorSets, .inl (k_this_vectorSets, 7, .inr (.inl c_this_vectorSets)))] H := hP
  have hD : va_D A [(q_this, .inr (2, [.int a1, .int v_this_changingRounds, .ref q_this_levels, .ref q_this_levelsBefore, .ref q_this_vectorSets])), (q_this_levels, .inl (k_this_levels, 64, .inl c_this_levels)), (q_this_levelsBefore, .inl (k_this_levelsBefore, 64, .inl c_this_levelsBefore)), (q_this_vectorSets, .inl (k_this_vectorSets, 7, .inr (.inl c_this_vectorSets)))] := hD
  refine lv_aload_n hx hb dX2_find_5 rfl (lv_at hl 0 rfl) ?_
  refine lv_lload_n hx hb dX2_find_6 rfl (lv_at hl 2 rfl) ?_
  replace hf := zob_some hf
  obtain ⟨u1, hu1, hf⟩ := hf
  refine kd_v (D := D) (av := [.ref q_this, .long a2]) (wc := [(q_this, .inr (2, [.int a1, .int v_this_changingRounds, .ref q_this_levels, .ref q_this_levelsBefore, .ref q_this_vectorSets])), (q_this_levels, .inl (k_this_levels, 64, .inl c_this_levels))]) (w1 := [(q_this, .inr (2, [.int a1, .int v_this_changingRounds, .ref q_this_levels, .ref q_this_levelsBefore, .ref q_this_vectorSets])), (q_this_levels, .inl (k_this_levels, 64, .inl u1))]) (ws2 := [(q_this, .inr (2, [.int a1, .int v_this_changingRounds, .ref q_this_levels, .ref q_this_levelsBefore, .ref q_this_vectorSets])), (q_this_levels, .inl (k_this_levels, 64, .inl u1)), (q_this_levelsBefore, .inl (k_this_levelsBefore, 64, .inl c_this_levelsBefore)), (q_this_vectorSets, .inl (k_this_vectorSets, 7, .inr (.inl c_this_vectorSets)))]) hK hP hD hS hA hE [0, 1] [0] [2, 3] [2, 3, 0, 1] (fun hb1 hp1 => va_runV (As := [.long a2]) (rest := []) ⟨hx, hb, hml, hown, hts⟩ (c_X2_startLevels l D H.size q_this q_this_levels q_this_levelsBefore q_this_vectorSets k_this_levels a1 v_this_changingRounds c_this_levels a2 u1 hu1) (cwV 1 hts gX2_find_X2_startLevels rfl rfl rfl (by decide +kernel) ⟨Nat.le_of_ble_eq_true rfl, Nat.le_of_ble_eq_true rfl⟩) ⟨hb1, va_recv hK hP (ci := 2) (q0 := 0) rfl rfl, hp1⟩ rfl rfl hl.1 rfl (lv_room (Nat.le_of_ble_eq_true rfl)) dX2_find_7 ⟨Nat.le_of_ble_eq_true rfl, Nat.le_of_ble_eq_true rfl⟩) rfl rfl rfl rfl rfl rfl rfl rfl rfl rfl (fun H locs hP hD hS => ?_)
  have hP : va_P D vwCl [(q_this, .inr (2, [.int a1, .int v_this_changingRounds, .ref q_this_levels, .ref q_this_levelsBefore, .ref q_this_vectorSets])), (q_this_levels, .inl (k_this_levels, 64, .inl u1)), (q_this_levelsBefore, .inl (k_this_levelsBefore, 64, .inl c_this_levelsBefore)), (q_this_vectorSets, .inl (k_this_vectorSets, 7, .inr (.inl c_this_vectorSets)))] H := hP
  have hD : va_D A [(q_this, .inr (2, [.int a1, .int v_this_changingRounds, .ref q_this_levels, .ref q_this_levelsBefore, .ref q_this_vectorSets])), (q_this_levels, .inl (k_this_levels, 64, .inl u1)), (q_this_levelsBefore, .inl (k_this_levelsBefore, 64, .inl c_this_levelsBefore)), (q_this_vectorSets, .inl (k_this_vectorSets, 7, .inr (.inl c_this_vectorSets)))] := hD
  refine lv_aload_n hx hb dX2_find_10 rfl (lv_at hl 0 rfl) ?_
  refine lv_iconst (v := 0) hx hb dX2_find_11 (by decide) ?_
  refine va_put (D := D) (ci := 2) (v := .int 0) (ty := .int) (C := RX2) (T := TX2) (N := 5) hx hb hts n_X2_find_X2 tyX2 tyX2_ok nmX2 hown hK hP hD hS 0 rfl rfl 1 (by decide) (hts (.fieldLink RX2 30 "FaultyCube$Safety" "changingRounds" "I") (by decide +kernel)) (fun _ h9 => h9) rfl (by decide +kernel) rfl rfl (Nat.le_of_ble_eq_true rfl) dX2_find_12 (fun H locs hP hD hS => ?_)
  have hP : va_P D vwCl [(q_this, .inr (2, [.int a1, .int 0, .ref q_this_levels, .ref q_this_levelsBefore, .ref q_this_vectorSets])), (q_this_levels, .inl (k_this_levels, 64, .inl u1)), (q_this_levelsBefore, .inl (k_this_levelsBefore, 64, .inl c_this_levelsBefore)), (q_this_vectorSets, .inl (k_this_vectorSets, 7, .inr (.inl c_this_vectorSets)))] H := hP
  have hD : va_D A [(q_this, .inr (2, [.int a1, .int 0, .ref q_this_levels, .ref q_this_levelsBefore, .ref q_this_vectorSets])), (q_this_levels, .inl (k_this_levels, 64, .inl u1)), (q_this_levelsBefore, .inl (k_this_levelsBefore, 64, .inl c_this_levelsBefore)), (q_this_vectorSets, .inl (k_this_vectorSets, 7, .inr (.inl c_this_vectorSets)))] := hD
  refine lv_iconst (v := 1) hx hb dX2_find_15 (by decide) ?_
  refine lv_istore (lv' := [(4, .int 1), (0, .ref q_this), (1, .int a1), (2, .long a2)]) hx hb dX2_find_16 hl (by decide) rfl (fun ls hl => ?_)
  refine lv_iconst (v := 0) hx hb dX2_find_18 (by decide) ?_
  refine lv_istore (lv' := [(5, .int 0), (4, .int 1), (0, .ref q_this), (1, .int a1), (2, .long a2)]) hx hb dX2_find_19 hl (by decide) rfl (fun ls hl => ?_)
  replace hf := zl5_some hf
  obtain ⟨F21, eF21, hf⟩ := hf
  have h21 : ∀ (n21 : Nat) (i4_21 : Int32) (i5_21 : Int32) (v_this_changingRounds_21 : Int32) (c_this_levels_21 : (Nat → Int32)) (c_this_levelsBefore_21 : (Nat → Int32)), zl5 F21 n21 i4_21 i5_21 v_this_changingRounds_21 c_this_levels_21 c_this_levelsBefore_21 = some res → ∀ (H : Heap) (locs : List Loc) (ls : Array Slot), va_P D vwCl [(q_this, .inr (2, [.int a1, .int v_this_changingRounds_21, .ref q_this_levels, .ref q_this_levelsBefore, .ref q_this_vectorSets])), (q_this_levels, .inl (k_this_levels, 64, .inl c_this_levels_21)), (q_this_levelsBefore, .inl (k_this_levelsBefore, 64, .inl c_this_levelsBefore_21)), (q_this_vectorSets, .inl (k_this_vectorSets, 7, .inr (.inl c_this_vectorSets)))] H → va_D A [(q_this, .inr (2, [.int a1, .int v_this_changingRounds_21, .ref q_this_levels, .ref q_this_levelsBefore, .ref q_this_vectorSets])), (q_this_levels, .inl (k_this_levels, 64, .inl c_this_levels_21)), (q_this_levelsBefore, .inl (k_this_levelsBefore, 64, .inl c_this_levelsBefore_21)), (q_this_vectorSets, .inl (k_this_vectorSets, 7, .inr (.inl c_this_vectorSets)))] → va_S A s.heap H locs → lv_has ls 6 [(0, .ref q_this), (2, .long a2), (4, .int i4_21), (5, .int i5_21)] → W p l e rm_X2_find s m args below meth c H locs 0 0 Q (F0 m 21 ls []) := by
    intro n21
    induction n21 with
    | zero => intro i4_21 i5_21 v_this_changingRounds_21 c_this_levels_21 c_this_levelsBefore_21 hf; exact (zl5_zero hf).elim
    | succ n21 ih21 =>
      intro i4_21 i5_21 v_this_changingRounds_21 c_this_levels_21 c_this_levelsBefore_21 hf H locs ls hP hD hS hl
      replace hf := zl5_step eF21 hf
      generalize zl5 F21 n21 = k21 at hf ih21
      refine lv_iload hx hb dX2_find_21 (lv_at hl 3 rfl) ?_
      refine lv_sipush (v := 385) hx hb dX2_find_23 (by decide) ?_
      replace hf := zjp_some hf
      obtain ⟨K66, eK66, hf⟩ := hf
      have j66 : K66 = some res → ∀ (H : Heap) (locs : List Loc) (ls : Array Slot), va_P D vwCl [(q_this, .inr (2, [.int a1, .int v_this_changingRounds_21, .ref q_this_levels, .ref q_this_levelsBefore, .ref q_this_vectorSets])), (q_this_levels, .inl (k_this_levels, 64, .inl c_this_levels_21)), (q_this_levelsBefore, .inl (k_this_levelsBefore, 64, .inl c_this_levelsBefore_21)), (q_this_vectorSets, .inl (k_this_vectorSets, 7, .inr (.inl c_this_vectorSets)))] H → va_D A [(q_this, .inr (2, [.int a1, .int v_this_changingRounds_21, .ref q_this_levels, .ref q_this_levelsBefore, .ref q_this_vectorSets])), (q_this_levels, .inl (k_this_levels, 64, .inl c_this_levels_21)), (q_this_levelsBefore, .inl (k_this_levelsBefore, 64, .inl c_this_levelsBefore_21)), (q_this_vectorSets, .inl (k_this_vectorSets, 7, .inr (.inl c_this_vectorSets)))] → va_S A s.heap H locs → lv_has ls 6 [(0, .ref q_this), (2, .long a2)] → W p l e rm_X2_find s m args below meth c H locs 0 0 Q (F0 m 66 ls []) := by
        intro  hf H locs ls hP hD hS hl
        replace hf := zap0 eK66 hf
        refine lv_aload_n hx hb dX2_find_66 rfl (lv_at hl 0 rfl) ?_
        refine lv_lload_n hx hb dX2_find_67 rfl (lv_at hl 1 rfl) ?_
        replace hf := zob_some hf
        obtain ⟨u2, hu2, hf⟩ := hf
        refine kd_v (D := D) (av := [.ref q_this, .long a2]) (wc := [(q_this, .inr (2, [.int a1, .int v_this_changingRounds_21, .ref q_this_levels, .ref q_this_levelsBefore, .ref q_this_vectorSets])), (q_this_vectorSets, .inl (k_this_vectorSets, 7, .inr (.inl c_this_vectorSets)))]) (w1 := [(q_this, .inr (2, [.int a1, .int v_this_changingRounds_21, .ref q_this_levels, .ref q_this_levelsBefore, .ref q_this_vectorSets])), (q_this_vectorSets, .inl (k_this_vectorSets, 7, .inr (.inl u2)))]) (ws2 := [(q_this, .inr (2, [.int a1, .int v_this_changingRounds_21, .ref q_this_levels, .ref q_this_levelsBefore, .ref q_this_vectorSets])), (q_this_levels, .inl (k_this_levels, 64, .inl c_this_levels_21)), (q_this_levelsBefore, .inl (k_this_levelsBefore, 64, .inl c_this_levelsBefore_21)), (q_this_vectorSets, .inl (k_this_vectorSets, 7, .inr (.inl u2)))]) hK hP hD hS hA hE [0, 3] [2] [1, 2] [2, 0, 1, 3] (fun hb1 hp1 => va_runV (As := [.long a2]) (rest := []) ⟨hx, hb, hml, hown, hts⟩ (c_X2_findVectors l D H.size q_this q_this_levels q_this_levelsBefore q_this_vectorSets k_this_vectorSets a1 v_this_changingRounds_21 c_this_vectorSets a2 u2 hu2) (cwV 1 hts gX2_find_X2_findVectors rfl rfl rfl (by decide +kernel) ⟨Nat.le_of_ble_eq_true rfl, Nat.le_of_ble_eq_true rfl⟩) ⟨hb1, va_recv hK hP (ci := 2) (q0 := 0) rfl rfl, hp1⟩ rfl rfl hl.1 rfl (lv_room (Nat.le_of_ble_eq_true rfl)) dX2_find_68 ⟨Nat.le_of_ble_eq_true rfl, Nat.le_of_ble_eq_true rfl⟩) rfl rfl rfl rfl rfl rfl rfl rfl rfl rfl (fun H locs hP hD hS => ?_)
        have hP : va_P D vwCl [(q_this, .inr (2, [.int a1, .int v_this_changingRounds_21, .ref q_this_levels, .ref q_this_levelsBefore, .ref q_this_vectorSets])), (q_this_levels, .inl (k_this_levels, 64, .inl c_this_levels_21)), (q_this_levelsBefore, .inl (k_this_levelsBefore, 64, .inl c_this_levelsBefore_21)), (q_this_vectorSets, .inl (k_this_vectorSets, 7, .inr (.inl u2)))] H := hP
        have hD : va_D A [(q_this, .inr (2, [.int a1, .int v_this_changingRounds_21, .ref q_this_levels, .ref q_this_levelsBefore, .ref q_this_vectorSets])), (q_this_levels, .inl (k_this_levels, 64, .inl c_this_levels_21)), (q_this_levelsBefore, .inl (k_this_levelsBefore, 64, .inl c_this_levelsBefore_21)), (q_this_vectorSets, .inl (k_this_vectorSets, 7, .inr (.inl u2)))] := hD
        obtain rfl := Option.some.inj hf
        subst eQ
        exact kr_v hx hb hr hlocks hK hP hD hS dX2_find_71
      refine lv_icmp_ge (tgt := 66) hx hb dX2_find_26 (by decide) (fun cd26 => ?_) (fun cd26 => ?_)
      · replace hf := zite_t cd26 hf
        exact j66  hf H locs ls hP hD hS (lv_sub hl [0, 1] rfl)
      · replace hf := zite_f cd26 hf
        refine lv_iload hx hb dX2_find_29 (lv_at hl 2 rfl) ?_
        refine lv_if_eq (tgt := 66) hx hb dX2_find_31 (by decide) (fun cd31 => ?_) (fun cd31 => ?_)
        · replace hf := zite_t cd31 hf
          exact j66  hf H locs ls hP hD hS (lv_sub hl [0, 1] rfl)
        · replace hf := zite_f cd31 hf
          refine lv_aload_n hx hb dX2_find_34 rfl (lv_at hl 0 rfl) ?_
          refine lv_lload_n hx hb dX2_find_35 rfl (lv_at hl 1 rfl) ?_
          replace hf := zob_some hf
          obtain ⟨u3, hu3, hf⟩ := hf
          refine kd_i (D := D) (v := u3.1) (av := [.ref q_this, .long a2]) (wc := [(q_this, .inr (2, [.int a1, .int v_this_changingRounds_21, .ref q_this_levels, .ref q_this_levelsBefore, .ref q_this_vectorSets])), (q_this_levels, .inl (k_this_levels, 64, .inl c_this_levels_21)), (q_this_levelsBefore, .inl (k_this_levelsBefore, 64, .inl c_this_levelsBefore_21))]) (w1 := [(q_this, .inr (2, [.int a1, .int v_this_changingRounds_21, .ref q_this_levels, .ref q_this_levelsBefore, .ref q_this_vectorSets])), (q_this_levels, .inl (k_this_levels, 64, .inl u3.2.1)), (q_this_levelsBefore, .inl (k_this_levelsBefore, 64, .inl u3.2.2))]) (ws2 := [(q_this, .inr (2, [.int a1, .int v_this_changingRounds_21, .ref q_this_levels, .ref q_this_levelsBefore, .ref q_this_vectorSets])), (q_this_levels, .inl (k_this_levels, 64, .inl u3.2.1)), (q_this_levelsBefore, .inl (k_this_levelsBefore, 64, .inl u3.2.2)), (q_this_vectorSets, .inl (k_this_vectorSets, 7, .inr (.inl c_this_vectorSets)))]) hK hP hD hS hA hE [0, 1, 2] [0, 1] [3] [1, 2, 3, 0] (fun hb1 hp1 => va_runV (As := [.long a2]) (rest := []) ⟨hx, hb, hml, hown, hts⟩ (c_X2_roundChanges l D H.size q_this q_this_levels q_this_levelsBefore q_this_vectorSets k_this_levels k_this_levelsBefore a1 v_this_changingRounds_21 c_this_levels_21 c_this_levelsBefore_21 a2 u3 hu3) (cwV 1 hts gX2_find_X2_roundChanges rfl rfl rfl (by decide +kernel) ⟨Nat.le_of_ble_eq_true rfl, Nat.le_of_ble_eq_true rfl⟩) ⟨hb1, va_recv hK hP (ci := 2) (q0 := 0) rfl rfl, hp1⟩ rfl rfl hl.1 rfl (lv_room (Nat.le_of_ble_eq_true rfl)) dX2_find_36 ⟨Nat.le_of_ble_eq_true rfl, Nat.le_of_ble_eq_true rfl⟩) rfl rfl rfl rfl rfl rfl rfl rfl rfl rfl (fun H locs hP hD hS => ?_)
          have hP : va_P D vwCl [(q_this, .inr (2, [.int a1, .int v_this_changingRounds_21, .ref q_this_levels, .ref q_this_levelsBefore, .ref q_this_vectorSets])), (q_this_levels, .inl (k_this_levels, 64, .inl u3.2.1)), (q_this_levelsBefore, .inl (k_this_levelsBefore, 64, .inl u3.2.2)), (q_this_vectorSets, .inl (k_this_vectorSets, 7, .inr (.inl c_this_vectorSets)))] H := hP
          have hD : va_D A [(q_this, .inr (2, [.int a1, .int v_this_changingRounds_21, .ref q_this_levels, .ref q_this_levelsBefore, .ref q_this_vectorSets])), (q_this_levels, .inl (k_this_levels, 64, .inl u3.2.1)), (q_this_levelsBefore, .inl (k_this_levelsBefore, 64, .inl u3.2.2)), (q_this_vectorSets, .inl (k_this_vectorSets, 7, .inr (.inl c_this_vectorSets)))] := hD
          refine lv_topi (fun x4 ex4 => ?_)
          replace hf := zbd_of ex4 hf
          refine lv_istore (lv' := [(4, .int x4), (0, .ref q_this), (2, .long a2), (5, .int i5_21)]) hx hb dX2_find_39 hl (by decide) rfl (fun ls hl => ?_)
          refine lv_aload_n hx hb dX2_find_41 rfl (lv_at hl 1 rfl) ?_
          refine lv_dup hx hb dX2_find_42 rfl ?_
          refine va_get (D := D) (ci := 2) (v := .int v_this_changingRounds_21) (C := RX2) (T := TX2) (N := 5) hx hb hts n_X2_find_X2 hown hK hP 0 rfl rfl 1 (by decide) (hts (.fieldLink RX2 30 "FaultyCube$Safety" "changingRounds" "I") (by decide +kernel)) (fun _ h9 => h9) rfl dX2_find_43 ?_
          refine lv_iload hx hb dX2_find_46 (lv_at hl 0 rfl) ?_
          replace hf := zjp_some hf
          obtain ⟨K56, eK56, hf⟩ := hf
          have j56 : ∀ (s1_56 : Int32) (s2_56 : Int32), K56 s1_56 s2_56 = some res → ∀ (H : Heap) (locs : List Loc) (ls : Array Slot), va_P D vwCl [(q_this, .inr (2, [.int a1, .int v_this_changingRounds_21, .ref q_this_levels, .ref q_this_levelsBefore, .ref q_this_vectorSets])), (q_this_levels, .inl (k_this_levels, 64, .inl u3.2.1)), (q_this_levelsBefore, .inl (k_this_levelsBefore, 64, .inl u3.2.2)), (q_this_vectorSets, .inl (k_this_vectorSets, 7, .inr (.inl c_this_vectorSets)))] H → va_D A [(q_this, .inr (2, [.int a1, .int v_this_changingRounds_21, .ref q_this_levels, .ref q_this_levelsBefore, .ref q_this_vectorSets])), (q_this_levels, .inl (k_this_levels, 64, .inl u3.2.1)), (q_this_levelsBefore, .inl (k_this_levelsBefore, 64, .inl u3.2.2)), (q_this_vectorSets, .inl (k_this_vectorSets, 7, .inr (.inl c_this_vectorSets)))] → va_S A s.heap H locs → lv_has ls 6 [(0, .ref q_this), (2, .long a2), (4, .int x4), (5, .int i5_21)] → W p l e rm_X2_find s m args below meth c H locs 0 0 Q (F0 m 56 ls [.int s2_56, .int s1_56, .ref q_this]) := by
            intro s1_56 s2_56 hf H locs ls hP hD hS hl
            replace hf := zap2 eK56 hf
            refine lv_iadd hx hb dX2_find_56 ?_
            refine lv_topi (fun x5 ex5 => ?_)
            replace hf := zbd_of ex5 hf
            refine va_put (D := D) (ci := 2) (v := .int x5) (ty := .int) (C := RX2) (T := TX2) (N := 5) hx hb hts n_X2_find_X2 tyX2 tyX2_ok nmX2 hown hK hP hD hS 0 rfl rfl 1 (by decide) (hts (.fieldLink RX2 30 "FaultyCube$Safety" "changingRounds" "I") (by decide +kernel)) (fun _ h9 => h9) rfl (by decide +kernel) rfl rfl (Nat.le_of_ble_eq_true rfl) dX2_find_57 (fun H locs hP hD hS => ?_)
            have hP : va_P D vwCl [(q_this, .inr (2, [.int a1, .int x5, .ref q_this_levels, .ref q_this_levelsBefore, .ref q_this_vectorSets])), (q_this_levels, .inl (k_this_levels, 64, .inl u3.2.1)), (q_this_levelsBefore, .inl (k_this_levelsBefore, 64, .inl u3.2.2)), (q_this_vectorSets, .inl (k_this_vectorSets, 7, .inr (.inl c_this_vectorSets)))] H := hP
            have hD : va_D A [(q_this, .inr (2, [.int a1, .int x5, .ref q_this_levels, .ref q_this_levelsBefore, .ref q_this_vectorSets])), (q_this_levels, .inl (k_this_levels, 64, .inl u3.2.1)), (q_this_levelsBefore, .inl (k_this_levelsBefore, 64, .inl u3.2.2)), (q_this_vectorSets, .inl (k_this_vectorSets, 7, .inr (.inl c_this_vectorSets)))] := hD
            obtain ⟨x6, ex6⟩ : ∃ y : Int32, y = i5_21 + 1 := ⟨_, rfl⟩
            replace hf := zbd_of ex6 hf
            refine lv_iinc (v := x6) (lv' := [(5, .int x6), (0, .ref q_this), (2, .long a2), (4, .int x4)]) hx hb dX2_find_60 hl (k := 3) rfl (by rw [ex6]; rfl) (by decide) rfl (fun ls hl => ?_)
            refine lv_goto (tgt := 21) hx hb dX2_find_63 (by decide) ?_
            exact ih21 x4 x6 x5 u3.2.1 u3.2.2 hf H locs ls hP hD hS (lv_sub hl [1, 2, 3, 0] rfl)
          refine lv_if_eq (tgt := 55) hx hb dX2_find_48 (by decide) (fun cd48 => ?_) (fun cd48 => ?_)
          · replace hf := zite_t cd48 hf
            refine lv_iconst (v := 0) hx hb dX2_find_55 (by decide) ?_
            exact j56 v_this_changingRounds_21 0 hf H locs ls hP hD hS (lv_sub hl [1, 2, 0, 3] rfl)
          · replace hf := zite_f cd48 hf
            refine lv_iconst (v := 1) hx hb dX2_find_51 (by decide) ?_
            refine lv_goto (tgt := 56) hx hb dX2_find_52 (by decide) ?_
            exact j56 v_this_changingRounds_21 1 hf H locs ls hP hD hS (lv_sub hl [1, 2, 0, 3] rfl)
  exact h21 zfu 1 0 0 u1 c_this_levelsBefore hf H locs ls hP hD hS (lv_sub hl [2, 4, 1, 0] rfl)
theorem n_X2_bitOf_X2 : ∀ w ∈ u_ws RX2 TX2 5, w ∈ wsX2_bitOf := by decide +kernel
abbrev rm_X2_bitOf : Room := { frames := 1, cells := 0, slots := 0, locals := 22 }
set_option maxHeartbeats 4000000 in
set_option maxRecDepth 100000 in
theorem c_X2_bitOf (l : Launch) (D : va_G) (sz : Nat) (q_this : Nat) (q_this_levels : Nat) (q_this_levelsBefore : Nat) (q_this_vectorSets : Nat) (k_this_vectorSets : ClassId) (v_this_dimension : Int32) (v_this_changingRounds : Int32) (c_this_vectorSets : (Nat → Int64)) (a1 : Int32) (a2 : Int32) (res : rt_X2_bitOf) (hf : f_X2_bitOf a1 a2 c_this_vectorSets = some res) : Met l yX2_bitOf wsX2_bitOf rm_X2_bitOf (kP D [.ref q_this, .int a1, .int a2] [(q_this, .inr (2, [.int v_this_dimension, .int v_this_changingRounds, .ref q_this_levels, .ref q_this_levelsBefore, .ref q_this_vectorSets])), (q_this_vectorSets, .inl (k_this_vectorSets, 7, .inr (.inl c_this_vectorSets)))] [(k_this_vectorSets, .long)] sz) (kQi D (va_A [(q_this, .inr (2, [.int v_this_dimension, .int v_this_changingRounds, .ref q_this_levels, .ref q_this_levelsBefore, .ref q_this_vectorSets])), (q_this_vectorSets, .inl (k_this_vectorSets, 7, .inr (.inl c_this_vectorSets)))] sz) [(k_this_vectorSets, .long)] res [(q_this, .inr (2, [.int v_this_dimension, .int v_this_changingRounds, .ref q_this_levels, .ref q_this_levelsBefore, .ref q_this_vectorSets])), (q_this_vectorSets, .inl (k_this_vectorSets, 7, .inr (.inl c_this_vectorSets)))]) 0 0 (va_A [(q_this, .inr (2, [.int v_this_dimension, .int v_this_changingRounds, .ref q_this_levels, .ref q_this_levelsBefore, .ref q_this_vectorSets])), (q_this_vectorSets, .inl (k_this_vectorSets, 7, .inr (.inl c_this_vectorSets)))] sz) := by
  refine Met.ofW (cc := cX2_bitOf) (maxL := 4) (ret := (some .int)) (by decide +kernel) rfl ?_
  intro p e s m args below meth c s₁ B hml hv
  obtain ⟨hargs, hsz, hP, hK, hD0, hE⟩ := hv
  have hx := B.exec
  have hb := B.bytes
  have hr := B.returns
  have hts := atoms_spec (ws := wsX2_bitOf) B.pre
  have hown : s.vm.findClass RX2 = some m.cls := findClass_of_methodNamed B.named
  have hlocks := B.notSynchronized
  subst hsz
  have hD := hD0.self (sz := s.heap.size)
  generalize hAe : va_A [(q_this, .inr (2, [.int v_this_dimension, .int v_this_changingRounds, .ref q_this_levels, .ref q_this_levelsBefore, .ref q_this_vectorSets])), (q_this_vectorSets, .inl (k_this_vectorSets, 7, .inr (.inl c_this_vectorSets)))] s.heap.size = A at hD hE ⊢
  have hA : ∀ q : Nat, s.heap.size ≤ q → A q := fun q h => by rw [← hAe]; exact Or.inr h
  have hS : va_S A s.heap s.heap [] := va_S.rf
  refine kgen (fun Q eQ => ?_)
  refine kent (av := [.ref q_this, .int a1, .int a2]) hargs (Nat.le_of_ble_eq_true rfl) (fun ls hl => ?_)
  have hl : lv_has ls 4 [(0, .ref q_this), (1, .int a1), (2, .int a2)] := hl
  show W p l e rm_X2_bitOf s m args below meth c s.heap [] 0 0 Q (F0 m 0 ls [])
  unfold f_X2_bitOf at hf
  refine lv_iload_n hx hb dX2_bitOf_0 rfl (lv_at hl 2 rfl) ?_
  replace hf := zjp_some hf
  obtain ⟨K31, eK31, hf⟩ := hf
  have j31 : ∀ (s0_31 : Int32), K31 s0_31 = some res → ∀ (H : Heap) (locs : List Loc) (ls : Array Slot), va_P D vwCl [(q_this, .inr (2, [.int v_this_dimension, .int v_this_changingRounds, .ref q_this_levels, .ref q_this_levelsBefore, .ref q_this_vectorSets])), (q_this_vectorSets, .inl (k_this_vectorSets, 7, .inr (.inl c_this_vectorSets)))] H → va_D A [(q_this, .inr (2, [.int v_this_dimension, .int v_this_changingRounds, .ref q_this_levels, .ref q_this_levelsBefore, .ref q_this_vectorSets])), (q_this_vectorSets, .inl (k_this_vectorSets, 7, .inr (.inl c_this_vectorSets)))] → va_S A s.heap H locs → lv_has ls 4 [] → W p l e rm_X2_bitOf s m args below meth c H locs 0 0 Q (F0 m 31 ls [.int s0_31]) := by
    intro s0_31 hf H locs ls hP hD hS hl
    replace hf := zap1 eK31 hf
    refine lv_istore_n (lv' := [(3, .int s0_31)]) hx hb dX2_bitOf_31 rfl hl (by decide) rfl (fun ls hl => ?_)
    refine lv_iload_n hx hb dX2_bitOf_32 rfl (lv_at hl 0 rfl) ?_
    refine lv_if_eq (tgt := 40) hx hb dX2_bitOf_33 (by decide) (fun cd33 => ?_) (fun cd33 => ?_)
    · replace hf := zite_t cd33 hf
      refine lv_iconst (v := 0) hx hb dX2_bitOf_40 (by decide) ?_
      obtain rfl := Option.some.inj hf
      subst eQ
      exact kr_i hx hb hr hlocks hK hP hD hS dX2_bitOf_41
    · replace hf := zite_f cd33 hf
      refine lv_iconst (v := 1) hx hb dX2_bitOf_36 (by decide) ?_
      refine lv_goto (tgt := 41) hx hb dX2_bitOf_37 (by decide) ?_
      obtain rfl := Option.some.inj hf
      subst eQ
      exact kr_i hx hb hr hlocks hK hP hD hS dX2_bitOf_41
  replace hf := zjp_some hf
  obtain ⟨K30, eK30, hf⟩ := hf
  have j30 : K30 = some res → ∀ (H : Heap) (locs : List Loc) (ls : Array Slot), va_P D vwCl [(q_this, .inr (2, [.int v_this_dimension, .int v_this_changingRounds, .ref q_this_levels, .ref q_this_levelsBefore, .ref q_this_vectorSets])), (q_this_vectorSets, .inl (k_this_vectorSets, 7, .inr (.inl c_this_vectorSets)))] H → va_D A [(q_this, .inr (2, [.int v_this_dimension, .int v_this_changingRounds, .ref q_this_levels, .ref q_this_levelsBefore, .ref q_this_vectorSets])), (q_this_vectorSets, .inl (k_this_vectorSets, 7, .inr (.inl c_this_vectorSets)))] → va_S A s.heap H locs → lv_has ls 4 [] → W p l e rm_X2_bitOf s m args below meth c H locs 0 0 Q (F0 m 30 ls []) := by
    intro  hf H locs ls hP hD hS hl
    replace hf := zap0 eK30 hf
    refine lv_iconst (v := 0) hx hb dX2_bitOf_30 (by decide) ?_
    exact j31 0 hf H locs ls hP hD hS (lv_sub hl [] rfl)
  refine lv_if_lt (tgt := 30) hx hb dX2_bitOf_1 (by decide) (fun cd1 => ?_) (fun cd1 => ?_)
  · replace hf := zite_t cd1 hf
    exact j30  hf s.heap [] ls hP hD hS (lv_sub hl [] rfl)
  · replace hf := zite_f cd1 hf
    refine lv_iload_n hx hb dX2_bitOf_4 rfl (lv_at hl 2 rfl) ?_
    refine lv_aload_n hx hb dX2_bitOf_5 rfl (lv_at hl 0 rfl) ?_
    refine va_get (D := D) (ci := 2) (v := .ref q_this_vectorSets) (C := RX2) (T := TX2) (N := 5) hx hb hts n_X2_bitOf_X2 hown hK hP 0 rfl rfl 4 (by decide) (hts (.fieldLink RX2 18 "FaultyCube$Safety" "vectorSets" "[J") (by decide +kernel)) (fun _ h9 => h9) rfl dX2_bitOf_6 ?_
    refine va_alen (D := D) (v := 7) hx hb hK hP 1 0 rfl rfl rfl dX2_bitOf_9 ?_
    refine lv_icmp_ge (tgt := 30) hx hb dX2_bitOf_10 (by decide) (fun cd10 => ?_) (fun cd10 => ?_)
    · replace hf := zite_t cd10 hf
      exact j30  hf s.heap [] ls hP hD hS (lv_sub hl [] rfl)
    · replace hf := zite_f cd10 hf
      refine lv_aload_n hx hb dX2_bitOf_13 rfl (lv_at hl 0 rfl) ?_
      refine va_get (D := D) (ci := 2) (v := .ref q_this_vectorSets) (C := RX2) (T := TX2) (N := 5) hx hb hts n_X2_bitOf_X2 hown hK hP 0 rfl rfl 4 (by decide) (hts (.fieldLink RX2 18 "FaultyCube$Safety" "vectorSets" "[J") (by decide +kernel)) (fun _ h9 => h9) rfl dX2_bitOf_14 ?_
      refine lv_iload_n hx hb dX2_bitOf_17 rfl (lv_at hl 2 rfl) ?_
      replace hf := zgd_some hf
      obtain ⟨g1, hf⟩ := hf
      refine va_lald (D := D) hx hb hK hP 1 0 rfl rfl (inb_in g1) dX2_bitOf_18 ?_
      refine lv_iload_n hx hb dX2_bitOf_19 rfl (lv_at hl 1 rfl) ?_
      replace hf := zob_some hf
      obtain ⟨u2, hu2, hf⟩ := hf
      refine kd_i (D := D) (v := u2) (av := [.long (c_this_vectorSets (a2 : Int32).toNatClampNeg), .int a1]) (wc := []) (w1 := []) (ws2 := [(q_this, .inr (2, [.int v_this_dimension, .int v_this_changingRounds, .ref q_this_levels, .ref q_this_levelsBefore, .ref q_this_vectorSets])), (q_this_vectorSets, .inl (k_this_vectorSets, 7, .inr (.inl c_this_vectorSets)))]) hK hP hD hS hA hE [] [] [0, 1] [0, 1] (fun hb1 hp1 => va_runSN (As := [.long (c_this_vectorSets (a2 : Int32).toNatClampNeg), .int a1]) (rest := []) ⟨hx, hb, hml, hown, hts⟩ (c_X6_contains l D s.heap.size (c_this_vectorSets (a2 : Int32).toNatClampNeg) a1 u2 hu2) ⟨va_cnB 2 hts gX2_bitOf_X6_contains_n40 rfl rfl rfl (hE.1 (RX2, 40, yX6_contains, RX6) (List.mem_of_getElem? (i := 6) rfl)) (hts (.initialized RX6) (by decide +kernel)) (by decide +kernel) ⟨Nat.le_of_ble_eq_true rfl, Nat.le_of_ble_eq_true rfl⟩, (hts (.static yX6_contains) (by decide +kernel)), trivial⟩ ⟨hb1, hp1⟩ rfl rfl hl.1 rfl (lv_room (Nat.le_of_ble_eq_true rfl)) dX2_bitOf_20 ⟨Nat.le_of_ble_eq_true rfl, Nat.le_of_ble_eq_true rfl⟩) rfl rfl rfl rfl rfl rfl rfl rfl rfl rfl (fun H locs hP hD hS => ?_)
      have hP : va_P D vwCl [(q_this, .inr (2, [.int v_this_dimension, .int v_this_changingRounds, .ref q_this_levels, .ref q_this_levelsBefore, .ref q_this_vectorSets])), (q_this_vectorSets, .inl (k_this_vectorSets, 7, .inr (.inl c_this_vectorSets)))] H := hP
      have hD : va_D A [(q_this, .inr (2, [.int v_this_dimension, .int v_this_changingRounds, .ref q_this_levels, .ref q_this_levelsBefore, .ref q_this_vectorSets])), (q_this_vectorSets, .inl (k_this_vectorSets, 7, .inr (.inl c_this_vectorSets)))] := hD
      refine lv_if_eq (tgt := 30) hx hb dX2_bitOf_23 (by decide) (fun cd23 => ?_) (fun cd23 => ?_)
      · replace hf := zite_t cd23 hf
        exact j30  hf H locs ls hP hD hS (lv_sub hl [] rfl)
      · replace hf := zite_f cd23 hf
        refine lv_iconst (v := 1) hx hb dX2_bitOf_26 (by decide) ?_
        refine lv_goto (tgt := 31) hx hb dX2_bitOf_27 (by decide) ?_
        exact j31 1 hf H locs ls hP hD hS (lv_sub hl [] rfl)
abbrev rm_X2_bestLevel : Room := { frames := 3, cells := 0, slots := 0, locals := 67 }
set_option maxHeartbeats 4000000 in
set_option maxRecDepth 100000 in
theorem c_X2_bestLevel (l : Launch) (D : va_G) (sz : Nat) (q_this : Nat) (q_this_levels : Nat) (q_this_levelsBefore : Nat) (q_this_vectorSets : Nat) (k_this_levels : ClassId) (v_this_dimension : Int32) (v_this_changingRounds : Int32) (c_this_levels : (Nat → Int32)) (a1 : Int32) (a2 : Int32) (res : rt_X2_bestLevel) (hf : f_X2_bestLevel a1 a2 v_this_dimension c_this_levels = some res) : Met l yX2_bestLevel wsX2_bestLevel rm_X2_bestLevel (kP D [.ref q_this, .int a1, .int a2] [(q_this, .inr (2, [.int v_this_dimension, .int v_this_changingRounds, .ref q_this_levels, .ref q_this_levelsBefore, .ref q_this_vectorSets])), (q_this_levels, .inl (k_this_levels, 64, .inl c_this_levels))] [(k_this_levels, .int)] sz) (kQi D (va_A [(q_this, .inr (2, [.int v_this_dimension, .int v_this_changingRounds, .ref q_this_levels, .ref q_this_levelsBefore, .ref q_this_vectorSets])), (q_this_levels, .inl (k_this_levels, 64, .inl c_this_levels))] sz) [(k_this_levels, .int)] res [(q_this, .inr (2, [.int v_this_dimension, .int v_this_changingRounds, .ref q_this_levels, .ref q_this_levelsBefore, .ref q_this_vectorSets])), (q_this_levels, .inl (k_this_levels, 64, .inl c_this_levels))]) 0 0 (va_A [(q_this, .inr (2, [.int v_this_dimension, .int v_this_changingRounds, .ref q_this_levels, .ref q_this_levelsBefore, .ref q_this_vectorSets])), (q_this_levels, .inl (k_this_levels, 64, .inl c_this_levels))] sz) := by
  refine Met.ofW (cc := cX2_bestLevel) (maxL := 4) (ret := (some .int)) (by decide +kernel) rfl ?_
  intro p e s m args below meth c s₁ B hml hv
  obtain ⟨hargs, hsz, hP, hK, hD0, hE⟩ := hv
  have hx := B.exec
  have hb := B.bytes
  have hr := B.returns
  have hts := atoms_spec (ws := wsX2_bestLevel) B.pre
  have hown : s.vm.findClass RX2 = some m.cls := findClass_of_methodNamed B.named
  have hlocks := B.notSynchronized
  subst hsz
  have hD := hD0.self (sz := s.heap.size)
  generalize hAe : va_A [(q_this, .inr (2, [.int v_this_dimension, .int v_this_changingRounds, .ref q_this_levels, .ref q_this_levelsBefore, .ref q_this_vectorSets])), (q_this_levels, .inl (k_this_levels, 64, .inl c_this_levels))] s.heap.size = A at hD hE ⊢
  have hA : ∀ q : Nat, s.heap.size ≤ q → A q := fun q h => by rw [← hAe]; exact Or.inr h
  have hS : va_S A s.heap s.heap [] := va_S.rf
  refine kgen (fun Q eQ => ?_)
  refine kent (av := [.ref q_this, .int a1, .int a2]) hargs (Nat.le_of_ble_eq_true rfl) (fun ls hl => ?_)
  have hl : lv_has ls 4 [(0, .ref q_this), (1, .int a1), (2, .int a2)] := hl
  show W p l e rm_X2_bestLevel s m args below meth c s.heap [] 0 0 Q (F0 m 0 ls [])
  unfold f_X2_bestLevel at hf
  refine lv_aload_n hx hb dX2_bestLevel_0 rfl (lv_at hl 0 rfl) ?_
  refine lv_iload_n hx hb dX2_bestLevel_1 rfl (lv_at hl 1 rfl) ?_
  refine lv_iload_n hx hb dX2_bestLevel_2 rfl (lv_at hl 2 rfl) ?_
  replace hf := zob_some hf
  obtain ⟨u1, hu1, hf⟩ := hf
  refine kd_i (D := D) (v := u1) (av := [.ref q_this, .int a1, .int a2]) (wc := [(q_this, .inr (2, [.int v_this_dimension, .int v_this_changingRounds, .ref q_this_levels, .ref q_this_levelsBefore, .ref q_this_vectorSets])), (q_this_levels, .inl (k_this_levels, 64, .inl c_this_levels))]) (w1 := [(q_this, .inr (2, [.int v_this_dimension, .int v_this_changingRounds, .ref q_this_levels, .ref q_this_levelsBefore, .ref q_this_vectorSets])), (q_this_levels, .inl (k_this_levels, 64, .inl c_this_levels))]) (ws2 := [(q_this, .inr (2, [.int v_this_dimension, .int v_this_changingRounds, .ref q_this_levels, .ref q_this_levelsBefore, .ref q_this_vectorSets])), (q_this_levels, .inl (k_this_levels, 64, .inl c_this_levels))]) hK hP hD hS hA hE [0, 1] [0] [] [0, 1] (fun hb1 hp1 => va_runV (As := [.int a1, .int a2]) (rest := []) ⟨hx, hb, hml, hown, hts⟩ (c_X2_bestDimension l D s.heap.size q_this q_this_levels q_this_levelsBefore q_this_vectorSets k_this_levels v_this_dimension v_this_changingRounds c_this_levels a1 a2 u1 hu1) (cwV 2 hts gX2_bestLevel_X2_bestDimension rfl rfl rfl (by decide +kernel) ⟨Nat.le_of_ble_eq_true rfl, Nat.le_of_ble_eq_true rfl⟩) ⟨hb1, va_recv hK hP (ci := 2) (q0 := 0) rfl rfl, hp1⟩ rfl rfl hl.1 rfl (lv_room (Nat.le_of_ble_eq_true rfl)) dX2_bestLevel_3 ⟨Nat.le_of_ble_eq_true rfl, Nat.le_of_ble_eq_true rfl⟩) rfl rfl rfl rfl rfl rfl rfl rfl rfl rfl (fun H locs hP hD hS => ?_)
  have hP : va_P D vwCl [(q_this, .inr (2, [.int v_this_dimension, .int v_this_changingRounds, .ref q_this_levels, .ref q_this_levelsBefore, .ref q_this_vectorSets])), (q_this_levels, .inl (k_this_levels, 64, .inl c_this_levels))] H := hP
  have hD : va_D A [(q_this, .inr (2, [.int v_this_dimension, .int v_this_changingRounds, .ref q_this_levels, .ref q_this_levelsBefore, .ref q_this_vectorSets])), (q_this_levels, .inl (k_this_levels, 64, .inl c_this_levels))] := hD
  refine lv_istore_n (lv' := [(3, .int u1), (0, .ref q_this), (1, .int a1), (2, .int a2)]) hx hb dX2_bestLevel_6 rfl hl (by decide) rfl (fun ls hl => ?_)
  refine lv_iload_n hx hb dX2_bestLevel_7 rfl (lv_at hl 0 rfl) ?_
  refine lv_iconst (v := (-1)) hx hb dX2_bestLevel_8 (by decide) ?_
  refine lv_icmp_ne (tgt := 16) hx hb dX2_bestLevel_9 (by decide) (fun cd9 => ?_) (fun cd9 => ?_)
  · replace hf := zite_f cd9 hf
    refine lv_aload_n hx hb dX2_bestLevel_16 rfl (lv_at hl 1 rfl) ?_
    refine lv_iload_n hx hb dX2_bestLevel_17 rfl (lv_at hl 2 rfl) ?_
    refine lv_iload_n hx hb dX2_bestLevel_18 rfl (lv_at hl 0 rfl) ?_
    replace hf := zob_some hf
    obtain ⟨u2, hu2, hf⟩ := hf
    refine kd_i (D := D) (v := u2) (av := [.int a1, .int u1]) (wc := []) (w1 := []) (ws2 := [(q_this, .inr (2, [.int v_this_dimension, .int v_this_changingRounds, .ref q_this_levels, .ref q_this_levelsBefore, .ref q_this_vectorSets])), (q_this_levels, .inl (k_this_levels, 64, .inl c_this_levels))]) hK hP hD hS hA hE [] [] [0, 1] [0, 1] (fun hb1 hp1 => va_runSN (As := [.int a1, .int u1]) (rest := [.ref q_this]) ⟨hx, hb, hml, hown, hts⟩ (c_X6_neighbour l D H.size a1 u1 u2 hu2) ⟨va_cnB 2 hts gX2_bestLevel_X6_neighbour_n66 rfl rfl rfl (hE.1 (RX2, 66, yX6_neighbour, RX6) (List.mem_of_getElem? (i := 8) rfl)) (hts (.initialized RX6) (by decide +kernel)) (by decide +kernel) ⟨Nat.le_of_ble_eq_true rfl, Nat.le_of_ble_eq_true rfl⟩, (hts (.static yX6_neighbour) (by decide +kernel)), trivial⟩ ⟨hb1, hp1⟩ rfl rfl hl.1 rfl (lv_room (Nat.le_of_ble_eq_true rfl)) dX2_bestLevel_19 ⟨Nat.le_of_ble_eq_true rfl, Nat.le_of_ble_eq_true rfl⟩) rfl rfl rfl rfl rfl rfl rfl rfl rfl rfl (fun H locs hP hD hS => ?_)
    have hP : va_P D vwCl [(q_this, .inr (2, [.int v_this_dimension, .int v_this_changingRounds, .ref q_this_levels, .ref q_this_levelsBefore, .ref q_this_vectorSets])), (q_this_levels, .inl (k_this_levels, 64, .inl c_this_levels))] H := hP
    have hD : va_D A [(q_this, .inr (2, [.int v_this_dimension, .int v_this_changingRounds, .ref q_this_levels, .ref q_this_levelsBefore, .ref q_this_vectorSets])), (q_this_levels, .inl (k_this_levels, 64, .inl c_this_levels))] := hD
    replace hf := zob_some hf
    obtain ⟨u3, hu3, hf⟩ := hf
    refine kd_i (D := D) (v := u3) (av := [.ref q_this, .int u2]) (wc := [(q_this, .inr (2, [.int v_this_dimension, .int v_this_changingRounds, .ref q_this_levels, .ref q_this_levelsBefore, .ref q_this_vectorSets])), (q_this_levels, .inl (k_this_levels, 64, .inl c_this_levels))]) (w1 := [(q_this, .inr (2, [.int v_this_dimension, .int v_this_changingRounds, .ref q_this_levels, .ref q_this_levelsBefore, .ref q_this_vectorSets])), (q_this_levels, .inl (k_this_levels, 64, .inl c_this_levels))]) (ws2 := [(q_this, .inr (2, [.int v_this_dimension, .int v_this_changingRounds, .ref q_this_levels, .ref q_this_levelsBefore, .ref q_this_vectorSets])), (q_this_levels, .inl (k_this_levels, 64, .inl c_this_levels))]) hK hP hD hS hA hE [0, 1] [0] [] [0, 1] (fun hb1 hp1 => va_runV (As := [.int u2]) (rest := []) ⟨hx, hb, hml, hown, hts⟩ (c_X2_levelOf l D H.size q_this q_this_levels q_this_levelsBefore q_this_vectorSets k_this_levels v_this_dimension v_this_changingRounds c_this_levels u2 u3 hu3) (cwV 1 hts gX2_bestLevel_X2_levelOf rfl rfl rfl (by decide +kernel) ⟨Nat.le_of_ble_eq_true rfl, Nat.le_of_ble_eq_true rfl⟩) ⟨hb1, va_recv hK hP (ci := 2) (q0 := 0) rfl rfl, hp1⟩ rfl rfl hl.1 rfl (lv_room (Nat.le_of_ble_eq_true rfl)) dX2_bestLevel_22 ⟨Nat.le_of_ble_eq_true rfl, Nat.le_of_ble_eq_true rfl⟩) rfl rfl rfl rfl rfl rfl rfl rfl rfl rfl (fun H locs hP hD hS => ?_)
    have hP : va_P D vwCl [(q_this, .inr (2, [.int v_this_dimension, .int v_this_changingRounds, .ref q_this_levels, .ref q_this_levelsBefore, .ref q_this_vectorSets])), (q_this_levels, .inl (k_this_levels, 64, .inl c_this_levels))] H := hP
    have hD : va_D A [(q_this, .inr (2, [.int v_this_dimension, .int v_this_changingRounds, .ref q_this_levels, .ref q_this_levelsBefore, .ref q_this_vectorSets])), (q_this_levels, .inl (k_this_levels, 64, .inl c_this_levels))] := hD
    obtain rfl := Option.some.inj hf
    subst eQ
    exact kr_i hx hb hr hlocks hK hP hD hS dX2_bestLevel_25
  · replace hf := zite_t cd9 hf
    refine lv_iconst (v := (-1)) hx hb dX2_bestLevel_12 (by decide) ?_
    refine lv_goto (tgt := 25) hx hb dX2_bestLevel_13 (by decide) ?_
    obtain rfl := Option.some.inj hf
    subst eQ
    exact kr_i hx hb hr hlocks hK hP hD hS dX2_bestLevel_25
