abbrev rm_X1_exit : Room := { frames := 0, cells := 0, slots := 0, locals := 0 }
set_option maxHeartbeats 4000000 in
set_option maxRecDepth 100000 in
theorem c_X1_exit (l : Launch) (D : va_G) (sz : Nat) (a0 : Int32) (res : rt_X1_exit) (hf : f_X1_exit a0 = some res) : Met l yX1_exit wsX1_exit rm_X1_exit (kP D [.int a0] [] [] sz) (kQi D (va_A [] sz) [] res []) 0 0 (va_A [] sz) := by
  refine Met.ofW (cc := cX1_exit) (maxL := 1) (ret := (some .int)) (by decide +kernel) rfl ?_
  intro p e s m args below meth c s₁ B hml hv
  obtain ⟨hargs, hsz, hP, hK, hD0, hE⟩ := hv
  have hx := B.exec
  have hb := B.bytes
  have hr := B.returns
  have hts := atoms_spec (ws := wsX1_exit) B.pre
  have hown : s.vm.findClass RX1 = some m.cls := findClass_of_methodNamed B.named
  have hlocks := B.notSynchronized
  subst hsz
  have hD := hD0.self (sz := s.heap.size)
  generalize hAe : va_A [] s.heap.size = A at hD hE ⊢
  have hA : ∀ q : Nat, s.heap.size ≤ q → A q := fun q h => by rw [← hAe]; exact Or.inr h
  have hS : va_S A s.heap s.heap [] := va_S.rf
  refine kgen (fun Q eQ => ?_)
  refine kent (av := [.int a0]) hargs (Nat.le_of_ble_eq_true rfl) (fun ls hl => ?_)
  have hl : lv_has ls 1 [(0, .int a0)] := hl
  show W p l e rm_X1_exit s m args below meth c s.heap [] 0 0 Q (F0 m 0 ls [])
  unfold f_X1_exit at hf
  refine lv_iconst (v := 2) hx hb dX1_exit_0 (by decide) ?_
  refine lv_iload_n hx hb dX1_exit_1 rfl (lv_at hl 0 rfl) ?_
  refine lv_imul hx hb dX1_exit_2 ?_
  refine lv_iconst (v := 1) hx hb dX1_exit_3 (by decide) ?_
  refine lv_iadd hx hb dX1_exit_4 ?_
  obtain rfl := Option.some.inj hf
  subst eQ
  exact kr_i hx hb hr hlocks hK hP hD hS dX1_exit_5
theorem n_X1_discover_X1 : ∀ w ∈ u_ws RX1 TX1 8, w ∈ wsX1_discover := by decide +kernel
abbrev rm_X1_discover : Room := { frames := 1, cells := 0, slots := 0, locals := 22 }
set_option maxHeartbeats 4000000 in
set_option maxRecDepth 100000 in
theorem c_X1_discover (l : Launch) (D : va_G) (sz : Nat) (q_this : Nat) (q_this_leaving : Nat) (q_this_cameFrom : Nat) (q_this_queue : Nat) (k_this_cameFrom : ClassId) (k_this_queue : ClassId) (v_this_found : Int32) (v_this_source : Int32) (v_this_goal : Int32) (v_this_dimension : Int32) (v_this_alive : Int64) (c_this_cameFrom : (Nat → Int32)) (c_this_queue : (Nat → Int32)) (a1 : Int32) (a2 : Int32) (res : rt_X1_discover) (hf : f_X1_discover a1 a2 v_this_found c_this_cameFrom c_this_queue = some res) : Met l yX1_discover wsX1_discover rm_X1_discover (kP D [.ref q_this, .int a1, .int a2] [(q_this, .inr (1, [.ref q_this_leaving, .ref q_this_cameFrom, .ref q_this_queue, .int v_this_found, .int v_this_source, .int v_this_goal, .int v_this_dimension, .long v_this_alive])), (q_this_cameFrom, .inl (k_this_cameFrom, 128, .inl c_this_cameFrom)), (q_this_queue, .inl (k_this_queue, 128, .inl c_this_queue))] [(k_this_cameFrom, .int), (k_this_queue, .int)] sz) (kQv D (va_A [(q_this, .inr (1, [.ref q_this_leaving, .ref q_this_cameFrom, .ref q_this_queue, .int v_this_found, .int v_this_source, .int v_this_goal, .int v_this_dimension, .long v_this_alive])), (q_this_cameFrom, .inl (k_this_cameFrom, 128, .inl c_this_cameFrom)), (q_this_queue, .inl (k_this_queue, 128, .inl c_this_queue))] sz) [(k_this_cameFrom, .int), (k_this_queue, .int)] [(q_this, .inr (1, [.ref q_this_leaving, .ref q_this_cameFrom, .ref q_this_queue, .int res.1, .int v_this_source, .int v_this_goal, .int v_this_dimension, .long v_this_alive])), (q_this_cameFrom, .inl (k_this_cameFrom, 128, .inl res.2.1)), (q_this_queue, .inl (k_this_queue, 128, .inl res.2.2))]) 0 0 (va_A [(q_this, .inr (1, [.ref q_this_leaving, .ref q_this_cameFrom, .ref q_this_queue, .int v_this_found, .int v_this_source, .int v_this_goal, .int v_this_dimension, .long v_this_alive])), (q_this_cameFrom, .inl (k_this_cameFrom, 128, .inl c_this_cameFrom)), (q_this_queue, .inl (k_this_queue, 128, .inl c_this_queue))] sz) := by
  refine Met.ofW (cc := cX1_discover) (maxL := 3) (ret := none) (by decide +kernel) rfl ?_
  intro p e s m args below meth c s₁ B hml hv
  obtain ⟨hargs, hsz, hP, hK, hD0, hE⟩ := hv
  have hx := B.exec
  have hb := B.bytes
  have hr := B.returns
  have hts := atoms_spec (ws := wsX1_discover) B.pre
  have hown : s.vm.findClass RX1 = some m.cls := findClass_of_methodNamed B.named
  have hlocks := B.notSynchronized
  subst hsz
  have hD := hD0.self (sz := s.heap.size)
  generalize hAe : va_A [(q_this, .inr (1, [.ref q_this_leaving, .ref q_this_cameFrom, .ref q_this_queue, .int v_this_found, .int v_this_source, .int v_this_goal, .int v_this_dimension, .long v_this_alive])), (q_this_cameFrom, .inl (k_this_cameFrom, 128, .inl c_this_cameFrom)), (q_this_queue, .inl (k_this_queue, 128, .inl c_this_queue))] s.heap.size = A at hD hE ⊢
  have hA : ∀ q : Nat, s.heap.size ≤ q → A q := fun q h => by rw [← hAe]; exact Or.inr h
  have hS : va_S A s.heap s.heap [] := va_S.rf
  refine kgen (fun Q eQ => ?_)
  refine kent (av := [.ref q_this, .int a1, .int a2]) hargs (Nat.le_of_ble_eq_true rfl) (fun ls hl => ?_)
  have hl : lv_has ls 3 [(0, .ref q_this), (1, .int a1), (2, .int a2)] := hl
  show W p l e rm_X1_discover s m args below meth c s.heap [] 0 0 Q (F0 m 0 ls [])
  unfold f_X1_discover at hf
  refine lv_aload_n hx hb dX1_discover_0 rfl (lv_at hl 0 rfl) ?_
  refine va_get (D := D) (ci := 1) (v := .ref q_this_cameFrom) (C := RX1) (T := TX1) (N := 8) hx hb hts n_X1_discover_X1 hown hK hP 0 rfl rfl 1 (by decide) (hts (.fieldLink RX1 15 "FaultyCube$PathPacking" "cameFrom" "[I") (by decide +kernel)) (fun _ h9 => h9) rfl dX1_discover_1 ?_
  refine lv_iload_n hx hb dX1_discover_4 rfl (lv_at hl 1 rfl) ?_
  replace hf := zob_some hf
  obtain ⟨u1, hu1, hf⟩ := hf
  refine kd_i (D := D) (v := u1) (av := [.ref q_this_cameFrom, .int a1]) (wc := [(q_this_cameFrom, .inl (k_this_cameFrom, 128, .inl c_this_cameFrom))]) (w1 := [(q_this_cameFrom, .inl (k_this_cameFrom, 128, .inl c_this_cameFrom))]) (ws2 := [(q_this, .inr (1, [.ref q_this_leaving, .ref q_this_cameFrom, .ref q_this_queue, .int v_this_found, .int v_this_source, .int v_this_goal, .int v_this_dimension, .long v_this_alive])), (q_this_cameFrom, .inl (k_this_cameFrom, 128, .inl c_this_cameFrom)), (q_this_queue, .inl (k_this_queue, 128, .inl c_this_queue))]) hK hP hD hS hA hE [1] [0] [0, 2] [0, 2, 1] (fun hb1 hp1 => va_runSN (As := [.ref q_this_cameFrom, .int a1]) (rest := []) ⟨hx, hb, hml, hown, hts⟩ (c_X6_read l D s.heap.size q_this_cameFrom k_this_cameFrom 128 c_this_cameFrom a1 u1 hu1) ⟨va_cnB 2 hts gX1_discover_X6_read_n69 rfl rfl rfl (hE.1 (RX1, 69, yX6_read, RX6) (List.mem_of_getElem? (i := 22) rfl)) (hts (.initialized RX6) (by decide +kernel)) (by decide +kernel) ⟨Nat.le_of_ble_eq_true rfl, Nat.le_of_ble_eq_true rfl⟩, (hts (.static yX6_read) (by decide +kernel)), trivial⟩ ⟨hb1, hp1⟩ rfl rfl hl.1 rfl (lv_room (Nat.le_of_ble_eq_true rfl)) dX1_discover_5 ⟨Nat.le_of_ble_eq_true rfl, Nat.le_of_ble_eq_true rfl⟩) rfl rfl rfl rfl rfl rfl rfl rfl rfl rfl (fun H locs hP hD hS => ?_)
  have hP : va_P D vwCl [(q_this, .inr (1, [.ref q_this_leaving, .ref q_this_cameFrom, .ref q_this_queue, .int v_this_found, .int v_this_source, .int v_this_goal, .int v_this_dimension, .long v_this_alive])), (q_this_cameFrom, .inl (k_this_cameFrom, 128, .inl c_this_cameFrom)), (q_this_queue, .inl (k_this_queue, 128, .inl c_this_queue))] H := hP
  have hD : va_D A [(q_this, .inr (1, [.ref q_this_leaving, .ref q_this_cameFrom, .ref q_this_queue, .int v_this_found, .int v_this_source, .int v_this_goal, .int v_this_dimension, .long v_this_alive])), (q_this_cameFrom, .inl (k_this_cameFrom, 128, .inl c_this_cameFrom)), (q_this_queue, .inl (k_this_queue, 128, .inl c_this_queue))] := hD
  refine lv_iconst (v := (-1)) hx hb dX1_discover_8 (by decide) ?_
  refine lv_icmp_ne (tgt := 43) hx hb dX1_discover_9 (by decide) (fun cd9 => ?_) (fun cd9 => ?_)
  · replace hf := zite_f cd9 hf
    obtain rfl := Option.some.inj hf
    subst eQ
    exact kr_v hx hb hr hlocks hK hP hD hS dX1_discover_43
  · replace hf := zite_t cd9 hf
    refine lv_aload_n hx hb dX1_discover_12 rfl (lv_at hl 0 rfl) ?_
    refine va_get (D := D) (ci := 1) (v := .ref q_this_cameFrom) (C := RX1) (T := TX1) (N := 8) hx hb hts n_X1_discover_X1 hown hK hP 0 rfl rfl 1 (by decide) (hts (.fieldLink RX1 15 "FaultyCube$PathPacking" "cameFrom" "[I") (by decide +kernel)) (fun _ h9 => h9) rfl dX1_discover_13 ?_
    refine lv_iload_n hx hb dX1_discover_16 rfl (lv_at hl 1 rfl) ?_
    refine lv_iload_n hx hb dX1_discover_17 rfl (lv_at hl 2 rfl) ?_
    replace hf := zob_some hf
    obtain ⟨u2, hu2, hf⟩ := hf
    refine kd_v (D := D) (av := [.ref q_this_cameFrom, .int a1, .int a2]) (wc := [(q_this_cameFrom, .inl (k_this_cameFrom, 128, .inl c_this_cameFrom))]) (w1 := [(q_this_cameFrom, .inl (k_this_cameFrom, 128, .inl u2))]) (ws2 := [(q_this, .inr (1, [.ref q_this_leaving, .ref q_this_cameFrom, .ref q_this_queue, .int v_this_found, .int v_this_source, .int v_this_goal, .int v_this_dimension, .long v_this_alive])), (q_this_cameFrom, .inl (k_this_cameFrom, 128, .inl u2)), (q_this_queue, .inl (k_this_queue, 128, .inl c_this_queue))]) hK hP hD hS hA hE [1] [0] [0, 2] [0, 2, 1] (fun hb1 hp1 => va_runSN (As := [.ref q_this_cameFrom, .int a1, .int a2]) (rest := []) ⟨hx, hb, hml, hown, hts⟩ (c_X6_write l D H.size q_this_cameFrom k_this_cameFrom 128 c_this_cameFrom a1 a2 u2 hu2) ⟨va_cnB 3 hts gX1_discover_X6_write_n85 rfl rfl rfl (hE.1 (RX1, 85, yX6_write, RX6) (List.mem_of_getElem? (i := 23) rfl)) (hts (.initialized RX6) (by decide +kernel)) (by decide +kernel) ⟨Nat.le_of_ble_eq_true rfl, Nat.le_of_ble_eq_true rfl⟩, (hts (.static yX6_write) (by decide +kernel)), trivial⟩ ⟨hb1, hp1⟩ rfl rfl hl.1 rfl (lv_room (Nat.le_of_ble_eq_true rfl)) dX1_discover_18 ⟨Nat.le_of_ble_eq_true rfl, Nat.le_of_ble_eq_true rfl⟩) rfl rfl rfl rfl rfl rfl rfl rfl rfl rfl (fun H locs hP hD hS => ?_)
    have hP : va_P D vwCl [(q_this, .inr (1, [.ref q_this_leaving, .ref q_this_cameFrom, .ref q_this_queue, .int v_this_found, .int v_this_source, .int v_this_goal, .int v_this_dimension, .long v_this_alive])), (q_this_cameFrom, .inl (k_this_cameFrom, 128, .inl u2)), (q_this_queue, .inl (k_this_queue, 128, .inl c_this_queue))] H := hP
    have hD : va_D A [(q_this, .inr (1, [.ref q_this_leaving, .ref q_this_cameFrom, .ref q_this_queue, .int v_this_found, .int v_this_source, .int v_this_goal, .int v_this_dimension, .long v_this_alive])), (q_this_cameFrom, .inl (k_this_cameFrom, 128, .inl u2)), (q_this_queue, .inl (k_this_queue, 128, .inl c_this_queue))] := hD
    refine lv_aload_n hx hb dX1_discover_21 rfl (lv_at hl 0 rfl) ?_
    refine va_get (D := D) (ci := 1) (v := .ref q_this_queue) (C := RX1) (T := TX1) (N := 8) hx hb hts n_X1_discover_X1 hown hK hP 0 rfl rfl 2 (by decide) (hts (.fieldLink RX1 18 "FaultyCube$PathPacking" "queue" "[I") (by decide +kernel)) (fun _ h9 => h9) rfl dX1_discover_22 ?_
    refine lv_aload_n hx hb dX1_discover_25 rfl (lv_at hl 0 rfl) ?_
    refine va_get (D := D) (ci := 1) (v := .int v_this_found) (C := RX1) (T := TX1) (N := 8) hx hb hts n_X1_discover_X1 hown hK hP 0 rfl rfl 3 (by decide) (hts (.fieldLink RX1 48 "FaultyCube$PathPacking" "found" "I") (by decide +kernel)) (fun _ h9 => h9) rfl dX1_discover_26 ?_
    refine lv_iload_n hx hb dX1_discover_29 rfl (lv_at hl 1 rfl) ?_
    replace hf := zob_some hf
    obtain ⟨u3, hu3, hf⟩ := hf
    refine kd_v (D := D) (av := [.ref q_this_queue, .int v_this_found, .int a1]) (wc := [(q_this_queue, .inl (k_this_queue, 128, .inl c_this_queue))]) (w1 := [(q_this_queue, .inl (k_this_queue, 128, .inl u3))]) (ws2 := [(q_this, .inr (1, [.ref q_this_leaving, .ref q_this_cameFrom, .ref q_this_queue, .int v_this_found, .int v_this_source, .int v_this_goal, .int v_this_dimension, .long v_this_alive])), (q_this_cameFrom, .inl (k_this_cameFrom, 128, .inl u2)), (q_this_queue, .inl (k_this_queue, 128, .inl u3))]) hK hP hD hS hA hE [2] [1] [0, 1] [0, 1, 2] (fun hb1 hp1 => va_runSN (As := [.ref q_this_queue, .int v_this_found, .int a1]) (rest := []) ⟨hx, hb, hml, hown, hts⟩ (c_X6_write l D H.size q_this_queue k_this_queue 128 c_this_queue v_this_found a1 u3 hu3) ⟨va_cnB 3 hts gX1_discover_X6_write_n85 rfl rfl rfl (hE.1 (RX1, 85, yX6_write, RX6) (List.mem_of_getElem? (i := 23) rfl)) (hts (.initialized RX6) (by decide +kernel)) (by decide +kernel) ⟨Nat.le_of_ble_eq_true rfl, Nat.le_of_ble_eq_true rfl⟩, (hts (.static yX6_write) (by decide +kernel)), trivial⟩ ⟨hb1, hp1⟩ rfl rfl hl.1 rfl (lv_room (Nat.le_of_ble_eq_true rfl)) dX1_discover_30 ⟨Nat.le_of_ble_eq_true rfl, Nat.le_of_ble_eq_true rfl⟩) rfl rfl rfl rfl rfl rfl rfl rfl rfl rfl (fun H locs hP hD hS => ?_)
    have hP : va_P D vwCl [(q_this, .inr (1, [.ref q_this_leaving, .ref q_this_cameFrom, .ref q_this_queue, .int v_this_found, .int v_this_source, .int v_this_goal, .int v_this_dimension, .long v_this_alive])), (q_this_cameFrom, .inl (k_this_cameFrom, 128, .inl u2)), (q_this_queue, .inl (k_this_queue, 128, .inl u3))] H := hP
    have hD : va_D A [(q_this, .inr (1, [.ref q_this_leaving, .ref q_this_cameFrom, .ref q_this_queue, .int v_this_found, .int v_this_source, .int v_this_goal, .int v_this_dimension, .long v_this_alive])), (q_this_cameFrom, .inl (k_this_cameFrom, 128, .inl u2)), (q_this_queue, .inl (k_this_queue, 128, .inl u3))] := hD
    refine lv_aload_n hx hb dX1_discover_33 rfl (lv_at hl 0 rfl) ?_
    refine lv_dup hx hb dX1_discover_34 rfl ?_
    refine va_get (D := D) (ci := 1) (v := .int v_this_found) (C := RX1) (T := TX1) (N := 8) hx hb hts n_X1_discover_X1 hown hK hP 0 rfl rfl 3 (by decide) (hts (.fieldLink RX1 48 "FaultyCube$PathPacking" "found" "I") (by decide +kernel)) (fun _ h9 => h9) rfl dX1_discover_35 ?_
    refine lv_iconst (v := 1) hx hb dX1_discover_38 (by decide) ?_
    refine lv_iadd hx hb dX1_discover_39 ?_
    refine lv_topi (fun x4 ex4 => ?_)
    replace hf := zbd_of ex4 hf
    refine va_put (D := D) (ci := 1) (v := .int x4) (ty := .int) (C := RX1) (T := TX1) (N := 8) hx hb hts n_X1_discover_X1 tyX1 tyX1_ok nmX1 hown hK hP hD hS 0 rfl rfl 3 (by decide) (hts (.fieldLink RX1 48 "FaultyCube$PathPacking" "found" "I") (by decide +kernel)) (fun _ h9 => h9) rfl (by decide +kernel) rfl rfl (Nat.le_of_ble_eq_true rfl) dX1_discover_40 (fun H locs hP hD hS => ?_)
    have hP : va_P D vwCl [(q_this, .inr (1, [.ref q_this_leaving, .ref q_this_cameFrom, .ref q_this_queue, .int x4, .int v_this_source, .int v_this_goal, .int v_this_dimension, .long v_this_alive])), (q_this_cameFrom, .inl (k_this_cameFrom, 128, .inl u2)), (q_this_queue, .inl (k_this_queue, 128, .inl u3))] H := hP
    have hD : va_D A [(q_this, .inr (1, [.ref q_this_leaving, .ref q_this_cameFrom, .ref q_this_queue, .int x4, .int v_this_source, .int v_this_goal, .int v_this_dimension, .long v_this_alive])), (q_this_cameFrom, .inl (k_this_cameFrom, 128, .inl u2)), (q_this_queue, .inl (k_this_queue, 128, .inl u3))] := hD
    obtain rfl := Option.some.inj hf
    subst eQ
    exact kr_v hx hb hr hlocks hK hP hD hS dX1_discover_43
abbrev rm_X1_entry : Room := { frames := 0, cells := 0, slots := 0, locals := 0 }
set_option maxHeartbeats 4000000 in
set_option maxRecDepth 100000 in
theorem c_X1_entry (l : Launch) (D : va_G) (sz : Nat) (a0 : Int32) (res : rt_X1_entry) (hf : f_X1_entry a0 = some res) : Met l yX1_entry wsX1_entry rm_X1_entry (kP D [.int a0] [] [] sz) (kQi D (va_A [] sz) [] res []) 0 0 (va_A [] sz) := by
  refine Met.ofW (cc := cX1_entry) (maxL := 1) (ret := (some .int)) (by decide +kernel) rfl ?_
  intro p e s m args below meth c s₁ B hml hv
  obtain ⟨hargs, hsz, hP, hK, hD0, hE⟩ := hv
  have hx := B.exec
  have hb := B.bytes
  have hr := B.returns
  have hts := atoms_spec (ws := wsX1_entry) B.pre
  have hown : s.vm.findClass RX1 = some m.cls := findClass_of_methodNamed B.named
  have hlocks := B.notSynchronized
  subst hsz
  have hD := hD0.self (sz := s.heap.size)
  generalize hAe : va_A [] s.heap.size = A at hD hE ⊢
  have hA : ∀ q : Nat, s.heap.size ≤ q → A q := fun q h => by rw [← hAe]; exact Or.inr h
  have hS : va_S A s.heap s.heap [] := va_S.rf
  refine kgen (fun Q eQ => ?_)
  refine kent (av := [.int a0]) hargs (Nat.le_of_ble_eq_true rfl) (fun ls hl => ?_)
  have hl : lv_has ls 1 [(0, .int a0)] := hl
  show W p l e rm_X1_entry s m args below meth c s.heap [] 0 0 Q (F0 m 0 ls [])
  unfold f_X1_entry at hf
  refine lv_iconst (v := 2) hx hb dX1_entry_0 (by decide) ?_
  refine lv_iload_n hx hb dX1_entry_1 rfl (lv_at hl 0 rfl) ?_
  refine lv_imul hx hb dX1_entry_2 ?_
  obtain rfl := Option.some.inj hf
  subst eQ
  exact kr_i hx hb hr hlocks hK hP hD hS dX1_entry_3
theorem n_X1_searchFromExit_X1 : ∀ w ∈ u_ws RX1 TX1 8, w ∈ wsX1_searchFromExit := by decide +kernel
abbrev rm_X1_searchFromExit : Room := { frames := 2, cells := 0, slots := 0, locals := 44 }
set_option maxHeartbeats 4000000 in
set_option maxRecDepth 100000 in
theorem c_X1_searchFromExit (l : Launch) (D : va_G) (sz : Nat) (q_this : Nat) (q_this_leaving : Nat) (q_this_cameFrom : Nat) (q_this_queue : Nat) (k_this_leaving : ClassId) (k_this_cameFrom : ClassId) (k_this_queue : ClassId) (v_this_found : Int32) (v_this_source : Int32) (v_this_goal : Int32) (v_this_dimension : Int32) (v_this_alive : Int64) (c_this_leaving : (Nat → Int32)) (c_this_cameFrom : (Nat → Int32)) (c_this_queue : (Nat → Int32)) (a1 : Int32) (res : rt_X1_searchFromExit) (hf : f_X1_searchFromExit a1 v_this_found v_this_source v_this_dimension v_this_alive c_this_leaving c_this_cameFrom c_this_queue = some res) : Met l yX1_searchFromExit wsX1_searchFromExit rm_X1_searchFromExit (kP D [.ref q_this, .int a1] [(q_this, .inr (1, [.ref q_this_leaving, .ref q_this_cameFrom, .ref q_this_queue, .int v_this_found, .int v_this_source, .int v_this_goal, .int v_this_dimension, .long v_this_alive])), (q_this_leaving, .inl (k_this_leaving, 64, .inl c_this_leaving)), (q_this_cameFrom, .inl (k_this_cameFrom, 128, .inl c_this_cameFrom)), (q_this_queue, .inl (k_this_queue, 128, .inl c_this_queue))] [(k_this_leaving, .int), (k_this_cameFrom, .int), (k_this_queue, .int)] sz) (kQv D (va_A [(q_this, .inr (1, [.ref q_this_leaving, .ref q_this_cameFrom, .ref q_this_queue, .int v_this_found, .int v_this_source, .int v_this_goal, .int v_this_dimension, .long v_this_alive])), (q_this_leaving, .inl (k_this_leaving, 64, .inl c_this_leaving)), (q_this_cameFrom, .inl (k_this_cameFrom, 128, .inl c_this_cameFrom)), (q_this_queue, .inl (k_this_queue, 128, .inl c_this_queue))] sz) [(k_this_leaving, .int), (k_this_cameFrom, .int), (k_this_queue, .int)] [(q_this, .inr (1, [.ref q_this_leaving, .ref q_this_cameFrom, .ref q_this_queue, .int res.1, .int v_this_source, .int v_this_goal, .int v_this_dimension, .long v_this_alive])), (q_this_leaving, .inl (k_this_leaving, 64, .inl c_this_leaving)), (q_this_cameFrom, .inl (k_this_cameFrom, 128, .inl res.2.1)), (q_this_queue, .inl (k_this_queue, 128, .inl res.2.2))]) 0 0 (va_A [(q_this, .inr (1, [.ref q_this_leaving, .ref q_this_cameFrom, .ref q_this_queue, .int v_this_found, .int v_this_source, .int v_this_goal, .int v_this_dimension, .long v_this_alive])), (q_this_leaving, .inl (k_this_leaving, 64, .inl c_this_leaving)), (q_this_cameFrom, .inl (k_this_cameFrom, 128, .inl c_this_cameFrom)), (q_this_queue, .inl (k_this_queue, 128, .inl c_this_queue))] sz) := by
  refine Met.ofW (cc := cX1_searchFromExit) (maxL := 5) (ret := none) (by decide +kernel) rfl ?_
  intro p e s m args below meth c s₁ B hml hv
  obtain ⟨hargs, hsz, hP, hK, hD0, hE⟩ := hv
  have hx := B.exec
  have hb := B.bytes
  have hr := B.returns
  have hts := atoms_spec (ws := wsX1_searchFromExit) B.pre
  have hown : s.vm.findClass RX1 = some m.cls := findClass_of_methodNamed B.named
  have hlocks := B.notSynchronized
  subst hsz
  have hD := hD0.self (sz := s.heap.size)
  generalize hAe : va_A [(q_this, .inr (1, [.ref q_this_leaving, .ref q_this_cameFrom, .ref q_this_queue, .int v_this_found, .int v_this_source, .int v_this_goal, .int v_this_dimension, .long v_this_alive])), (q_this_leaving, .inl (k_this_leaving, 64, .inl c_this_leaving)), (q_this_cameFrom, .inl (k_this_cameFrom, 128, .inl c_this_cameFrom)), (q_this_queue, .inl (k_this_queue, 128, .inl c_this_queue))] s.heap.size = A at hD hE ⊢
  have hA : ∀ q : Nat, s.heap.size ≤ q → A q := fun q h => by rw [← hAe]; exact Or.inr h
  have hS : va_S A s.heap s.heap [] := va_S.rf
  refine kgen (fun Q eQ => ?_)
  refine kent (av := [.ref q_this, .int a1]) hargs (Nat.le_of_ble_eq_true rfl) (fun ls hl => ?_)
  have hl : lv_has ls 5 [(0, .ref q_this), (1, .int a1)] := hl
  show W p l e rm_X1_searchFromExit s m args below meth c s.heap [] 0 0 Q (F0 m 0 ls [])
  unfold f_X1_searchFromExit at hf
  refine lv_aload_n hx hb dX1_searchFromExit_0 rfl (lv_at hl 0 rfl) ?_
  refine va_get (D := D) (ci := 1) (v := .ref q_this_leaving) (C := RX1) (T := TX1) (N := 8) hx hb hts n_X1_searchFromExit_X1 hown hK hP 0 rfl rfl 0 (by decide) (hts (.fieldLink RX1 9 "FaultyCube$PathPacking" "leaving" "[I") (by decide +kernel)) (fun _ h9 => h9) rfl dX1_searchFromExit_1 ?_
  refine lv_iload_n hx hb dX1_searchFromExit_4 rfl (lv_at hl 1 rfl) ?_
  replace hf := zob_some hf
  obtain ⟨u1, hu1, hf⟩ := hf
  refine kd_i (D := D) (v := u1) (av := [.ref q_this_leaving, .int a1]) (wc := [(q_this_leaving, .inl (k_this_leaving, 64, .inl c_this_leaving))]) (w1 := [(q_this_leaving, .inl (k_this_leaving, 64, .inl c_this_leaving))]) (ws2 := [(q_this, .inr (1, [.ref q_this_leaving, .ref q_this_cameFrom, .ref q_this_queue, .int v_this_found, .int v_this_source, .int v_this_goal, .int v_this_dimension, .long v_this_alive])), (q_this_leaving, .inl (k_this_leaving, 64, .inl c_this_leaving)), (q_this_cameFrom, .inl (k_this_cameFrom, 128, .inl c_this_cameFrom)), (q_this_queue, .inl (k_this_queue, 128, .inl c_this_queue))]) hK hP hD hS hA hE [1] [0] [0, 2, 3] [0, 3, 1, 2] (fun hb1 hp1 => va_runSN (As := [.ref q_this_leaving, .int a1]) (rest := []) ⟨hx, hb, hml, hown, hts⟩ (c_X6_read l D s.heap.size q_this_leaving k_this_leaving 64 c_this_leaving a1 u1 hu1) ⟨va_cnB 2 hts gX1_searchFromExit_X6_read_n69 rfl rfl rfl (hE.1 (RX1, 69, yX6_read, RX6) (List.mem_of_getElem? (i := 22) rfl)) (hts (.initialized RX6) (by decide +kernel)) (by decide +kernel) ⟨Nat.le_of_ble_eq_true rfl, Nat.le_of_ble_eq_true rfl⟩, (hts (.static yX6_read) (by decide +kernel)), trivial⟩ ⟨hb1, hp1⟩ rfl rfl hl.1 rfl (lv_room (Nat.le_of_ble_eq_true rfl)) dX1_searchFromExit_5 ⟨Nat.le_of_ble_eq_true rfl, Nat.le_of_ble_eq_true rfl⟩) rfl rfl rfl rfl rfl rfl rfl rfl rfl rfl (fun H locs hP hD hS => ?_)
  have hP : va_P D vwCl [(q_this, .inr (1, [.ref q_this_leaving, .ref q_this_cameFrom, .ref q_this_queue, .int v_this_found, .int v_this_source, .int v_this_goal, .int v_this_dimension, .long v_this_alive])), (q_this_leaving, .inl (k_this_leaving, 64, .inl c_this_leaving)), (q_this_cameFrom, .inl (k_this_cameFrom, 128, .inl c_this_cameFrom)), (q_this_queue, .inl (k_this_queue, 128, .inl c_this_queue))] H := hP
  have hD : va_D A [(q_this, .inr (1, [.ref q_this_leaving, .ref q_this_cameFrom, .ref q_this_queue, .int v_this_found, .int v_this_source, .int v_this_goal, .int v_this_dimension, .long v_this_alive])), (q_this_leaving, .inl (k_this_leaving, 64, .inl c_this_leaving)), (q_this_cameFrom, .inl (k_this_cameFrom, 128, .inl c_this_cameFrom)), (q_this_queue, .inl (k_this_queue, 128, .inl c_this_queue))] := hD
  refine lv_istore_n (lv' := [(2, .int u1), (0, .ref q_this), (1, .int a1)]) hx hb dX1_searchFromExit_8 rfl hl (by decide) rfl (fun ls hl => ?_)
  refine lv_iconst (v := 0) hx hb dX1_searchFromExit_9 (by decide) ?_
  refine lv_istore_n (lv' := [(3, .int 0), (2, .int u1), (0, .ref q_this), (1, .int a1)]) hx hb dX1_searchFromExit_10 rfl hl (by decide) rfl (fun ls hl => ?_)
  replace hf := zl4_some hf
  obtain ⟨F11, eF11, hf⟩ := hf
  have h11 : ∀ (n11 : Nat) (i3_11 : Int32) (v_this_found_11 : Int32) (c_this_cameFrom_11 : (Nat → Int32)) (c_this_queue_11 : (Nat → Int32)), zl4 F11 n11 i3_11 v_this_found_11 c_this_cameFrom_11 c_this_queue_11 = some res → ∀ (H : Heap) (locs : List Loc) (ls : Array Slot), va_P D vwCl [(q_this, .inr (1, [.ref q_this_leaving, .ref q_this_cameFrom, .ref q_this_queue, .int v_this_found_11, .int v_this_source, .int v_this_goal, .int v_this_dimension, .long v_this_alive])), (q_this_leaving, .inl (k_this_leaving, 64, .inl c_this_leaving)), (q_this_cameFrom, .inl (k_this_cameFrom, 128, .inl c_this_cameFrom_11)), (q_this_queue, .inl (k_this_queue, 128, .inl c_this_queue_11))] H → va_D A [(q_this, .inr (1, [.ref q_this_leaving, .ref q_this_cameFrom, .ref q_this_queue, .int v_this_found_11, .int v_this_source, .int v_this_goal, .int v_this_dimension, .long v_this_alive])), (q_this_leaving, .inl (k_this_leaving, 64, .inl c_this_leaving)), (q_this_cameFrom, .inl (k_this_cameFrom, 128, .inl c_this_cameFrom_11)), (q_this_queue, .inl (k_this_queue, 128, .inl c_this_queue_11))] → va_S A s.heap H locs → lv_has ls 5 [(0, .ref q_this), (1, .int a1), (2, .int u1), (3, .int i3_11)] → W p l e rm_X1_searchFromExit s m args below meth c H locs 0 0 Q (F0 m 11 ls []) := by
    intro n11
    induction n11 with
    | zero => intro i3_11 v_this_found_11 c_this_cameFrom_11 c_this_queue_11 hf; exact (zl4_zero hf).elim
    | succ n11 ih11 =>
      intro i3_11 v_this_found_11 c_this_cameFrom_11 c_this_queue_11 hf H locs ls hP hD hS hl
      replace hf := zl4_step eF11 hf
      generalize zl4 F11 n11 = k11 at hf ih11
      refine lv_iload_n hx hb dX1_searchFromExit_11 rfl (lv_at hl 3 rfl) ?_
      refine lv_aload_n hx hb dX1_searchFromExit_12 rfl (lv_at hl 0 rfl) ?_
      refine va_get (D := D) (ci := 1) (v := .int v_this_dimension) (C := RX1) (T := TX1) (N := 8) hx hb hts n_X1_searchFromExit_X1 hown hK hP 0 rfl rfl 6 (by decide) (hts (.fieldLink RX1 28 "FaultyCube$PathPacking" "dimension" "I") (by decide +kernel)) (fun _ h9 => h9) rfl dX1_searchFromExit_13 ?_
      refine lv_icmp_ge (tgt := 74) hx hb dX1_searchFromExit_16 (by decide) (fun cd16 => ?_) (fun cd16 => ?_)
      · replace hf := zite_t cd16 hf
        refine lv_iload_n hx hb dX1_searchFromExit_74 rfl (lv_at hl 1 rfl) ?_
        refine lv_aload_n hx hb dX1_searchFromExit_75 rfl (lv_at hl 0 rfl) ?_
        refine va_get (D := D) (ci := 1) (v := .int v_this_source) (C := RX1) (T := TX1) (N := 8) hx hb hts n_X1_searchFromExit_X1 hown hK hP 0 rfl rfl 4 (by decide) (hts (.fieldLink RX1 21 "FaultyCube$PathPacking" "source" "I") (by decide +kernel)) (fun _ h9 => h9) rfl dX1_searchFromExit_76 ?_
        refine lv_icmp_eq (tgt := 98) hx hb dX1_searchFromExit_79 (by decide) (fun cd79 => ?_) (fun cd79 => ?_)
        · replace hf := zite_t cd79 hf
          obtain rfl := Option.some.inj hf
          subst eQ
          exact kr_v hx hb hr hlocks hK hP hD hS dX1_searchFromExit_98
        · replace hf := zite_f cd79 hf
          refine lv_iload_n hx hb dX1_searchFromExit_82 rfl (lv_at hl 2 rfl) ?_
          refine lv_if_eq (tgt := 98) hx hb dX1_searchFromExit_83 (by decide) (fun cd83 => ?_) (fun cd83 => ?_)
          · replace hf := zite_t cd83 hf
            obtain rfl := Option.some.inj hf
            subst eQ
            exact kr_v hx hb hr hlocks hK hP hD hS dX1_searchFromExit_98
          · replace hf := zite_f cd83 hf
            refine lv_aload_n hx hb dX1_searchFromExit_86 rfl (lv_at hl 0 rfl) ?_
            refine lv_iload_n hx hb dX1_searchFromExit_87 rfl (lv_at hl 1 rfl) ?_
            replace hf := zob_some hf
            obtain ⟨u2, hu2, hf⟩ := hf
            refine kd_i (D := D) (v := u2) (av := [.int a1]) (wc := []) (w1 := []) (ws2 := [(q_this, .inr (1, [.ref q_this_leaving, .ref q_this_cameFrom, .ref q_this_queue, .int v_this_found_11, .int v_this_source, .int v_this_goal, .int v_this_dimension, .long v_this_alive])), (q_this_leaving, .inl (k_this_leaving, 64, .inl c_this_leaving)), (q_this_cameFrom, .inl (k_this_cameFrom, 128, .inl c_this_cameFrom_11)), (q_this_queue, .inl (k_this_queue, 128, .inl c_this_queue_11))]) hK hP hD hS hA hE [] [] [0, 1, 2, 3] [0, 1, 2, 3] (fun hb1 hp1 => va_runS (As := [.int a1]) (rest := [.ref q_this]) ⟨hx, hb, hml, hown, hts⟩ (c_X1_entry l D H.size a1 u2 hu2) (va_cwS 1 hts gX1_searchFromExit_X1_entry rfl rfl rfl (by decide +kernel) ⟨Nat.le_of_ble_eq_true rfl, Nat.le_of_ble_eq_true rfl⟩) ⟨hb1, hp1⟩ rfl rfl hl.1 rfl (lv_room (Nat.le_of_ble_eq_true rfl)) dX1_searchFromExit_88 ⟨Nat.le_of_ble_eq_true rfl, Nat.le_of_ble_eq_true rfl⟩) rfl rfl rfl rfl rfl rfl rfl rfl rfl rfl (fun H locs hP hD hS => ?_)
            have hP : va_P D vwCl [(q_this, .inr (1, [.ref q_this_leaving, .ref q_this_cameFrom, .ref q_this_queue, .int v_this_found_11, .int v_this_source, .int v_this_goal, .int v_this_dimension, .long v_this_alive])), (q_this_leaving, .inl (k_this_leaving, 64, .inl c_this_leaving)), (q_this_cameFrom, .inl (k_this_cameFrom, 128, .inl c_this_cameFrom_11)), (q_this_queue, .inl (k_this_queue, 128, .inl c_this_queue_11))] H := hP
            have hD : va_D A [(q_this, .inr (1, [.ref q_this_leaving, .ref q_this_cameFrom, .ref q_this_queue, .int v_this_found_11, .int v_this_source, .int v_this_goal, .int v_this_dimension, .long v_this_alive])), (q_this_leaving, .inl (k_this_leaving, 64, .inl c_this_leaving)), (q_this_cameFrom, .inl (k_this_cameFrom, 128, .inl c_this_cameFrom_11)), (q_this_queue, .inl (k_this_queue, 128, .inl c_this_queue_11))] := hD
            refine lv_iload_n hx hb dX1_searchFromExit_91 rfl (lv_at hl 1 rfl) ?_
            replace hf := zob_some hf
            obtain ⟨u3, hu3, hf⟩ := hf
            refine kd_i (D := D) (v := u3) (av := [.int a1]) (wc := []) (w1 := []) (ws2 := [(q_this, .inr (1, [.ref q_this_leaving, .ref q_this_cameFrom, .ref q_this_queue, .int v_this_found_11, .int v_this_source, .int v_this_goal, .int v_this_dimension, .long v_this_alive])), (q_this_leaving, .inl (k_this_leaving, 64, .inl c_this_leaving)), (q_this_cameFrom, .inl (k_this_cameFrom, 128, .inl c_this_cameFrom_11)), (q_this_queue, .inl (k_this_queue, 128, .inl c_this_queue_11))]) hK hP hD hS hA hE [] [] [0, 1, 2, 3] [0, 1, 2, 3] (fun hb1 hp1 => va_runS (As := [.int a1]) (rest := [.int u2, .ref q_this]) ⟨hx, hb, hml, hown, hts⟩ (c_X1_exit l D H.size a1 u3 hu3) (va_cwS 1 hts gX1_searchFromExit_X1_exit rfl rfl rfl (by decide +kernel) ⟨Nat.le_of_ble_eq_true rfl, Nat.le_of_ble_eq_true rfl⟩) ⟨hb1, hp1⟩ rfl rfl hl.1 rfl (lv_room (Nat.le_of_ble_eq_true rfl)) dX1_searchFromExit_92 ⟨Nat.le_of_ble_eq_true rfl, Nat.le_of_ble_eq_true rfl⟩) rfl rfl rfl rfl rfl rfl rfl rfl rfl rfl (fun H locs hP hD hS => ?_)
            have hP : va_P D vwCl [(q_this, .inr (1, [.ref q_this_leaving, .ref q_this_cameFrom, .ref q_this_queue, .int v_this_found_11, .int v_this_source, .int v_this_goal, .int v_this_dimension, .long v_this_alive])), (q_this_leaving, .inl (k_this_leaving, 64, .inl c_this_leaving)), (q_this_cameFrom, .inl (k_this_cameFrom, 128, .inl c_this_cameFrom_11)), (q_this_queue, .inl (k_this_queue, 128, .inl c_this_queue_11))] H := hP
            have hD : va_D A [(q_this, .inr (1, [.ref q_this_leaving, .ref q_this_cameFrom, .ref q_this_queue, .int v_this_found_11, .int v_this_source, .int v_this_goal, .int v_this_dimension, .long v_this_alive])), (q_this_leaving, .inl (k_this_leaving, 64, .inl c_this_leaving)), (q_this_cameFrom, .inl (k_this_cameFrom, 128, .inl c_this_cameFrom_11)), (q_this_queue, .inl (k_this_queue, 128, .inl c_this_queue_11))] := hD
            replace hf := zob_some hf
            obtain ⟨u4, hu4, hf⟩ := hf
            refine kd_v (D := D) (av := [.ref q_this, .int u2, .int u3]) (wc := [(q_this, .inr (1, [.ref q_this_leaving, .ref q_this_cameFrom, .ref q_this_queue, .int v_this_found_11, .int v_this_source, .int v_this_goal, .int v_this_dimension, .long v_this_alive])), (q_this_cameFrom, .inl (k_this_cameFrom, 128, .inl c_this_cameFrom_11)), (q_this_queue, .inl (k_this_queue, 128, .inl c_this_queue_11))]) (w1 := [(q_this, .inr (1, [.ref q_this_leaving, .ref q_this_cameFrom, .ref q_this_queue, .int u4.1, .int v_this_source, .int v_this_goal, .int v_this_dimension, .long v_this_alive])), (q_this_cameFrom, .inl (k_this_cameFrom, 128, .inl u4.2.1)), (q_this_queue, .inl (k_this_queue, 128, .inl u4.2.2))]) (ws2 := [(q_this, .inr (1, [.ref q_this_leaving, .ref q_this_cameFrom, .ref q_this_queue, .int u4.1, .int v_this_source, .int v_this_goal, .int v_this_dimension, .long v_this_alive])), (q_this_leaving, .inl (k_this_leaving, 64, .inl c_this_leaving)), (q_this_cameFrom, .inl (k_this_cameFrom, 128, .inl u4.2.1)), (q_this_queue, .inl (k_this_queue, 128, .inl u4.2.2))]) hK hP hD hS hA hE [0, 2, 3] [1, 2] [1] [1, 0, 2, 3] (fun hb1 hp1 => va_runV (As := [.int u2, .int u3]) (rest := []) ⟨hx, hb, hml, hown, hts⟩ (c_X1_discover l D H.size q_this q_this_leaving q_this_cameFrom q_this_queue k_this_cameFrom k_this_queue v_this_found_11 v_this_source v_this_goal v_this_dimension v_this_alive c_this_cameFrom_11 c_this_queue_11 u2 u3 u4 hu4) (cwV 2 hts gX1_searchFromExit_X1_discover rfl rfl rfl (by decide +kernel) ⟨Nat.le_of_ble_eq_true rfl, Nat.le_of_ble_eq_true rfl⟩) ⟨hb1, va_recv hK hP (ci := 1) (q0 := 0) rfl rfl, hp1⟩ rfl rfl hl.1 rfl (lv_room (Nat.le_of_ble_eq_true rfl)) dX1_searchFromExit_95 ⟨Nat.le_of_ble_eq_true rfl, Nat.le_of_ble_eq_true rfl⟩) rfl rfl rfl rfl rfl rfl rfl rfl rfl rfl (fun H locs hP hD hS => ?_)
            have hP : va_P D vwCl [(q_this, .inr (1, [.ref q_this_leaving, .ref q_this_cameFrom, .ref q_this_queue, .int u4.1, .int v_this_source, .int v_this_goal, .int v_this_dimension, .long v_this_alive])), (q_this_leaving, .inl (k_this_leaving, 64, .inl c_this_leaving)), (q_this_cameFrom, .inl (k_this_cameFrom, 128, .inl u4.2.1)), (q_this_queue, .inl (k_this_queue, 128, .inl u4.2.2))] H := hP
            have hD : va_D A [(q_this, .inr (1, [.ref q_this_leaving, .ref q_this_cameFrom, .ref q_this_queue, .int u4.1, .int v_this_source, .int v_this_goal, .int v_this_dimension, .long v_this_alive])), (q_this_leaving, .inl (k_this_leaving, 64, .inl c_this_leaving)), (q_this_cameFrom, .inl (k_this_cameFrom, 128, .inl u4.2.1)), (q_this_queue, .inl (k_this_queue, 128, .inl u4.2.2))] := hD
            obtain rfl := Option.some.inj hf
            subst eQ
            exact kr_v hx hb hr hlocks hK hP hD hS dX1_searchFromExit_98
      · replace hf := zite_f cd16 hf
        refine lv_iload_n hx hb dX1_searchFromExit_19 rfl (lv_at hl 1 rfl) ?_
        refine lv_iload_n hx hb dX1_searchFromExit_20 rfl (lv_at hl 3 rfl) ?_
        replace hf := zob_some hf
        obtain ⟨u5, hu5, hf⟩ := hf
        refine kd_i (D := D) (v := u5) (av := [.int a1, .int i3_11]) (wc := []) (w1 := []) (ws2 := [(q_this, .inr (1, [.ref q_this_leaving, .ref q_this_cameFrom, .ref q_this_queue, .int v_this_found_11, .int v_this_source, .int v_this_goal, .int v_this_dimension, .long v_this_alive])), (q_this_leaving, .inl (k_this_leaving, 64, .inl c_this_leaving)), (q_this_cameFrom, .inl (k_this_cameFrom, 128, .inl c_this_cameFrom_11)), (q_this_queue, .inl (k_this_queue, 128, .inl c_this_queue_11))]) hK hP hD hS hA hE [] [] [0, 1, 2, 3] [0, 1, 2, 3] (fun hb1 hp1 => va_runSN (As := [.int a1, .int i3_11]) (rest := []) ⟨hx, hb, hml, hown, hts⟩ (c_X6_neighbour l D H.size a1 i3_11 u5 hu5) ⟨va_cnB 2 hts gX1_searchFromExit_X6_neighbour_n73 rfl rfl rfl (hE.1 (RX1, 73, yX6_neighbour, RX6) (List.mem_of_getElem? (i := 24) rfl)) (hts (.initialized RX6) (by decide +kernel)) (by decide +kernel) ⟨Nat.le_of_ble_eq_true rfl, Nat.le_of_ble_eq_true rfl⟩, (hts (.static yX6_neighbour) (by decide +kernel)), trivial⟩ ⟨hb1, hp1⟩ rfl rfl hl.1 rfl (lv_room (Nat.le_of_ble_eq_true rfl)) dX1_searchFromExit_21 ⟨Nat.le_of_ble_eq_true rfl, Nat.le_of_ble_eq_true rfl⟩) rfl rfl rfl rfl rfl rfl rfl rfl rfl rfl (fun H locs hP hD hS => ?_)
        have hP : va_P D vwCl [(q_this, .inr (1, [.ref q_this_leaving, .ref q_this_cameFrom, .ref q_this_queue, .int v_this_found_11, .int v_this_source, .int v_this_goal, .int v_this_dimension, .long v_this_alive])), (q_this_leaving, .inl (k_this_leaving, 64, .inl c_this_leaving)), (q_this_cameFrom, .inl (k_this_cameFrom, 128, .inl c_this_cameFrom_11)), (q_this_queue, .inl (k_this_queue, 128, .inl c_this_queue_11))] H := hP
        have hD : va_D A [(q_this, .inr (1, [.ref q_this_leaving, .ref q_this_cameFrom, .ref q_this_queue, .int v_this_found_11, .int v_this_source, .int v_this_goal, .int v_this_dimension, .long v_this_alive])), (q_this_leaving, .inl (k_this_leaving, 64, .inl c_this_leaving)), (q_this_cameFrom, .inl (k_this_cameFrom, 128, .inl c_this_cameFrom_11)), (q_this_queue, .inl (k_this_queue, 128, .inl c_this_queue_11))] := hD
        refine lv_istore (lv' := [(4, .int u5), (0, .ref q_this), (1, .int a1), (2, .int u1), (3, .int i3_11)]) hx hb dX1_searchFromExit_24 hl (by decide) rfl (fun ls hl => ?_)
        refine lv_iload_n hx hb dX1_searchFromExit_26 rfl (lv_at hl 3 rfl) ?_
        refine lv_iload_n hx hb dX1_searchFromExit_27 rfl (lv_at hl 4 rfl) ?_
        replace hf := zob_some hf
        obtain ⟨u6, hu6, hf⟩ := hf
        refine kd_i (D := D) (v := u6) (av := [.int u1, .int i3_11]) (wc := []) (w1 := []) (ws2 := [(q_this, .inr (1, [.ref q_this_leaving, .ref q_this_cameFrom, .ref q_this_queue, .int v_this_found_11, .int v_this_source, .int v_this_goal, .int v_this_dimension, .long v_this_alive])), (q_this_leaving, .inl (k_this_leaving, 64, .inl c_this_leaving)), (q_this_cameFrom, .inl (k_this_cameFrom, 128, .inl c_this_cameFrom_11)), (q_this_queue, .inl (k_this_queue, 128, .inl c_this_queue_11))]) hK hP hD hS hA hE [] [] [0, 1, 2, 3] [0, 1, 2, 3] (fun hb1 hp1 => va_runSN (As := [.int u1, .int i3_11]) (rest := []) ⟨hx, hb, hml, hown, hts⟩ (c_X6_hasBit l D H.size u1 i3_11 u6 hu6) ⟨va_cnB 2 hts gX1_searchFromExit_X6_hasBit_n77 rfl rfl rfl (hE.1 (RX1, 77, yX6_hasBit, RX6) (List.mem_of_getElem? (i := 25) rfl)) (hts (.initialized RX6) (by decide +kernel)) (by decide +kernel) ⟨Nat.le_of_ble_eq_true rfl, Nat.le_of_ble_eq_true rfl⟩, (hts (.static yX6_hasBit) (by decide +kernel)), trivial⟩ ⟨hb1, hp1⟩ rfl rfl hl.1 rfl (lv_room (Nat.le_of_ble_eq_true rfl)) dX1_searchFromExit_28 ⟨Nat.le_of_ble_eq_true rfl, Nat.le_of_ble_eq_true rfl⟩) rfl rfl rfl rfl rfl rfl rfl rfl rfl rfl (fun H locs hP hD hS => ?_)
        have hP : va_P D vwCl [(q_this, .inr (1, [.ref q_this_leaving, .ref q_this_cameFrom, .ref q_this_queue, .int v_this_found_11, .int v_this_source, .int v_this_goal, .int v_this_dimension, .long v_this_alive])), (q_this_leaving, .inl (k_this_leaving, 64, .inl c_this_leaving)), (q_this_cameFrom, .inl (k_this_cameFrom, 128, .inl c_this_cameFrom_11)), (q_this_queue, .inl (k_this_queue, 128, .inl c_this_queue_11))] H := hP
        have hD : va_D A [(q_this, .inr (1, [.ref q_this_leaving, .ref q_this_cameFrom, .ref q_this_queue, .int v_this_found_11, .int v_this_source, .int v_this_goal, .int v_this_dimension, .long v_this_alive])), (q_this_leaving, .inl (k_this_leaving, 64, .inl c_this_leaving)), (q_this_cameFrom, .inl (k_this_cameFrom, 128, .inl c_this_cameFrom_11)), (q_this_queue, .inl (k_this_queue, 128, .inl c_this_queue_11))] := hD
        replace hf := zjp_some hf
        obtain ⟨K68, eK68, hf⟩ := hf
        have j68 : ∀ (v_this_found_68 : Int32) (c_this_cameFrom_68 : (Nat → Int32)) (c_this_queue_68 : (Nat → Int32)), K68 v_this_found_68 c_this_cameFrom_68 c_this_queue_68 = some res → ∀ (H : Heap) (locs : List Loc) (ls : Array Slot), va_P D vwCl [(q_this, .inr (1, [.ref q_this_leaving, .ref q_this_cameFrom, .ref q_this_queue, .int v_this_found_68, .int v_this_source, .int v_this_goal, .int v_this_dimension, .long v_this_alive])), (q_this_leaving, .inl (k_this_leaving, 64, .inl c_this_leaving)), (q_this_cameFrom, .inl (k_this_cameFrom, 128, .inl c_this_cameFrom_68)), (q_this_queue, .inl (k_this_queue, 128, .inl c_this_queue_68))] H → va_D A [(q_this, .inr (1, [.ref q_this_leaving, .ref q_this_cameFrom, .ref q_this_queue, .int v_this_found_68, .int v_this_source, .int v_this_goal, .int v_this_dimension, .long v_this_alive])), (q_this_leaving, .inl (k_this_leaving, 64, .inl c_this_leaving)), (q_this_cameFrom, .inl (k_this_cameFrom, 128, .inl c_this_cameFrom_68)), (q_this_queue, .inl (k_this_queue, 128, .inl c_this_queue_68))] → va_S A s.heap H locs → lv_has ls 5 [(0, .ref q_this), (1, .int a1), (2, .int u1), (3, .int i3_11)] → W p l e rm_X1_searchFromExit s m args below meth c H locs 0 0 Q (F0 m 68 ls []) := by
          intro v_this_found_68 c_this_cameFrom_68 c_this_queue_68 hf H locs ls hP hD hS hl
          replace hf := zap3 eK68 hf
          obtain ⟨x7, ex7⟩ : ∃ y : Int32, y = i3_11 + 1 := ⟨_, rfl⟩
          replace hf := zbd_of ex7 hf
          refine lv_iinc (v := x7) (lv' := [(3, .int x7), (0, .ref q_this), (1, .int a1), (2, .int u1)]) hx hb dX1_searchFromExit_68 hl (k := 3) rfl (by rw [ex7]; rfl) (by decide) rfl (fun ls hl => ?_)
          refine lv_goto (tgt := 11) hx hb dX1_searchFromExit_71 (by decide) ?_
          exact ih11 x7 v_this_found_68 c_this_cameFrom_68 c_this_queue_68 hf H locs ls hP hD hS (lv_sub hl [1, 2, 3, 0] rfl)
        refine lv_if_ne (tgt := 68) hx hb dX1_searchFromExit_31 (by decide) (fun cd31 => ?_) (fun cd31 => ?_)
        · replace hf := zite_f cd31 hf
          exact j68 v_this_found_11 c_this_cameFrom_11 c_this_queue_11 hf H locs ls hP hD hS (lv_sub hl [1, 2, 3, 4] rfl)
        · replace hf := zite_t cd31 hf
          refine lv_iload hx hb dX1_searchFromExit_34 (lv_at hl 0 rfl) ?_
          refine lv_aload_n hx hb dX1_searchFromExit_36 rfl (lv_at hl 1 rfl) ?_
          refine va_get (D := D) (ci := 1) (v := .int v_this_source) (C := RX1) (T := TX1) (N := 8) hx hb hts n_X1_searchFromExit_X1 hown hK hP 0 rfl rfl 4 (by decide) (hts (.fieldLink RX1 21 "FaultyCube$PathPacking" "source" "I") (by decide +kernel)) (fun _ h9 => h9) rfl dX1_searchFromExit_37 ?_
          refine lv_icmp_eq (tgt := 68) hx hb dX1_searchFromExit_40 (by decide) (fun cd40 => ?_) (fun cd40 => ?_)
          · replace hf := zite_t cd40 hf
            exact j68 v_this_found_11 c_this_cameFrom_11 c_this_queue_11 hf H locs ls hP hD hS (lv_sub hl [1, 2, 3, 4] rfl)
          · replace hf := zite_f cd40 hf
            refine lv_aload_n hx hb dX1_searchFromExit_43 rfl (lv_at hl 1 rfl) ?_
            refine va_get (D := D) (ci := 1) (v := .long v_this_alive) (C := RX1) (T := TX1) (N := 8) hx hb hts n_X1_searchFromExit_X1 hown hK hP 0 rfl rfl 7 (by decide) (hts (.fieldLink RX1 31 "FaultyCube$PathPacking" "alive" "J") (by decide +kernel)) (fun _ h9 => h9) rfl dX1_searchFromExit_44 ?_
            refine lv_iload hx hb dX1_searchFromExit_47 (lv_at hl 0 rfl) ?_
            replace hf := zob_some hf
            obtain ⟨u8, hu8, hf⟩ := hf
            refine kd_i (D := D) (v := u8) (av := [.long v_this_alive, .int u5]) (wc := []) (w1 := []) (ws2 := [(q_this, .inr (1, [.ref q_this_leaving, .ref q_this_cameFrom, .ref q_this_queue, .int v_this_found_11, .int v_this_source, .int v_this_goal, .int v_this_dimension, .long v_this_alive])), (q_this_leaving, .inl (k_this_leaving, 64, .inl c_this_leaving)), (q_this_cameFrom, .inl (k_this_cameFrom, 128, .inl c_this_cameFrom_11)), (q_this_queue, .inl (k_this_queue, 128, .inl c_this_queue_11))]) hK hP hD hS hA hE [] [] [0, 1, 2, 3] [0, 1, 2, 3] (fun hb1 hp1 => va_runSN (As := [.long v_this_alive, .int u5]) (rest := []) ⟨hx, hb, hml, hown, hts⟩ (c_X6_contains l D H.size v_this_alive u5 u8 hu8) ⟨va_cnB 2 hts gX1_searchFromExit_X6_contains_n81 rfl rfl rfl (hE.1 (RX1, 81, yX6_contains, RX6) (List.mem_of_getElem? (i := 26) rfl)) (hts (.initialized RX6) (by decide +kernel)) (by decide +kernel) ⟨Nat.le_of_ble_eq_true rfl, Nat.le_of_ble_eq_true rfl⟩, (hts (.static yX6_contains) (by decide +kernel)), trivial⟩ ⟨hb1, hp1⟩ rfl rfl hl.1 rfl (lv_room (Nat.le_of_ble_eq_true rfl)) dX1_searchFromExit_49 ⟨Nat.le_of_ble_eq_true rfl, Nat.le_of_ble_eq_true rfl⟩) rfl rfl rfl rfl rfl rfl rfl rfl rfl rfl (fun H locs hP hD hS => ?_)
            have hP : va_P D vwCl [(q_this, .inr (1, [.ref q_this_leaving, .ref q_this_cameFrom, .ref q_this_queue, .int v_this_found_11, .int v_this_source, .int v_this_goal, .int v_this_dimension, .long v_this_alive])), (q_this_leaving, .inl (k_this_leaving, 64, .inl c_this_leaving)), (q_this_cameFrom, .inl (k_this_cameFrom, 128, .inl c_this_cameFrom_11)), (q_this_queue, .inl (k_this_queue, 128, .inl c_this_queue_11))] H := hP
            have hD : va_D A [(q_this, .inr (1, [.ref q_this_leaving, .ref q_this_cameFrom, .ref q_this_queue, .int v_this_found_11, .int v_this_source, .int v_this_goal, .int v_this_dimension, .long v_this_alive])), (q_this_leaving, .inl (k_this_leaving, 64, .inl c_this_leaving)), (q_this_cameFrom, .inl (k_this_cameFrom, 128, .inl c_this_cameFrom_11)), (q_this_queue, .inl (k_this_queue, 128, .inl c_this_queue_11))] := hD
            refine lv_if_eq (tgt := 68) hx hb dX1_searchFromExit_52 (by decide) (fun cd52 => ?_) (fun cd52 => ?_)
            · replace hf := zite_t cd52 hf
              exact j68 v_this_found_11 c_this_cameFrom_11 c_this_queue_11 hf H locs ls hP hD hS (lv_sub hl [1, 2, 3, 4] rfl)
            · replace hf := zite_f cd52 hf
              refine lv_aload_n hx hb dX1_searchFromExit_55 rfl (lv_at hl 1 rfl) ?_
              refine lv_iload hx hb dX1_searchFromExit_56 (lv_at hl 0 rfl) ?_
              replace hf := zob_some hf
              obtain ⟨u9, hu9, hf⟩ := hf
              refine kd_i (D := D) (v := u9) (av := [.int u5]) (wc := []) (w1 := []) (ws2 := [(q_this, .inr (1, [.ref q_this_leaving, .ref q_this_cameFrom, .ref q_this_queue, .int v_this_found_11, .int v_this_source, .int v_this_goal, .int v_this_dimension, .long v_this_alive])), (q_this_leaving, .inl (k_this_leaving, 64, .inl c_this_leaving)), (q_this_cameFrom, .inl (k_this_cameFrom, 128, .inl c_this_cameFrom_11)), (q_this_queue, .inl (k_this_queue, 128, .inl c_this_queue_11))]) hK hP hD hS hA hE [] [] [0, 1, 2, 3] [0, 1, 2, 3] (fun hb1 hp1 => va_runS (As := [.int u5]) (rest := [.ref q_this]) ⟨hx, hb, hml, hown, hts⟩ (c_X1_entry l D H.size u5 u9 hu9) (va_cwS 1 hts gX1_searchFromExit_X1_entry rfl rfl rfl (by decide +kernel) ⟨Nat.le_of_ble_eq_true rfl, Nat.le_of_ble_eq_true rfl⟩) ⟨hb1, hp1⟩ rfl rfl hl.1 rfl (lv_room (Nat.le_of_ble_eq_true rfl)) dX1_searchFromExit_58 ⟨Nat.le_of_ble_eq_true rfl, Nat.le_of_ble_eq_true rfl⟩) rfl rfl rfl rfl rfl rfl rfl rfl rfl rfl (fun H locs hP hD hS => ?_)
              have hP : va_P D vwCl [(q_this, .inr (1, [.ref q_this_leaving, .ref q_this_cameFrom, .ref q_this_queue, .int v_this_found_11, .int v_this_source, .int v_this_goal, .int v_this_dimension, .long v_this_alive])), (q_this_leaving, .inl (k_this_leaving, 64, .inl c_this_leaving)), (q_this_cameFrom, .inl (k_this_cameFrom, 128, .inl c_this_cameFrom_11)), (q_this_queue, .inl (k_this_queue, 128, .inl c_this_queue_11))] H := hP
              have hD : va_D A [(q_this, .inr (1, [.ref q_this_leaving, .ref q_this_cameFrom, .ref q_this_queue, .int v_this_found_11, .int v_this_source, .int v_this_goal, .int v_this_dimension, .long v_this_alive])), (q_this_leaving, .inl (k_this_leaving, 64, .inl c_this_leaving)), (q_this_cameFrom, .inl (k_this_cameFrom, 128, .inl c_this_cameFrom_11)), (q_this_queue, .inl (k_this_queue, 128, .inl c_this_queue_11))] := hD
              refine lv_iload_n hx hb dX1_searchFromExit_61 rfl (lv_at hl 2 rfl) ?_
              replace hf := zob_some hf
              obtain ⟨u10, hu10, hf⟩ := hf
              refine kd_i (D := D) (v := u10) (av := [.int a1]) (wc := []) (w1 := []) (ws2 := [(q_this, .inr (1, [.ref q_this_leaving, .ref q_this_cameFrom, .ref q_this_queue, .int v_this_found_11, .int v_this_source, .int v_this_goal, .int v_this_dimension, .long v_this_alive])), (q_this_leaving, .inl (k_this_leaving, 64, .inl c_this_leaving)), (q_this_cameFrom, .inl (k_this_cameFrom, 128, .inl c_this_cameFrom_11)), (q_this_queue, .inl (k_this_queue, 128, .inl c_this_queue_11))]) hK hP hD hS hA hE [] [] [0, 1, 2, 3] [0, 1, 2, 3] (fun hb1 hp1 => va_runS (As := [.int a1]) (rest := [.int u9, .ref q_this]) ⟨hx, hb, hml, hown, hts⟩ (c_X1_exit l D H.size a1 u10 hu10) (va_cwS 1 hts gX1_searchFromExit_X1_exit rfl rfl rfl (by decide +kernel) ⟨Nat.le_of_ble_eq_true rfl, Nat.le_of_ble_eq_true rfl⟩) ⟨hb1, hp1⟩ rfl rfl hl.1 rfl (lv_room (Nat.le_of_ble_eq_true rfl)) dX1_searchFromExit_62 ⟨Nat.le_of_ble_eq_true rfl, Nat.le_of_ble_eq_true rfl⟩) rfl rfl rfl rfl rfl rfl rfl rfl rfl rfl (fun H locs hP hD hS => ?_)
              have hP : va_P D vwCl [(q_this, .inr (1, [.ref q_this_leaving, .ref q_this_cameFrom, .ref q_this_queue, .int v_this_found_11, .int v_this_source, .int v_this_goal, .int v_this_dimension, .long v_this_alive])), (q_this_leaving, .inl (k_this_leaving, 64, .inl c_this_leaving)), (q_this_cameFrom, .inl (k_this_cameFrom, 128, .inl c_this_cameFrom_11)), (q_this_queue, .inl (k_this_queue, 128, .inl c_this_queue_11))] H := hP
              have hD : va_D A [(q_this, .inr (1, [.ref q_this_leaving, .ref q_this_cameFrom, .ref q_this_queue, .int v_this_found_11, .int v_this_source, .int v_this_goal, .int v_this_dimension, .long v_this_alive])), (q_this_leaving, .inl (k_this_leaving, 64, .inl c_this_leaving)), (q_this_cameFrom, .inl (k_this_cameFrom, 128, .inl c_this_cameFrom_11)), (q_this_queue, .inl (k_this_queue, 128, .inl c_this_queue_11))] := hD
              replace hf := zob_some hf
              obtain ⟨u11, hu11, hf⟩ := hf
              refine kd_v (D := D) (av := [.ref q_this, .int u9, .int u10]) (wc := [(q_this, .inr (1, [.ref q_this_leaving, .ref q_this_cameFrom, .ref q_this_queue, .int v_this_found_11, .int v_this_source, .int v_this_goal, .int v_this_dimension, .long v_this_alive])), (q_this_cameFrom, .inl (k_this_cameFrom, 128, .inl c_this_cameFrom_11)), (q_this_queue, .inl (k_this_queue, 128, .inl c_this_queue_11))]) (w1 := [(q_this, .inr (1, [.ref q_this_leaving, .ref q_this_cameFrom, .ref q_this_queue, .int u11.1, .int v_this_source, .int v_this_goal, .int v_this_dimension, .long v_this_alive])), (q_this_cameFrom, .inl (k_this_cameFrom, 128, .inl u11.2.1)), (q_this_queue, .inl (k_this_queue, 128, .inl u11.2.2))]) (ws2 := [(q_this, .inr (1, [.ref q_this_leaving, .ref q_this_cameFrom, .ref q_this_queue, .int u11.1, .int v_this_source, .int v_this_goal, .int v_this_dimension, .long v_this_alive])), (q_this_leaving, .inl (k_this_leaving, 64, .inl c_this_leaving)), (q_this_cameFrom, .inl (k_this_cameFrom, 128, .inl u11.2.1)), (q_this_queue, .inl (k_this_queue, 128, .inl u11.2.2))]) hK hP hD hS hA hE [0, 2, 3] [1, 2] [1] [1, 0, 2, 3] (fun hb1 hp1 => va_runV (As := [.int u9, .int u10]) (rest := []) ⟨hx, hb, hml, hown, hts⟩ (c_X1_discover l D H.size q_this q_this_leaving q_this_cameFrom q_this_queue k_this_cameFrom k_this_queue v_this_found_11 v_this_source v_this_goal v_this_dimension v_this_alive c_this_cameFrom_11 c_this_queue_11 u9 u10 u11 hu11) (cwV 2 hts gX1_searchFromExit_X1_discover rfl rfl rfl (by decide +kernel) ⟨Nat.le_of_ble_eq_true rfl, Nat.le_of_ble_eq_true rfl⟩) ⟨hb1, va_recv hK hP (ci := 1) (q0 := 0) rfl rfl, hp1⟩ rfl rfl hl.1 rfl (lv_room (Nat.le_of_ble_eq_true rfl)) dX1_searchFromExit_65 ⟨Nat.le_of_ble_eq_true rfl, Nat.le_of_ble_eq_true rfl⟩) rfl rfl rfl rfl rfl rfl rfl rfl rfl rfl (fun H locs hP hD hS => ?_)
              have hP : va_P D vwCl [(q_this, .inr (1, [.ref q_this_leaving, .ref q_this_cameFrom, .ref q_this_queue, .int u11.1, .int v_this_source, .int v_this_goal, .int v_this_dimension, .long v_this_alive])), (q_this_leaving, .inl (k_this_leaving, 64, .inl c_this_leaving)), (q_this_cameFrom, .inl (k_this_cameFrom, 128, .inl u11.2.1)), (q_this_queue, .inl (k_this_queue, 128, .inl u11.2.2))] H := hP
              have hD : va_D A [(q_this, .inr (1, [.ref q_this_leaving, .ref q_this_cameFrom, .ref q_this_queue, .int u11.1, .int v_this_source, .int v_this_goal, .int v_this_dimension, .long v_this_alive])), (q_this_leaving, .inl (k_this_leaving, 64, .inl c_this_leaving)), (q_this_cameFrom, .inl (k_this_cameFrom, 128, .inl u11.2.1)), (q_this_queue, .inl (k_this_queue, 128, .inl u11.2.2))] := hD
              exact j68 u11.1 u11.2.1 u11.2.2 hf H locs ls hP hD hS (lv_sub hl [1, 2, 3, 4] rfl)
  exact h11 zfu 0 v_this_found c_this_cameFrom c_this_queue hf H locs ls hP hD hS (lv_sub hl [2, 3, 1, 0] rfl)
theorem n_X1_searchFromEntry_X1 : ∀ w ∈ u_ws RX1 TX1 8, w ∈ wsX1_searchFromEntry := by decide +kernel
abbrev rm_X1_searchFromEntry : Room := { frames := 2, cells := 0, slots := 0, locals := 44 }
set_option maxHeartbeats 4000000 in
set_option maxRecDepth 100000 in
theorem c_X1_searchFromEntry (l : Launch) (D : va_G) (sz : Nat) (q_this : Nat) (q_this_leaving : Nat) (q_this_cameFrom : Nat) (q_this_queue : Nat) (k_this_leaving : ClassId) (k_this_cameFrom : ClassId) (k_this_queue : ClassId) (v_this_found : Int32) (v_this_source : Int32) (v_this_goal : Int32) (v_this_dimension : Int32) (v_this_alive : Int64) (c_this_leaving : (Nat → Int32)) (c_this_cameFrom : (Nat → Int32)) (c_this_queue : (Nat → Int32)) (a1 : Int32) (res : rt_X1_searchFromEntry) (hf : f_X1_searchFromEntry a1 v_this_found v_this_dimension c_this_leaving c_this_cameFrom c_this_queue = some res) : Met l yX1_searchFromEntry wsX1_searchFromEntry rm_X1_searchFromEntry (kP D [.ref q_this, .int a1] [(q_this, .inr (1, [.ref q_this_leaving, .ref q_this_cameFrom, .ref q_this_queue, .int v_this_found, .int v_this_source, .int v_this_goal, .int v_this_dimension, .long v_this_alive])), (q_this_leaving, .inl (k_this_leaving, 64, .inl c_this_leaving)), (q_this_cameFrom, .inl (k_this_cameFrom, 128, .inl c_this_cameFrom)), (q_this_queue, .inl (k_this_queue, 128, .inl c_this_queue))] [(k_this_leaving, .int), (k_this_cameFrom, .int), (k_this_queue, .int)] sz) (kQv D (va_A [(q_this, .inr (1, [.ref q_this_leaving, .ref q_this_cameFrom, .ref q_this_queue, .int v_this_found, .int v_this_source, .int v_this_goal, .int v_this_dimension, .long v_this_alive])), (q_this_leaving, .inl (k_this_leaving, 64, .inl c_this_leaving)), (q_this_cameFrom, .inl (k_this_cameFrom, 128, .inl c_this_cameFrom)), (q_this_queue, .inl (k_this_queue, 128, .inl c_this_queue))] sz) [(k_this_leaving, .int), (k_this_cameFrom, .int), (k_this_queue, .int)] [(q_this, .inr (1, [.ref q_this_leaving, .ref q_this_cameFrom, .ref q_this_queue, .int res.1, .int v_this_source, .int v_this_goal, .int v_this_dimension, .long v_this_alive])), (q_this_leaving, .inl (k_this_leaving, 64, .inl c_this_leaving)), (q_this_cameFrom, .inl (k_this_cameFrom, 128, .inl res.2.1)), (q_this_queue, .inl (k_this_queue, 128, .inl res.2.2))]) 0 0 (va_A [(q_this, .inr (1, [.ref q_this_leaving, .ref q_this_cameFrom, .ref q_this_queue, .int v_this_found, .int v_this_source, .int v_this_goal, .int v_this_dimension, .long v_this_alive])), (q_this_leaving, .inl (k_this_leaving, 64, .inl c_this_leaving)), (q_this_cameFrom, .inl (k_this_cameFrom, 128, .inl c_this_cameFrom)), (q_this_queue, .inl (k_this_queue, 128, .inl c_this_queue))] sz) := by
  refine Met.ofW (cc := cX1_searchFromEntry) (maxL := 4) (ret := none) (by decide +kernel) rfl ?_
  intro p e s m args below meth c s₁ B hml hv
  obtain ⟨hargs, hsz, hP, hK, hD0, hE⟩ := hv
  have hx := B.exec
  have hb := B.bytes
  have hr := B.returns
  have hts := atoms_spec (ws := wsX1_searchFromEntry) B.pre
  have hown : s.vm.findClass RX1 = some m.cls := findClass_of_methodNamed B.named
  have hlocks := B.notSynchronized
  subst hsz
  have hD := hD0.self (sz := s.heap.size)
  generalize hAe : va_A [(q_this, .inr (1, [.ref q_this_leaving, .ref q_this_cameFrom, .ref q_this_queue, .int v_this_found, .int v_this_source, .int v_this_goal, .int v_this_dimension, .long v_this_alive])), (q_this_leaving, .inl (k_this_leaving, 64, .inl c_this_leaving)), (q_this_cameFrom, .inl (k_this_cameFrom, 128, .inl c_this_cameFrom)), (q_this_queue, .inl (k_this_queue, 128, .inl c_this_queue))] s.heap.size = A at hD hE ⊢
  have hA : ∀ q : Nat, s.heap.size ≤ q → A q := fun q h => by rw [← hAe]; exact Or.inr h
  have hS : va_S A s.heap s.heap [] := va_S.rf
  refine kgen (fun Q eQ => ?_)
  refine kent (av := [.ref q_this, .int a1]) hargs (Nat.le_of_ble_eq_true rfl) (fun ls hl => ?_)
  have hl : lv_has ls 4 [(0, .ref q_this), (1, .int a1)] := hl
  show W p l e rm_X1_searchFromEntry s m args below meth c s.heap [] 0 0 Q (F0 m 0 ls [])
  unfold f_X1_searchFromEntry at hf
  refine lv_aload_n hx hb dX1_searchFromEntry_0 rfl (lv_at hl 0 rfl) ?_
  refine va_get (D := D) (ci := 1) (v := .ref q_this_leaving) (C := RX1) (T := TX1) (N := 8) hx hb hts n_X1_searchFromEntry_X1 hown hK hP 0 rfl rfl 0 (by decide) (hts (.fieldLink RX1 9 "FaultyCube$PathPacking" "leaving" "[I") (by decide +kernel)) (fun _ h9 => h9) rfl dX1_searchFromEntry_1 ?_
  refine lv_iload_n hx hb dX1_searchFromEntry_4 rfl (lv_at hl 1 rfl) ?_
  replace hf := zob_some hf
  obtain ⟨u1, hu1, hf⟩ := hf
  refine kd_i (D := D) (v := u1) (av := [.ref q_this_leaving, .int a1]) (wc := [(q_this_leaving, .inl (k_this_leaving, 64, .inl c_this_leaving))]) (w1 := [(q_this_leaving, .inl (k_this_leaving, 64, .inl c_this_leaving))]) (ws2 := [(q_this, .inr (1, [.ref q_this_leaving, .ref q_this_cameFrom, .ref q_this_queue, .int v_this_found, .int v_this_source, .int v_this_goal, .int v_this_dimension, .long v_this_alive])), (q_this_leaving, .inl (k_this_leaving, 64, .inl c_this_leaving)), (q_this_cameFrom, .inl (k_this_cameFrom, 128, .inl c_this_cameFrom)), (q_this_queue, .inl (k_this_queue, 128, .inl c_this_queue))]) hK hP hD hS hA hE [1] [0] [0, 2, 3] [0, 3, 1, 2] (fun hb1 hp1 => va_runSN (As := [.ref q_this_leaving, .int a1]) (rest := []) ⟨hx, hb, hml, hown, hts⟩ (c_X6_read l D s.heap.size q_this_leaving k_this_leaving 64 c_this_leaving a1 u1 hu1) ⟨va_cnB 2 hts gX1_searchFromEntry_X6_read_n69 rfl rfl rfl (hE.1 (RX1, 69, yX6_read, RX6) (List.mem_of_getElem? (i := 22) rfl)) (hts (.initialized RX6) (by decide +kernel)) (by decide +kernel) ⟨Nat.le_of_ble_eq_true rfl, Nat.le_of_ble_eq_true rfl⟩, (hts (.static yX6_read) (by decide +kernel)), trivial⟩ ⟨hb1, hp1⟩ rfl rfl hl.1 rfl (lv_room (Nat.le_of_ble_eq_true rfl)) dX1_searchFromEntry_5 ⟨Nat.le_of_ble_eq_true rfl, Nat.le_of_ble_eq_true rfl⟩) rfl rfl rfl rfl rfl rfl rfl rfl rfl rfl (fun H locs hP hD hS => ?_)
  have hP : va_P D vwCl [(q_this, .inr (1, [.ref q_this_leaving, .ref q_this_cameFrom, .ref q_this_queue, .int v_this_found, .int v_this_source, .int v_this_goal, .int v_this_dimension, .long v_this_alive])), (q_this_leaving, .inl (k_this_leaving, 64, .inl c_this_leaving)), (q_this_cameFrom, .inl (k_this_cameFrom, 128, .inl c_this_cameFrom)), (q_this_queue, .inl (k_this_queue, 128, .inl c_this_queue))] H := hP
  have hD : va_D A [(q_this, .inr (1, [.ref q_this_leaving, .ref q_this_cameFrom, .ref q_this_queue, .int v_this_found, .int v_this_source, .int v_this_goal, .int v_this_dimension, .long v_this_alive])), (q_this_leaving, .inl (k_this_leaving, 64, .inl c_this_leaving)), (q_this_cameFrom, .inl (k_this_cameFrom, 128, .inl c_this_cameFrom)), (q_this_queue, .inl (k_this_queue, 128, .inl c_this_queue))] := hD
  replace hf := zjp_some hf
  obtain ⟨K23, eK23, hf⟩ := hf
  have j23 : ∀ (v_this_found_23 : Int32) (c_this_cameFrom_23 : (Nat → Int32)) (c_this_queue_23 : (Nat → Int32)), K23 v_this_found_23 c_this_cameFrom_23 c_this_queue_23 = some res → ∀ (H : Heap) (locs : List Loc) (ls : Array Slot), va_P D vwCl [(q_this, .inr (1, [.ref q_this_leaving, .ref q_this_cameFrom, .ref q_this_queue, .int v_this_found_23, .int v_this_source, .int v_this_goal, .int v_this_dimension, .long v_this_alive])), (q_this_leaving, .inl (k_this_leaving, 64, .inl c_this_leaving)), (q_this_cameFrom, .inl (k_this_cameFrom, 128, .inl c_this_cameFrom_23)), (q_this_queue, .inl (k_this_queue, 128, .inl c_this_queue_23))] H → va_D A [(q_this, .inr (1, [.ref q_this_leaving, .ref q_this_cameFrom, .ref q_this_queue, .int v_this_found_23, .int v_this_source, .int v_this_goal, .int v_this_dimension, .long v_this_alive])), (q_this_leaving, .inl (k_this_leaving, 64, .inl c_this_leaving)), (q_this_cameFrom, .inl (k_this_cameFrom, 128, .inl c_this_cameFrom_23)), (q_this_queue, .inl (k_this_queue, 128, .inl c_this_queue_23))] → va_S A s.heap H locs → lv_has ls 4 [(0, .ref q_this), (1, .int a1)] → W p l e rm_X1_searchFromEntry s m args below meth c H locs 0 0 Q (F0 m 23 ls []) := by
    intro v_this_found_23 c_this_cameFrom_23 c_this_queue_23 hf H locs ls hP hD hS hl
    replace hf := zap3 eK23 hf
    refine lv_iconst (v := 0) hx hb dX1_searchFromEntry_23 (by decide) ?_
    refine lv_istore_n (lv' := [(2, .int 0), (0, .ref q_this), (1, .int a1)]) hx hb dX1_searchFromEntry_24 rfl hl (by decide) rfl (fun ls hl => ?_)
    replace hf := zl4_some hf
    obtain ⟨F25, eF25, hf⟩ := hf
    have h25 : ∀ (n25 : Nat) (i2_25 : Int32) (v_this_found_25 : Int32) (c_this_cameFrom_25 : (Nat → Int32)) (c_this_queue_25 : (Nat → Int32)), zl4 F25 n25 i2_25 v_this_found_25 c_this_cameFrom_25 c_this_queue_25 = some res → ∀ (H : Heap) (locs : List Loc) (ls : Array Slot), va_P D vwCl [(q_this, .inr (1, [.ref q_this_leaving, .ref q_this_cameFrom, .ref q_this_queue, .int v_this_found_25, .int v_this_source, .int v_this_goal, .int v_this_dimension, .long v_this_alive])), (q_this_leaving, .inl (k_this_leaving, 64, .inl c_this_leaving)), (q_this_cameFrom, .inl (k_this_cameFrom, 128, .inl c_this_cameFrom_25)), (q_this_queue, .inl (k_this_queue, 128, .inl c_this_queue_25))] H → va_D A [(q_this, .inr (1, [.ref q_this_leaving, .ref q_this_cameFrom, .ref q_this_queue, .int v_this_found_25, .int v_this_source, .int v_this_goal, .int v_this_dimension, .long v_this_alive])), (q_this_leaving, .inl (k_this_leaving, 64, .inl c_this_leaving)), (q_this_cameFrom, .inl (k_this_cameFrom, 128, .inl c_this_cameFrom_25)), (q_this_queue, .inl (k_this_queue, 128, .inl c_this_queue_25))] → va_S A s.heap H locs → lv_has ls 4 [(0, .ref q_this), (1, .int a1), (2, .int i2_25)] → W p l e rm_X1_searchFromEntry s m args below meth c H locs 0 0 Q (F0 m 25 ls []) := by
      intro n25
      induction n25 with
      | zero => intro i2_25 v_this_found_25 c_this_cameFrom_25 c_this_queue_25 hf; exact (zl4_zero hf).elim
      | succ n25 ih25 =>
        intro i2_25 v_this_found_25 c_this_cameFrom_25 c_this_queue_25 hf H locs ls hP hD hS hl
        replace hf := zl4_step eF25 hf
        generalize zl4 F25 n25 = k25 at hf ih25
        refine lv_iload_n hx hb dX1_searchFromEntry_25 rfl (lv_at hl 2 rfl) ?_
        refine lv_aload_n hx hb dX1_searchFromEntry_26 rfl (lv_at hl 0 rfl) ?_
        refine va_get (D := D) (ci := 1) (v := .int v_this_dimension) (C := RX1) (T := TX1) (N := 8) hx hb hts n_X1_searchFromEntry_X1 hown hK hP 0 rfl rfl 6 (by decide) (hts (.fieldLink RX1 28 "FaultyCube$PathPacking" "dimension" "I") (by decide +kernel)) (fun _ h9 => h9) rfl dX1_searchFromEntry_27 ?_
        refine lv_icmp_ge (tgt := 72) hx hb dX1_searchFromEntry_30 (by decide) (fun cd30 => ?_) (fun cd30 => ?_)
        · replace hf := zite_t cd30 hf
          obtain rfl := Option.some.inj hf
          subst eQ
          exact kr_v hx hb hr hlocks hK hP hD hS dX1_searchFromEntry_72
        · replace hf := zite_f cd30 hf
          refine lv_iload_n hx hb dX1_searchFromEntry_33 rfl (lv_at hl 1 rfl) ?_
          refine lv_iload_n hx hb dX1_searchFromEntry_34 rfl (lv_at hl 2 rfl) ?_
          replace hf := zob_some hf
          obtain ⟨u2, hu2, hf⟩ := hf
          refine kd_i (D := D) (v := u2) (av := [.int a1, .int i2_25]) (wc := []) (w1 := []) (ws2 := [(q_this, .inr (1, [.ref q_this_leaving, .ref q_this_cameFrom, .ref q_this_queue, .int v_this_found_25, .int v_this_source, .int v_this_goal, .int v_this_dimension, .long v_this_alive])), (q_this_leaving, .inl (k_this_leaving, 64, .inl c_this_leaving)), (q_this_cameFrom, .inl (k_this_cameFrom, 128, .inl c_this_cameFrom_25)), (q_this_queue, .inl (k_this_queue, 128, .inl c_this_queue_25))]) hK hP hD hS hA hE [] [] [0, 1, 2, 3] [0, 1, 2, 3] (fun hb1 hp1 => va_runSN (As := [.int a1, .int i2_25]) (rest := []) ⟨hx, hb, hml, hown, hts⟩ (c_X6_neighbour l D H.size a1 i2_25 u2 hu2) ⟨va_cnB 2 hts gX1_searchFromEntry_X6_neighbour_n73 rfl rfl rfl (hE.1 (RX1, 73, yX6_neighbour, RX6) (List.mem_of_getElem? (i := 24) rfl)) (hts (.initialized RX6) (by decide +kernel)) (by decide +kernel) ⟨Nat.le_of_ble_eq_true rfl, Nat.le_of_ble_eq_true rfl⟩, (hts (.static yX6_neighbour) (by decide +kernel)), trivial⟩ ⟨hb1, hp1⟩ rfl rfl hl.1 rfl (lv_room (Nat.le_of_ble_eq_true rfl)) dX1_searchFromEntry_35 ⟨Nat.le_of_ble_eq_true rfl, Nat.le_of_ble_eq_true rfl⟩) rfl rfl rfl rfl rfl rfl rfl rfl rfl rfl (fun H locs hP hD hS => ?_)
          have hP : va_P D vwCl [(q_this, .inr (1, [.ref q_this_leaving, .ref q_this_cameFrom, .ref q_this_queue, .int v_this_found_25, .int v_this_source, .int v_this_goal, .int v_this_dimension, .long v_this_alive])), (q_this_leaving, .inl (k_this_leaving, 64, .inl c_this_leaving)), (q_this_cameFrom, .inl (k_this_cameFrom, 128, .inl c_this_cameFrom_25)), (q_this_queue, .inl (k_this_queue, 128, .inl c_this_queue_25))] H := hP
          have hD : va_D A [(q_this, .inr (1, [.ref q_this_leaving, .ref q_this_cameFrom, .ref q_this_queue, .int v_this_found_25, .int v_this_source, .int v_this_goal, .int v_this_dimension, .long v_this_alive])), (q_this_leaving, .inl (k_this_leaving, 64, .inl c_this_leaving)), (q_this_cameFrom, .inl (k_this_cameFrom, 128, .inl c_this_cameFrom_25)), (q_this_queue, .inl (k_this_queue, 128, .inl c_this_queue_25))] := hD
          refine lv_istore_n (lv' := [(3, .int u2), (0, .ref q_this), (1, .int a1), (2, .int i2_25)]) hx hb dX1_searchFromEntry_38 rfl hl (by decide) rfl (fun ls hl => ?_)
          refine lv_aload_n hx hb dX1_searchFromEntry_39 rfl (lv_at hl 1 rfl) ?_
          refine va_get (D := D) (ci := 1) (v := .ref q_this_leaving) (C := RX1) (T := TX1) (N := 8) hx hb hts n_X1_searchFromEntry_X1 hown hK hP 0 rfl rfl 0 (by decide) (hts (.fieldLink RX1 9 "FaultyCube$PathPacking" "leaving" "[I") (by decide +kernel)) (fun _ h9 => h9) rfl dX1_searchFromEntry_40 ?_
          refine lv_iload_n hx hb dX1_searchFromEntry_43 rfl (lv_at hl 0 rfl) ?_
          replace hf := zob_some hf
          obtain ⟨u3, hu3, hf⟩ := hf
          refine kd_i (D := D) (v := u3) (av := [.ref q_this_leaving, .int u2]) (wc := [(q_this_leaving, .inl (k_this_leaving, 64, .inl c_this_leaving))]) (w1 := [(q_this_leaving, .inl (k_this_leaving, 64, .inl c_this_leaving))]) (ws2 := [(q_this, .inr (1, [.ref q_this_leaving, .ref q_this_cameFrom, .ref q_this_queue, .int v_this_found_25, .int v_this_source, .int v_this_goal, .int v_this_dimension, .long v_this_alive])), (q_this_leaving, .inl (k_this_leaving, 64, .inl c_this_leaving)), (q_this_cameFrom, .inl (k_this_cameFrom, 128, .inl c_this_cameFrom_25)), (q_this_queue, .inl (k_this_queue, 128, .inl c_this_queue_25))]) hK hP hD hS hA hE [1] [0] [0, 2, 3] [0, 3, 1, 2] (fun hb1 hp1 => va_runSN (As := [.ref q_this_leaving, .int u2]) (rest := []) ⟨hx, hb, hml, hown, hts⟩ (c_X6_read l D H.size q_this_leaving k_this_leaving 64 c_this_leaving u2 u3 hu3) ⟨va_cnB 2 hts gX1_searchFromEntry_X6_read_n69 rfl rfl rfl (hE.1 (RX1, 69, yX6_read, RX6) (List.mem_of_getElem? (i := 22) rfl)) (hts (.initialized RX6) (by decide +kernel)) (by decide +kernel) ⟨Nat.le_of_ble_eq_true rfl, Nat.le_of_ble_eq_true rfl⟩, (hts (.static yX6_read) (by decide +kernel)), trivial⟩ ⟨hb1, hp1⟩ rfl rfl hl.1 rfl (lv_room (Nat.le_of_ble_eq_true rfl)) dX1_searchFromEntry_44 ⟨Nat.le_of_ble_eq_true rfl, Nat.le_of_ble_eq_true rfl⟩) rfl rfl rfl rfl rfl rfl rfl rfl rfl rfl (fun H locs hP hD hS => ?_)
          have hP : va_P D vwCl [(q_this, .inr (1, [.ref q_this_leaving, .ref q_this_cameFrom, .ref q_this_queue, .int v_this_found_25, .int v_this_source, .int v_this_goal, .int v_this_dimension, .long v_this_alive])), (q_this_leaving, .inl (k_this_leaving, 64, .inl c_this_leaving)), (q_this_cameFrom, .inl (k_this_cameFrom, 128, .inl c_this_cameFrom_25)), (q_this_queue, .inl (k_this_queue, 128, .inl c_this_queue_25))] H := hP
          have hD : va_D A [(q_this, .inr (1, [.ref q_this_leaving, .ref q_this_cameFrom, .ref q_this_queue, .int v_this_found_25, .int v_this_source, .int v_this_goal, .int v_this_dimension, .long v_this_alive])), (q_this_leaving, .inl (k_this_leaving, 64, .inl c_this_leaving)), (q_this_cameFrom, .inl (k_this_cameFrom, 128, .inl c_this_cameFrom_25)), (q_this_queue, .inl (k_this_queue, 128, .inl c_this_queue_25))] := hD
          refine lv_iload_n hx hb dX1_searchFromEntry_47 rfl (lv_at hl 3 rfl) ?_
          replace hf := zob_some hf
          obtain ⟨u4, hu4, hf⟩ := hf
          refine kd_i (D := D) (v := u4) (av := [.int u3, .int i2_25]) (wc := []) (w1 := []) (ws2 := [(q_this, .inr (1, [.ref q_this_leaving, .ref q_this_cameFrom, .ref q_this_queue, .int v_this_found_25, .int v_this_source, .int v_this_goal, .int v_this_dimension, .long v_this_alive])), (q_this_leaving, .inl (k_this_leaving, 64, .inl c_this_leaving)), (q_this_cameFrom, .inl (k_this_cameFrom, 128, .inl c_this_cameFrom_25)), (q_this_queue, .inl (k_this_queue, 128, .inl c_this_queue_25))]) hK hP hD hS hA hE [] [] [0, 1, 2, 3] [0, 1, 2, 3] (fun hb1 hp1 => va_runSN (As := [.int u3, .int i2_25]) (rest := []) ⟨hx, hb, hml, hown, hts⟩ (c_X6_hasBit l D H.size u3 i2_25 u4 hu4) ⟨va_cnB 2 hts gX1_searchFromEntry_X6_hasBit_n77 rfl rfl rfl (hE.1 (RX1, 77, yX6_hasBit, RX6) (List.mem_of_getElem? (i := 25) rfl)) (hts (.initialized RX6) (by decide +kernel)) (by decide +kernel) ⟨Nat.le_of_ble_eq_true rfl, Nat.le_of_ble_eq_true rfl⟩, (hts (.static yX6_hasBit) (by decide +kernel)), trivial⟩ ⟨hb1, hp1⟩ rfl rfl hl.1 rfl (lv_room (Nat.le_of_ble_eq_true rfl)) dX1_searchFromEntry_48 ⟨Nat.le_of_ble_eq_true rfl, Nat.le_of_ble_eq_true rfl⟩) rfl rfl rfl rfl rfl rfl rfl rfl rfl rfl (fun H locs hP hD hS => ?_)
          have hP : va_P D vwCl [(q_this, .inr (1, [.ref q_this_leaving, .ref q_this_cameFrom, .ref q_this_queue, .int v_this_found_25, .int v_this_source, .int v_this_goal, .int v_this_dimension, .long v_this_alive])), (q_this_leaving, .inl (k_this_leaving, 64, .inl c_this_leaving)), (q_this_cameFrom, .inl (k_this_cameFrom, 128, .inl c_this_cameFrom_25)), (q_this_queue, .inl (k_this_queue, 128, .inl c_this_queue_25))] H := hP
          have hD : va_D A [(q_this, .inr (1, [.ref q_this_leaving, .ref q_this_cameFrom, .ref q_this_queue, .int v_this_found_25, .int v_this_source, .int v_this_goal, .int v_this_dimension, .long v_this_alive])), (q_this_leaving, .inl (k_this_leaving, 64, .inl c_this_leaving)), (q_this_cameFrom, .inl (k_this_cameFrom, 128, .inl c_this_cameFrom_25)), (q_this_queue, .inl (k_this_queue, 128, .inl c_this_queue_25))] := hD
          replace hf := zjp_some hf
          obtain ⟨K66, eK66, hf⟩ := hf
          have j66 : ∀ (v_this_found_66 : Int32) (c_this_cameFrom_66 : (Nat → Int32)) (c_this_queue_66 : (Nat → Int32)), K66 v_this_found_66 c_this_cameFrom_66 c_this_queue_66 = some res → ∀ (H : Heap) (locs : List Loc) (ls : Array Slot), va_P D vwCl [(q_this, .inr (1, [.ref q_this_leaving, .ref q_this_cameFrom, .ref q_this_queue, .int v_this_found_66, .int v_this_source, .int v_this_goal, .int v_this_dimension, .long v_this_alive])), (q_this_leaving, .inl (k_this_leaving, 64, .inl c_this_leaving)), (q_this_cameFrom, .inl (k_this_cameFrom, 128, .inl c_this_cameFrom_66)), (q_this_queue, .inl (k_this_queue, 128, .inl c_this_queue_66))] H → va_D A [(q_this, .inr (1, [.ref q_this_leaving, .ref q_this_cameFrom, .ref q_this_queue, .int v_this_found_66, .int v_this_source, .int v_this_goal, .int v_this_dimension, .long v_this_alive])), (q_this_leaving, .inl (k_this_leaving, 64, .inl c_this_leaving)), (q_this_cameFrom, .inl (k_this_cameFrom, 128, .inl c_this_cameFrom_66)), (q_this_queue, .inl (k_this_queue, 128, .inl c_this_queue_66))] → va_S A s.heap H locs → lv_has ls 4 [(0, .ref q_this), (1, .int a1), (2, .int i2_25)] → W p l e rm_X1_searchFromEntry s m args below meth c H locs 0 0 Q (F0 m 66 ls []) := by
            intro v_this_found_66 c_this_cameFrom_66 c_this_queue_66 hf H locs ls hP hD hS hl
            replace hf := zap3 eK66 hf
            obtain ⟨x5, ex5⟩ : ∃ y : Int32, y = i2_25 + 1 := ⟨_, rfl⟩
            replace hf := zbd_of ex5 hf
            refine lv_iinc (v := x5) (lv' := [(2, .int x5), (0, .ref q_this), (1, .int a1)]) hx hb dX1_searchFromEntry_66 hl (k := 2) rfl (by rw [ex5]; rfl) (by decide) rfl (fun ls hl => ?_)
            refine lv_goto (tgt := 25) hx hb dX1_searchFromEntry_69 (by decide) ?_
            exact ih25 x5 v_this_found_66 c_this_cameFrom_66 c_this_queue_66 hf H locs ls hP hD hS (lv_sub hl [1, 2, 0] rfl)
          refine lv_if_eq (tgt := 66) hx hb dX1_searchFromEntry_51 (by decide) (fun cd51 => ?_) (fun cd51 => ?_)
          · replace hf := zite_t cd51 hf
            exact j66 v_this_found_25 c_this_cameFrom_25 c_this_queue_25 hf H locs ls hP hD hS (lv_sub hl [1, 2, 3] rfl)
          · replace hf := zite_f cd51 hf
            refine lv_aload_n hx hb dX1_searchFromEntry_54 rfl (lv_at hl 1 rfl) ?_
            refine lv_iload_n hx hb dX1_searchFromEntry_55 rfl (lv_at hl 0 rfl) ?_
            replace hf := zob_some hf
            obtain ⟨u6, hu6, hf⟩ := hf
            refine kd_i (D := D) (v := u6) (av := [.int u2]) (wc := []) (w1 := []) (ws2 := [(q_this, .inr (1, [.ref q_this_leaving, .ref q_this_cameFrom, .ref q_this_queue, .int v_this_found_25, .int v_this_source, .int v_this_goal, .int v_this_dimension, .long v_this_alive])), (q_this_leaving, .inl (k_this_leaving, 64, .inl c_this_leaving)), (q_this_cameFrom, .inl (k_this_cameFrom, 128, .inl c_this_cameFrom_25)), (q_this_queue, .inl (k_this_queue, 128, .inl c_this_queue_25))]) hK hP hD hS hA hE [] [] [0, 1, 2, 3] [0, 1, 2, 3] (fun hb1 hp1 => va_runS (As := [.int u2]) (rest := [.ref q_this]) ⟨hx, hb, hml, hown, hts⟩ (c_X1_exit l D H.size u2 u6 hu6) (va_cwS 1 hts gX1_searchFromEntry_X1_exit rfl rfl rfl (by decide +kernel) ⟨Nat.le_of_ble_eq_true rfl, Nat.le_of_ble_eq_true rfl⟩) ⟨hb1, hp1⟩ rfl rfl hl.1 rfl (lv_room (Nat.le_of_ble_eq_true rfl)) dX1_searchFromEntry_56 ⟨Nat.le_of_ble_eq_true rfl, Nat.le_of_ble_eq_true rfl⟩) rfl rfl rfl rfl rfl rfl rfl rfl rfl rfl (fun H locs hP hD hS => ?_)
            have hP : va_P D vwCl [(q_this, .inr (1, [.ref q_this_leaving, .ref q_this_cameFrom, .ref q_this_queue, .int v_this_found_25, .int v_this_source, .int v_this_goal, .int v_this_dimension, .long v_this_alive])), (q_this_leaving, .inl (k_this_leaving, 64, .inl c_this_leaving)), (q_this_cameFrom, .inl (k_this_cameFrom, 128, .inl c_this_cameFrom_25)), (q_this_queue, .inl (k_this_queue, 128, .inl c_this_queue_25))] H := hP
            have hD : va_D A [(q_this, .inr (1, [.ref q_this_leaving, .ref q_this_cameFrom, .ref q_this_queue, .int v_this_found_25, .int v_this_source, .int v_this_goal, .int v_this_dimension, .long v_this_alive])), (q_this_leaving, .inl (k_this_leaving, 64, .inl c_this_leaving)), (q_this_cameFrom, .inl (k_this_cameFrom, 128, .inl c_this_cameFrom_25)), (q_this_queue, .inl (k_this_queue, 128, .inl c_this_queue_25))] := hD
            refine lv_iload_n hx hb dX1_searchFromEntry_59 rfl (lv_at hl 2 rfl) ?_
            replace hf := zob_some hf
            obtain ⟨u7, hu7, hf⟩ := hf
            refine kd_i (D := D) (v := u7) (av := [.int a1]) (wc := []) (w1 := []) (ws2 := [(q_this, .inr (1, [.ref q_this_leaving, .ref q_this_cameFrom, .ref q_this_queue, .int v_this_found_25, .int v_this_source, .int v_this_goal, .int v_this_dimension, .long v_this_alive])), (q_this_leaving, .inl (k_this_leaving, 64, .inl c_this_leaving)), (q_this_cameFrom, .inl (k_this_cameFrom, 128, .inl c_this_cameFrom_25)), (q_this_queue, .inl (k_this_queue, 128, .inl c_this_queue_25))]) hK hP hD hS hA hE [] [] [0, 1, 2, 3] [0, 1, 2, 3] (fun hb1 hp1 => va_runS (As := [.int a1]) (rest := [.int u6, .ref q_this]) ⟨hx, hb, hml, hown, hts⟩ (c_X1_entry l D H.size a1 u7 hu7) (va_cwS 1 hts gX1_searchFromEntry_X1_entry rfl rfl rfl (by decide +kernel) ⟨Nat.le_of_ble_eq_true rfl, Nat.le_of_ble_eq_true rfl⟩) ⟨hb1, hp1⟩ rfl rfl hl.1 rfl (lv_room (Nat.le_of_ble_eq_true rfl)) dX1_searchFromEntry_60 ⟨Nat.le_of_ble_eq_true rfl, Nat.le_of_ble_eq_true rfl⟩) rfl rfl rfl rfl rfl rfl rfl rfl rfl rfl (fun H locs hP hD hS => ?_)
            have hP : va_P D vwCl [(q_this, .inr (1, [.ref q_this_leaving, .ref q_this_cameFrom, .ref q_this_queue, .int v_this_found_25, .int v_this_source, .int v_this_goal, .int v_this_dimension, .long v_this_alive])), (q_this_leaving, .inl (k_this_leaving, 64, .inl c_this_leaving)), (q_this_cameFrom, .inl (k_this_cameFrom, 128, .inl c_this_cameFrom_25)), (q_this_queue, .inl (k_this_queue, 128, .inl c_this_queue_25))] H := hP
            have hD : va_D A [(q_this, .inr (1, [.ref q_this_leaving, .ref q_this_cameFrom, .ref q_this_queue, .int v_this_found_25, .int v_this_source, .int v_this_goal, .int v_this_dimension, .long v_this_alive])), (q_this_leaving, .inl (k_this_leaving, 64, .inl c_this_leaving)), (q_this_cameFrom, .inl (k_this_cameFrom, 128, .inl c_this_cameFrom_25)), (q_this_queue, .inl (k_this_queue, 128, .inl c_this_queue_25))] := hD
            replace hf := zob_some hf
            obtain ⟨u8, hu8, hf⟩ := hf
            refine kd_v (D := D) (av := [.ref q_this, .int u6, .int u7]) (wc := [(q_this, .inr (1, [.ref q_this_leaving, .ref q_this_cameFrom, .ref q_this_queue, .int v_this_found_25, .int v_this_source, .int v_this_goal, .int v_this_dimension, .long v_this_alive])), (q_this_cameFrom, .inl (k_this_cameFrom, 128, .inl c_this_cameFrom_25)), (q_this_queue, .inl (k_this_queue, 128, .inl c_this_queue_25))]) (w1 := [(q_this, .inr (1, [.ref q_this_leaving, .ref q_this_cameFrom, .ref q_this_queue, .int u8.1, .int v_this_source, .int v_this_goal, .int v_this_dimension, .long v_this_alive])), (q_this_cameFrom, .inl (k_this_cameFrom, 128, .inl u8.2.1)), (q_this_queue, .inl (k_this_queue, 128, .inl u8.2.2))]) (ws2 := [(q_this, .inr (1, [.ref q_this_leaving, .ref q_this_cameFrom, .ref q_this_queue, .int u8.1, .int v_this_source, .int v_this_goal, .int v_this_dimension, .long v_this_alive])), (q_this_leaving, .inl (k_this_leaving, 64, .inl c_this_leaving)), (q_this_cameFrom, .inl (k_this_cameFrom, 128, .inl u8.2.1)), (q_this_queue, .inl (k_this_queue, 128, .inl u8.2.2))]) hK hP hD hS hA hE [0, 2, 3] [1, 2] [1] [1, 0, 2, 3] (fun hb1 hp1 => va_runV (As := [.int u6, .int u7]) (rest := []) ⟨hx, hb, hml, hown, hts⟩ (c_X1_discover l D H.size q_this q_this_leaving q_this_cameFrom q_this_queue k_this_cameFrom k_this_queue v_this_found_25 v_this_source v_this_goal v_this_dimension v_this_alive c_this_cameFrom_25 c_this_queue_25 u6 u7 u8 hu8) (cwV 2 hts gX1_searchFromEntry_X1_discover rfl rfl rfl (by decide +kernel) ⟨Nat.le_of_ble_eq_true rfl, Nat.le_of_ble_eq_true rfl⟩) ⟨hb1, va_recv hK hP (ci := 1) (q0 := 0) rfl rfl, hp1⟩ rfl rfl hl.1 rfl (lv_room (Nat.le_of_ble_eq_true rfl)) dX1_searchFromEntry_63 ⟨Nat.le_of_ble_eq_true rfl, Nat.le_of_ble_eq_true rfl⟩) rfl rfl rfl rfl rfl rfl rfl rfl rfl rfl (fun H locs hP hD hS => ?_)
            have hP : va_P D vwCl [(q_this, .inr (1, [.ref q_this_leaving, .ref q_this_cameFrom, .ref q_this_queue, .int u8.1, .int v_this_source, .int v_this_goal, .int v_this_dimension, .long v_this_alive])), (q_this_leaving, .inl (k_this_leaving, 64, .inl c_this_leaving)), (q_this_cameFrom, .inl (k_this_cameFrom, 128, .inl u8.2.1)), (q_this_queue, .inl (k_this_queue, 128, .inl u8.2.2))] H := hP
            have hD : va_D A [(q_this, .inr (1, [.ref q_this_leaving, .ref q_this_cameFrom, .ref q_this_queue, .int u8.1, .int v_this_source, .int v_this_goal, .int v_this_dimension, .long v_this_alive])), (q_this_leaving, .inl (k_this_leaving, 64, .inl c_this_leaving)), (q_this_cameFrom, .inl (k_this_cameFrom, 128, .inl u8.2.1)), (q_this_queue, .inl (k_this_queue, 128, .inl u8.2.2))] := hD
            exact j66 u8.1 u8.2.1 u8.2.2 hf H locs ls hP hD hS (lv_sub hl [1, 2, 3] rfl)
    exact h25 zfu 0 v_this_found_23 c_this_cameFrom_23 c_this_queue_23 hf H locs ls hP hD hS (lv_sub hl [1, 2, 0] rfl)
  refine lv_if_ne (tgt := 23) hx hb dX1_searchFromEntry_8 (by decide) (fun cd8 => ?_) (fun cd8 => ?_)
  · replace hf := zite_f cd8 hf
    exact j23 v_this_found c_this_cameFrom c_this_queue hf H locs ls hP hD hS (lv_sub hl [0, 1] rfl)
  · replace hf := zite_t cd8 hf
    refine lv_aload_n hx hb dX1_searchFromEntry_11 rfl (lv_at hl 0 rfl) ?_
    refine lv_iload_n hx hb dX1_searchFromEntry_12 rfl (lv_at hl 1 rfl) ?_
    replace hf := zob_some hf
    obtain ⟨u9, hu9, hf⟩ := hf
    refine kd_i (D := D) (v := u9) (av := [.int a1]) (wc := []) (w1 := []) (ws2 := [(q_this, .inr (1, [.ref q_this_leaving, .ref q_this_cameFrom, .ref q_this_queue, .int v_this_found, .int v_this_source, .int v_this_goal, .int v_this_dimension, .long v_this_alive])), (q_this_leaving, .inl (k_this_leaving, 64, .inl c_this_leaving)), (q_this_cameFrom, .inl (k_this_cameFrom, 128, .inl c_this_cameFrom)), (q_this_queue, .inl (k_this_queue, 128, .inl c_this_queue))]) hK hP hD hS hA hE [] [] [0, 1, 2, 3] [0, 1, 2, 3] (fun hb1 hp1 => va_runS (As := [.int a1]) (rest := [.ref q_this]) ⟨hx, hb, hml, hown, hts⟩ (c_X1_exit l D H.size a1 u9 hu9) (va_cwS 1 hts gX1_searchFromEntry_X1_exit rfl rfl rfl (by decide +kernel) ⟨Nat.le_of_ble_eq_true rfl, Nat.le_of_ble_eq_true rfl⟩) ⟨hb1, hp1⟩ rfl rfl hl.1 rfl (lv_room (Nat.le_of_ble_eq_true rfl)) dX1_searchFromEntry_13 ⟨Nat.le_of_ble_eq_true rfl, Nat.le_of_ble_eq_true rfl⟩) rfl rfl rfl rfl rfl rfl rfl rfl rfl rfl (fun H locs hP hD hS => ?_)
    have hP : va_P D vwCl [(q_this, .inr (1, [.ref q_this_leaving, .ref q_this_cameFrom, .ref q_this_queue, .int v_this_found, .int v_this_source, .int v_this_goal, .int v_this_dimension, .long v_this_alive])), (q_this_leaving, .inl (k_this_leaving, 64, .inl c_this_leaving)), (q_this_cameFrom, .inl (k_this_cameFrom, 128, .inl c_this_cameFrom)), (q_this_queue, .inl (k_this_queue, 128, .inl c_this_queue))] H := hP
    have hD : va_D A [(q_this, .inr (1, [.ref q_this_leaving, .ref q_this_cameFrom, .ref q_this_queue, .int v_this_found, .int v_this_source, .int v_this_goal, .int v_this_dimension, .long v_this_alive])), (q_this_leaving, .inl (k_this_leaving, 64, .inl c_this_leaving)), (q_this_cameFrom, .inl (k_this_cameFrom, 128, .inl c_this_cameFrom)), (q_this_queue, .inl (k_this_queue, 128, .inl c_this_queue))] := hD
    refine lv_iload_n hx hb dX1_searchFromEntry_16 rfl (lv_at hl 1 rfl) ?_
    replace hf := zob_some hf
    obtain ⟨u10, hu10, hf⟩ := hf
    refine kd_i (D := D) (v := u10) (av := [.int a1]) (wc := []) (w1 := []) (ws2 := [(q_this, .inr (1, [.ref q_this_leaving, .ref q_this_cameFrom, .ref q_this_queue, .int v_this_found, .int v_this_source, .int v_this_goal, .int v_this_dimension, .long v_this_alive])), (q_this_leaving, .inl (k_this_leaving, 64, .inl c_this_leaving)), (q_this_cameFrom, .inl (k_this_cameFrom, 128, .inl c_this_cameFrom)), (q_this_queue, .inl (k_this_queue, 128, .inl c_this_queue))]) hK hP hD hS hA hE [] [] [0, 1, 2, 3] [0, 1, 2, 3] (fun hb1 hp1 => va_runS (As := [.int a1]) (rest := [.int u9, .ref q_this]) ⟨hx, hb, hml, hown, hts⟩ (c_X1_entry l D H.size a1 u10 hu10) (va_cwS 1 hts gX1_searchFromEntry_X1_entry rfl rfl rfl (by decide +kernel) ⟨Nat.le_of_ble_eq_true rfl, Nat.le_of_ble_eq_true rfl⟩) ⟨hb1, hp1⟩ rfl rfl hl.1 rfl (lv_room (Nat.le_of_ble_eq_true rfl)) dX1_searchFromEntry_17 ⟨Nat.le_of_ble_eq_true rfl, Nat.le_of_ble_eq_true rfl⟩) rfl rfl rfl rfl rfl rfl rfl rfl rfl rfl (fun H locs hP hD hS => ?_)
    have hP : va_P D vwCl [(q_this, .inr (1, [.ref q_this_leaving, .ref q_this_cameFrom, .ref q_this_queue, .int v_this_found, .int v_this_source, .int v_this_goal, .int v_this_dimension, .long v_this_alive])), (q_this_leaving, .inl (k_this_leaving, 64, .inl c_this_leaving)), (q_this_cameFrom, .inl (k_this_cameFrom, 128, .inl c_this_cameFrom)), (q_this_queue, .inl (k_this_queue, 128, .inl c_this_queue))] H := hP
    have hD : va_D A [(q_this, .inr (1, [.ref q_this_leaving, .ref q_this_cameFrom, .ref q_this_queue, .int v_this_found, .int v_this_source, .int v_this_goal, .int v_this_dimension, .long v_this_alive])), (q_this_leaving, .inl (k_this_leaving, 64, .inl c_this_leaving)), (q_this_cameFrom, .inl (k_this_cameFrom, 128, .inl c_this_cameFrom)), (q_this_queue, .inl (k_this_queue, 128, .inl c_this_queue))] := hD
    replace hf := zob_some hf
    obtain ⟨u11, hu11, hf⟩ := hf
    refine kd_v (D := D) (av := [.ref q_this, .int u9, .int u10]) (wc := [(q_this, .inr (1, [.ref q_this_leaving, .ref q_this_cameFrom, .ref q_this_queue, .int v_this_found, .int v_this_source, .int v_this_goal, .int v_this_dimension, .long v_this_alive])), (q_this_cameFrom, .inl (k_this_cameFrom, 128, .inl c_this_cameFrom)), (q_this_queue, .inl (k_this_queue, 128, .inl c_this_queue))]) (w1 := [(q_this, .inr (1, [.ref q_this_leaving, .ref q_this_cameFrom, .ref q_this_queue, .int u11.1, .int v_this_source, .int v_this_goal, .int v_this_dimension, .long v_this_alive])), (q_this_cameFrom, .inl (k_this_cameFrom, 128, .inl u11.2.1)), (q_this_queue, .inl (k_this_queue, 128, .inl u11.2.2))]) (ws2 := [(q_this, .inr (1, [.ref q_this_leaving, .ref q_this_cameFrom, .ref q_this_queue, .int u11.1, .int v_this_source, .int v_this_goal, .int v_this_dimension, .long v_this_alive])), (q_this_leaving, .inl (k_this_leaving, 64, .inl c_this_leaving)), (q_this_cameFrom, .inl (k_this_cameFrom, 128, .inl u11.2.1)), (q_this_queue, .inl (k_this_queue, 128, .inl u11.2.2))]) hK hP hD hS hA hE [0, 2, 3] [1, 2] [1] [1, 0, 2, 3] (fun hb1 hp1 => va_runV (As := [.int u9, .int u10]) (rest := []) ⟨hx, hb, hml, hown, hts⟩ (c_X1_discover l D H.size q_this q_this_leaving q_this_cameFrom q_this_queue k_this_cameFrom k_this_queue v_this_found v_this_source v_this_goal v_this_dimension v_this_alive c_this_cameFrom c_this_queue u9 u10 u11 hu11) (cwV 2 hts gX1_searchFromEntry_X1_discover rfl rfl rfl (by decide +kernel) ⟨Nat.le_of_ble_eq_true rfl, Nat.le_of_ble_eq_true rfl⟩) ⟨hb1, va_recv hK hP (ci := 1) (q0 := 0) rfl rfl, hp1⟩ rfl rfl hl.1 rfl (lv_room (Nat.le_of_ble_eq_true rfl)) dX1_searchFromEntry_20 ⟨Nat.le_of_ble_eq_true rfl, Nat.le_of_ble_eq_true rfl⟩) rfl rfl rfl rfl rfl rfl rfl rfl rfl rfl (fun H locs hP hD hS => ?_)
    have hP : va_P D vwCl [(q_this, .inr (1, [.ref q_this_leaving, .ref q_this_cameFrom, .ref q_this_queue, .int u11.1, .int v_this_source, .int v_this_goal, .int v_this_dimension, .long v_this_alive])), (q_this_leaving, .inl (k_this_leaving, 64, .inl c_this_leaving)), (q_this_cameFrom, .inl (k_this_cameFrom, 128, .inl u11.2.1)), (q_this_queue, .inl (k_this_queue, 128, .inl u11.2.2))] H := hP
    have hD : va_D A [(q_this, .inr (1, [.ref q_this_leaving, .ref q_this_cameFrom, .ref q_this_queue, .int u11.1, .int v_this_source, .int v_this_goal, .int v_this_dimension, .long v_this_alive])), (q_this_leaving, .inl (k_this_leaving, 64, .inl c_this_leaving)), (q_this_cameFrom, .inl (k_this_cameFrom, 128, .inl u11.2.1)), (q_this_queue, .inl (k_this_queue, 128, .inl u11.2.2))] := hD
    exact j23 u11.1 u11.2.1 u11.2.2 hf H locs ls hP hD hS (lv_sub hl [0, 1] rfl)
theorem n_X1_findsPath_X1 : ∀ w ∈ u_ws RX1 TX1 8, w ∈ wsX1_findsPath := by decide +kernel
abbrev rm_X1_findsPath : Room := { frames := 3, cells := 0, slots := 0, locals := 68 }
set_option maxHeartbeats 4000000 in
set_option maxRecDepth 100000 in
theorem c_X1_findsPath (l : Launch) (D : va_G) (sz : Nat) (q_this : Nat) (q_this_leaving : Nat) (q_this_cameFrom : Nat) (q_this_queue : Nat) (k_this_leaving : ClassId) (k_this_cameFrom : ClassId) (k_this_queue : ClassId) (v_this_found : Int32) (v_this_source : Int32) (v_this_goal : Int32) (v_this_dimension : Int32) (v_this_alive : Int64) (c_this_leaving : (Nat → Int32)) (c_this_cameFrom : (Nat → Int32)) (c_this_queue : (Nat → Int32)) (res : rt_X1_findsPath) (hf : f_X1_findsPath v_this_found v_this_source v_this_goal v_this_dimension v_this_alive c_this_leaving c_this_cameFrom c_this_queue = some res) : Met l yX1_findsPath wsX1_findsPath rm_X1_findsPath (kP D [.ref q_this] [(q_this, .inr (1, [.ref q_this_leaving, .ref q_this_cameFrom, .ref q_this_queue, .int v_this_found, .int v_this_source, .int v_this_goal, .int v_this_dimension, .long v_this_alive])), (q_this_leaving, .inl (k_this_leaving, 64, .inl c_this_leaving)), (q_this_cameFrom, .inl (k_this_cameFrom, 128, .inl c_this_cameFrom)), (q_this_queue, .inl (k_this_queue, 128, .inl c_this_queue))] [(k_this_leaving, .int), (k_this_cameFrom, .int), (k_this_queue, .int)] sz) (kQi D (va_A [(q_this, .inr (1, [.ref q_this_leaving, .ref q_this_cameFrom, .ref q_this_queue, .int v_this_found, .int v_this_source, .int v_this_goal, .int v_this_dimension, .long v_this_alive])), (q_this_leaving, .inl (k_this_leaving, 64, .inl c_this_leaving)), (q_this_cameFrom, .inl (k_this_cameFrom, 128, .inl c_this_cameFrom)), (q_this_queue, .inl (k_this_queue, 128, .inl c_this_queue))] sz) [(k_this_leaving, .int), (k_this_cameFrom, .int), (k_this_queue, .int)] res.1 [(q_this, .inr (1, [.ref q_this_leaving, .ref q_this_cameFrom, .ref q_this_queue, .int res.2.1, .int v_this_source, .int v_this_goal, .int v_this_dimension, .long v_this_alive])), (q_this_leaving, .inl (k_this_leaving, 64, .inl c_this_leaving)), (q_this_cameFrom, .inl (k_this_cameFrom, 128, .inl res.2.2.1)), (q_this_queue, .inl (k_this_queue, 128, .inl res.2.2.2))]) 0 0 (va_A [(q_this, .inr (1, [.ref q_this_leaving, .ref q_this_cameFrom, .ref q_this_queue, .int v_this_found, .int v_this_source, .int v_this_goal, .int v_this_dimension, .long v_this_alive])), (q_this_leaving, .inl (k_this_leaving, 64, .inl c_this_leaving)), (q_this_cameFrom, .inl (k_this_cameFrom, 128, .inl c_this_cameFrom)), (q_this_queue, .inl (k_this_queue, 128, .inl c_this_queue))] sz) := by
  refine Met.ofW (cc := cX1_findsPath) (maxL := 3) (ret := (some .boolean)) (by decide +kernel) rfl ?_
  intro p e s m args below meth c s₁ B hml hv
  obtain ⟨hargs, hsz, hP, hK, hD0, hE⟩ := hv
  have hx := B.exec
  have hb := B.bytes
  have hr := B.returns
  have hts := atoms_spec (ws := wsX1_findsPath) B.pre
  have hown : s.vm.findClass RX1 = some m.cls := findClass_of_methodNamed B.named
  have hlocks := B.notSynchronized
  subst hsz
  have hD := hD0.self (sz := s.heap.size)
  generalize hAe : va_A [(q_this, .inr (1, [.ref q_this_leaving, .ref q_this_cameFrom, .ref q_this_queue, .int v_this_found, .int v_this_source, .int v_this_goal, .int v_this_dimension, .long v_this_alive])), (q_this_leaving, .inl (k_this_leaving, 64, .inl c_this_leaving)), (q_this_cameFrom, .inl (k_this_cameFrom, 128, .inl c_this_cameFrom)), (q_this_queue, .inl (k_this_queue, 128, .inl c_this_queue))] s.heap.size = A at hD hE ⊢
  have hA : ∀ q : Nat, s.heap.size ≤ q → A q := fun q h => by rw [← hAe]; exact Or.inr h
  have hS : va_S A s.heap s.heap [] := va_S.rf
  refine kgen (fun Q eQ => ?_)
  refine kent (av := [.ref q_this]) hargs (Nat.le_of_ble_eq_true rfl) (fun ls hl => ?_)
  have hl : lv_has ls 3 [(0, .ref q_this)] := hl
  show W p l e rm_X1_findsPath s m args below meth c s.heap [] 0 0 Q (F0 m 0 ls [])
  unfold f_X1_findsPath at hf
  refine lv_aload_n hx hb dX1_findsPath_0 rfl (lv_at hl 0 rfl) ?_
  refine va_get (D := D) (ci := 1) (v := .ref q_this_cameFrom) (C := RX1) (T := TX1) (N := 8) hx hb hts n_X1_findsPath_X1 hown hK hP 0 rfl rfl 1 (by decide) (hts (.fieldLink RX1 15 "FaultyCube$PathPacking" "cameFrom" "[I") (by decide +kernel)) (fun _ h9 => h9) rfl dX1_findsPath_1 ?_
  refine lv_iconst (v := (-1)) hx hb dX1_findsPath_4 (by decide) ?_
  replace hf := zob_some hf
  obtain ⟨u1, hu1, hf⟩ := hf
  refine kd_v (D := D) (av := [.ref q_this_cameFrom, .int (-1)]) (wc := [(q_this_cameFrom, .inl (k_this_cameFrom, 128, .inl c_this_cameFrom))]) (w1 := [(q_this_cameFrom, .inl (k_this_cameFrom, 128, .inl u1))]) (ws2 := [(q_this, .inr (1, [.ref q_this_leaving, .ref q_this_cameFrom, .ref q_this_queue, .int v_this_found, .int v_this_source, .int v_this_goal, .int v_this_dimension, .long v_this_alive])), (q_this_leaving, .inl (k_this_leaving, 64, .inl c_this_leaving)), (q_this_cameFrom, .inl (k_this_cameFrom, 128, .inl u1)), (q_this_queue, .inl (k_this_queue, 128, .inl c_this_queue))]) hK hP hD hS hA hE [2] [1] [0, 1, 3] [0, 1, 3, 2] (fun hb1 hp1 => va_runS (As := [.ref q_this_cameFrom, .int (-1)]) (rest := []) ⟨hx, hb, hml, hown, hts⟩ (c_J7_fill_53178 l D s.heap.size q_this_cameFrom k_this_cameFrom 128 c_this_cameFrom (-1) u1 hu1) (va_cwS 2 hts gX1_findsPath_J7_fill_53178 rfl rfl rfl (by decide +kernel) ⟨Nat.le_of_ble_eq_true rfl, Nat.le_of_ble_eq_true rfl⟩) ⟨hb1, hp1⟩ rfl rfl hl.1 rfl (lv_room (Nat.le_of_ble_eq_true rfl)) dX1_findsPath_5 ⟨Nat.le_of_ble_eq_true rfl, Nat.le_of_ble_eq_true rfl⟩) rfl rfl rfl rfl rfl rfl rfl rfl rfl rfl (fun H locs hP hD hS => ?_)
  have hP : va_P D vwCl [(q_this, .inr (1, [.ref q_this_leaving, .ref q_this_cameFrom, .ref q_this_queue, .int v_this_found, .int v_this_source, .int v_this_goal, .int v_this_dimension, .long v_this_alive])), (q_this_leaving, .inl (k_this_leaving, 64, .inl c_this_leaving)), (q_this_cameFrom, .inl (k_this_cameFrom, 128, .inl u1)), (q_this_queue, .inl (k_this_queue, 128, .inl c_this_queue))] H := hP
  have hD : va_D A [(q_this, .inr (1, [.ref q_this_leaving, .ref q_this_cameFrom, .ref q_this_queue, .int v_this_found, .int v_this_source, .int v_this_goal, .int v_this_dimension, .long v_this_alive])), (q_this_leaving, .inl (k_this_leaving, 64, .inl c_this_leaving)), (q_this_cameFrom, .inl (k_this_cameFrom, 128, .inl u1)), (q_this_queue, .inl (k_this_queue, 128, .inl c_this_queue))] := hD
  refine lv_aload_n hx hb dX1_findsPath_8 rfl (lv_at hl 0 rfl) ?_
  refine lv_iconst (v := 0) hx hb dX1_findsPath_9 (by decide) ?_
  refine va_put (D := D) (ci := 1) (v := .int 0) (ty := .int) (C := RX1) (T := TX1) (N := 8) hx hb hts n_X1_findsPath_X1 tyX1 tyX1_ok nmX1 hown hK hP hD hS 0 rfl rfl 3 (by decide) (hts (.fieldLink RX1 48 "FaultyCube$PathPacking" "found" "I") (by decide +kernel)) (fun _ h9 => h9) rfl (by decide +kernel) rfl rfl (Nat.le_of_ble_eq_true rfl) dX1_findsPath_10 (fun H locs hP hD hS => ?_)
  have hP : va_P D vwCl [(q_this, .inr (1, [.ref q_this_leaving, .ref q_this_cameFrom, .ref q_this_queue, .int 0, .int v_this_source, .int v_this_goal, .int v_this_dimension, .long v_this_alive])), (q_this_leaving, .inl (k_this_leaving, 64, .inl c_this_leaving)), (q_this_cameFrom, .inl (k_this_cameFrom, 128, .inl u1)), (q_this_queue, .inl (k_this_queue, 128, .inl c_this_queue))] H := hP
  have hD : va_D A [(q_this, .inr (1, [.ref q_this_leaving, .ref q_this_cameFrom, .ref q_this_queue, .int 0, .int v_this_source, .int v_this_goal, .int v_this_dimension, .long v_this_alive])), (q_this_leaving, .inl (k_this_leaving, 64, .inl c_this_leaving)), (q_this_cameFrom, .inl (k_this_cameFrom, 128, .inl u1)), (q_this_queue, .inl (k_this_queue, 128, .inl c_this_queue))] := hD
  refine lv_aload_n hx hb dX1_findsPath_13 rfl (lv_at hl 0 rfl) ?_
  refine lv_aload_n hx hb dX1_findsPath_14 rfl (lv_at hl 0 rfl) ?_
  refine va_get (D := D) (ci := 1) (v := .int v_this_source) (C := RX1) (T := TX1) (N := 8) hx hb hts n_X1_findsPath_X1 hown hK hP 0 rfl rfl 4 (by decide) (hts (.fieldLink RX1 21 "FaultyCube$PathPacking" "source" "I") (by decide +kernel)) (fun _ h9 => h9) rfl dX1_findsPath_15 ?_
  replace hf := zob_some hf
  obtain ⟨u2, hu2, hf⟩ := hf
  refine kd_i (D := D) (v := u2) (av := [.int v_this_source]) (wc := []) (w1 := []) (ws2 := [(q_this, .inr (1, [.ref q_this_leaving, .ref q_this_cameFrom, .ref q_this_queue, .int 0, .int v_this_source, .int v_this_goal, .int v_this_dimension, .long v_this_alive])), (q_this_leaving, .inl (k_this_leaving, 64, .inl c_this_leaving)), (q_this_cameFrom, .inl (k_this_cameFrom, 128, .inl u1)), (q_this_queue, .inl (k_this_queue, 128, .inl c_this_queue))]) hK hP hD hS hA hE [] [] [0, 1, 2, 3] [0, 1, 2, 3] (fun hb1 hp1 => va_runS (As := [.int v_this_source]) (rest := [.ref q_this]) ⟨hx, hb, hml, hown, hts⟩ (c_X1_exit l D H.size v_this_source u2 hu2) (va_cwS 1 hts gX1_findsPath_X1_exit rfl rfl rfl (by decide +kernel) ⟨Nat.le_of_ble_eq_true rfl, Nat.le_of_ble_eq_true rfl⟩) ⟨hb1, hp1⟩ rfl rfl hl.1 rfl (lv_room (Nat.le_of_ble_eq_true rfl)) dX1_findsPath_18 ⟨Nat.le_of_ble_eq_true rfl, Nat.le_of_ble_eq_true rfl⟩) rfl rfl rfl rfl rfl rfl rfl rfl rfl rfl (fun H locs hP hD hS => ?_)
  have hP : va_P D vwCl [(q_this, .inr (1, [.ref q_this_leaving, .ref q_this_cameFrom, .ref q_this_queue, .int 0, .int v_this_source, .int v_this_goal, .int v_this_dimension, .long v_this_alive])), (q_this_leaving, .inl (k_this_leaving, 64, .inl c_this_leaving)), (q_this_cameFrom, .inl (k_this_cameFrom, 128, .inl u1)), (q_this_queue, .inl (k_this_queue, 128, .inl c_this_queue))] H := hP
  have hD : va_D A [(q_this, .inr (1, [.ref q_this_leaving, .ref q_this_cameFrom, .ref q_this_queue, .int 0, .int v_this_source, .int v_this_goal, .int v_this_dimension, .long v_this_alive])), (q_this_leaving, .inl (k_this_leaving, 64, .inl c_this_leaving)), (q_this_cameFrom, .inl (k_this_cameFrom, 128, .inl u1)), (q_this_queue, .inl (k_this_queue, 128, .inl c_this_queue))] := hD
  refine lv_aload_n hx hb dX1_findsPath_21 rfl (lv_at hl 0 rfl) ?_
  refine va_get (D := D) (ci := 1) (v := .int v_this_source) (C := RX1) (T := TX1) (N := 8) hx hb hts n_X1_findsPath_X1 hown hK hP 0 rfl rfl 4 (by decide) (hts (.fieldLink RX1 21 "FaultyCube$PathPacking" "source" "I") (by decide +kernel)) (fun _ h9 => h9) rfl dX1_findsPath_22 ?_
  replace hf := zob_some hf
  obtain ⟨u3, hu3, hf⟩ := hf
  refine kd_i (D := D) (v := u3) (av := [.int v_this_source]) (wc := []) (w1 := []) (ws2 := [(q_this, .inr (1, [.ref q_this_leaving, .ref q_this_cameFrom, .ref q_this_queue, .int 0, .int v_this_source, .int v_this_goal, .int v_this_dimension, .long v_this_alive])), (q_this_leaving, .inl (k_this_leaving, 64, .inl c_this_leaving)), (q_this_cameFrom, .inl (k_this_cameFrom, 128, .inl u1)), (q_this_queue, .inl (k_this_queue, 128, .inl c_this_queue))]) hK hP hD hS hA hE [] [] [0, 1, 2, 3] [0, 1, 2, 3] (fun hb1 hp1 => va_runS (As := [.int v_this_source]) (rest := [.int u2, .ref q_this]) ⟨hx, hb, hml, hown, hts⟩ (c_X1_exit l D H.size v_this_source u3 hu3) (va_cwS 1 hts gX1_findsPath_X1_exit rfl rfl rfl (by decide +kernel) ⟨Nat.le_of_ble_eq_true rfl, Nat.le_of_ble_eq_true rfl⟩) ⟨hb1, hp1⟩ rfl rfl hl.1 rfl (lv_room (Nat.le_of_ble_eq_true rfl)) dX1_findsPath_25 ⟨Nat.le_of_ble_eq_true rfl, Nat.le_of_ble_eq_true rfl⟩) rfl rfl rfl rfl rfl rfl rfl rfl rfl rfl (fun H locs hP hD hS => ?_)
  have hP : va_P D vwCl [(q_this, .inr (1, [.ref q_this_leaving, .ref q_this_cameFrom, .ref q_this_queue, .int 0, .int v_this_source, .int v_this_goal, .int v_this_dimension, .long v_this_alive])), (q_this_leaving, .inl (k_this_leaving, 64, .inl c_this_leaving)), (q_this_cameFrom, .inl (k_this_cameFrom, 128, .inl u1)), (q_this_queue, .inl (k_this_queue, 128, .inl c_this_queue))] H := hP
  have hD : va_D A [(q_this, .inr (1, [.ref q_this_leaving, .ref q_this_cameFrom, .ref q_this_queue, .int 0, .int v_this_source, .int v_this_goal, .int v_this_dimension, .long v_this_alive])), (q_this_leaving, .inl (k_this_leaving, 64, .inl c_this_leaving)), (q_this_cameFrom, .inl (k_this_cameFrom, 128, .inl u1)), (q_this_queue, .inl (k_this_queue, 128, .inl c_this_queue))] := hD
  replace hf := zob_some hf
  obtain ⟨u4, hu4, hf⟩ := hf
  refine kd_v (D := D) (av := [.ref q_this, .int u2, .int u3]) (wc := [(q_this, .inr (1, [.ref q_this_leaving, .ref q_this_cameFrom, .ref q_this_queue, .int 0, .int v_this_source, .int v_this_goal, .int v_this_dimension, .long v_this_alive])), (q_this_cameFrom, .inl (k_this_cameFrom, 128, .inl u1)), (q_this_queue, .inl (k_this_queue, 128, .inl c_this_queue))]) (w1 := [(q_this, .inr (1, [.ref q_this_leaving, .ref q_this_cameFrom, .ref q_this_queue, .int u4.1, .int v_this_source, .int v_this_goal, .int v_this_dimension, .long v_this_alive])), (q_this_cameFrom, .inl (k_this_cameFrom, 128, .inl u4.2.1)), (q_this_queue, .inl (k_this_queue, 128, .inl u4.2.2))]) (ws2 := [(q_this, .inr (1, [.ref q_this_leaving, .ref q_this_cameFrom, .ref q_this_queue, .int u4.1, .int v_this_source, .int v_this_goal, .int v_this_dimension, .long v_this_alive])), (q_this_leaving, .inl (k_this_leaving, 64, .inl c_this_leaving)), (q_this_cameFrom, .inl (k_this_cameFrom, 128, .inl u4.2.1)), (q_this_queue, .inl (k_this_queue, 128, .inl u4.2.2))]) hK hP hD hS hA hE [0, 2, 3] [1, 2] [1] [1, 0, 2, 3] (fun hb1 hp1 => va_runV (As := [.int u2, .int u3]) (rest := []) ⟨hx, hb, hml, hown, hts⟩ (c_X1_discover l D H.size q_this q_this_leaving q_this_cameFrom q_this_queue k_this_cameFrom k_this_queue 0 v_this_source v_this_goal v_this_dimension v_this_alive u1 c_this_queue u2 u3 u4 hu4) (cwV 2 hts gX1_findsPath_X1_discover rfl rfl rfl (by decide +kernel) ⟨Nat.le_of_ble_eq_true rfl, Nat.le_of_ble_eq_true rfl⟩) ⟨hb1, va_recv hK hP (ci := 1) (q0 := 0) rfl rfl, hp1⟩ rfl rfl hl.1 rfl (lv_room (Nat.le_of_ble_eq_true rfl)) dX1_findsPath_28 ⟨Nat.le_of_ble_eq_true rfl, Nat.le_of_ble_eq_true rfl⟩) rfl rfl rfl rfl rfl rfl rfl rfl rfl rfl (fun H locs hP hD hS => ?_)
  have hP : va_P D vwCl [(q_this, .inr (1, [.ref q_this_leaving, .ref q_this_cameFrom, .ref q_this_queue, .int u4.1, .int v_this_source, .int v_this_goal, .int v_this_dimension, .long v_this_alive])), (q_this_leaving, .inl (k_this_leaving, 64, .inl c_this_leaving)), (q_this_cameFrom, .inl (k_this_cameFrom, 128, .inl u4.2.1)), (q_this_queue, .inl (k_this_queue, 128, .inl u4.2.2))] H := hP
  have hD : va_D A [(q_this, .inr (1, [.ref q_this_leaving, .ref q_this_cameFrom, .ref q_this_queue, .int u4.1, .int v_this_source, .int v_this_goal, .int v_this_dimension, .long v_this_alive])), (q_this_leaving, .inl (k_this_leaving, 64, .inl c_this_leaving)), (q_this_cameFrom, .inl (k_this_cameFrom, 128, .inl u4.2.1)), (q_this_queue, .inl (k_this_queue, 128, .inl u4.2.2))] := hD
  refine lv_iconst (v := 0) hx hb dX1_findsPath_31 (by decide) ?_
  refine lv_istore_n (lv' := [(1, .int 0), (0, .ref q_this)]) hx hb dX1_findsPath_32 rfl hl (by decide) rfl (fun ls hl => ?_)
  replace hf := zl4_some hf
  obtain ⟨F33, eF33, hf⟩ := hf
  have h33 : ∀ (n33 : Nat) (i1_33 : Int32) (v_this_found_33 : Int32) (c_this_cameFrom_33 : (Nat → Int32)) (c_this_queue_33 : (Nat → Int32)), zl4 F33 n33 i1_33 v_this_found_33 c_this_cameFrom_33 c_this_queue_33 = some res → ∀ (H : Heap) (locs : List Loc) (ls : Array Slot), va_P D vwCl [(q_this, .inr (1, [.ref q_this_leaving, .ref q_this_cameFrom, .ref q_this_queue, .int v_this_found_33, .int v_this_source, .int v_this_goal, .int v_this_dimension, .long v_this_alive])), (q_this_leaving, .inl (k_this_leaving, 64, .inl c_this_leaving)), (q_this_cameFrom, .inl (k_this_cameFrom, 128, .inl c_this_cameFrom_33)), (q_this_queue, .inl (k_this_queue, 128, .inl c_this_queue_33))] H → va_D A [(q_this, .inr (1, [.ref q_this_leaving, .ref q_this_cameFrom, .ref q_this_queue, .int v_this_found_33, .int v_this_source, .int v_this_goal, .int v_this_dimension, .long v_this_alive])), (q_this_leaving, .inl (k_this_leaving, 64, .inl c_this_leaving)), (q_this_cameFrom, .inl (k_this_cameFrom, 128, .inl c_this_cameFrom_33)), (q_this_queue, .inl (k_this_queue, 128, .inl c_this_queue_33))] → va_S A s.heap H locs → lv_has ls 3 [(0, .ref q_this), (1, .int i1_33)] → W p l e rm_X1_findsPath s m args below meth c H locs 0 0 Q (F0 m 33 ls []) := by
    intro n33
    induction n33 with
    | zero => intro i1_33 v_this_found_33 c_this_cameFrom_33 c_this_queue_33 hf; exact (zl4_zero hf).elim
    | succ n33 ih33 =>
      intro i1_33 v_this_found_33 c_this_cameFrom_33 c_this_queue_33 hf H locs ls hP hD hS hl
      replace hf := zl4_step eF33 hf
      generalize zl4 F33 n33 = k33 at hf ih33
      refine lv_iload_n hx hb dX1_findsPath_33 rfl (lv_at hl 1 rfl) ?_
      refine lv_aload_n hx hb dX1_findsPath_34 rfl (lv_at hl 0 rfl) ?_
      refine va_get (D := D) (ci := 1) (v := .int v_this_found_33) (C := RX1) (T := TX1) (N := 8) hx hb hts n_X1_findsPath_X1 hown hK hP 0 rfl rfl 3 (by decide) (hts (.fieldLink RX1 48 "FaultyCube$PathPacking" "found" "I") (by decide +kernel)) (fun _ h9 => h9) rfl dX1_findsPath_35 ?_
      refine lv_icmp_ge (tgt := 103) hx hb dX1_findsPath_38 (by decide) (fun cd38 => ?_) (fun cd38 => ?_)
      · replace hf := zite_t cd38 hf
        refine lv_iconst (v := 0) hx hb dX1_findsPath_103 (by decide) ?_
        obtain rfl := Option.some.inj hf
        subst eQ
        exact kr_z hx hb hr nar_0 hlocks hK hP hD hS dX1_findsPath_104
      · replace hf := zite_f cd38 hf
        refine lv_iload_n hx hb dX1_findsPath_41 rfl (lv_at hl 1 rfl) ?_
        refine lv_aload_n hx hb dX1_findsPath_42 rfl (lv_at hl 0 rfl) ?_
        refine va_get (D := D) (ci := 1) (v := .ref q_this_queue) (C := RX1) (T := TX1) (N := 8) hx hb hts n_X1_findsPath_X1 hown hK hP 0 rfl rfl 2 (by decide) (hts (.fieldLink RX1 18 "FaultyCube$PathPacking" "queue" "[I") (by decide +kernel)) (fun _ h9 => h9) rfl dX1_findsPath_43 ?_
        refine va_alen (D := D) (v := 128) hx hb hK hP 3 2 rfl rfl rfl dX1_findsPath_46 ?_
        refine lv_icmp_ge (tgt := 103) hx hb dX1_findsPath_47 (by decide) (fun cd47 => ?_) (fun cd47 => ?_)
        · replace hf := zite_t cd47 hf
          refine lv_iconst (v := 0) hx hb dX1_findsPath_103 (by decide) ?_
          obtain rfl := Option.some.inj hf
          subst eQ
          exact kr_z hx hb hr nar_0 hlocks hK hP hD hS dX1_findsPath_104
        · replace hf := zite_f cd47 hf
          refine lv_aload_n hx hb dX1_findsPath_50 rfl (lv_at hl 0 rfl) ?_
          refine va_get (D := D) (ci := 1) (v := .ref q_this_queue) (C := RX1) (T := TX1) (N := 8) hx hb hts n_X1_findsPath_X1 hown hK hP 0 rfl rfl 2 (by decide) (hts (.fieldLink RX1 18 "FaultyCube$PathPacking" "queue" "[I") (by decide +kernel)) (fun _ h9 => h9) rfl dX1_findsPath_51 ?_
          refine lv_iload_n hx hb dX1_findsPath_54 rfl (lv_at hl 1 rfl) ?_
          replace hf := zgd_some hf
          obtain ⟨g5, hf⟩ := hf
          refine va_iald (D := D) hx hb hK hP 3 2 rfl rfl (inb_in g5) dX1_findsPath_55 ?_
          refine lv_topi (fun x6 ex6 => ?_)
          replace hf := zbd_of ex6 hf
          refine lv_istore_n (lv' := [(2, .int x6), (0, .ref q_this), (1, .int i1_33)]) hx hb dX1_findsPath_56 rfl hl (by decide) rfl (fun ls hl => ?_)
          refine lv_iload_n hx hb dX1_findsPath_57 rfl (lv_at hl 0 rfl) ?_
          refine lv_aload_n hx hb dX1_findsPath_58 rfl (lv_at hl 1 rfl) ?_
          refine va_get (D := D) (ci := 1) (v := .int v_this_goal) (C := RX1) (T := TX1) (N := 8) hx hb hts n_X1_findsPath_X1 hown hK hP 0 rfl rfl 5 (by decide) (hts (.fieldLink RX1 25 "FaultyCube$PathPacking" "goal" "I") (by decide +kernel)) (fun _ h9 => h9) rfl dX1_findsPath_59 ?_
          replace hf := zob_some hf
          obtain ⟨u7, hu7, hf⟩ := hf
          refine kd_i (D := D) (v := u7) (av := [.int v_this_goal]) (wc := []) (w1 := []) (ws2 := [(q_this, .inr (1, [.ref q_this_leaving, .ref q_this_cameFrom, .ref q_this_queue, .int v_this_found_33, .int v_this_source, .int v_this_goal, .int v_this_dimension, .long v_this_alive])), (q_this_leaving, .inl (k_this_leaving, 64, .inl c_this_leaving)), (q_this_cameFrom, .inl (k_this_cameFrom, 128, .inl c_this_cameFrom_33)), (q_this_queue, .inl (k_this_queue, 128, .inl c_this_queue_33))]) hK hP hD hS hA hE [] [] [0, 1, 2, 3] [0, 1, 2, 3] (fun hb1 hp1 => va_runS (As := [.int v_this_goal]) (rest := [.int x6]) ⟨hx, hb, hml, hown, hts⟩ (c_X1_entry l D H.size v_this_goal u7 hu7) (va_cwS 1 hts gX1_findsPath_X1_entry rfl rfl rfl (by decide +kernel) ⟨Nat.le_of_ble_eq_true rfl, Nat.le_of_ble_eq_true rfl⟩) ⟨hb1, hp1⟩ rfl rfl hl.1 rfl (lv_room (Nat.le_of_ble_eq_true rfl)) dX1_findsPath_62 ⟨Nat.le_of_ble_eq_true rfl, Nat.le_of_ble_eq_true rfl⟩) rfl rfl rfl rfl rfl rfl rfl rfl rfl rfl (fun H locs hP hD hS => ?_)
          have hP : va_P D vwCl [(q_this, .inr (1, [.ref q_this_leaving, .ref q_this_cameFrom, .ref q_this_queue, .int v_this_found_33, .int v_this_source, .int v_this_goal, .int v_this_dimension, .long v_this_alive])), (q_this_leaving, .inl (k_this_leaving, 64, .inl c_this_leaving)), (q_this_cameFrom, .inl (k_this_cameFrom, 128, .inl c_this_cameFrom_33)), (q_this_queue, .inl (k_this_queue, 128, .inl c_this_queue_33))] H := hP
          have hD : va_D A [(q_this, .inr (1, [.ref q_this_leaving, .ref q_this_cameFrom, .ref q_this_queue, .int v_this_found_33, .int v_this_source, .int v_this_goal, .int v_this_dimension, .long v_this_alive])), (q_this_leaving, .inl (k_this_leaving, 64, .inl c_this_leaving)), (q_this_cameFrom, .inl (k_this_cameFrom, 128, .inl c_this_cameFrom_33)), (q_this_queue, .inl (k_this_queue, 128, .inl c_this_queue_33))] := hD
          refine lv_icmp_ne (tgt := 70) hx hb dX1_findsPath_65 (by decide) (fun cd65 => ?_) (fun cd65 => ?_)
          · replace hf := zite_f cd65 hf
            refine lv_iload_n hx hb dX1_findsPath_70 rfl (lv_at hl 0 rfl) ?_
            refine lv_iload_n hx hb dX1_findsPath_71 rfl (lv_at hl 0 rfl) ?_
            refine lv_iconst (v := 2) hx hb dX1_findsPath_72 (by decide) ?_
            refine lv_idiv hx hb dX1_findsPath_73 (by decide) ?_
            replace hf := zob_some hf
            obtain ⟨u8, hu8, hf⟩ := hf
            refine kd_i (D := D) (v := u8) (av := [.int (x6 / (2 : Int32))]) (wc := []) (w1 := []) (ws2 := [(q_this, .inr (1, [.ref q_this_leaving, .ref q_this_cameFrom, .ref q_this_queue, .int v_this_found_33, .int v_this_source, .int v_this_goal, .int v_this_dimension, .long v_this_alive])), (q_this_leaving, .inl (k_this_leaving, 64, .inl c_this_leaving)), (q_this_cameFrom, .inl (k_this_cameFrom, 128, .inl c_this_cameFrom_33)), (q_this_queue, .inl (k_this_queue, 128, .inl c_this_queue_33))]) hK hP hD hS hA hE [] [] [0, 1, 2, 3] [0, 1, 2, 3] (fun hb1 hp1 => va_runS (As := [.int (x6 / (2 : Int32))]) (rest := [.int x6]) ⟨hx, hb, hml, hown, hts⟩ (c_X1_entry l D H.size (x6 / (2 : Int32)) u8 hu8) (va_cwS 1 hts gX1_findsPath_X1_entry rfl rfl rfl (by decide +kernel) ⟨Nat.le_of_ble_eq_true rfl, Nat.le_of_ble_eq_true rfl⟩) ⟨hb1, hp1⟩ rfl rfl hl.1 rfl (lv_room (Nat.le_of_ble_eq_true rfl)) dX1_findsPath_74 ⟨Nat.le_of_ble_eq_true rfl, Nat.le_of_ble_eq_true rfl⟩) rfl rfl rfl rfl rfl rfl rfl rfl rfl rfl (fun H locs hP hD hS => ?_)
            have hP : va_P D vwCl [(q_this, .inr (1, [.ref q_this_leaving, .ref q_this_cameFrom, .ref q_this_queue, .int v_this_found_33, .int v_this_source, .int v_this_goal, .int v_this_dimension, .long v_this_alive])), (q_this_leaving, .inl (k_this_leaving, 64, .inl c_this_leaving)), (q_this_cameFrom, .inl (k_this_cameFrom, 128, .inl c_this_cameFrom_33)), (q_this_queue, .inl (k_this_queue, 128, .inl c_this_queue_33))] H := hP
            have hD : va_D A [(q_this, .inr (1, [.ref q_this_leaving, .ref q_this_cameFrom, .ref q_this_queue, .int v_this_found_33, .int v_this_source, .int v_this_goal, .int v_this_dimension, .long v_this_alive])), (q_this_leaving, .inl (k_this_leaving, 64, .inl c_this_leaving)), (q_this_cameFrom, .inl (k_this_cameFrom, 128, .inl c_this_cameFrom_33)), (q_this_queue, .inl (k_this_queue, 128, .inl c_this_queue_33))] := hD
            replace hf := zjp_some hf
            obtain ⟨K97, eK97, hf⟩ := hf
            have j97 : ∀ (v_this_found_97 : Int32) (c_this_cameFrom_97 : (Nat → Int32)) (c_this_queue_97 : (Nat → Int32)), K97 v_this_found_97 c_this_cameFrom_97 c_this_queue_97 = some res → ∀ (H : Heap) (locs : List Loc) (ls : Array Slot), va_P D vwCl [(q_this, .inr (1, [.ref q_this_leaving, .ref q_this_cameFrom, .ref q_this_queue, .int v_this_found_97, .int v_this_source, .int v_this_goal, .int v_this_dimension, .long v_this_alive])), (q_this_leaving, .inl (k_this_leaving, 64, .inl c_this_leaving)), (q_this_cameFrom, .inl (k_this_cameFrom, 128, .inl c_this_cameFrom_97)), (q_this_queue, .inl (k_this_queue, 128, .inl c_this_queue_97))] H → va_D A [(q_this, .inr (1, [.ref q_this_leaving, .ref q_this_cameFrom, .ref q_this_queue, .int v_this_found_97, .int v_this_source, .int v_this_goal, .int v_this_dimension, .long v_this_alive])), (q_this_leaving, .inl (k_this_leaving, 64, .inl c_this_leaving)), (q_this_cameFrom, .inl (k_this_cameFrom, 128, .inl c_this_cameFrom_97)), (q_this_queue, .inl (k_this_queue, 128, .inl c_this_queue_97))] → va_S A s.heap H locs → lv_has ls 3 [(0, .ref q_this), (1, .int i1_33)] → W p l e rm_X1_findsPath s m args below meth c H locs 0 0 Q (F0 m 97 ls []) := by
              intro v_this_found_97 c_this_cameFrom_97 c_this_queue_97 hf H locs ls hP hD hS hl
              replace hf := zap3 eK97 hf
              obtain ⟨x9, ex9⟩ : ∃ y : Int32, y = i1_33 + 1 := ⟨_, rfl⟩
              replace hf := zbd_of ex9 hf
              refine lv_iinc (v := x9) (lv' := [(1, .int x9), (0, .ref q_this)]) hx hb dX1_findsPath_97 hl (k := 1) rfl (by rw [ex9]; rfl) (by decide) rfl (fun ls hl => ?_)
              refine lv_goto (tgt := 33) hx hb dX1_findsPath_100 (by decide) ?_
              exact ih33 x9 v_this_found_97 c_this_cameFrom_97 c_this_queue_97 hf H locs ls hP hD hS (lv_sub hl [1, 0] rfl)
            refine lv_icmp_ne (tgt := 90) hx hb dX1_findsPath_77 (by decide) (fun cd77 => ?_) (fun cd77 => ?_)
            · replace hf := zite_f cd77 hf
              refine lv_aload_n hx hb dX1_findsPath_90 rfl (lv_at hl 1 rfl) ?_
              refine lv_iload_n hx hb dX1_findsPath_91 rfl (lv_at hl 0 rfl) ?_
              refine lv_iconst (v := 2) hx hb dX1_findsPath_92 (by decide) ?_
              refine lv_idiv hx hb dX1_findsPath_93 (by decide) ?_
              replace hf := zob_some hf
              obtain ⟨u10, hu10, hf⟩ := hf
              refine kd_v (D := D) (av := [.ref q_this, .int (x6 / (2 : Int32))]) (wc := [(q_this, .inr (1, [.ref q_this_leaving, .ref q_this_cameFrom, .ref q_this_queue, .int v_this_found_33, .int v_this_source, .int v_this_goal, .int v_this_dimension, .long v_this_alive])), (q_this_leaving, .inl (k_this_leaving, 64, .inl c_this_leaving)), (q_this_cameFrom, .inl (k_this_cameFrom, 128, .inl c_this_cameFrom_33)), (q_this_queue, .inl (k_this_queue, 128, .inl c_this_queue_33))]) (w1 := [(q_this, .inr (1, [.ref q_this_leaving, .ref q_this_cameFrom, .ref q_this_queue, .int u10.1, .int v_this_source, .int v_this_goal, .int v_this_dimension, .long v_this_alive])), (q_this_leaving, .inl (k_this_leaving, 64, .inl c_this_leaving)), (q_this_cameFrom, .inl (k_this_cameFrom, 128, .inl u10.2.1)), (q_this_queue, .inl (k_this_queue, 128, .inl u10.2.2))]) (ws2 := [(q_this, .inr (1, [.ref q_this_leaving, .ref q_this_cameFrom, .ref q_this_queue, .int u10.1, .int v_this_source, .int v_this_goal, .int v_this_dimension, .long v_this_alive])), (q_this_leaving, .inl (k_this_leaving, 64, .inl c_this_leaving)), (q_this_cameFrom, .inl (k_this_cameFrom, 128, .inl u10.2.1)), (q_this_queue, .inl (k_this_queue, 128, .inl u10.2.2))]) hK hP hD hS hA hE [0, 1, 2, 3] [0, 1, 2] [] [0, 1, 2, 3] (fun hb1 hp1 => va_runV (As := [.int (x6 / (2 : Int32))]) (rest := []) ⟨hx, hb, hml, hown, hts⟩ (c_X1_searchFromExit l D H.size q_this q_this_leaving q_this_cameFrom q_this_queue k_this_leaving k_this_cameFrom k_this_queue v_this_found_33 v_this_source v_this_goal v_this_dimension v_this_alive c_this_leaving c_this_cameFrom_33 c_this_queue_33 (x6 / (2 : Int32)) u10 hu10) (cwV 1 hts gX1_findsPath_X1_searchFromExit rfl rfl rfl (by decide +kernel) ⟨Nat.le_of_ble_eq_true rfl, Nat.le_of_ble_eq_true rfl⟩) ⟨hb1, va_recv hK hP (ci := 1) (q0 := 0) rfl rfl, hp1⟩ rfl rfl hl.1 rfl (lv_room (Nat.le_of_ble_eq_true rfl)) dX1_findsPath_94 ⟨Nat.le_of_ble_eq_true rfl, Nat.le_of_ble_eq_true rfl⟩) rfl rfl rfl rfl rfl rfl rfl rfl rfl rfl (fun H locs hP hD hS => ?_)
              have hP : va_P D vwCl [(q_this, .inr (1, [.ref q_this_leaving, .ref q_this_cameFrom, .ref q_this_queue, .int u10.1, .int v_this_source, .int v_this_goal, .int v_this_dimension, .long v_this_alive])), (q_this_leaving, .inl (k_this_leaving, 64, .inl c_this_leaving)), (q_this_cameFrom, .inl (k_this_cameFrom, 128, .inl u10.2.1)), (q_this_queue, .inl (k_this_queue, 128, .inl u10.2.2))] H := hP
              have hD : va_D A [(q_this, .inr (1, [.ref q_this_leaving, .ref q_this_cameFrom, .ref q_this_queue, .int u10.1, .int v_this_source, .int v_this_goal, .int v_this_dimension, .long v_this_alive])), (q_this_leaving, .inl (k_this_leaving, 64, .inl c_this_leaving)), (q_this_cameFrom, .inl (k_this_cameFrom, 128, .inl u10.2.1)), (q_this_queue, .inl (k_this_queue, 128, .inl u10.2.2))] := hD
              exact j97 u10.1 u10.2.1 u10.2.2 hf H locs ls hP hD hS (lv_sub hl [1, 2] rfl)
            · replace hf := zite_t cd77 hf
              refine lv_aload_n hx hb dX1_findsPath_80 rfl (lv_at hl 1 rfl) ?_
              refine lv_iload_n hx hb dX1_findsPath_81 rfl (lv_at hl 0 rfl) ?_
              refine lv_iconst (v := 2) hx hb dX1_findsPath_82 (by decide) ?_
              refine lv_idiv hx hb dX1_findsPath_83 (by decide) ?_
              replace hf := zob_some hf
              obtain ⟨u11, hu11, hf⟩ := hf
              refine kd_v (D := D) (av := [.ref q_this, .int (x6 / (2 : Int32))]) (wc := [(q_this, .inr (1, [.ref q_this_leaving, .ref q_this_cameFrom, .ref q_this_queue, .int v_this_found_33, .int v_this_source, .int v_this_goal, .int v_this_dimension, .long v_this_alive])), (q_this_leaving, .inl (k_this_leaving, 64, .inl c_this_leaving)), (q_this_cameFrom, .inl (k_this_cameFrom, 128, .inl c_this_cameFrom_33)), (q_this_queue, .inl (k_this_queue, 128, .inl c_this_queue_33))]) (w1 := [(q_this, .inr (1, [.ref q_this_leaving, .ref q_this_cameFrom, .ref q_this_queue, .int u11.1, .int v_this_source, .int v_this_goal, .int v_this_dimension, .long v_this_alive])), (q_this_leaving, .inl (k_this_leaving, 64, .inl c_this_leaving)), (q_this_cameFrom, .inl (k_this_cameFrom, 128, .inl u11.2.1)), (q_this_queue, .inl (k_this_queue, 128, .inl u11.2.2))]) (ws2 := [(q_this, .inr (1, [.ref q_this_leaving, .ref q_this_cameFrom, .ref q_this_queue, .int u11.1, .int v_this_source, .int v_this_goal, .int v_this_dimension, .long v_this_alive])), (q_this_leaving, .inl (k_this_leaving, 64, .inl c_this_leaving)), (q_this_cameFrom, .inl (k_this_cameFrom, 128, .inl u11.2.1)), (q_this_queue, .inl (k_this_queue, 128, .inl u11.2.2))]) hK hP hD hS hA hE [0, 1, 2, 3] [0, 1, 2] [] [0, 1, 2, 3] (fun hb1 hp1 => va_runV (As := [.int (x6 / (2 : Int32))]) (rest := []) ⟨hx, hb, hml, hown, hts⟩ (c_X1_searchFromEntry l D H.size q_this q_this_leaving q_this_cameFrom q_this_queue k_this_leaving k_this_cameFrom k_this_queue v_this_found_33 v_this_source v_this_goal v_this_dimension v_this_alive c_this_leaving c_this_cameFrom_33 c_this_queue_33 (x6 / (2 : Int32)) u11 hu11) (cwV 1 hts gX1_findsPath_X1_searchFromEntry rfl rfl rfl (by decide +kernel) ⟨Nat.le_of_ble_eq_true rfl, Nat.le_of_ble_eq_true rfl⟩) ⟨hb1, va_recv hK hP (ci := 1) (q0 := 0) rfl rfl, hp1⟩ rfl rfl hl.1 rfl (lv_room (Nat.le_of_ble_eq_true rfl)) dX1_findsPath_84 ⟨Nat.le_of_ble_eq_true rfl, Nat.le_of_ble_eq_true rfl⟩) rfl rfl rfl rfl rfl rfl rfl rfl rfl rfl (fun H locs hP hD hS => ?_)
              have hP : va_P D vwCl [(q_this, .inr (1, [.ref q_this_leaving, .ref q_this_cameFrom, .ref q_this_queue, .int u11.1, .int v_this_source, .int v_this_goal, .int v_this_dimension, .long v_this_alive])), (q_this_leaving, .inl (k_this_leaving, 64, .inl c_this_leaving)), (q_this_cameFrom, .inl (k_this_cameFrom, 128, .inl u11.2.1)), (q_this_queue, .inl (k_this_queue, 128, .inl u11.2.2))] H := hP
              have hD : va_D A [(q_this, .inr (1, [.ref q_this_leaving, .ref q_this_cameFrom, .ref q_this_queue, .int u11.1, .int v_this_source, .int v_this_goal, .int v_this_dimension, .long v_this_alive])), (q_this_leaving, .inl (k_this_leaving, 64, .inl c_this_leaving)), (q_this_cameFrom, .inl (k_this_cameFrom, 128, .inl u11.2.1)), (q_this_queue, .inl (k_this_queue, 128, .inl u11.2.2))] := hD
              refine lv_goto (tgt := 97) hx hb dX1_findsPath_87 (by decide) ?_
              exact j97 u11.1 u11.2.1 u11.2.2 hf H locs ls hP hD hS (lv_sub hl [1, 2] rfl)
          · replace hf := zite_t cd65 hf
            refine lv_iconst (v := 1) hx hb dX1_findsPath_68 (by decide) ?_
            obtain rfl := Option.some.inj hf
            subst eQ
            exact kr_z hx hb hr nar_1 hlocks hK hP hD hS dX1_findsPath_69
  exact h33 zfu 0 u4.1 u4.2.1 u4.2.2 hf H locs ls hP hD hS (lv_sub hl [1, 0] rfl)
theorem n_X1_addPath_X1 : ∀ w ∈ u_ws RX1 TX1 8, w ∈ wsX1_addPath := by decide +kernel
abbrev rm_X1_addPath : Room := { frames := 1, cells := 0, slots := 0, locals := 22 }
set_option maxHeartbeats 4000000 in
set_option maxRecDepth 100000 in
theorem c_X1_addPath (l : Launch) (D : va_G) (sz : Nat) (q_this : Nat) (q_this_leaving : Nat) (q_this_cameFrom : Nat) (q_this_queue : Nat) (k_this_leaving : ClassId) (k_this_cameFrom : ClassId) (v_this_found : Int32) (v_this_source : Int32) (v_this_goal : Int32) (v_this_dimension : Int32) (v_this_alive : Int64) (c_this_leaving : (Nat → Int32)) (c_this_cameFrom : (Nat → Int32)) (res : rt_X1_addPath) (hf : f_X1_addPath v_this_source v_this_goal c_this_leaving c_this_cameFrom = some res) : Met l yX1_addPath wsX1_addPath rm_X1_addPath (kP D [.ref q_this] [(q_this, .inr (1, [.ref q_this_leaving, .ref q_this_cameFrom, .ref q_this_queue, .int v_this_found, .int v_this_source, .int v_this_goal, .int v_this_dimension, .long v_this_alive])), (q_this_leaving, .inl (k_this_leaving, 64, .inl c_this_leaving)), (q_this_cameFrom, .inl (k_this_cameFrom, 128, .inl c_this_cameFrom))] [(k_this_leaving, .int), (k_this_cameFrom, .int)] sz) (kQv D (va_A [(q_this, .inr (1, [.ref q_this_leaving, .ref q_this_cameFrom, .ref q_this_queue, .int v_this_found, .int v_this_source, .int v_this_goal, .int v_this_dimension, .long v_this_alive])), (q_this_leaving, .inl (k_this_leaving, 64, .inl c_this_leaving)), (q_this_cameFrom, .inl (k_this_cameFrom, 128, .inl c_this_cameFrom))] sz) [(k_this_leaving, .int), (k_this_cameFrom, .int)] [(q_this, .inr (1, [.ref q_this_leaving, .ref q_this_cameFrom, .ref q_this_queue, .int v_this_found, .int v_this_source, .int v_this_goal, .int v_this_dimension, .long v_this_alive])), (q_this_leaving, .inl (k_this_leaving, 64, .inl res)), (q_this_cameFrom, .inl (k_this_cameFrom, 128, .inl c_this_cameFrom))]) 0 0 (va_A [(q_this, .inr (1, [.ref q_this_leaving, .ref q_this_cameFrom, .ref q_this_queue, .int v_this_found, .int v_this_source, .int v_this_goal, .int v_this_dimension, .long v_this_alive])), (q_this_leaving, .inl (k_this_leaving, 64, .inl c_this_leaving)), (q_this_cameFrom, .inl (k_this_cameFrom, 128, .inl c_this_cameFrom))] sz) := by
  refine Met.ofW (cc := cX1_addPath) (maxL := 6) (ret := none) (by decide +kernel) rfl ?_
  intro p e s m args below meth c s₁ B hml hv
  obtain ⟨hargs, hsz, hP, hK, hD0, hE⟩ := hv
  have hx := B.exec
  have hb := B.bytes
  have hr := B.returns
  have hts := atoms_spec (ws := wsX1_addPath) B.pre
  have hown : s.vm.findClass RX1 = some m.cls := findClass_of_methodNamed B.named
  have hlocks := B.notSynchronized
  subst hsz
  have hD := hD0.self (sz := s.heap.size)
  generalize hAe : va_A [(q_this, .inr (1, [.ref q_this_leaving, .ref q_this_cameFrom, .ref q_this_queue, .int v_this_found, .int v_this_source, .int v_this_goal, .int v_this_dimension, .long v_this_alive])), (q_this_leaving, .inl (k_this_leaving, 64, .inl c_this_leaving)), (q_this_cameFrom, .inl (k_this_cameFrom, 128, .inl c_this_cameFrom))] s.heap.size = A at hD hE ⊢
  have hA : ∀ q : Nat, s.heap.size ≤ q → A q := fun q h => by rw [← hAe]; exact Or.inr h
  have hS : va_S A s.heap s.heap [] := va_S.rf
  refine kgen (fun Q eQ => ?_)
  refine kent (av := [.ref q_this]) hargs (Nat.le_of_ble_eq_true rfl) (fun ls hl => ?_)
  have hl : lv_has ls 6 [(0, .ref q_this)] := hl
  show W p l e rm_X1_addPath s m args below meth c s.heap [] 0 0 Q (F0 m 0 ls [])
  unfold f_X1_addPath at hf
  refine lv_aload_n hx hb dX1_addPath_0 rfl (lv_at hl 0 rfl) ?_
  refine va_get (D := D) (ci := 1) (v := .int v_this_goal) (C := RX1) (T := TX1) (N := 8) hx hb hts n_X1_addPath_X1 hown hK hP 0 rfl rfl 5 (by decide) (hts (.fieldLink RX1 25 "FaultyCube$PathPacking" "goal" "I") (by decide +kernel)) (fun _ h9 => h9) rfl dX1_addPath_1 ?_
  replace hf := zob_some hf
  obtain ⟨u1, hu1, hf⟩ := hf
  refine kd_i (D := D) (v := u1) (av := [.int v_this_goal]) (wc := []) (w1 := []) (ws2 := [(q_this, .inr (1, [.ref q_this_leaving, .ref q_this_cameFrom, .ref q_this_queue, .int v_this_found, .int v_this_source, .int v_this_goal, .int v_this_dimension, .long v_this_alive])), (q_this_leaving, .inl (k_this_leaving, 64, .inl c_this_leaving)), (q_this_cameFrom, .inl (k_this_cameFrom, 128, .inl c_this_cameFrom))]) hK hP hD hS hA hE [] [] [0, 1, 2] [0, 1, 2] (fun hb1 hp1 => va_runS (As := [.int v_this_goal]) (rest := []) ⟨hx, hb, hml, hown, hts⟩ (c_X1_entry l D s.heap.size v_this_goal u1 hu1) (va_cwS 1 hts gX1_addPath_X1_entry rfl rfl rfl (by decide +kernel) ⟨Nat.le_of_ble_eq_true rfl, Nat.le_of_ble_eq_true rfl⟩) ⟨hb1, hp1⟩ rfl rfl hl.1 rfl (lv_room (Nat.le_of_ble_eq_true rfl)) dX1_addPath_4 ⟨Nat.le_of_ble_eq_true rfl, Nat.le_of_ble_eq_true rfl⟩) rfl rfl rfl rfl rfl rfl rfl rfl rfl rfl (fun H locs hP hD hS => ?_)
  have hP : va_P D vwCl [(q_this, .inr (1, [.ref q_this_leaving, .ref q_this_cameFrom, .ref q_this_queue, .int v_this_found, .int v_this_source, .int v_this_goal, .int v_this_dimension, .long v_this_alive])), (q_this_leaving, .inl (k_this_leaving, 64, .inl c_this_leaving)), (q_this_cameFrom, .inl (k_this_cameFrom, 128, .inl c_this_cameFrom))] H := hP
  have hD : va_D A [(q_this, .inr (1, [.ref q_this_leaving, .ref q_this_cameFrom, .ref q_this_queue, .int v_this_found, .int v_this_source, .int v_this_goal, .int v_this_dimension, .long v_this_alive])), (q_this_leaving, .inl (k_this_leaving, 64, .inl c_this_leaving)), (q_this_cameFrom, .inl (k_this_cameFrom, 128, .inl c_this_cameFrom))] := hD
  refine lv_istore_n (lv' := [(1, .int u1), (0, .ref q_this)]) hx hb dX1_addPath_7 rfl hl (by decide) rfl (fun ls hl => ?_)
  refine lv_iconst (v := 0) hx hb dX1_addPath_8 (by decide) ?_
  refine lv_istore_n (lv' := [(2, .int 0), (1, .int u1), (0, .ref q_this)]) hx hb dX1_addPath_9 rfl hl (by decide) rfl (fun ls hl => ?_)
  replace hf := zl3_some hf
  obtain ⟨F10, eF10, hf⟩ := hf
  have h10 : ∀ (n10 : Nat) (i1_10 : Int32) (i2_10 : Int32) (c_this_leaving_10 : (Nat → Int32)), zl3 F10 n10 i1_10 i2_10 c_this_leaving_10 = some res → ∀ (H : Heap) (locs : List Loc) (ls : Array Slot), va_P D vwCl [(q_this, .inr (1, [.ref q_this_leaving, .ref q_this_cameFrom, .ref q_this_queue, .int v_this_found, .int v_this_source, .int v_this_goal, .int v_this_dimension, .long v_this_alive])), (q_this_leaving, .inl (k_this_leaving, 64, .inl c_this_leaving_10)), (q_this_cameFrom, .inl (k_this_cameFrom, 128, .inl c_this_cameFrom))] H → va_D A [(q_this, .inr (1, [.ref q_this_leaving, .ref q_this_cameFrom, .ref q_this_queue, .int v_this_found, .int v_this_source, .int v_this_goal, .int v_this_dimension, .long v_this_alive])), (q_this_leaving, .inl (k_this_leaving, 64, .inl c_this_leaving_10)), (q_this_cameFrom, .inl (k_this_cameFrom, 128, .inl c_this_cameFrom))] → va_S A s.heap H locs → lv_has ls 6 [(0, .ref q_this), (1, .int i1_10), (2, .int i2_10)] → W p l e rm_X1_addPath s m args below meth c H locs 0 0 Q (F0 m 10 ls []) := by
    intro n10
    induction n10 with
    | zero => intro i1_10 i2_10 c_this_leaving_10 hf; exact (zl3_zero hf).elim
    | succ n10 ih10 =>
      intro i1_10 i2_10 c_this_leaving_10 hf H locs ls hP hD hS hl
      replace hf := zl3_step eF10 hf
      generalize zl3 F10 n10 = k10 at hf ih10
      refine lv_iload_n hx hb dX1_addPath_10 rfl (lv_at hl 2 rfl) ?_
      refine lv_aload_n hx hb dX1_addPath_11 rfl (lv_at hl 0 rfl) ?_
      refine va_get (D := D) (ci := 1) (v := .ref q_this_cameFrom) (C := RX1) (T := TX1) (N := 8) hx hb hts n_X1_addPath_X1 hown hK hP 0 rfl rfl 1 (by decide) (hts (.fieldLink RX1 15 "FaultyCube$PathPacking" "cameFrom" "[I") (by decide +kernel)) (fun _ h9 => h9) rfl dX1_addPath_12 ?_
      refine va_alen (D := D) (v := 128) hx hb hK hP 2 1 rfl rfl rfl dX1_addPath_15 ?_
      refine lv_icmp_ge (tgt := 133) hx hb dX1_addPath_16 (by decide) (fun cd16 => ?_) (fun cd16 => ?_)
      · replace hf := zite_t cd16 hf
        obtain rfl := Option.some.inj hf
        subst eQ
        exact kr_v hx hb hr hlocks hK hP hD hS dX1_addPath_133
      · replace hf := zite_f cd16 hf
        refine lv_iload_n hx hb dX1_addPath_19 rfl (lv_at hl 1 rfl) ?_
        refine lv_aload_n hx hb dX1_addPath_20 rfl (lv_at hl 0 rfl) ?_
        refine va_get (D := D) (ci := 1) (v := .int v_this_source) (C := RX1) (T := TX1) (N := 8) hx hb hts n_X1_addPath_X1 hown hK hP 0 rfl rfl 4 (by decide) (hts (.fieldLink RX1 21 "FaultyCube$PathPacking" "source" "I") (by decide +kernel)) (fun _ h9 => h9) rfl dX1_addPath_21 ?_
        replace hf := zob_some hf
        obtain ⟨u2, hu2, hf⟩ := hf
        refine kd_i (D := D) (v := u2) (av := [.int v_this_source]) (wc := []) (w1 := []) (ws2 := [(q_this, .inr (1, [.ref q_this_leaving, .ref q_this_cameFrom, .ref q_this_queue, .int v_this_found, .int v_this_source, .int v_this_goal, .int v_this_dimension, .long v_this_alive])), (q_this_leaving, .inl (k_this_leaving, 64, .inl c_this_leaving_10)), (q_this_cameFrom, .inl (k_this_cameFrom, 128, .inl c_this_cameFrom))]) hK hP hD hS hA hE [] [] [0, 1, 2] [0, 1, 2] (fun hb1 hp1 => va_runS (As := [.int v_this_source]) (rest := [.int i1_10]) ⟨hx, hb, hml, hown, hts⟩ (c_X1_exit l D H.size v_this_source u2 hu2) (va_cwS 1 hts gX1_addPath_X1_exit rfl rfl rfl (by decide +kernel) ⟨Nat.le_of_ble_eq_true rfl, Nat.le_of_ble_eq_true rfl⟩) ⟨hb1, hp1⟩ rfl rfl hl.1 rfl (lv_room (Nat.le_of_ble_eq_true rfl)) dX1_addPath_24 ⟨Nat.le_of_ble_eq_true rfl, Nat.le_of_ble_eq_true rfl⟩) rfl rfl rfl rfl rfl rfl rfl rfl rfl rfl (fun H locs hP hD hS => ?_)
        have hP : va_P D vwCl [(q_this, .inr (1, [.ref q_this_leaving, .ref q_this_cameFrom, .ref q_this_queue, .int v_this_found, .int v_this_source, .int v_this_goal, .int v_this_dimension, .long v_this_alive])), (q_this_leaving, .inl (k_this_leaving, 64, .inl c_this_leaving_10)), (q_this_cameFrom, .inl (k_this_cameFrom, 128, .inl c_this_cameFrom))] H := hP
        have hD : va_D A [(q_this, .inr (1, [.ref q_this_leaving, .ref q_this_cameFrom, .ref q_this_queue, .int v_this_found, .int v_this_source, .int v_this_goal, .int v_this_dimension, .long v_this_alive])), (q_this_leaving, .inl (k_this_leaving, 64, .inl c_this_leaving_10)), (q_this_cameFrom, .inl (k_this_cameFrom, 128, .inl c_this_cameFrom))] := hD
        refine lv_icmp_eq (tgt := 133) hx hb dX1_addPath_27 (by decide) (fun cd27 => ?_) (fun cd27 => ?_)
        · replace hf := zite_t cd27 hf
          obtain rfl := Option.some.inj hf
          subst eQ
          exact kr_v hx hb hr hlocks hK hP hD hS dX1_addPath_133
        · replace hf := zite_f cd27 hf
          refine lv_aload_n hx hb dX1_addPath_30 rfl (lv_at hl 0 rfl) ?_
          refine va_get (D := D) (ci := 1) (v := .ref q_this_cameFrom) (C := RX1) (T := TX1) (N := 8) hx hb hts n_X1_addPath_X1 hown hK hP 0 rfl rfl 1 (by decide) (hts (.fieldLink RX1 15 "FaultyCube$PathPacking" "cameFrom" "[I") (by decide +kernel)) (fun _ h9 => h9) rfl dX1_addPath_31 ?_
          refine lv_iload_n hx hb dX1_addPath_34 rfl (lv_at hl 1 rfl) ?_
          replace hf := zob_some hf
          obtain ⟨u3, hu3, hf⟩ := hf
          refine kd_i (D := D) (v := u3) (av := [.ref q_this_cameFrom, .int i1_10]) (wc := [(q_this_cameFrom, .inl (k_this_cameFrom, 128, .inl c_this_cameFrom))]) (w1 := [(q_this_cameFrom, .inl (k_this_cameFrom, 128, .inl c_this_cameFrom))]) (ws2 := [(q_this, .inr (1, [.ref q_this_leaving, .ref q_this_cameFrom, .ref q_this_queue, .int v_this_found, .int v_this_source, .int v_this_goal, .int v_this_dimension, .long v_this_alive])), (q_this_leaving, .inl (k_this_leaving, 64, .inl c_this_leaving_10)), (q_this_cameFrom, .inl (k_this_cameFrom, 128, .inl c_this_cameFrom))]) hK hP hD hS hA hE [2] [1] [0, 1] [0, 1, 2] (fun hb1 hp1 => va_runSN (As := [.ref q_this_cameFrom, .int i1_10]) (rest := []) ⟨hx, hb, hml, hown, hts⟩ (c_X6_read l D H.size q_this_cameFrom k_this_cameFrom 128 c_this_cameFrom i1_10 u3 hu3) ⟨va_cnB 2 hts gX1_addPath_X6_read_n69 rfl rfl rfl (hE.1 (RX1, 69, yX6_read, RX6) (List.mem_of_getElem? (i := 22) rfl)) (hts (.initialized RX6) (by decide +kernel)) (by decide +kernel) ⟨Nat.le_of_ble_eq_true rfl, Nat.le_of_ble_eq_true rfl⟩, (hts (.static yX6_read) (by decide +kernel)), trivial⟩ ⟨hb1, hp1⟩ rfl rfl hl.1 rfl (lv_room (Nat.le_of_ble_eq_true rfl)) dX1_addPath_35 ⟨Nat.le_of_ble_eq_true rfl, Nat.le_of_ble_eq_true rfl⟩) rfl rfl rfl rfl rfl rfl rfl rfl rfl rfl (fun H locs hP hD hS => ?_)
          have hP : va_P D vwCl [(q_this, .inr (1, [.ref q_this_leaving, .ref q_this_cameFrom, .ref q_this_queue, .int v_this_found, .int v_this_source, .int v_this_goal, .int v_this_dimension, .long v_this_alive])), (q_this_leaving, .inl (k_this_leaving, 64, .inl c_this_leaving_10)), (q_this_cameFrom, .inl (k_this_cameFrom, 128, .inl c_this_cameFrom))] H := hP
          have hD : va_D A [(q_this, .inr (1, [.ref q_this_leaving, .ref q_this_cameFrom, .ref q_this_queue, .int v_this_found, .int v_this_source, .int v_this_goal, .int v_this_dimension, .long v_this_alive])), (q_this_leaving, .inl (k_this_leaving, 64, .inl c_this_leaving_10)), (q_this_cameFrom, .inl (k_this_cameFrom, 128, .inl c_this_cameFrom))] := hD
          refine lv_istore_n (lv' := [(3, .int u3), (0, .ref q_this), (1, .int i1_10), (2, .int i2_10)]) hx hb dX1_addPath_38 rfl hl (by decide) rfl (fun ls hl => ?_)
          refine lv_iload_n hx hb dX1_addPath_39 rfl (lv_at hl 2 rfl) ?_
          refine lv_iconst (v := 2) hx hb dX1_addPath_40 (by decide) ?_
          refine lv_idiv hx hb dX1_addPath_41 (by decide) ?_
          refine lv_topi (fun x4 ex4 => ?_)
          replace hf := zbd_of ex4 hf
          refine lv_istore (lv' := [(4, .int x4), (3, .int u3), (0, .ref q_this), (1, .int i1_10), (2, .int i2_10)]) hx hb dX1_addPath_42 hl (by decide) rfl (fun ls hl => ?_)
          refine lv_iload_n hx hb dX1_addPath_44 rfl (lv_at hl 1 rfl) ?_
          refine lv_iconst (v := 2) hx hb dX1_addPath_45 (by decide) ?_
          refine lv_idiv hx hb dX1_addPath_46 (by decide) ?_
          refine lv_topi (fun x5 ex5 => ?_)
          replace hf := zbd_of ex5 hf
          refine lv_istore (lv' := [(5, .int x5), (4, .int x4), (3, .int u3), (0, .ref q_this), (1, .int i1_10), (2, .int i2_10)]) hx hb dX1_addPath_47 hl (by decide) rfl (fun ls hl => ?_)
          refine lv_iload hx hb dX1_addPath_49 (lv_at hl 1 rfl) ?_
          refine lv_iload hx hb dX1_addPath_51 (lv_at hl 0 rfl) ?_
          replace hf := zjp_some hf
          obtain ⟨K125, eK125, hf⟩ := hf
          have j125 : ∀ (c_this_leaving_125 : (Nat → Int32)), K125 c_this_leaving_125 = some res → ∀ (H : Heap) (locs : List Loc) (ls : Array Slot), va_P D vwCl [(q_this, .inr (1, [.ref q_this_leaving, .ref q_this_cameFrom, .ref q_this_queue, .int v_this_found, .int v_this_source, .int v_this_goal, .int v_this_dimension, .long v_this_alive])), (q_this_leaving, .inl (k_this_leaving, 64, .inl c_this_leaving_125)), (q_this_cameFrom, .inl (k_this_cameFrom, 128, .inl c_this_cameFrom))] H → va_D A [(q_this, .inr (1, [.ref q_this_leaving, .ref q_this_cameFrom, .ref q_this_queue, .int v_this_found, .int v_this_source, .int v_this_goal, .int v_this_dimension, .long v_this_alive])), (q_this_leaving, .inl (k_this_leaving, 64, .inl c_this_leaving_125)), (q_this_cameFrom, .inl (k_this_cameFrom, 128, .inl c_this_cameFrom))] → va_S A s.heap H locs → lv_has ls 6 [(0, .ref q_this), (2, .int i2_10), (3, .int u3)] → W p l e rm_X1_addPath s m args below meth c H locs 0 0 Q (F0 m 125 ls []) := by
            intro c_this_leaving_125 hf H locs ls hP hD hS hl
            replace hf := zap1 eK125 hf
            refine lv_iload_n hx hb dX1_addPath_125 rfl (lv_at hl 2 rfl) ?_
            refine lv_istore_n (lv' := [(1, .int u3), (0, .ref q_this), (2, .int i2_10), (3, .int u3)]) hx hb dX1_addPath_126 rfl hl (by decide) rfl (fun ls hl => ?_)
            obtain ⟨x6, ex6⟩ : ∃ y : Int32, y = i2_10 + 1 := ⟨_, rfl⟩
            replace hf := zbd_of ex6 hf
            refine lv_iinc (v := x6) (lv' := [(2, .int x6), (1, .int u3), (0, .ref q_this), (3, .int u3)]) hx hb dX1_addPath_127 hl (k := 2) rfl (by rw [ex6]; rfl) (by decide) rfl (fun ls hl => ?_)
            refine lv_goto (tgt := 10) hx hb dX1_addPath_130 (by decide) ?_
            exact ih10 u3 x6 c_this_leaving_125 hf H locs ls hP hD hS (lv_sub hl [2, 1, 0] rfl)
          replace hf := zjp_some hf
          obtain ⟨K92, eK92, hf⟩ := hf
          have j92 : K92 = some res → ∀ (H : Heap) (locs : List Loc) (ls : Array Slot), va_P D vwCl [(q_this, .inr (1, [.ref q_this_leaving, .ref q_this_cameFrom, .ref q_this_queue, .int v_this_found, .int v_this_source, .int v_this_goal, .int v_this_dimension, .long v_this_alive])), (q_this_leaving, .inl (k_this_leaving, 64, .inl c_this_leaving_10)), (q_this_cameFrom, .inl (k_this_cameFrom, 128, .inl c_this_cameFrom))] H → va_D A [(q_this, .inr (1, [.ref q_this_leaving, .ref q_this_cameFrom, .ref q_this_queue, .int v_this_found, .int v_this_source, .int v_this_goal, .int v_this_dimension, .long v_this_alive])), (q_this_leaving, .inl (k_this_leaving, 64, .inl c_this_leaving_10)), (q_this_cameFrom, .inl (k_this_cameFrom, 128, .inl c_this_cameFrom))] → va_S A s.heap H locs → lv_has ls 6 [(0, .ref q_this), (2, .int i2_10), (3, .int u3), (4, .int x4), (5, .int x5)] → W p l e rm_X1_addPath s m args below meth c H locs 0 0 Q (F0 m 92 ls []) := by
            intro  hf H locs ls hP hD hS hl
            replace hf := zap0 eK92 hf
            refine lv_iload hx hb dX1_addPath_92 (lv_at hl 3 rfl) ?_
            refine lv_iload hx hb dX1_addPath_94 (lv_at hl 4 rfl) ?_
            refine lv_icmp_eq (tgt := 125) hx hb dX1_addPath_96 (by decide) (fun cd96 => ?_) (fun cd96 => ?_)
            · replace hf := zite_t cd96 hf
              exact j125 c_this_leaving_10 hf H locs ls hP hD hS (lv_sub hl [0, 1, 2] rfl)
            · replace hf := zite_f cd96 hf
              refine lv_aload_n hx hb dX1_addPath_99 rfl (lv_at hl 0 rfl) ?_
              refine va_get (D := D) (ci := 1) (v := .ref q_this_leaving) (C := RX1) (T := TX1) (N := 8) hx hb hts n_X1_addPath_X1 hown hK hP 0 rfl rfl 0 (by decide) (hts (.fieldLink RX1 9 "FaultyCube$PathPacking" "leaving" "[I") (by decide +kernel)) (fun _ h9 => h9) rfl dX1_addPath_100 ?_
              refine lv_iload hx hb dX1_addPath_103 (lv_at hl 3 rfl) ?_
              refine lv_aload_n hx hb dX1_addPath_105 rfl (lv_at hl 0 rfl) ?_
              refine va_get (D := D) (ci := 1) (v := .ref q_this_leaving) (C := RX1) (T := TX1) (N := 8) hx hb hts n_X1_addPath_X1 hown hK hP 0 rfl rfl 0 (by decide) (hts (.fieldLink RX1 9 "FaultyCube$PathPacking" "leaving" "[I") (by decide +kernel)) (fun _ h9 => h9) rfl dX1_addPath_106 ?_
              refine lv_iload hx hb dX1_addPath_109 (lv_at hl 3 rfl) ?_
              replace hf := zob_some hf
              obtain ⟨u7, hu7, hf⟩ := hf
              refine kd_i (D := D) (v := u7) (av := [.ref q_this_leaving, .int x4]) (wc := [(q_this_leaving, .inl (k_this_leaving, 64, .inl c_this_leaving_10))]) (w1 := [(q_this_leaving, .inl (k_this_leaving, 64, .inl c_this_leaving_10))]) (ws2 := [(q_this, .inr (1, [.ref q_this_leaving, .ref q_this_cameFrom, .ref q_this_queue, .int v_this_found, .int v_this_source, .int v_this_goal, .int v_this_dimension, .long v_this_alive])), (q_this_leaving, .inl (k_this_leaving, 64, .inl c_this_leaving_10)), (q_this_cameFrom, .inl (k_this_cameFrom, 128, .inl c_this_cameFrom))]) hK hP hD hS hA hE [1] [0] [0, 2] [0, 2, 1] (fun hb1 hp1 => va_runSN (As := [.ref q_this_leaving, .int x4]) (rest := [.int x4, .ref q_this_leaving]) ⟨hx, hb, hml, hown, hts⟩ (c_X6_read l D H.size q_this_leaving k_this_leaving 64 c_this_leaving_10 x4 u7 hu7) ⟨va_cnB 2 hts gX1_addPath_X6_read_n69 rfl rfl rfl (hE.1 (RX1, 69, yX6_read, RX6) (List.mem_of_getElem? (i := 22) rfl)) (hts (.initialized RX6) (by decide +kernel)) (by decide +kernel) ⟨Nat.le_of_ble_eq_true rfl, Nat.le_of_ble_eq_true rfl⟩, (hts (.static yX6_read) (by decide +kernel)), trivial⟩ ⟨hb1, hp1⟩ rfl rfl hl.1 rfl (lv_room (Nat.le_of_ble_eq_true rfl)) dX1_addPath_111 ⟨Nat.le_of_ble_eq_true rfl, Nat.le_of_ble_eq_true rfl⟩) rfl rfl rfl rfl rfl rfl rfl rfl rfl rfl (fun H locs hP hD hS => ?_)
              have hP : va_P D vwCl [(q_this, .inr (1, [.ref q_this_leaving, .ref q_this_cameFrom, .ref q_this_queue, .int v_this_found, .int v_this_source, .int v_this_goal, .int v_this_dimension, .long v_this_alive])), (q_this_leaving, .inl (k_this_leaving, 64, .inl c_this_leaving_10)), (q_this_cameFrom, .inl (k_this_cameFrom, 128, .inl c_this_cameFrom))] H := hP
              have hD : va_D A [(q_this, .inr (1, [.ref q_this_leaving, .ref q_this_cameFrom, .ref q_this_queue, .int v_this_found, .int v_this_source, .int v_this_goal, .int v_this_dimension, .long v_this_alive])), (q_this_leaving, .inl (k_this_leaving, 64, .inl c_this_leaving_10)), (q_this_cameFrom, .inl (k_this_cameFrom, 128, .inl c_this_cameFrom))] := hD
              refine lv_iload hx hb dX1_addPath_114 (lv_at hl 3 rfl) ?_
              refine lv_iload hx hb dX1_addPath_116 (lv_at hl 4 rfl) ?_
              refine lv_ixor hx hb dX1_addPath_118 ?_
              refine lv_iconst (v := (-1)) hx hb dX1_addPath_119 (by decide) ?_
              refine lv_ixor hx hb dX1_addPath_120 ?_
              refine lv_iand hx hb dX1_addPath_121 ?_
              replace hf := zob_some hf
              obtain ⟨u8, hu8, hf⟩ := hf
              refine kd_v (D := D) (av := [.ref q_this_leaving, .int x4, .int (u7 &&& ((x4 ^^^ x5) ^^^ ((-1) : Int32)))]) (wc := [(q_this_leaving, .inl (k_this_leaving, 64, .inl c_this_leaving_10))]) (w1 := [(q_this_leaving, .inl (k_this_leaving, 64, .inl u8))]) (ws2 := [(q_this, .inr (1, [.ref q_this_leaving, .ref q_this_cameFrom, .ref q_this_queue, .int v_this_found, .int v_this_source, .int v_this_goal, .int v_this_dimension, .long v_this_alive])), (q_this_leaving, .inl (k_this_leaving, 64, .inl u8)), (q_this_cameFrom, .inl (k_this_cameFrom, 128, .inl c_this_cameFrom))]) hK hP hD hS hA hE [1] [0] [0, 2] [0, 2, 1] (fun hb1 hp1 => va_runSN (As := [.ref q_this_leaving, .int x4, .int (u7 &&& ((x4 ^^^ x5) ^^^ ((-1) : Int32)))]) (rest := []) ⟨hx, hb, hml, hown, hts⟩ (c_X6_write l D H.size q_this_leaving k_this_leaving 64 c_this_leaving_10 x4 (u7 &&& ((x4 ^^^ x5) ^^^ ((-1) : Int32))) u8 hu8) ⟨va_cnB 3 hts gX1_addPath_X6_write_n85 rfl rfl rfl (hE.1 (RX1, 85, yX6_write, RX6) (List.mem_of_getElem? (i := 23) rfl)) (hts (.initialized RX6) (by decide +kernel)) (by decide +kernel) ⟨Nat.le_of_ble_eq_true rfl, Nat.le_of_ble_eq_true rfl⟩, (hts (.static yX6_write) (by decide +kernel)), trivial⟩ ⟨hb1, hp1⟩ rfl rfl hl.1 rfl (lv_room (Nat.le_of_ble_eq_true rfl)) dX1_addPath_122 ⟨Nat.le_of_ble_eq_true rfl, Nat.le_of_ble_eq_true rfl⟩) rfl rfl rfl rfl rfl rfl rfl rfl rfl rfl (fun H locs hP hD hS => ?_)
              have hP : va_P D vwCl [(q_this, .inr (1, [.ref q_this_leaving, .ref q_this_cameFrom, .ref q_this_queue, .int v_this_found, .int v_this_source, .int v_this_goal, .int v_this_dimension, .long v_this_alive])), (q_this_leaving, .inl (k_this_leaving, 64, .inl u8)), (q_this_cameFrom, .inl (k_this_cameFrom, 128, .inl c_this_cameFrom))] H := hP
              have hD : va_D A [(q_this, .inr (1, [.ref q_this_leaving, .ref q_this_cameFrom, .ref q_this_queue, .int v_this_found, .int v_this_source, .int v_this_goal, .int v_this_dimension, .long v_this_alive])), (q_this_leaving, .inl (k_this_leaving, 64, .inl u8)), (q_this_cameFrom, .inl (k_this_cameFrom, 128, .inl c_this_cameFrom))] := hD
              exact j125 u8 hf H locs ls hP hD hS (lv_sub hl [0, 1, 2] rfl)
          refine lv_icmp_eq (tgt := 92) hx hb dX1_addPath_53 (by decide) (fun cd53 => ?_) (fun cd53 => ?_)
          · replace hf := zite_t cd53 hf
            exact j92  hf H locs ls hP hD hS (lv_sub hl [3, 5, 2, 1, 0] rfl)
          · replace hf := zite_f cd53 hf
            refine lv_iload_n hx hb dX1_addPath_56 rfl (lv_at hl 4 rfl) ?_
            refine lv_iload hx hb dX1_addPath_57 (lv_at hl 1 rfl) ?_
            replace hf := zob_some hf
            obtain ⟨u9, hu9, hf⟩ := hf
            refine kd_i (D := D) (v := u9) (av := [.int x4]) (wc := []) (w1 := []) (ws2 := [(q_this, .inr (1, [.ref q_this_leaving, .ref q_this_cameFrom, .ref q_this_queue, .int v_this_found, .int v_this_source, .int v_this_goal, .int v_this_dimension, .long v_this_alive])), (q_this_leaving, .inl (k_this_leaving, 64, .inl c_this_leaving_10)), (q_this_cameFrom, .inl (k_this_cameFrom, 128, .inl c_this_cameFrom))]) hK hP hD hS hA hE [] [] [0, 1, 2] [0, 1, 2] (fun hb1 hp1 => va_runS (As := [.int x4]) (rest := [.int i1_10]) ⟨hx, hb, hml, hown, hts⟩ (c_X1_entry l D H.size x4 u9 hu9) (va_cwS 1 hts gX1_addPath_X1_entry rfl rfl rfl (by decide +kernel) ⟨Nat.le_of_ble_eq_true rfl, Nat.le_of_ble_eq_true rfl⟩) ⟨hb1, hp1⟩ rfl rfl hl.1 rfl (lv_room (Nat.le_of_ble_eq_true rfl)) dX1_addPath_59 ⟨Nat.le_of_ble_eq_true rfl, Nat.le_of_ble_eq_true rfl⟩) rfl rfl rfl rfl rfl rfl rfl rfl rfl rfl (fun H locs hP hD hS => ?_)
            have hP : va_P D vwCl [(q_this, .inr (1, [.ref q_this_leaving, .ref q_this_cameFrom, .ref q_this_queue, .int v_this_found, .int v_this_source, .int v_this_goal, .int v_this_dimension, .long v_this_alive])), (q_this_leaving, .inl (k_this_leaving, 64, .inl c_this_leaving_10)), (q_this_cameFrom, .inl (k_this_cameFrom, 128, .inl c_this_cameFrom))] H := hP
            have hD : va_D A [(q_this, .inr (1, [.ref q_this_leaving, .ref q_this_cameFrom, .ref q_this_queue, .int v_this_found, .int v_this_source, .int v_this_goal, .int v_this_dimension, .long v_this_alive])), (q_this_leaving, .inl (k_this_leaving, 64, .inl c_this_leaving_10)), (q_this_cameFrom, .inl (k_this_cameFrom, 128, .inl c_this_cameFrom))] := hD
            refine lv_icmp_ne (tgt := 92) hx hb dX1_addPath_62 (by decide) (fun cd62 => ?_) (fun cd62 => ?_)
            · replace hf := zite_f cd62 hf
              exact j92  hf H locs ls hP hD hS (lv_sub hl [3, 5, 2, 1, 0] rfl)
            · replace hf := zite_t cd62 hf
              refine lv_aload_n hx hb dX1_addPath_65 rfl (lv_at hl 3 rfl) ?_
              refine va_get (D := D) (ci := 1) (v := .ref q_this_leaving) (C := RX1) (T := TX1) (N := 8) hx hb hts n_X1_addPath_X1 hown hK hP 0 rfl rfl 0 (by decide) (hts (.fieldLink RX1 9 "FaultyCube$PathPacking" "leaving" "[I") (by decide +kernel)) (fun _ h9 => h9) rfl dX1_addPath_66 ?_
              refine lv_iload hx hb dX1_addPath_69 (lv_at hl 0 rfl) ?_
              refine lv_aload_n hx hb dX1_addPath_71 rfl (lv_at hl 3 rfl) ?_
              refine va_get (D := D) (ci := 1) (v := .ref q_this_leaving) (C := RX1) (T := TX1) (N := 8) hx hb hts n_X1_addPath_X1 hown hK hP 0 rfl rfl 0 (by decide) (hts (.fieldLink RX1 9 "FaultyCube$PathPacking" "leaving" "[I") (by decide +kernel)) (fun _ h9 => h9) rfl dX1_addPath_72 ?_
              refine lv_iload hx hb dX1_addPath_75 (lv_at hl 0 rfl) ?_
              replace hf := zob_some hf
              obtain ⟨u10, hu10, hf⟩ := hf
              refine kd_i (D := D) (v := u10) (av := [.ref q_this_leaving, .int x5]) (wc := [(q_this_leaving, .inl (k_this_leaving, 64, .inl c_this_leaving_10))]) (w1 := [(q_this_leaving, .inl (k_this_leaving, 64, .inl c_this_leaving_10))]) (ws2 := [(q_this, .inr (1, [.ref q_this_leaving, .ref q_this_cameFrom, .ref q_this_queue, .int v_this_found, .int v_this_source, .int v_this_goal, .int v_this_dimension, .long v_this_alive])), (q_this_leaving, .inl (k_this_leaving, 64, .inl c_this_leaving_10)), (q_this_cameFrom, .inl (k_this_cameFrom, 128, .inl c_this_cameFrom))]) hK hP hD hS hA hE [1] [0] [0, 2] [0, 2, 1] (fun hb1 hp1 => va_runSN (As := [.ref q_this_leaving, .int x5]) (rest := [.int x5, .ref q_this_leaving]) ⟨hx, hb, hml, hown, hts⟩ (c_X6_read l D H.size q_this_leaving k_this_leaving 64 c_this_leaving_10 x5 u10 hu10) ⟨va_cnB 2 hts gX1_addPath_X6_read_n69 rfl rfl rfl (hE.1 (RX1, 69, yX6_read, RX6) (List.mem_of_getElem? (i := 22) rfl)) (hts (.initialized RX6) (by decide +kernel)) (by decide +kernel) ⟨Nat.le_of_ble_eq_true rfl, Nat.le_of_ble_eq_true rfl⟩, (hts (.static yX6_read) (by decide +kernel)), trivial⟩ ⟨hb1, hp1⟩ rfl rfl hl.1 rfl (lv_room (Nat.le_of_ble_eq_true rfl)) dX1_addPath_77 ⟨Nat.le_of_ble_eq_true rfl, Nat.le_of_ble_eq_true rfl⟩) rfl rfl rfl rfl rfl rfl rfl rfl rfl rfl (fun H locs hP hD hS => ?_)
              have hP : va_P D vwCl [(q_this, .inr (1, [.ref q_this_leaving, .ref q_this_cameFrom, .ref q_this_queue, .int v_this_found, .int v_this_source, .int v_this_goal, .int v_this_dimension, .long v_this_alive])), (q_this_leaving, .inl (k_this_leaving, 64, .inl c_this_leaving_10)), (q_this_cameFrom, .inl (k_this_cameFrom, 128, .inl c_this_cameFrom))] H := hP
              have hD : va_D A [(q_this, .inr (1, [.ref q_this_leaving, .ref q_this_cameFrom, .ref q_this_queue, .int v_this_found, .int v_this_source, .int v_this_goal, .int v_this_dimension, .long v_this_alive])), (q_this_leaving, .inl (k_this_leaving, 64, .inl c_this_leaving_10)), (q_this_cameFrom, .inl (k_this_cameFrom, 128, .inl c_this_cameFrom))] := hD
              refine lv_iload hx hb dX1_addPath_80 (lv_at hl 1 rfl) ?_
              refine lv_iload hx hb dX1_addPath_82 (lv_at hl 0 rfl) ?_
              refine lv_ixor hx hb dX1_addPath_84 ?_
              refine lv_ior hx hb dX1_addPath_85 ?_
              replace hf := zob_some hf
              obtain ⟨u11, hu11, hf⟩ := hf
              refine kd_v (D := D) (av := [.ref q_this_leaving, .int x5, .int (u10 ||| (x4 ^^^ x5))]) (wc := [(q_this_leaving, .inl (k_this_leaving, 64, .inl c_this_leaving_10))]) (w1 := [(q_this_leaving, .inl (k_this_leaving, 64, .inl u11))]) (ws2 := [(q_this, .inr (1, [.ref q_this_leaving, .ref q_this_cameFrom, .ref q_this_queue, .int v_this_found, .int v_this_source, .int v_this_goal, .int v_this_dimension, .long v_this_alive])), (q_this_leaving, .inl (k_this_leaving, 64, .inl u11)), (q_this_cameFrom, .inl (k_this_cameFrom, 128, .inl c_this_cameFrom))]) hK hP hD hS hA hE [1] [0] [0, 2] [0, 2, 1] (fun hb1 hp1 => va_runSN (As := [.ref q_this_leaving, .int x5, .int (u10 ||| (x4 ^^^ x5))]) (rest := []) ⟨hx, hb, hml, hown, hts⟩ (c_X6_write l D H.size q_this_leaving k_this_leaving 64 c_this_leaving_10 x5 (u10 ||| (x4 ^^^ x5)) u11 hu11) ⟨va_cnB 3 hts gX1_addPath_X6_write_n85 rfl rfl rfl (hE.1 (RX1, 85, yX6_write, RX6) (List.mem_of_getElem? (i := 23) rfl)) (hts (.initialized RX6) (by decide +kernel)) (by decide +kernel) ⟨Nat.le_of_ble_eq_true rfl, Nat.le_of_ble_eq_true rfl⟩, (hts (.static yX6_write) (by decide +kernel)), trivial⟩ ⟨hb1, hp1⟩ rfl rfl hl.1 rfl (lv_room (Nat.le_of_ble_eq_true rfl)) dX1_addPath_86 ⟨Nat.le_of_ble_eq_true rfl, Nat.le_of_ble_eq_true rfl⟩) rfl rfl rfl rfl rfl rfl rfl rfl rfl rfl (fun H locs hP hD hS => ?_)
              have hP : va_P D vwCl [(q_this, .inr (1, [.ref q_this_leaving, .ref q_this_cameFrom, .ref q_this_queue, .int v_this_found, .int v_this_source, .int v_this_goal, .int v_this_dimension, .long v_this_alive])), (q_this_leaving, .inl (k_this_leaving, 64, .inl u11)), (q_this_cameFrom, .inl (k_this_cameFrom, 128, .inl c_this_cameFrom))] H := hP
              have hD : va_D A [(q_this, .inr (1, [.ref q_this_leaving, .ref q_this_cameFrom, .ref q_this_queue, .int v_this_found, .int v_this_source, .int v_this_goal, .int v_this_dimension, .long v_this_alive])), (q_this_leaving, .inl (k_this_leaving, 64, .inl u11)), (q_this_cameFrom, .inl (k_this_cameFrom, 128, .inl c_this_cameFrom))] := hD
              refine lv_goto (tgt := 125) hx hb dX1_addPath_89 (by decide) ?_
              exact j125 u11 hf H locs ls hP hD hS (lv_sub hl [3, 5, 2] rfl)
  exact h10 zfu u1 0 c_this_leaving hf H locs ls hP hD hS (lv_sub hl [2, 1, 0] rfl)
theorem n_X1_largest_X1 : ∀ w ∈ u_ws RX1 TX1 8, w ∈ wsX1_largest := by decide +kernel
abbrev rm_X1_largest : Room := { frames := 4, cells := 0, slots := 0, locals := 90 }
set_option maxHeartbeats 4000000 in
set_option maxRecDepth 100000 in
theorem c_X1_largest (l : Launch) (D : va_G) (sz : Nat) (q_this : Nat) (q_this_leaving : Nat) (q_this_cameFrom : Nat) (q_this_queue : Nat) (k_this_leaving : ClassId) (k_this_cameFrom : ClassId) (k_this_queue : ClassId) (v_this_found : Int32) (v_this_source : Int32) (v_this_goal : Int32) (v_this_dimension : Int32) (v_this_alive : Int64) (c_this_leaving : (Nat → Int32)) (c_this_cameFrom : (Nat → Int32)) (c_this_queue : (Nat → Int32)) (a1 : Int32) (a2 : Int32) (a3 : Int32) (a4 : Int64) (res : rt_X1_largest) (hf : f_X1_largest a1 a2 a3 a4 v_this_found v_this_source v_this_goal v_this_dimension v_this_alive c_this_leaving c_this_cameFrom c_this_queue = some res) : Met l yX1_largest wsX1_largest rm_X1_largest (kP D [.ref q_this, .int a1, .int a2, .int a3, .long a4] [(q_this, .inr (1, [.ref q_this_leaving, .ref q_this_cameFrom, .ref q_this_queue, .int v_this_found, .int v_this_source, .int v_this_goal, .int v_this_dimension, .long v_this_alive])), (q_this_leaving, .inl (k_this_leaving, 64, .inl c_this_leaving)), (q_this_cameFrom, .inl (k_this_cameFrom, 128, .inl c_this_cameFrom)), (q_this_queue, .inl (k_this_queue, 128, .inl c_this_queue))] [(k_this_leaving, .int), (k_this_cameFrom, .int), (k_this_queue, .int)] sz) (kQi D (va_A [(q_this, .inr (1, [.ref q_this_leaving, .ref q_this_cameFrom, .ref q_this_queue, .int v_this_found, .int v_this_source, .int v_this_goal, .int v_this_dimension, .long v_this_alive])), (q_this_leaving, .inl (k_this_leaving, 64, .inl c_this_leaving)), (q_this_cameFrom, .inl (k_this_cameFrom, 128, .inl c_this_cameFrom)), (q_this_queue, .inl (k_this_queue, 128, .inl c_this_queue))] sz) [(k_this_leaving, .int), (k_this_cameFrom, .int), (k_this_queue, .int)] res.1 [(q_this, .inr (1, [.ref q_this_leaving, .ref q_this_cameFrom, .ref q_this_queue, .int res.2.1, .int res.2.2.1, .int res.2.2.2.1, .int res.2.2.2.2.1, .long res.2.2.2.2.2.1])), (q_this_leaving, .inl (k_this_leaving, 64, .inl res.2.2.2.2.2.2.1)), (q_this_cameFrom, .inl (k_this_cameFrom, 128, .inl res.2.2.2.2.2.2.2.1)), (q_this_queue, .inl (k_this_queue, 128, .inl res.2.2.2.2.2.2.2.2))]) 0 0 (va_A [(q_this, .inr (1, [.ref q_this_leaving, .ref q_this_cameFrom, .ref q_this_queue, .int v_this_found, .int v_this_source, .int v_this_goal, .int v_this_dimension, .long v_this_alive])), (q_this_leaving, .inl (k_this_leaving, 64, .inl c_this_leaving)), (q_this_cameFrom, .inl (k_this_cameFrom, 128, .inl c_this_cameFrom)), (q_this_queue, .inl (k_this_queue, 128, .inl c_this_queue))] sz) := by
  refine Met.ofW (cc := cX1_largest) (maxL := 8) (ret := (some .int)) (by decide +kernel) rfl ?_
  intro p e s m args below meth c s₁ B hml hv
  obtain ⟨hargs, hsz, hP, hK, hD0, hE⟩ := hv
  have hx := B.exec
  have hb := B.bytes
  have hr := B.returns
  have hts := atoms_spec (ws := wsX1_largest) B.pre
  have hown : s.vm.findClass RX1 = some m.cls := findClass_of_methodNamed B.named
  have hlocks := B.notSynchronized
  subst hsz
  have hD := hD0.self (sz := s.heap.size)
  generalize hAe : va_A [(q_this, .inr (1, [.ref q_this_leaving, .ref q_this_cameFrom, .ref q_this_queue, .int v_this_found, .int v_this_source, .int v_this_goal, .int v_this_dimension, .long v_this_alive])), (q_this_leaving, .inl (k_this_leaving, 64, .inl c_this_leaving)), (q_this_cameFrom, .inl (k_this_cameFrom, 128, .inl c_this_cameFrom)), (q_this_queue, .inl (k_this_queue, 128, .inl c_this_queue))] s.heap.size = A at hD hE ⊢
  have hA : ∀ q : Nat, s.heap.size ≤ q → A q := fun q h => by rw [← hAe]; exact Or.inr h
  have hS : va_S A s.heap s.heap [] := va_S.rf
  refine kgen (fun Q eQ => ?_)
  refine kent (av := [.ref q_this, .int a1, .int a2, .int a3, .long a4]) hargs (Nat.le_of_ble_eq_true rfl) (fun ls hl => ?_)
  have hl : lv_has ls 8 [(0, .ref q_this), (1, .int a1), (2, .int a2), (3, .int a3), (4, .long a4)] := hl
  show W p l e rm_X1_largest s m args below meth c s.heap [] 0 0 Q (F0 m 0 ls [])
  unfold f_X1_largest at hf
  refine lv_aload_n hx hb dX1_largest_0 rfl (lv_at hl 0 rfl) ?_
  refine lv_iload_n hx hb dX1_largest_1 rfl (lv_at hl 1 rfl) ?_
  refine va_put (D := D) (ci := 1) (v := .int a1) (ty := .int) (C := RX1) (T := TX1) (N := 8) hx hb hts n_X1_largest_X1 tyX1 tyX1_ok nmX1 hown hK hP hD hS 0 rfl rfl 4 (by decide) (hts (.fieldLink RX1 21 "FaultyCube$PathPacking" "source" "I") (by decide +kernel)) (fun _ h9 => h9) rfl (by decide +kernel) rfl rfl (Nat.le_of_ble_eq_true rfl) dX1_largest_2 (fun H locs hP hD hS => ?_)
  have hP : va_P D vwCl [(q_this, .inr (1, [.ref q_this_leaving, .ref q_this_cameFrom, .ref q_this_queue, .int v_this_found, .int a1, .int v_this_goal, .int v_this_dimension, .long v_this_alive])), (q_this_leaving, .inl (k_this_leaving, 64, .inl c_this_leaving)), (q_this_cameFrom, .inl (k_this_cameFrom, 128, .inl c_this_cameFrom)), (q_this_queue, .inl (k_this_queue, 128, .inl c_this_queue))] H := hP
  have hD : va_D A [(q_this, .inr (1, [.ref q_this_leaving, .ref q_this_cameFrom, .ref q_this_queue, .int v_this_found, .int a1, .int v_this_goal, .int v_this_dimension, .long v_this_alive])), (q_this_leaving, .inl (k_this_leaving, 64, .inl c_this_leaving)), (q_this_cameFrom, .inl (k_this_cameFrom, 128, .inl c_this_cameFrom)), (q_this_queue, .inl (k_this_queue, 128, .inl c_this_queue))] := hD
  refine lv_aload_n hx hb dX1_largest_5 rfl (lv_at hl 0 rfl) ?_
  refine lv_iload_n hx hb dX1_largest_6 rfl (lv_at hl 2 rfl) ?_
  refine va_put (D := D) (ci := 1) (v := .int a2) (ty := .int) (C := RX1) (T := TX1) (N := 8) hx hb hts n_X1_largest_X1 tyX1 tyX1_ok nmX1 hown hK hP hD hS 0 rfl rfl 5 (by decide) (hts (.fieldLink RX1 25 "FaultyCube$PathPacking" "goal" "I") (by decide +kernel)) (fun _ h9 => h9) rfl (by decide +kernel) rfl rfl (Nat.le_of_ble_eq_true rfl) dX1_largest_7 (fun H locs hP hD hS => ?_)
  have hP : va_P D vwCl [(q_this, .inr (1, [.ref q_this_leaving, .ref q_this_cameFrom, .ref q_this_queue, .int v_this_found, .int a1, .int a2, .int v_this_dimension, .long v_this_alive])), (q_this_leaving, .inl (k_this_leaving, 64, .inl c_this_leaving)), (q_this_cameFrom, .inl (k_this_cameFrom, 128, .inl c_this_cameFrom)), (q_this_queue, .inl (k_this_queue, 128, .inl c_this_queue))] H := hP
  have hD : va_D A [(q_this, .inr (1, [.ref q_this_leaving, .ref q_this_cameFrom, .ref q_this_queue, .int v_this_found, .int a1, .int a2, .int v_this_dimension, .long v_this_alive])), (q_this_leaving, .inl (k_this_leaving, 64, .inl c_this_leaving)), (q_this_cameFrom, .inl (k_this_cameFrom, 128, .inl c_this_cameFrom)), (q_this_queue, .inl (k_this_queue, 128, .inl c_this_queue))] := hD
  refine lv_aload_n hx hb dX1_largest_10 rfl (lv_at hl 0 rfl) ?_
  refine lv_iload_n hx hb dX1_largest_11 rfl (lv_at hl 3 rfl) ?_
  refine va_put (D := D) (ci := 1) (v := .int a3) (ty := .int) (C := RX1) (T := TX1) (N := 8) hx hb hts n_X1_largest_X1 tyX1 tyX1_ok nmX1 hown hK hP hD hS 0 rfl rfl 6 (by decide) (hts (.fieldLink RX1 28 "FaultyCube$PathPacking" "dimension" "I") (by decide +kernel)) (fun _ h9 => h9) rfl (by decide +kernel) rfl rfl (Nat.le_of_ble_eq_true rfl) dX1_largest_12 (fun H locs hP hD hS => ?_)
  have hP : va_P D vwCl [(q_this, .inr (1, [.ref q_this_leaving, .ref q_this_cameFrom, .ref q_this_queue, .int v_this_found, .int a1, .int a2, .int a3, .long v_this_alive])), (q_this_leaving, .inl (k_this_leaving, 64, .inl c_this_leaving)), (q_this_cameFrom, .inl (k_this_cameFrom, 128, .inl c_this_cameFrom)), (q_this_queue, .inl (k_this_queue, 128, .inl c_this_queue))] H := hP
  have hD : va_D A [(q_this, .inr (1, [.ref q_this_leaving, .ref q_this_cameFrom, .ref q_this_queue, .int v_this_found, .int a1, .int a2, .int a3, .long v_this_alive])), (q_this_leaving, .inl (k_this_leaving, 64, .inl c_this_leaving)), (q_this_cameFrom, .inl (k_this_cameFrom, 128, .inl c_this_cameFrom)), (q_this_queue, .inl (k_this_queue, 128, .inl c_this_queue))] := hD
  refine lv_aload_n hx hb dX1_largest_15 rfl (lv_at hl 0 rfl) ?_
  refine lv_lload hx hb dX1_largest_16 (lv_at hl 4 rfl) ?_
  refine va_put (D := D) (ci := 1) (v := .long a4) (ty := .long) (C := RX1) (T := TX1) (N := 8) hx hb hts n_X1_largest_X1 tyX1 tyX1_ok nmX1 hown hK hP hD hS 0 rfl rfl 7 (by decide) (hts (.fieldLink RX1 31 "FaultyCube$PathPacking" "alive" "J") (by decide +kernel)) (fun _ h9 => h9) rfl (by decide +kernel) rfl rfl (Nat.le_of_ble_eq_true rfl) dX1_largest_18 (fun H locs hP hD hS => ?_)
  have hP : va_P D vwCl [(q_this, .inr (1, [.ref q_this_leaving, .ref q_this_cameFrom, .ref q_this_queue, .int v_this_found, .int a1, .int a2, .int a3, .long a4])), (q_this_leaving, .inl (k_this_leaving, 64, .inl c_this_leaving)), (q_this_cameFrom, .inl (k_this_cameFrom, 128, .inl c_this_cameFrom)), (q_this_queue, .inl (k_this_queue, 128, .inl c_this_queue))] H := hP
  have hD : va_D A [(q_this, .inr (1, [.ref q_this_leaving, .ref q_this_cameFrom, .ref q_this_queue, .int v_this_found, .int a1, .int a2, .int a3, .long a4])), (q_this_leaving, .inl (k_this_leaving, 64, .inl c_this_leaving)), (q_this_cameFrom, .inl (k_this_cameFrom, 128, .inl c_this_cameFrom)), (q_this_queue, .inl (k_this_queue, 128, .inl c_this_queue))] := hD
  refine lv_aload_n hx hb dX1_largest_21 rfl (lv_at hl 0 rfl) ?_
  refine va_get (D := D) (ci := 1) (v := .ref q_this_leaving) (C := RX1) (T := TX1) (N := 8) hx hb hts n_X1_largest_X1 hown hK hP 0 rfl rfl 0 (by decide) (hts (.fieldLink RX1 9 "FaultyCube$PathPacking" "leaving" "[I") (by decide +kernel)) (fun _ h9 => h9) rfl dX1_largest_22 ?_
  refine lv_iconst (v := 0) hx hb dX1_largest_25 (by decide) ?_
  replace hf := zob_some hf
  obtain ⟨u1, hu1, hf⟩ := hf
  refine kd_v (D := D) (av := [.ref q_this_leaving, .int 0]) (wc := [(q_this_leaving, .inl (k_this_leaving, 64, .inl c_this_leaving))]) (w1 := [(q_this_leaving, .inl (k_this_leaving, 64, .inl u1))]) (ws2 := [(q_this, .inr (1, [.ref q_this_leaving, .ref q_this_cameFrom, .ref q_this_queue, .int v_this_found, .int a1, .int a2, .int a3, .long a4])), (q_this_leaving, .inl (k_this_leaving, 64, .inl u1)), (q_this_cameFrom, .inl (k_this_cameFrom, 128, .inl c_this_cameFrom)), (q_this_queue, .inl (k_this_queue, 128, .inl c_this_queue))]) hK hP hD hS hA hE [1] [0] [0, 2, 3] [0, 3, 1, 2] (fun hb1 hp1 => va_runS (As := [.ref q_this_leaving, .int 0]) (rest := []) ⟨hx, hb, hml, hown, hts⟩ (c_J7_fill_53178 l D H.size q_this_leaving k_this_leaving 64 c_this_leaving 0 u1 hu1) (va_cwS 2 hts gX1_largest_J7_fill_53178 rfl rfl rfl (by decide +kernel) ⟨Nat.le_of_ble_eq_true rfl, Nat.le_of_ble_eq_true rfl⟩) ⟨hb1, hp1⟩ rfl rfl hl.1 rfl (lv_room (Nat.le_of_ble_eq_true rfl)) dX1_largest_26 ⟨Nat.le_of_ble_eq_true rfl, Nat.le_of_ble_eq_true rfl⟩) rfl rfl rfl rfl rfl rfl rfl rfl rfl rfl (fun H locs hP hD hS => ?_)
  have hP : va_P D vwCl [(q_this, .inr (1, [.ref q_this_leaving, .ref q_this_cameFrom, .ref q_this_queue, .int v_this_found, .int a1, .int a2, .int a3, .long a4])), (q_this_leaving, .inl (k_this_leaving, 64, .inl u1)), (q_this_cameFrom, .inl (k_this_cameFrom, 128, .inl c_this_cameFrom)), (q_this_queue, .inl (k_this_queue, 128, .inl c_this_queue))] H := hP
  have hD : va_D A [(q_this, .inr (1, [.ref q_this_leaving, .ref q_this_cameFrom, .ref q_this_queue, .int v_this_found, .int a1, .int a2, .int a3, .long a4])), (q_this_leaving, .inl (k_this_leaving, 64, .inl u1)), (q_this_cameFrom, .inl (k_this_cameFrom, 128, .inl c_this_cameFrom)), (q_this_queue, .inl (k_this_queue, 128, .inl c_this_queue))] := hD
  refine lv_iconst (v := 0) hx hb dX1_largest_29 (by decide) ?_
  refine lv_istore (lv' := [(6, .int 0), (0, .ref q_this), (1, .int a1), (2, .int a2), (3, .int a3), (4, .long a4)]) hx hb dX1_largest_30 hl (by decide) rfl (fun ls hl => ?_)
  refine lv_iconst (v := 0) hx hb dX1_largest_32 (by decide) ?_
  refine lv_istore (lv' := [(7, .int 0), (6, .int 0), (0, .ref q_this), (1, .int a1), (2, .int a2), (3, .int a3), (4, .long a4)]) hx hb dX1_largest_33 hl (by decide) rfl (fun ls hl => ?_)
  replace hf := zl6_some hf
  obtain ⟨F35, eF35, hf⟩ := hf
  have h35 : ∀ (n35 : Nat) (i6_35 : Int32) (i7_35 : Int32) (v_this_found_35 : Int32) (c_this_leaving_35 : (Nat → Int32)) (c_this_cameFrom_35 : (Nat → Int32)) (c_this_queue_35 : (Nat → Int32)), zl6 F35 n35 i6_35 i7_35 v_this_found_35 c_this_leaving_35 c_this_cameFrom_35 c_this_queue_35 = some res → ∀ (H : Heap) (locs : List Loc) (ls : Array Slot), va_P D vwCl [(q_this, .inr (1, [.ref q_this_leaving, .ref q_this_cameFrom, .ref q_this_queue, .int v_this_found_35, .int a1, .int a2, .int a3, .long a4])), (q_this_leaving, .inl (k_this_leaving, 64, .inl c_this_leaving_35)), (q_this_cameFrom, .inl (k_this_cameFrom, 128, .inl c_this_cameFrom_35)), (q_this_queue, .inl (k_this_queue, 128, .inl c_this_queue_35))] H → va_D A [(q_this, .inr (1, [.ref q_this_leaving, .ref q_this_cameFrom, .ref q_this_queue, .int v_this_found_35, .int a1, .int a2, .int a3, .long a4])), (q_this_leaving, .inl (k_this_leaving, 64, .inl c_this_leaving_35)), (q_this_cameFrom, .inl (k_this_cameFrom, 128, .inl c_this_cameFrom_35)), (q_this_queue, .inl (k_this_queue, 128, .inl c_this_queue_35))] → va_S A s.heap H locs → lv_has ls 8 [(0, .ref q_this), (6, .int i6_35), (7, .int i7_35)] → W p l e rm_X1_largest s m args below meth c H locs 0 0 Q (F0 m 35 ls []) := by
    intro n35
    induction n35 with
    | zero => intro i6_35 i7_35 v_this_found_35 c_this_leaving_35 c_this_cameFrom_35 c_this_queue_35 hf; exact (zl6_zero hf).elim
    | succ n35 ih35 =>
      intro i6_35 i7_35 v_this_found_35 c_this_leaving_35 c_this_cameFrom_35 c_this_queue_35 hf H locs ls hP hD hS hl
      replace hf := zl6_step eF35 hf
      generalize zl6 F35 n35 = k35 at hf ih35
      refine lv_iload hx hb dX1_largest_35 (lv_at hl 2 rfl) ?_
      refine lv_bipush (v := 6) hx hb dX1_largest_37 (by decide) ?_
      refine lv_icmp_ge (tgt := 65) hx hb dX1_largest_39 (by decide) (fun cd39 => ?_) (fun cd39 => ?_)
      · replace hf := zite_t cd39 hf
        refine lv_iload hx hb dX1_largest_65 (lv_at hl 1 rfl) ?_
        obtain rfl := Option.some.inj hf
        subst eQ
        exact kr_i hx hb hr hlocks hK hP hD hS dX1_largest_67
      · replace hf := zite_f cd39 hf
        refine lv_aload_n hx hb dX1_largest_42 rfl (lv_at hl 0 rfl) ?_
        replace hf := zob_some hf
        obtain ⟨u2, hu2, hf⟩ := hf
        refine kd_i (D := D) (v := u2.1) (av := [.ref q_this]) (wc := [(q_this, .inr (1, [.ref q_this_leaving, .ref q_this_cameFrom, .ref q_this_queue, .int v_this_found_35, .int a1, .int a2, .int a3, .long a4])), (q_this_leaving, .inl (k_this_leaving, 64, .inl c_this_leaving_35)), (q_this_cameFrom, .inl (k_this_cameFrom, 128, .inl c_this_cameFrom_35)), (q_this_queue, .inl (k_this_queue, 128, .inl c_this_queue_35))]) (w1 := [(q_this, .inr (1, [.ref q_this_leaving, .ref q_this_cameFrom, .ref q_this_queue, .int u2.2.1, .int a1, .int a2, .int a3, .long a4])), (q_this_leaving, .inl (k_this_leaving, 64, .inl c_this_leaving_35)), (q_this_cameFrom, .inl (k_this_cameFrom, 128, .inl u2.2.2.1)), (q_this_queue, .inl (k_this_queue, 128, .inl u2.2.2.2))]) (ws2 := [(q_this, .inr (1, [.ref q_this_leaving, .ref q_this_cameFrom, .ref q_this_queue, .int u2.2.1, .int a1, .int a2, .int a3, .long a4])), (q_this_leaving, .inl (k_this_leaving, 64, .inl c_this_leaving_35)), (q_this_cameFrom, .inl (k_this_cameFrom, 128, .inl u2.2.2.1)), (q_this_queue, .inl (k_this_queue, 128, .inl u2.2.2.2))]) hK hP hD hS hA hE [0, 1, 2, 3] [0, 1, 2] [] [0, 1, 2, 3] (fun hb1 hp1 => va_runV (As := []) (rest := []) ⟨hx, hb, hml, hown, hts⟩ (c_X1_findsPath l D H.size q_this q_this_leaving q_this_cameFrom q_this_queue k_this_leaving k_this_cameFrom k_this_queue v_this_found_35 a1 a2 a3 a4 c_this_leaving_35 c_this_cameFrom_35 c_this_queue_35 u2 hu2) (cwV 0 hts gX1_largest_X1_findsPath rfl rfl rfl (by decide +kernel) ⟨Nat.le_of_ble_eq_true rfl, Nat.le_of_ble_eq_true rfl⟩) ⟨hb1, va_recv hK hP (ci := 1) (q0 := 0) rfl rfl, hp1⟩ rfl rfl hl.1 rfl (lv_room (Nat.le_of_ble_eq_true rfl)) dX1_largest_43 ⟨Nat.le_of_ble_eq_true rfl, Nat.le_of_ble_eq_true rfl⟩) rfl rfl rfl rfl rfl rfl rfl rfl rfl rfl (fun H locs hP hD hS => ?_)
        have hP : va_P D vwCl [(q_this, .inr (1, [.ref q_this_leaving, .ref q_this_cameFrom, .ref q_this_queue, .int u2.2.1, .int a1, .int a2, .int a3, .long a4])), (q_this_leaving, .inl (k_this_leaving, 64, .inl c_this_leaving_35)), (q_this_cameFrom, .inl (k_this_cameFrom, 128, .inl u2.2.2.1)), (q_this_queue, .inl (k_this_queue, 128, .inl u2.2.2.2))] H := hP
        have hD : va_D A [(q_this, .inr (1, [.ref q_this_leaving, .ref q_this_cameFrom, .ref q_this_queue, .int u2.2.1, .int a1, .int a2, .int a3, .long a4])), (q_this_leaving, .inl (k_this_leaving, 64, .inl c_this_leaving_35)), (q_this_cameFrom, .inl (k_this_cameFrom, 128, .inl u2.2.2.1)), (q_this_queue, .inl (k_this_queue, 128, .inl u2.2.2.2))] := hD
        refine lv_if_ne (tgt := 52) hx hb dX1_largest_46 (by decide) (fun cd46 => ?_) (fun cd46 => ?_)
        · replace hf := zite_f cd46 hf
          refine lv_aload_n hx hb dX1_largest_52 rfl (lv_at hl 0 rfl) ?_
          replace hf := zob_some hf
          obtain ⟨u3, hu3, hf⟩ := hf
          refine kd_v (D := D) (av := [.ref q_this]) (wc := [(q_this, .inr (1, [.ref q_this_leaving, .ref q_this_cameFrom, .ref q_this_queue, .int u2.2.1, .int a1, .int a2, .int a3, .long a4])), (q_this_leaving, .inl (k_this_leaving, 64, .inl c_this_leaving_35)), (q_this_cameFrom, .inl (k_this_cameFrom, 128, .inl u2.2.2.1))]) (w1 := [(q_this, .inr (1, [.ref q_this_leaving, .ref q_this_cameFrom, .ref q_this_queue, .int u2.2.1, .int a1, .int a2, .int a3, .long a4])), (q_this_leaving, .inl (k_this_leaving, 64, .inl u3)), (q_this_cameFrom, .inl (k_this_cameFrom, 128, .inl u2.2.2.1))]) (ws2 := [(q_this, .inr (1, [.ref q_this_leaving, .ref q_this_cameFrom, .ref q_this_queue, .int u2.2.1, .int a1, .int a2, .int a3, .long a4])), (q_this_leaving, .inl (k_this_leaving, 64, .inl u3)), (q_this_cameFrom, .inl (k_this_cameFrom, 128, .inl u2.2.2.1)), (q_this_queue, .inl (k_this_queue, 128, .inl u2.2.2.2))]) hK hP hD hS hA hE [0, 1, 2] [0, 1] [3] [1, 2, 3, 0] (fun hb1 hp1 => va_runV (As := []) (rest := []) ⟨hx, hb, hml, hown, hts⟩ (c_X1_addPath l D H.size q_this q_this_leaving q_this_cameFrom q_this_queue k_this_leaving k_this_cameFrom u2.2.1 a1 a2 a3 a4 c_this_leaving_35 u2.2.2.1 u3 hu3) (cwV 0 hts gX1_largest_X1_addPath rfl rfl rfl (by decide +kernel) ⟨Nat.le_of_ble_eq_true rfl, Nat.le_of_ble_eq_true rfl⟩) ⟨hb1, va_recv hK hP (ci := 1) (q0 := 0) rfl rfl, hp1⟩ rfl rfl hl.1 rfl (lv_room (Nat.le_of_ble_eq_true rfl)) dX1_largest_53 ⟨Nat.le_of_ble_eq_true rfl, Nat.le_of_ble_eq_true rfl⟩) rfl rfl rfl rfl rfl rfl rfl rfl rfl rfl (fun H locs hP hD hS => ?_)
          have hP : va_P D vwCl [(q_this, .inr (1, [.ref q_this_leaving, .ref q_this_cameFrom, .ref q_this_queue, .int u2.2.1, .int a1, .int a2, .int a3, .long a4])), (q_this_leaving, .inl (k_this_leaving, 64, .inl u3)), (q_this_cameFrom, .inl (k_this_cameFrom, 128, .inl u2.2.2.1)), (q_this_queue, .inl (k_this_queue, 128, .inl u2.2.2.2))] H := hP
          have hD : va_D A [(q_this, .inr (1, [.ref q_this_leaving, .ref q_this_cameFrom, .ref q_this_queue, .int u2.2.1, .int a1, .int a2, .int a3, .long a4])), (q_this_leaving, .inl (k_this_leaving, 64, .inl u3)), (q_this_cameFrom, .inl (k_this_cameFrom, 128, .inl u2.2.2.1)), (q_this_queue, .inl (k_this_queue, 128, .inl u2.2.2.2))] := hD
          obtain ⟨x4, ex4⟩ : ∃ y : Int32, y = i6_35 + 1 := ⟨_, rfl⟩
          replace hf := zbd_of ex4 hf
          refine lv_iinc (v := x4) (lv' := [(6, .int x4), (0, .ref q_this), (7, .int i7_35)]) hx hb dX1_largest_56 hl (k := 1) rfl (by rw [ex4]; rfl) (by decide) rfl (fun ls hl => ?_)
          obtain ⟨x5, ex5⟩ : ∃ y : Int32, y = i7_35 + 1 := ⟨_, rfl⟩
          replace hf := zbd_of ex5 hf
          refine lv_iinc (v := x5) (lv' := [(7, .int x5), (6, .int x4), (0, .ref q_this)]) hx hb dX1_largest_59 hl (k := 2) rfl (by rw [ex5]; rfl) (by decide) rfl (fun ls hl => ?_)
          refine lv_goto (tgt := 35) hx hb dX1_largest_62 (by decide) ?_
          exact ih35 x4 x5 u2.2.1 u3 u2.2.2.1 u2.2.2.2 hf H locs ls hP hD hS (lv_sub hl [2, 1, 0] rfl)
        · replace hf := zite_t cd46 hf
          refine lv_iload hx hb dX1_largest_49 (lv_at hl 1 rfl) ?_
          obtain rfl := Option.some.inj hf
          subst eQ
          exact kr_i hx hb hr hlocks hK hP hD hS dX1_largest_51
  exact h35 zfu 0 0 v_this_found u1 c_this_cameFrom c_this_queue hf H locs ls hP hD hS (lv_sub hl [2, 1, 0] rfl)
