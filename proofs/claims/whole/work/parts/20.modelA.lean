theorem n_X7_thrown_X7 : ∀ w ∈ u_ws RX7 TX7 19, w ∈ wsX7_thrown := by decide +kernel
abbrev rm_X7_thrown : Room := { frames := 0, cells := 0, slots := 0, locals := 0 }
set_option maxHeartbeats 4000000 in
set_option maxRecDepth 100000 in
theorem c_X7_thrown (l : Launch) (D : va_G) (sz : Nat) (q_this : Nat) (q_this_now : Nat) (q_this_past : Nat) (q_this_list : Nat) (q_this_at : Nat) (q_this_levels : Nat) (q_this_newer : Nat) (q_this_howMany : Nat) (q_this_vectors : Nat) (q_this_dims : Nat) (q_this_comes : Nat) (q_this_goes : Nat) (q_this_cameFrom : Nat) (q_this_halves : Nat) (q_this_way : Nat) (q_this_used : Nat) (v_this_saved : Int32) (v_this_refusal : Int32) (v_this_halfMany : Int32) (v_this_hash : Int64) (res : rt_X7_thrown) (hf : f_X7_thrown v_this_refusal = some res) : Met l yX7_thrown wsX7_thrown rm_X7_thrown (kP D [.ref q_this] [(q_this, .inr (7, [.ref q_this_now, .ref q_this_past, .int v_this_saved, .int v_this_refusal, .ref q_this_list, .ref q_this_at, .ref q_this_levels, .ref q_this_newer, .ref q_this_howMany, .ref q_this_vectors, .ref q_this_dims, .ref q_this_comes, .ref q_this_goes, .ref q_this_cameFrom, .ref q_this_halves, .int v_this_halfMany, .ref q_this_way, .ref q_this_used, .long v_this_hash]))] [] sz) (kQi D (va_A [(q_this, .inr (7, [.ref q_this_now, .ref q_this_past, .int v_this_saved, .int v_this_refusal, .ref q_this_list, .ref q_this_at, .ref q_this_levels, .ref q_this_newer, .ref q_this_howMany, .ref q_this_vectors, .ref q_this_dims, .ref q_this_comes, .ref q_this_goes, .ref q_this_cameFrom, .ref q_this_halves, .int v_this_halfMany, .ref q_this_way, .ref q_this_used, .long v_this_hash]))] sz) [] res [(q_this, .inr (7, [.ref q_this_now, .ref q_this_past, .int v_this_saved, .int v_this_refusal, .ref q_this_list, .ref q_this_at, .ref q_this_levels, .ref q_this_newer, .ref q_this_howMany, .ref q_this_vectors, .ref q_this_dims, .ref q_this_comes, .ref q_this_goes, .ref q_this_cameFrom, .ref q_this_halves, .int v_this_halfMany, .ref q_this_way, .ref q_this_used, .long v_this_hash]))]) 0 0 (va_A [(q_this, .inr (7, [.ref q_this_now, .ref q_this_past, .int v_this_saved, .int v_this_refusal, .ref q_this_list, .ref q_this_at, .ref q_this_levels, .ref q_this_newer, .ref q_this_howMany, .ref q_this_vectors, .ref q_this_dims, .ref q_this_comes, .ref q_this_goes, .ref q_this_cameFrom, .ref q_this_halves, .int v_this_halfMany, .ref q_this_way, .ref q_this_used, .long v_this_hash]))] sz) := by
  refine Met.ofW (cc := cX7_thrown) (maxL := 1) (ret := (some .int)) (by decide +kernel) rfl ?_
  intro p e s m args below meth c s₁ B hml hv
  obtain ⟨hargs, hsz, hP, hK, hD0, hE⟩ := hv
  have hx := B.exec
  have hb := B.bytes
  have hr := B.returns
  have hts := atoms_spec (ws := wsX7_thrown) B.pre
  have hown : s.vm.findClass RX7 = some m.cls := findClass_of_methodNamed B.named
  have hlocks := B.notSynchronized
  subst hsz
  have hD := hD0.self (sz := s.heap.size)
  generalize hAe : va_A [(q_this, .inr (7, [.ref q_this_now, .ref q_this_past, .int v_this_saved, .int v_this_refusal, .ref q_this_list, .ref q_this_at, .ref q_this_levels, .ref q_this_newer, .ref q_this_howMany, .ref q_this_vectors, .ref q_this_dims, .ref q_this_comes, .ref q_this_goes, .ref q_this_cameFrom, .ref q_this_halves, .int v_this_halfMany, .ref q_this_way, .ref q_this_used, .long v_this_hash]))] s.heap.size = A at hD hE ⊢
  have hA : ∀ q : Nat, s.heap.size ≤ q → A q := fun q h => by rw [← hAe]; exact Or.inr h
  have hS : va_S A s.heap s.heap [] := va_S.rf
  refine kgen (fun Q eQ => ?_)
  refine kent (av := [.ref q_this]) hargs (Nat.le_of_ble_eq_true rfl) (fun ls hl => ?_)
  have hl : lv_has ls 1 [(0, .ref q_this)] := hl
  show W p l e rm_X7_thrown s m args below meth c s.heap [] 0 0 Q (F0 m 0 ls [])
  unfold f_X7_thrown at hf
  refine lv_aload_n hx hb dX7_thrown_0 rfl (lv_at hl 0 rfl) ?_
  refine va_get (D := D) (ci := 7) (v := .int v_this_refusal) (C := RX7) (T := TX7) (N := 19) hx hb hts n_X7_thrown_X7 hown hK hP 0 rfl rfl 3 (by decide) (hts (.fieldLink RX7 56 "FaultyCubeModel" "refusal" "I") (by decide +kernel)) (fun _ h9 => h9) rfl dX7_thrown_1 ?_
  obtain rfl := Option.some.inj hf
  subst eQ
  exact kr_i hx hb hr hlocks hK hP hD hS dX7_thrown_4
theorem n_X7_refused_X7 : ∀ w ∈ u_ws RX7 TX7 19, w ∈ wsX7_refused := by decide +kernel
abbrev rm_X7_refused : Room := { frames := 0, cells := 0, slots := 0, locals := 0 }
set_option maxHeartbeats 4000000 in
set_option maxRecDepth 100000 in
theorem c_X7_refused (l : Launch) (D : va_G) (sz : Nat) (q_this : Nat) (q_this_now : Nat) (q_this_past : Nat) (q_this_list : Nat) (q_this_at : Nat) (q_this_levels : Nat) (q_this_newer : Nat) (q_this_howMany : Nat) (q_this_vectors : Nat) (q_this_dims : Nat) (q_this_comes : Nat) (q_this_goes : Nat) (q_this_cameFrom : Nat) (q_this_halves : Nat) (q_this_way : Nat) (q_this_used : Nat) (v_this_saved : Int32) (v_this_refusal : Int32) (v_this_halfMany : Int32) (v_this_hash : Int64) (a1 : Int32) (res : rt_X7_refused) (hf : f_X7_refused a1 v_this_refusal = some res) : Met l yX7_refused wsX7_refused rm_X7_refused (kP D [.ref q_this, .int a1] [(q_this, .inr (7, [.ref q_this_now, .ref q_this_past, .int v_this_saved, .int v_this_refusal, .ref q_this_list, .ref q_this_at, .ref q_this_levels, .ref q_this_newer, .ref q_this_howMany, .ref q_this_vectors, .ref q_this_dims, .ref q_this_comes, .ref q_this_goes, .ref q_this_cameFrom, .ref q_this_halves, .int v_this_halfMany, .ref q_this_way, .ref q_this_used, .long v_this_hash]))] [] sz) (kQi D (va_A [(q_this, .inr (7, [.ref q_this_now, .ref q_this_past, .int v_this_saved, .int v_this_refusal, .ref q_this_list, .ref q_this_at, .ref q_this_levels, .ref q_this_newer, .ref q_this_howMany, .ref q_this_vectors, .ref q_this_dims, .ref q_this_comes, .ref q_this_goes, .ref q_this_cameFrom, .ref q_this_halves, .int v_this_halfMany, .ref q_this_way, .ref q_this_used, .long v_this_hash]))] sz) [] res.1 [(q_this, .inr (7, [.ref q_this_now, .ref q_this_past, .int v_this_saved, .int res.2, .ref q_this_list, .ref q_this_at, .ref q_this_levels, .ref q_this_newer, .ref q_this_howMany, .ref q_this_vectors, .ref q_this_dims, .ref q_this_comes, .ref q_this_goes, .ref q_this_cameFrom, .ref q_this_halves, .int v_this_halfMany, .ref q_this_way, .ref q_this_used, .long v_this_hash]))]) 0 0 (va_A [(q_this, .inr (7, [.ref q_this_now, .ref q_this_past, .int v_this_saved, .int v_this_refusal, .ref q_this_list, .ref q_this_at, .ref q_this_levels, .ref q_this_newer, .ref q_this_howMany, .ref q_this_vectors, .ref q_this_dims, .ref q_this_comes, .ref q_this_goes, .ref q_this_cameFrom, .ref q_this_halves, .int v_this_halfMany, .ref q_this_way, .ref q_this_used, .long v_this_hash]))] sz) := by
  refine Met.ofW (cc := cX7_refused) (maxL := 2) (ret := (some .boolean)) (by decide +kernel) rfl ?_
  intro p e s m args below meth c s₁ B hml hv
  obtain ⟨hargs, hsz, hP, hK, hD0, hE⟩ := hv
  have hx := B.exec
  have hb := B.bytes
  have hr := B.returns
  have hts := atoms_spec (ws := wsX7_refused) B.pre
  have hown : s.vm.findClass RX7 = some m.cls := findClass_of_methodNamed B.named
  have hlocks := B.notSynchronized
  subst hsz
  have hD := hD0.self (sz := s.heap.size)
  generalize hAe : va_A [(q_this, .inr (7, [.ref q_this_now, .ref q_this_past, .int v_this_saved, .int v_this_refusal, .ref q_this_list, .ref q_this_at, .ref q_this_levels, .ref q_this_newer, .ref q_this_howMany, .ref q_this_vectors, .ref q_this_dims, .ref q_this_comes, .ref q_this_goes, .ref q_this_cameFrom, .ref q_this_halves, .int v_this_halfMany, .ref q_this_way, .ref q_this_used, .long v_this_hash]))] s.heap.size = A at hD hE ⊢
  have hA : ∀ q : Nat, s.heap.size ≤ q → A q := fun q h => by rw [← hAe]; exact Or.inr h
  have hS : va_S A s.heap s.heap [] := va_S.rf
  refine kgen (fun Q eQ => ?_)
  refine kent (av := [.ref q_this, .int a1]) hargs (Nat.le_of_ble_eq_true rfl) (fun ls hl => ?_)
  have hl : lv_has ls 2 [(0, .ref q_this), (1, .int a1)] := hl
  show W p l e rm_X7_refused s m args below meth c s.heap [] 0 0 Q (F0 m 0 ls [])
  unfold f_X7_refused at hf
  refine lv_aload_n hx hb dX7_refused_0 rfl (lv_at hl 0 rfl) ?_
  refine lv_iload_n hx hb dX7_refused_1 rfl (lv_at hl 1 rfl) ?_
  refine va_put (D := D) (ci := 7) (v := .int a1) (ty := .int) (C := RX7) (T := TX7) (N := 19) hx hb hts n_X7_refused_X7 tyX7 tyX7_ok nmX7 hown hK hP hD hS 0 rfl rfl 3 (by decide) (hts (.fieldLink RX7 56 "FaultyCubeModel" "refusal" "I") (by decide +kernel)) (fun _ h9 => h9) rfl (by decide +kernel) rfl rfl (Nat.le_of_ble_eq_true rfl) dX7_refused_2 (fun H locs hP hD hS => ?_)
  have hP : va_P D vwCl [(q_this, .inr (7, [.ref q_this_now, .ref q_this_past, .int v_this_saved, .int a1, .ref q_this_list, .ref q_this_at, .ref q_this_levels, .ref q_this_newer, .ref q_this_howMany, .ref q_this_vectors, .ref q_this_dims, .ref q_this_comes, .ref q_this_goes, .ref q_this_cameFrom, .ref q_this_halves, .int v_this_halfMany, .ref q_this_way, .ref q_this_used, .long v_this_hash]))] H := hP
  have hD : va_D A [(q_this, .inr (7, [.ref q_this_now, .ref q_this_past, .int v_this_saved, .int a1, .ref q_this_list, .ref q_this_at, .ref q_this_levels, .ref q_this_newer, .ref q_this_howMany, .ref q_this_vectors, .ref q_this_dims, .ref q_this_comes, .ref q_this_goes, .ref q_this_cameFrom, .ref q_this_halves, .int v_this_halfMany, .ref q_this_way, .ref q_this_used, .long v_this_hash]))] := hD
  refine lv_iload_n hx hb dX7_refused_5 rfl (lv_at hl 1 rfl) ?_
  refine lv_if_le (tgt := 13) hx hb dX7_refused_6 (by decide) (fun cd6 => ?_) (fun cd6 => ?_)
  · replace hf := zite_t cd6 hf
    refine lv_iconst (v := 0) hx hb dX7_refused_13 (by decide) ?_
    obtain rfl := Option.some.inj hf
    subst eQ
    exact kr_z hx hb hr nar_0 hlocks hK hP hD hS dX7_refused_14
  · replace hf := zite_f cd6 hf
    refine lv_iconst (v := 1) hx hb dX7_refused_9 (by decide) ?_
    refine lv_goto (tgt := 14) hx hb dX7_refused_10 (by decide) ?_
    obtain rfl := Option.some.inj hf
    subst eQ
    exact kr_z hx hb hr nar_1 hlocks hK hP hD hS dX7_refused_14
abbrev rm_X7_within : Room := { frames := 0, cells := 0, slots := 0, locals := 0 }
set_option maxHeartbeats 4000000 in
set_option maxRecDepth 100000 in
theorem c_X7_within (l : Launch) (D : va_G) (sz : Nat) (a0 : Int32) (a1 : Int32) (a2 : Int32) (res : rt_X7_within) (hf : f_X7_within a0 a1 a2 = some res) : Met l yX7_within wsX7_within rm_X7_within (kP D [.int a0, .int a1, .int a2] [] [] sz) (kQi D (va_A [] sz) [] res []) 0 0 (va_A [] sz) := by
  refine Met.ofW (cc := cX7_within) (maxL := 3) (ret := (some .boolean)) (by decide +kernel) rfl ?_
  intro p e s m args below meth c s₁ B hml hv
  obtain ⟨hargs, hsz, hP, hK, hD0, hE⟩ := hv
  have hx := B.exec
  have hb := B.bytes
  have hr := B.returns
  have hts := atoms_spec (ws := wsX7_within) B.pre
  have hown : s.vm.findClass RX7 = some m.cls := findClass_of_methodNamed B.named
  have hlocks := B.notSynchronized
  subst hsz
  have hD := hD0.self (sz := s.heap.size)
  generalize hAe : va_A [] s.heap.size = A at hD hE ⊢
  have hA : ∀ q : Nat, s.heap.size ≤ q → A q := fun q h => by rw [← hAe]; exact Or.inr h
  have hS : va_S A s.heap s.heap [] := va_S.rf
  refine kgen (fun Q eQ => ?_)
  refine kent (av := [.int a0, .int a1, .int a2]) hargs (Nat.le_of_ble_eq_true rfl) (fun ls hl => ?_)
  have hl : lv_has ls 3 [(0, .int a0), (1, .int a1), (2, .int a2)] := hl
  show W p l e rm_X7_within s m args below meth c s.heap [] 0 0 Q (F0 m 0 ls [])
  unfold f_X7_within at hf
  refine lv_iload_n hx hb dX7_within_0 rfl (lv_at hl 0 rfl) ?_
  refine lv_iload_n hx hb dX7_within_1 rfl (lv_at hl 1 rfl) ?_
  replace hf := zjp_some hf
  obtain ⟨K14, eK14, hf⟩ := hf
  have j14 : K14 = some res → ∀ (H : Heap) (locs : List Loc) (ls : Array Slot), va_P D vwCl [] H → va_D A [] → va_S A s.heap H locs → lv_has ls 3 [] → W p l e rm_X7_within s m args below meth c H locs 0 0 Q (F0 m 14 ls []) := by
    intro  hf H locs ls hP hD hS hl
    replace hf := zap0 eK14 hf
    refine lv_iconst (v := 0) hx hb dX7_within_14 (by decide) ?_
    obtain rfl := Option.some.inj hf
    subst eQ
    exact kr_z hx hb hr nar_0 hlocks hK hP hD hS dX7_within_15
  refine lv_icmp_lt (tgt := 14) hx hb dX7_within_2 (by decide) (fun cd2 => ?_) (fun cd2 => ?_)
  · replace hf := zite_t cd2 hf
    exact j14  hf s.heap [] ls hP hD hS (lv_sub hl [] rfl)
  · replace hf := zite_f cd2 hf
    refine lv_iload_n hx hb dX7_within_5 rfl (lv_at hl 0 rfl) ?_
    refine lv_iload_n hx hb dX7_within_6 rfl (lv_at hl 2 rfl) ?_
    refine lv_icmp_gt (tgt := 14) hx hb dX7_within_7 (by decide) (fun cd7 => ?_) (fun cd7 => ?_)
    · replace hf := zite_t cd7 hf
      exact j14  hf s.heap [] ls hP hD hS (lv_sub hl [] rfl)
    · replace hf := zite_f cd7 hf
      refine lv_iconst (v := 1) hx hb dX7_within_10 (by decide) ?_
      refine lv_goto (tgt := 15) hx hb dX7_within_11 (by decide) ?_
      obtain rfl := Option.some.inj hf
      subst eQ
      exact kr_z hx hb hr nar_1 hlocks hK hP hD hS dX7_within_15
theorem n_X7_nodes_X7 : ∀ w ∈ u_ws RX7 TX7 19, w ∈ wsX7_nodes := by decide +kernel
abbrev rm_X7_nodes : Room := { frames := 0, cells := 0, slots := 0, locals := 0 }
set_option maxHeartbeats 4000000 in
set_option maxRecDepth 100000 in
theorem c_X7_nodes (l : Launch) (D : va_G) (sz : Nat) (q_this : Nat) (q_this_now : Nat) (q_this_past : Nat) (q_this_list : Nat) (q_this_at : Nat) (q_this_levels : Nat) (q_this_newer : Nat) (q_this_howMany : Nat) (q_this_vectors : Nat) (q_this_dims : Nat) (q_this_comes : Nat) (q_this_goes : Nat) (q_this_cameFrom : Nat) (q_this_halves : Nat) (q_this_way : Nat) (q_this_used : Nat) (k_this_now : ClassId) (v_this_saved : Int32) (v_this_refusal : Int32) (v_this_halfMany : Int32) (v_this_hash : Int64) (c_this_now : (Nat → Int32)) (res : rt_X7_nodes) (hf : f_X7_nodes c_this_now = some res) : Met l yX7_nodes wsX7_nodes rm_X7_nodes (kP D [.ref q_this] [(q_this, .inr (7, [.ref q_this_now, .ref q_this_past, .int v_this_saved, .int v_this_refusal, .ref q_this_list, .ref q_this_at, .ref q_this_levels, .ref q_this_newer, .ref q_this_howMany, .ref q_this_vectors, .ref q_this_dims, .ref q_this_comes, .ref q_this_goes, .ref q_this_cameFrom, .ref q_this_halves, .int v_this_halfMany, .ref q_this_way, .ref q_this_used, .long v_this_hash])), (q_this_now, .inl (k_this_now, 187, .inl c_this_now))] [(k_this_now, .int)] sz) (kQi D (va_A [(q_this, .inr (7, [.ref q_this_now, .ref q_this_past, .int v_this_saved, .int v_this_refusal, .ref q_this_list, .ref q_this_at, .ref q_this_levels, .ref q_this_newer, .ref q_this_howMany, .ref q_this_vectors, .ref q_this_dims, .ref q_this_comes, .ref q_this_goes, .ref q_this_cameFrom, .ref q_this_halves, .int v_this_halfMany, .ref q_this_way, .ref q_this_used, .long v_this_hash])), (q_this_now, .inl (k_this_now, 187, .inl c_this_now))] sz) [(k_this_now, .int)] res [(q_this, .inr (7, [.ref q_this_now, .ref q_this_past, .int v_this_saved, .int v_this_refusal, .ref q_this_list, .ref q_this_at, .ref q_this_levels, .ref q_this_newer, .ref q_this_howMany, .ref q_this_vectors, .ref q_this_dims, .ref q_this_comes, .ref q_this_goes, .ref q_this_cameFrom, .ref q_this_halves, .int v_this_halfMany, .ref q_this_way, .ref q_this_used, .long v_this_hash])), (q_this_now, .inl (k_this_now, 187, .inl c_this_now))]) 0 0 (va_A [(q_this, .inr (7, [.ref q_this_now, .ref q_this_past, .int v_this_saved, .int v_this_refusal, .ref q_this_list, .ref q_this_at, .ref q_this_levels, .ref q_this_newer, .ref q_this_howMany, .ref q_this_vectors, .ref q_this_dims, .ref q_this_comes, .ref q_this_goes, .ref q_this_cameFrom, .ref q_this_halves, .int v_this_halfMany, .ref q_this_way, .ref q_this_used, .long v_this_hash])), (q_this_now, .inl (k_this_now, 187, .inl c_this_now))] sz) := by
  refine Met.ofW (cc := cX7_nodes) (maxL := 1) (ret := (some .int)) (by decide +kernel) rfl ?_
  intro p e s m args below meth c s₁ B hml hv
  obtain ⟨hargs, hsz, hP, hK, hD0, hE⟩ := hv
  have hx := B.exec
  have hb := B.bytes
  have hr := B.returns
  have hts := atoms_spec (ws := wsX7_nodes) B.pre
  have hown : s.vm.findClass RX7 = some m.cls := findClass_of_methodNamed B.named
  have hlocks := B.notSynchronized
  subst hsz
  have hD := hD0.self (sz := s.heap.size)
  generalize hAe : va_A [(q_this, .inr (7, [.ref q_this_now, .ref q_this_past, .int v_this_saved, .int v_this_refusal, .ref q_this_list, .ref q_this_at, .ref q_this_levels, .ref q_this_newer, .ref q_this_howMany, .ref q_this_vectors, .ref q_this_dims, .ref q_this_comes, .ref q_this_goes, .ref q_this_cameFrom, .ref q_this_halves, .int v_this_halfMany, .ref q_this_way, .ref q_this_used, .long v_this_hash])), (q_this_now, .inl (k_this_now, 187, .inl c_this_now))] s.heap.size = A at hD hE ⊢
  have hA : ∀ q : Nat, s.heap.size ≤ q → A q := fun q h => by rw [← hAe]; exact Or.inr h
  have hS : va_S A s.heap s.heap [] := va_S.rf
  refine kgen (fun Q eQ => ?_)
  refine kent (av := [.ref q_this]) hargs (Nat.le_of_ble_eq_true rfl) (fun ls hl => ?_)
  have hl : lv_has ls 1 [(0, .ref q_this)] := hl
  show W p l e rm_X7_nodes s m args below meth c s.heap [] 0 0 Q (F0 m 0 ls [])
  unfold f_X7_nodes at hf
  refine lv_iconst (v := 1) hx hb dX7_nodes_0 (by decide) ?_
  refine lv_aload_n hx hb dX7_nodes_1 rfl (lv_at hl 0 rfl) ?_
  refine va_get (D := D) (ci := 7) (v := .ref q_this_now) (C := RX7) (T := TX7) (N := 19) hx hb hts n_X7_nodes_X7 hown hK hP 0 rfl rfl 0 (by decide) (hts (.fieldLink RX7 7 "FaultyCubeModel" "now" "[I") (by decide +kernel)) (fun _ h9 => h9) rfl dX7_nodes_2 ?_
  refine lv_iconst (v := 0) hx hb dX7_nodes_5 (by decide) ?_
  replace hf := zgd_some hf
  obtain ⟨g1, hf⟩ := hf
  refine va_iald (D := D) hx hb hK hP 1 0 rfl rfl (inb_in g1) dX7_nodes_6 ?_
  refine lv_ishl hx hb dX7_nodes_7 ?_
  obtain rfl := Option.some.inj hf
  subst eQ
  exact kr_i hx hb hr hlocks hK hP hD hS dX7_nodes_8
abbrev rm_X7_isNode : Room := { frames := 1, cells := 0, slots := 0, locals := 22 }
set_option maxHeartbeats 4000000 in
set_option maxRecDepth 100000 in
theorem c_X7_isNode (l : Launch) (D : va_G) (sz : Nat) (q_this : Nat) (q_this_now : Nat) (q_this_past : Nat) (q_this_list : Nat) (q_this_at : Nat) (q_this_levels : Nat) (q_this_newer : Nat) (q_this_howMany : Nat) (q_this_vectors : Nat) (q_this_dims : Nat) (q_this_comes : Nat) (q_this_goes : Nat) (q_this_cameFrom : Nat) (q_this_halves : Nat) (q_this_way : Nat) (q_this_used : Nat) (k_this_now : ClassId) (v_this_saved : Int32) (v_this_refusal : Int32) (v_this_halfMany : Int32) (v_this_hash : Int64) (c_this_now : (Nat → Int32)) (a1 : Int32) (res : rt_X7_isNode) (hf : f_X7_isNode a1 c_this_now = some res) : Met l yX7_isNode wsX7_isNode rm_X7_isNode (kP D [.ref q_this, .int a1] [(q_this, .inr (7, [.ref q_this_now, .ref q_this_past, .int v_this_saved, .int v_this_refusal, .ref q_this_list, .ref q_this_at, .ref q_this_levels, .ref q_this_newer, .ref q_this_howMany, .ref q_this_vectors, .ref q_this_dims, .ref q_this_comes, .ref q_this_goes, .ref q_this_cameFrom, .ref q_this_halves, .int v_this_halfMany, .ref q_this_way, .ref q_this_used, .long v_this_hash])), (q_this_now, .inl (k_this_now, 187, .inl c_this_now))] [(k_this_now, .int)] sz) (kQi D (va_A [(q_this, .inr (7, [.ref q_this_now, .ref q_this_past, .int v_this_saved, .int v_this_refusal, .ref q_this_list, .ref q_this_at, .ref q_this_levels, .ref q_this_newer, .ref q_this_howMany, .ref q_this_vectors, .ref q_this_dims, .ref q_this_comes, .ref q_this_goes, .ref q_this_cameFrom, .ref q_this_halves, .int v_this_halfMany, .ref q_this_way, .ref q_this_used, .long v_this_hash])), (q_this_now, .inl (k_this_now, 187, .inl c_this_now))] sz) [(k_this_now, .int)] res [(q_this, .inr (7, [.ref q_this_now, .ref q_this_past, .int v_this_saved, .int v_this_refusal, .ref q_this_list, .ref q_this_at, .ref q_this_levels, .ref q_this_newer, .ref q_this_howMany, .ref q_this_vectors, .ref q_this_dims, .ref q_this_comes, .ref q_this_goes, .ref q_this_cameFrom, .ref q_this_halves, .int v_this_halfMany, .ref q_this_way, .ref q_this_used, .long v_this_hash])), (q_this_now, .inl (k_this_now, 187, .inl c_this_now))]) 0 0 (va_A [(q_this, .inr (7, [.ref q_this_now, .ref q_this_past, .int v_this_saved, .int v_this_refusal, .ref q_this_list, .ref q_this_at, .ref q_this_levels, .ref q_this_newer, .ref q_this_howMany, .ref q_this_vectors, .ref q_this_dims, .ref q_this_comes, .ref q_this_goes, .ref q_this_cameFrom, .ref q_this_halves, .int v_this_halfMany, .ref q_this_way, .ref q_this_used, .long v_this_hash])), (q_this_now, .inl (k_this_now, 187, .inl c_this_now))] sz) := by
  refine Met.ofW (cc := cX7_isNode) (maxL := 2) (ret := (some .boolean)) (by decide +kernel) rfl ?_
  intro p e s m args below meth c s₁ B hml hv
  obtain ⟨hargs, hsz, hP, hK, hD0, hE⟩ := hv
  have hx := B.exec
  have hb := B.bytes
  have hr := B.returns
  have hts := atoms_spec (ws := wsX7_isNode) B.pre
  have hown : s.vm.findClass RX7 = some m.cls := findClass_of_methodNamed B.named
  have hlocks := B.notSynchronized
  subst hsz
  have hD := hD0.self (sz := s.heap.size)
  generalize hAe : va_A [(q_this, .inr (7, [.ref q_this_now, .ref q_this_past, .int v_this_saved, .int v_this_refusal, .ref q_this_list, .ref q_this_at, .ref q_this_levels, .ref q_this_newer, .ref q_this_howMany, .ref q_this_vectors, .ref q_this_dims, .ref q_this_comes, .ref q_this_goes, .ref q_this_cameFrom, .ref q_this_halves, .int v_this_halfMany, .ref q_this_way, .ref q_this_used, .long v_this_hash])), (q_this_now, .inl (k_this_now, 187, .inl c_this_now))] s.heap.size = A at hD hE ⊢
  have hA : ∀ q : Nat, s.heap.size ≤ q → A q := fun q h => by rw [← hAe]; exact Or.inr h
  have hS : va_S A s.heap s.heap [] := va_S.rf
  refine kgen (fun Q eQ => ?_)
  refine kent (av := [.ref q_this, .int a1]) hargs (Nat.le_of_ble_eq_true rfl) (fun ls hl => ?_)
  have hl : lv_has ls 2 [(0, .ref q_this), (1, .int a1)] := hl
  show W p l e rm_X7_isNode s m args below meth c s.heap [] 0 0 Q (F0 m 0 ls [])
  unfold f_X7_isNode at hf
  refine lv_iload_n hx hb dX7_isNode_0 rfl (lv_at hl 1 rfl) ?_
  refine lv_iconst (v := 0) hx hb dX7_isNode_1 (by decide) ?_
  refine lv_aload_n hx hb dX7_isNode_2 rfl (lv_at hl 0 rfl) ?_
  replace hf := zob_some hf
  obtain ⟨u1, hu1, hf⟩ := hf
  refine kd_i (D := D) (v := u1) (av := [.ref q_this]) (wc := [(q_this, .inr (7, [.ref q_this_now, .ref q_this_past, .int v_this_saved, .int v_this_refusal, .ref q_this_list, .ref q_this_at, .ref q_this_levels, .ref q_this_newer, .ref q_this_howMany, .ref q_this_vectors, .ref q_this_dims, .ref q_this_comes, .ref q_this_goes, .ref q_this_cameFrom, .ref q_this_halves, .int v_this_halfMany, .ref q_this_way, .ref q_this_used, .long v_this_hash])), (q_this_now, .inl (k_this_now, 187, .inl c_this_now))]) (w1 := [(q_this, .inr (7, [.ref q_this_now, .ref q_this_past, .int v_this_saved, .int v_this_refusal, .ref q_this_list, .ref q_this_at, .ref q_this_levels, .ref q_this_newer, .ref q_this_howMany, .ref q_this_vectors, .ref q_this_dims, .ref q_this_comes, .ref q_this_goes, .ref q_this_cameFrom, .ref q_this_halves, .int v_this_halfMany, .ref q_this_way, .ref q_this_used, .long v_this_hash])), (q_this_now, .inl (k_this_now, 187, .inl c_this_now))]) (ws2 := [(q_this, .inr (7, [.ref q_this_now, .ref q_this_past, .int v_this_saved, .int v_this_refusal, .ref q_this_list, .ref q_this_at, .ref q_this_levels, .ref q_this_newer, .ref q_this_howMany, .ref q_this_vectors, .ref q_this_dims, .ref q_this_comes, .ref q_this_goes, .ref q_this_cameFrom, .ref q_this_halves, .int v_this_halfMany, .ref q_this_way, .ref q_this_used, .long v_this_hash])), (q_this_now, .inl (k_this_now, 187, .inl c_this_now))]) hK hP hD hS hA hE [0, 1] [0] [] [0, 1] (fun hb1 hp1 => va_runV (As := []) (rest := [.int 0, .int a1]) ⟨hx, hb, hml, hown, hts⟩ (c_X7_nodes l D s.heap.size q_this q_this_now q_this_past q_this_list q_this_at q_this_levels q_this_newer q_this_howMany q_this_vectors q_this_dims q_this_comes q_this_goes q_this_cameFrom q_this_halves q_this_way q_this_used k_this_now v_this_saved v_this_refusal v_this_halfMany v_this_hash c_this_now u1 hu1) (cwV 0 hts gX7_isNode_X7_nodes rfl rfl rfl (by decide +kernel) ⟨Nat.le_of_ble_eq_true rfl, Nat.le_of_ble_eq_true rfl⟩) ⟨hb1, va_recv hK hP (ci := 7) (q0 := 0) rfl rfl, hp1⟩ rfl rfl hl.1 rfl (lv_room (Nat.le_of_ble_eq_true rfl)) dX7_isNode_3 ⟨Nat.le_of_ble_eq_true rfl, Nat.le_of_ble_eq_true rfl⟩) rfl rfl rfl rfl rfl rfl rfl rfl rfl rfl (fun H locs hP hD hS => ?_)
  have hP : va_P D vwCl [(q_this, .inr (7, [.ref q_this_now, .ref q_this_past, .int v_this_saved, .int v_this_refusal, .ref q_this_list, .ref q_this_at, .ref q_this_levels, .ref q_this_newer, .ref q_this_howMany, .ref q_this_vectors, .ref q_this_dims, .ref q_this_comes, .ref q_this_goes, .ref q_this_cameFrom, .ref q_this_halves, .int v_this_halfMany, .ref q_this_way, .ref q_this_used, .long v_this_hash])), (q_this_now, .inl (k_this_now, 187, .inl c_this_now))] H := hP
  have hD : va_D A [(q_this, .inr (7, [.ref q_this_now, .ref q_this_past, .int v_this_saved, .int v_this_refusal, .ref q_this_list, .ref q_this_at, .ref q_this_levels, .ref q_this_newer, .ref q_this_howMany, .ref q_this_vectors, .ref q_this_dims, .ref q_this_comes, .ref q_this_goes, .ref q_this_cameFrom, .ref q_this_halves, .int v_this_halfMany, .ref q_this_way, .ref q_this_used, .long v_this_hash])), (q_this_now, .inl (k_this_now, 187, .inl c_this_now))] := hD
  refine lv_iconst (v := 1) hx hb dX7_isNode_6 (by decide) ?_
  refine lv_isub hx hb dX7_isNode_7 ?_
  replace hf := zob_some hf
  obtain ⟨u2, hu2, hf⟩ := hf
  refine kd_i (D := D) (v := u2) (av := [.int a1, .int 0, .int (u1 - (1 : Int32))]) (wc := []) (w1 := []) (ws2 := [(q_this, .inr (7, [.ref q_this_now, .ref q_this_past, .int v_this_saved, .int v_this_refusal, .ref q_this_list, .ref q_this_at, .ref q_this_levels, .ref q_this_newer, .ref q_this_howMany, .ref q_this_vectors, .ref q_this_dims, .ref q_this_comes, .ref q_this_goes, .ref q_this_cameFrom, .ref q_this_halves, .int v_this_halfMany, .ref q_this_way, .ref q_this_used, .long v_this_hash])), (q_this_now, .inl (k_this_now, 187, .inl c_this_now))]) hK hP hD hS hA hE [] [] [0, 1] [0, 1] (fun hb1 hp1 => va_runS (As := [.int a1, .int 0, .int (u1 - (1 : Int32))]) (rest := []) ⟨hx, hb, hml, hown, hts⟩ (c_X7_within l D H.size a1 0 (u1 - (1 : Int32)) u2 hu2) (va_cwS 3 hts gX7_isNode_X7_within rfl rfl rfl (by decide +kernel) ⟨Nat.le_of_ble_eq_true rfl, Nat.le_of_ble_eq_true rfl⟩) ⟨hb1, hp1⟩ rfl rfl hl.1 rfl (lv_room (Nat.le_of_ble_eq_true rfl)) dX7_isNode_8 ⟨Nat.le_of_ble_eq_true rfl, Nat.le_of_ble_eq_true rfl⟩) rfl rfl rfl rfl rfl rfl rfl rfl rfl rfl (fun H locs hP hD hS => ?_)
  have hP : va_P D vwCl [(q_this, .inr (7, [.ref q_this_now, .ref q_this_past, .int v_this_saved, .int v_this_refusal, .ref q_this_list, .ref q_this_at, .ref q_this_levels, .ref q_this_newer, .ref q_this_howMany, .ref q_this_vectors, .ref q_this_dims, .ref q_this_comes, .ref q_this_goes, .ref q_this_cameFrom, .ref q_this_halves, .int v_this_halfMany, .ref q_this_way, .ref q_this_used, .long v_this_hash])), (q_this_now, .inl (k_this_now, 187, .inl c_this_now))] H := hP
  have hD : va_D A [(q_this, .inr (7, [.ref q_this_now, .ref q_this_past, .int v_this_saved, .int v_this_refusal, .ref q_this_list, .ref q_this_at, .ref q_this_levels, .ref q_this_newer, .ref q_this_howMany, .ref q_this_vectors, .ref q_this_dims, .ref q_this_comes, .ref q_this_goes, .ref q_this_cameFrom, .ref q_this_halves, .int v_this_halfMany, .ref q_this_way, .ref q_this_used, .long v_this_hash])), (q_this_now, .inl (k_this_now, 187, .inl c_this_now))] := hD
  replace hf := zgd_some hf
  obtain ⟨gz, hf⟩ := hf
  obtain rfl := Option.some.inj hf
  subst eQ
  exact kr_z hx hb hr (isb_ok gz) hlocks hK hP hD hS dX7_isNode_11
theorem n_X7_lives_X7 : ∀ w ∈ u_ws RX7 TX7 19, w ∈ wsX7_lives := by decide +kernel
abbrev rm_X7_lives : Room := { frames := 0, cells := 0, slots := 0, locals := 0 }
set_option maxHeartbeats 4000000 in
set_option maxRecDepth 100000 in
theorem c_X7_lives (l : Launch) (D : va_G) (sz : Nat) (q_this : Nat) (q_this_now : Nat) (q_this_past : Nat) (q_this_list : Nat) (q_this_at : Nat) (q_this_levels : Nat) (q_this_newer : Nat) (q_this_howMany : Nat) (q_this_vectors : Nat) (q_this_dims : Nat) (q_this_comes : Nat) (q_this_goes : Nat) (q_this_cameFrom : Nat) (q_this_halves : Nat) (q_this_way : Nat) (q_this_used : Nat) (k_this_now : ClassId) (v_this_saved : Int32) (v_this_refusal : Int32) (v_this_halfMany : Int32) (v_this_hash : Int64) (c_this_now : (Nat → Int32)) (a1 : Int32) (res : rt_X7_lives) (hf : f_X7_lives a1 c_this_now = some res) : Met l yX7_lives wsX7_lives rm_X7_lives (kP D [.ref q_this, .int a1] [(q_this, .inr (7, [.ref q_this_now, .ref q_this_past, .int v_this_saved, .int v_this_refusal, .ref q_this_list, .ref q_this_at, .ref q_this_levels, .ref q_this_newer, .ref q_this_howMany, .ref q_this_vectors, .ref q_this_dims, .ref q_this_comes, .ref q_this_goes, .ref q_this_cameFrom, .ref q_this_halves, .int v_this_halfMany, .ref q_this_way, .ref q_this_used, .long v_this_hash])), (q_this_now, .inl (k_this_now, 187, .inl c_this_now))] [(k_this_now, .int)] sz) (kQi D (va_A [(q_this, .inr (7, [.ref q_this_now, .ref q_this_past, .int v_this_saved, .int v_this_refusal, .ref q_this_list, .ref q_this_at, .ref q_this_levels, .ref q_this_newer, .ref q_this_howMany, .ref q_this_vectors, .ref q_this_dims, .ref q_this_comes, .ref q_this_goes, .ref q_this_cameFrom, .ref q_this_halves, .int v_this_halfMany, .ref q_this_way, .ref q_this_used, .long v_this_hash])), (q_this_now, .inl (k_this_now, 187, .inl c_this_now))] sz) [(k_this_now, .int)] res [(q_this, .inr (7, [.ref q_this_now, .ref q_this_past, .int v_this_saved, .int v_this_refusal, .ref q_this_list, .ref q_this_at, .ref q_this_levels, .ref q_this_newer, .ref q_this_howMany, .ref q_this_vectors, .ref q_this_dims, .ref q_this_comes, .ref q_this_goes, .ref q_this_cameFrom, .ref q_this_halves, .int v_this_halfMany, .ref q_this_way, .ref q_this_used, .long v_this_hash])), (q_this_now, .inl (k_this_now, 187, .inl c_this_now))]) 0 0 (va_A [(q_this, .inr (7, [.ref q_this_now, .ref q_this_past, .int v_this_saved, .int v_this_refusal, .ref q_this_list, .ref q_this_at, .ref q_this_levels, .ref q_this_newer, .ref q_this_howMany, .ref q_this_vectors, .ref q_this_dims, .ref q_this_comes, .ref q_this_goes, .ref q_this_cameFrom, .ref q_this_halves, .int v_this_halfMany, .ref q_this_way, .ref q_this_used, .long v_this_hash])), (q_this_now, .inl (k_this_now, 187, .inl c_this_now))] sz) := by
  refine Met.ofW (cc := cX7_lives) (maxL := 2) (ret := (some .boolean)) (by decide +kernel) rfl ?_
  intro p e s m args below meth c s₁ B hml hv
  obtain ⟨hargs, hsz, hP, hK, hD0, hE⟩ := hv
  have hx := B.exec
  have hb := B.bytes
  have hr := B.returns
  have hts := atoms_spec (ws := wsX7_lives) B.pre
  have hown : s.vm.findClass RX7 = some m.cls := findClass_of_methodNamed B.named
  have hlocks := B.notSynchronized
  subst hsz
  have hD := hD0.self (sz := s.heap.size)
  generalize hAe : va_A [(q_this, .inr (7, [.ref q_this_now, .ref q_this_past, .int v_this_saved, .int v_this_refusal, .ref q_this_list, .ref q_this_at, .ref q_this_levels, .ref q_this_newer, .ref q_this_howMany, .ref q_this_vectors, .ref q_this_dims, .ref q_this_comes, .ref q_this_goes, .ref q_this_cameFrom, .ref q_this_halves, .int v_this_halfMany, .ref q_this_way, .ref q_this_used, .long v_this_hash])), (q_this_now, .inl (k_this_now, 187, .inl c_this_now))] s.heap.size = A at hD hE ⊢
  have hA : ∀ q : Nat, s.heap.size ≤ q → A q := fun q h => by rw [← hAe]; exact Or.inr h
  have hS : va_S A s.heap s.heap [] := va_S.rf
  refine kgen (fun Q eQ => ?_)
  refine kent (av := [.ref q_this, .int a1]) hargs (Nat.le_of_ble_eq_true rfl) (fun ls hl => ?_)
  have hl : lv_has ls 2 [(0, .ref q_this), (1, .int a1)] := hl
  show W p l e rm_X7_lives s m args below meth c s.heap [] 0 0 Q (F0 m 0 ls [])
  unfold f_X7_lives at hf
  refine lv_aload_n hx hb dX7_lives_0 rfl (lv_at hl 0 rfl) ?_
  refine va_get (D := D) (ci := 7) (v := .ref q_this_now) (C := RX7) (T := TX7) (N := 19) hx hb hts n_X7_lives_X7 hown hK hP 0 rfl rfl 0 (by decide) (hts (.fieldLink RX7 7 "FaultyCubeModel" "now" "[I") (by decide +kernel)) (fun _ h9 => h9) rfl dX7_lives_1 ?_
  refine lv_iconst (v := 3) hx hb dX7_lives_4 (by decide) ?_
  refine lv_iload_n hx hb dX7_lives_5 rfl (lv_at hl 1 rfl) ?_
  refine lv_iadd hx hb dX7_lives_6 ?_
  replace hf := zgd_some hf
  obtain ⟨g1, hf⟩ := hf
  refine va_iald (D := D) hx hb hK hP 1 0 rfl rfl (inb_in g1) dX7_lives_7 ?_
  refine lv_if_ne (tgt := 15) hx hb dX7_lives_8 (by decide) (fun cd8 => ?_) (fun cd8 => ?_)
  · replace hf := zite_f cd8 hf
    refine lv_iconst (v := 0) hx hb dX7_lives_15 (by decide) ?_
    obtain rfl := Option.some.inj hf
    subst eQ
    exact kr_z hx hb hr nar_0 hlocks hK hP hD hS dX7_lives_16
  · replace hf := zite_t cd8 hf
    refine lv_iconst (v := 1) hx hb dX7_lives_11 (by decide) ?_
    refine lv_goto (tgt := 16) hx hb dX7_lives_12 (by decide) ?_
    obtain rfl := Option.some.inj hf
    subst eQ
    exact kr_z hx hb hr nar_1 hlocks hK hP hD hS dX7_lives_16
theorem n_X7_saves_X7 : ∀ w ∈ u_ws RX7 TX7 19, w ∈ wsX7_saves := by decide +kernel
abbrev rm_X7_saves : Room := { frames := 0, cells := 0, slots := 0, locals := 0 }
set_option maxHeartbeats 4000000 in
set_option maxRecDepth 100000 in
theorem c_X7_saves (l : Launch) (D : va_G) (sz : Nat) (q_this : Nat) (q_this_now : Nat) (q_this_past : Nat) (q_this_list : Nat) (q_this_at : Nat) (q_this_levels : Nat) (q_this_newer : Nat) (q_this_howMany : Nat) (q_this_vectors : Nat) (q_this_dims : Nat) (q_this_comes : Nat) (q_this_goes : Nat) (q_this_cameFrom : Nat) (q_this_halves : Nat) (q_this_way : Nat) (q_this_used : Nat) (k_this_now : ClassId) (k_this_past : ClassId) (v_this_saved : Int32) (v_this_refusal : Int32) (v_this_halfMany : Int32) (v_this_hash : Int64) (c_this_now : (Nat → Int32)) (c_this_past : (Nat → Int32)) (res : rt_X7_saves) (hf : f_X7_saves v_this_saved c_this_now c_this_past = some res) : Met l yX7_saves wsX7_saves rm_X7_saves (kP D [.ref q_this] [(q_this, .inr (7, [.ref q_this_now, .ref q_this_past, .int v_this_saved, .int v_this_refusal, .ref q_this_list, .ref q_this_at, .ref q_this_levels, .ref q_this_newer, .ref q_this_howMany, .ref q_this_vectors, .ref q_this_dims, .ref q_this_comes, .ref q_this_goes, .ref q_this_cameFrom, .ref q_this_halves, .int v_this_halfMany, .ref q_this_way, .ref q_this_used, .long v_this_hash])), (q_this_now, .inl (k_this_now, 187, .inl c_this_now)), (q_this_past, .inl (k_this_past, 748, .inl c_this_past))] [(k_this_now, .int), (k_this_past, .int)] sz) (kQv D (va_A [(q_this, .inr (7, [.ref q_this_now, .ref q_this_past, .int v_this_saved, .int v_this_refusal, .ref q_this_list, .ref q_this_at, .ref q_this_levels, .ref q_this_newer, .ref q_this_howMany, .ref q_this_vectors, .ref q_this_dims, .ref q_this_comes, .ref q_this_goes, .ref q_this_cameFrom, .ref q_this_halves, .int v_this_halfMany, .ref q_this_way, .ref q_this_used, .long v_this_hash])), (q_this_now, .inl (k_this_now, 187, .inl c_this_now)), (q_this_past, .inl (k_this_past, 748, .inl c_this_past))] sz) [(k_this_now, .int), (k_this_past, .int)] [(q_this, .inr (7, [.ref q_this_now, .ref q_this_past, .int res.1, .int v_this_refusal, .ref q_this_list, .ref q_this_at, .ref q_this_levels, .ref q_this_newer, .ref q_this_howMany, .ref q_this_vectors, .ref q_this_dims, .ref q_this_comes, .ref q_this_goes, .ref q_this_cameFrom, .ref q_this_halves, .int v_this_halfMany, .ref q_this_way, .ref q_this_used, .long v_this_hash])), (q_this_now, .inl (k_this_now, 187, .inl c_this_now)), (q_this_past, .inl (k_this_past, 748, .inl res.2))]) 0 0 (va_A [(q_this, .inr (7, [.ref q_this_now, .ref q_this_past, .int v_this_saved, .int v_this_refusal, .ref q_this_list, .ref q_this_at, .ref q_this_levels, .ref q_this_newer, .ref q_this_howMany, .ref q_this_vectors, .ref q_this_dims, .ref q_this_comes, .ref q_this_goes, .ref q_this_cameFrom, .ref q_this_halves, .int v_this_halfMany, .ref q_this_way, .ref q_this_used, .long v_this_hash])), (q_this_now, .inl (k_this_now, 187, .inl c_this_now)), (q_this_past, .inl (k_this_past, 748, .inl c_this_past))] sz) := by
  refine Met.ofW (cc := cX7_saves) (maxL := 2) (ret := none) (by decide +kernel) rfl ?_
  intro p e s m args below meth c s₁ B hml hv
  obtain ⟨hargs, hsz, hP, hK, hD0, hE⟩ := hv
  have hx := B.exec
  have hb := B.bytes
  have hr := B.returns
  have hts := atoms_spec (ws := wsX7_saves) B.pre
  have hown : s.vm.findClass RX7 = some m.cls := findClass_of_methodNamed B.named
  have hlocks := B.notSynchronized
  subst hsz
  have hD := hD0.self (sz := s.heap.size)
  generalize hAe : va_A [(q_this, .inr (7, [.ref q_this_now, .ref q_this_past, .int v_this_saved, .int v_this_refusal, .ref q_this_list, .ref q_this_at, .ref q_this_levels, .ref q_this_newer, .ref q_this_howMany, .ref q_this_vectors, .ref q_this_dims, .ref q_this_comes, .ref q_this_goes, .ref q_this_cameFrom, .ref q_this_halves, .int v_this_halfMany, .ref q_this_way, .ref q_this_used, .long v_this_hash])), (q_this_now, .inl (k_this_now, 187, .inl c_this_now)), (q_this_past, .inl (k_this_past, 748, .inl c_this_past))] s.heap.size = A at hD hE ⊢
  have hA : ∀ q : Nat, s.heap.size ≤ q → A q := fun q h => by rw [← hAe]; exact Or.inr h
  have hS : va_S A s.heap s.heap [] := va_S.rf
  refine kgen (fun Q eQ => ?_)
  refine kent (av := [.ref q_this]) hargs (Nat.le_of_ble_eq_true rfl) (fun ls hl => ?_)
  have hl : lv_has ls 2 [(0, .ref q_this)] := hl
  show W p l e rm_X7_saves s m args below meth c s.heap [] 0 0 Q (F0 m 0 ls [])
  unfold f_X7_saves at hf
  refine lv_aload_n hx hb dX7_saves_0 rfl (lv_at hl 0 rfl) ?_
  refine va_get (D := D) (ci := 7) (v := .int v_this_saved) (C := RX7) (T := TX7) (N := 19) hx hb hts n_X7_saves_X7 hown hK hP 0 rfl rfl 2 (by decide) (hts (.fieldLink RX7 68 "FaultyCubeModel" "saved" "I") (by decide +kernel)) (fun _ h9 => h9) rfl dX7_saves_1 ?_
  refine lv_iconst (v := 4) hx hb dX7_saves_4 (by decide) ?_
  replace hf := zjp_some hf
  obtain ⟨K49, eK49, hf⟩ := hf
  have j49 : ∀ (v_this_saved_49 : Int32) (c_this_past_49 : (Nat → Int32)), K49 v_this_saved_49 c_this_past_49 = some res → ∀ (H : Heap) (locs : List Loc) (ls : Array Slot), va_P D vwCl [(q_this, .inr (7, [.ref q_this_now, .ref q_this_past, .int v_this_saved_49, .int v_this_refusal, .ref q_this_list, .ref q_this_at, .ref q_this_levels, .ref q_this_newer, .ref q_this_howMany, .ref q_this_vectors, .ref q_this_dims, .ref q_this_comes, .ref q_this_goes, .ref q_this_cameFrom, .ref q_this_halves, .int v_this_halfMany, .ref q_this_way, .ref q_this_used, .long v_this_hash])), (q_this_now, .inl (k_this_now, 187, .inl c_this_now)), (q_this_past, .inl (k_this_past, 748, .inl c_this_past_49))] H → va_D A [(q_this, .inr (7, [.ref q_this_now, .ref q_this_past, .int v_this_saved_49, .int v_this_refusal, .ref q_this_list, .ref q_this_at, .ref q_this_levels, .ref q_this_newer, .ref q_this_howMany, .ref q_this_vectors, .ref q_this_dims, .ref q_this_comes, .ref q_this_goes, .ref q_this_cameFrom, .ref q_this_halves, .int v_this_halfMany, .ref q_this_way, .ref q_this_used, .long v_this_hash])), (q_this_now, .inl (k_this_now, 187, .inl c_this_now)), (q_this_past, .inl (k_this_past, 748, .inl c_this_past_49))] → va_S A s.heap H locs → lv_has ls 2 [(0, .ref q_this)] → W p l e rm_X7_saves s m args below meth c H locs 0 0 Q (F0 m 49 ls []) := by
    intro v_this_saved_49 c_this_past_49 hf H locs ls hP hD hS hl
    replace hf := zap2 eK49 hf
    refine lv_iconst (v := 0) hx hb dX7_saves_49 (by decide) ?_
    refine lv_istore_n (lv' := [(1, .int 0), (0, .ref q_this)]) hx hb dX7_saves_50 rfl hl (by decide) rfl (fun ls hl => ?_)
    replace hf := zl2_some hf
    obtain ⟨F51, eF51, hf⟩ := hf
    have h51 : ∀ (n51 : Nat) (i1_51 : Int32) (c_this_past_51 : (Nat → Int32)), zl2 F51 n51 i1_51 c_this_past_51 = some res → ∀ (H : Heap) (locs : List Loc) (ls : Array Slot), va_P D vwCl [(q_this, .inr (7, [.ref q_this_now, .ref q_this_past, .int v_this_saved_49, .int v_this_refusal, .ref q_this_list, .ref q_this_at, .ref q_this_levels, .ref q_this_newer, .ref q_this_howMany, .ref q_this_vectors, .ref q_this_dims, .ref q_this_comes, .ref q_this_goes, .ref q_this_cameFrom, .ref q_this_halves, .int v_this_halfMany, .ref q_this_way, .ref q_this_used, .long v_this_hash])), (q_this_now, .inl (k_this_now, 187, .inl c_this_now)), (q_this_past, .inl (k_this_past, 748, .inl c_this_past_51))] H → va_D A [(q_this, .inr (7, [.ref q_this_now, .ref q_this_past, .int v_this_saved_49, .int v_this_refusal, .ref q_this_list, .ref q_this_at, .ref q_this_levels, .ref q_this_newer, .ref q_this_howMany, .ref q_this_vectors, .ref q_this_dims, .ref q_this_comes, .ref q_this_goes, .ref q_this_cameFrom, .ref q_this_halves, .int v_this_halfMany, .ref q_this_way, .ref q_this_used, .long v_this_hash])), (q_this_now, .inl (k_this_now, 187, .inl c_this_now)), (q_this_past, .inl (k_this_past, 748, .inl c_this_past_51))] → va_S A s.heap H locs → lv_has ls 2 [(0, .ref q_this), (1, .int i1_51)] → W p l e rm_X7_saves s m args below meth c H locs 0 0 Q (F0 m 51 ls []) := by
      intro n51
      induction n51 with
      | zero => intro i1_51 c_this_past_51 hf; exact (zl2_zero hf).elim
      | succ n51 ih51 =>
        intro i1_51 c_this_past_51 hf H locs ls hP hD hS hl
        replace hf := zl2_step eF51 hf
        generalize zl2 F51 n51 = k51 at hf ih51
        refine lv_iload_n hx hb dX7_saves_51 rfl (lv_at hl 1 rfl) ?_
        refine lv_sipush (v := 187) hx hb dX7_saves_52 (by decide) ?_
        refine lv_icmp_ge (tgt := 85) hx hb dX7_saves_55 (by decide) (fun cd55 => ?_) (fun cd55 => ?_)
        · replace hf := zite_t cd55 hf
          refine lv_aload_n hx hb dX7_saves_85 rfl (lv_at hl 0 rfl) ?_
          refine lv_dup hx hb dX7_saves_86 rfl ?_
          refine va_get (D := D) (ci := 7) (v := .int v_this_saved_49) (C := RX7) (T := TX7) (N := 19) hx hb hts n_X7_saves_X7 hown hK hP 0 rfl rfl 2 (by decide) (hts (.fieldLink RX7 68 "FaultyCubeModel" "saved" "I") (by decide +kernel)) (fun _ h9 => h9) rfl dX7_saves_87 ?_
          refine lv_iconst (v := 1) hx hb dX7_saves_90 (by decide) ?_
          refine lv_iadd hx hb dX7_saves_91 ?_
          refine lv_topi (fun x1 ex1 => ?_)
          replace hf := zbd_of ex1 hf
          refine va_put (D := D) (ci := 7) (v := .int x1) (ty := .int) (C := RX7) (T := TX7) (N := 19) hx hb hts n_X7_saves_X7 tyX7 tyX7_ok nmX7 hown hK hP hD hS 0 rfl rfl 2 (by decide) (hts (.fieldLink RX7 68 "FaultyCubeModel" "saved" "I") (by decide +kernel)) (fun _ h9 => h9) rfl (by decide +kernel) rfl rfl (Nat.le_of_ble_eq_true rfl) dX7_saves_92 (fun H locs hP hD hS => ?_)
          have hP : va_P D vwCl [(q_this, .inr (7, [.ref q_this_now, .ref q_this_past, .int x1, .int v_this_refusal, .ref q_this_list, .ref q_this_at, .ref q_this_levels, .ref q_this_newer, .ref q_this_howMany, .ref q_this_vectors, .ref q_this_dims, .ref q_this_comes, .ref q_this_goes, .ref q_this_cameFrom, .ref q_this_halves, .int v_this_halfMany, .ref q_this_way, .ref q_this_used, .long v_this_hash])), (q_this_now, .inl (k_this_now, 187, .inl c_this_now)), (q_this_past, .inl (k_this_past, 748, .inl c_this_past_51))] H := hP
          have hD : va_D A [(q_this, .inr (7, [.ref q_this_now, .ref q_this_past, .int x1, .int v_this_refusal, .ref q_this_list, .ref q_this_at, .ref q_this_levels, .ref q_this_newer, .ref q_this_howMany, .ref q_this_vectors, .ref q_this_dims, .ref q_this_comes, .ref q_this_goes, .ref q_this_cameFrom, .ref q_this_halves, .int v_this_halfMany, .ref q_this_way, .ref q_this_used, .long v_this_hash])), (q_this_now, .inl (k_this_now, 187, .inl c_this_now)), (q_this_past, .inl (k_this_past, 748, .inl c_this_past_51))] := hD
          obtain rfl := Option.some.inj hf
          subst eQ
          exact kr_v hx hb hr hlocks hK hP hD hS dX7_saves_95
        · replace hf := zite_f cd55 hf
          refine lv_aload_n hx hb dX7_saves_58 rfl (lv_at hl 0 rfl) ?_
          refine va_get (D := D) (ci := 7) (v := .ref q_this_past) (C := RX7) (T := TX7) (N := 19) hx hb hts n_X7_saves_X7 hown hK hP 0 rfl rfl 1 (by decide) (hts (.fieldLink RX7 13 "FaultyCubeModel" "past" "[I") (by decide +kernel)) (fun _ h9 => h9) rfl dX7_saves_59 ?_
          refine lv_sipush (v := 187) hx hb dX7_saves_62 (by decide) ?_
          refine lv_aload_n hx hb dX7_saves_65 rfl (lv_at hl 0 rfl) ?_
          refine va_get (D := D) (ci := 7) (v := .int v_this_saved_49) (C := RX7) (T := TX7) (N := 19) hx hb hts n_X7_saves_X7 hown hK hP 0 rfl rfl 2 (by decide) (hts (.fieldLink RX7 68 "FaultyCubeModel" "saved" "I") (by decide +kernel)) (fun _ h9 => h9) rfl dX7_saves_66 ?_
          refine lv_imul hx hb dX7_saves_69 ?_
          refine lv_iload_n hx hb dX7_saves_70 rfl (lv_at hl 1 rfl) ?_
          refine lv_iadd hx hb dX7_saves_71 ?_
          refine lv_aload_n hx hb dX7_saves_72 rfl (lv_at hl 0 rfl) ?_
          refine va_get (D := D) (ci := 7) (v := .ref q_this_now) (C := RX7) (T := TX7) (N := 19) hx hb hts n_X7_saves_X7 hown hK hP 0 rfl rfl 0 (by decide) (hts (.fieldLink RX7 7 "FaultyCubeModel" "now" "[I") (by decide +kernel)) (fun _ h9 => h9) rfl dX7_saves_73 ?_
          refine lv_iload_n hx hb dX7_saves_76 rfl (lv_at hl 1 rfl) ?_
          replace hf := zgd_some hf
          obtain ⟨g2, hf⟩ := hf
          refine va_iald (D := D) hx hb hK hP 1 0 rfl rfl (inb_in g2) dX7_saves_77 ?_
          refine lv_topi (fun x3 ex3 => ?_)
          replace hf := zbd_of ex3 hf
          replace hf := zgd_some hf
          obtain ⟨g4, hf⟩ := hf
          refine va_iast (D := D) hx hb hK hP hD hS 2 1 rfl rfl (inb_in g4) dX7_saves_78 (fun H locs hP hD hS => ?_)
          obtain ⟨y5, ey5⟩ : ∃ y : (Nat → Int32), y = upd c_this_past_51 ((((187 : Int32) * v_this_saved_49) + i1_51) : Int32).toNatClampNeg x3 := ⟨_, rfl⟩
          replace hf := zbd_of ey5 hf
          have hP : va_P D vwCl [(q_this, .inr (7, [.ref q_this_now, .ref q_this_past, .int v_this_saved_49, .int v_this_refusal, .ref q_this_list, .ref q_this_at, .ref q_this_levels, .ref q_this_newer, .ref q_this_howMany, .ref q_this_vectors, .ref q_this_dims, .ref q_this_comes, .ref q_this_goes, .ref q_this_cameFrom, .ref q_this_halves, .int v_this_halfMany, .ref q_this_way, .ref q_this_used, .long v_this_hash])), (q_this_now, .inl (k_this_now, 187, .inl c_this_now)), (q_this_past, .inl (k_this_past, 748, .inl y5))] H := by rw [ey5]; exact hP
          have hD : va_D A [(q_this, .inr (7, [.ref q_this_now, .ref q_this_past, .int v_this_saved_49, .int v_this_refusal, .ref q_this_list, .ref q_this_at, .ref q_this_levels, .ref q_this_newer, .ref q_this_howMany, .ref q_this_vectors, .ref q_this_dims, .ref q_this_comes, .ref q_this_goes, .ref q_this_cameFrom, .ref q_this_halves, .int v_this_halfMany, .ref q_this_way, .ref q_this_used, .long v_this_hash])), (q_this_now, .inl (k_this_now, 187, .inl c_this_now)), (q_this_past, .inl (k_this_past, 748, .inl y5))] := by rw [ey5]; exact hD
          obtain ⟨x6, ex6⟩ : ∃ y : Int32, y = i1_51 + 1 := ⟨_, rfl⟩
          replace hf := zbd_of ex6 hf
          refine lv_iinc (v := x6) (lv' := [(1, .int x6), (0, .ref q_this)]) hx hb dX7_saves_79 hl (k := 1) rfl (by rw [ex6]; rfl) (by decide) rfl (fun ls hl => ?_)
          refine lv_goto (tgt := 51) hx hb dX7_saves_82 (by decide) ?_
          exact ih51 x6 y5 hf H locs ls hP hD hS (lv_sub hl [1, 0] rfl)
    exact h51 zfu 0 c_this_past_49 hf H locs ls hP hD hS (lv_sub hl [1, 0] rfl)
  refine lv_icmp_ne (tgt := 49) hx hb dX7_saves_5 (by decide) (fun cd5 => ?_) (fun cd5 => ?_)
  · replace hf := zite_f cd5 hf
    exact j49 v_this_saved c_this_past hf s.heap [] ls hP hD hS (lv_sub hl [0] rfl)
  · replace hf := zite_t cd5 hf
    refine lv_iconst (v := 0) hx hb dX7_saves_8 (by decide) ?_
    refine lv_istore_n (lv' := [(1, .int 0), (0, .ref q_this)]) hx hb dX7_saves_9 rfl hl (by decide) rfl (fun ls hl => ?_)
    replace hf := zl2_some hf
    obtain ⟨F10, eF10, hf⟩ := hf
    have h10 : ∀ (n10 : Nat) (i1_10 : Int32) (c_this_past_10 : (Nat → Int32)), zl2 F10 n10 i1_10 c_this_past_10 = some res → ∀ (H : Heap) (locs : List Loc) (ls : Array Slot), va_P D vwCl [(q_this, .inr (7, [.ref q_this_now, .ref q_this_past, .int v_this_saved, .int v_this_refusal, .ref q_this_list, .ref q_this_at, .ref q_this_levels, .ref q_this_newer, .ref q_this_howMany, .ref q_this_vectors, .ref q_this_dims, .ref q_this_comes, .ref q_this_goes, .ref q_this_cameFrom, .ref q_this_halves, .int v_this_halfMany, .ref q_this_way, .ref q_this_used, .long v_this_hash])), (q_this_now, .inl (k_this_now, 187, .inl c_this_now)), (q_this_past, .inl (k_this_past, 748, .inl c_this_past_10))] H → va_D A [(q_this, .inr (7, [.ref q_this_now, .ref q_this_past, .int v_this_saved, .int v_this_refusal, .ref q_this_list, .ref q_this_at, .ref q_this_levels, .ref q_this_newer, .ref q_this_howMany, .ref q_this_vectors, .ref q_this_dims, .ref q_this_comes, .ref q_this_goes, .ref q_this_cameFrom, .ref q_this_halves, .int v_this_halfMany, .ref q_this_way, .ref q_this_used, .long v_this_hash])), (q_this_now, .inl (k_this_now, 187, .inl c_this_now)), (q_this_past, .inl (k_this_past, 748, .inl c_this_past_10))] → va_S A s.heap H locs → lv_has ls 2 [(0, .ref q_this), (1, .int i1_10)] → W p l e rm_X7_saves s m args below meth c H locs 0 0 Q (F0 m 10 ls []) := by
      intro n10
      induction n10 with
      | zero => intro i1_10 c_this_past_10 hf; exact (zl2_zero hf).elim
      | succ n10 ih10 =>
        intro i1_10 c_this_past_10 hf H locs ls hP hD hS hl
        replace hf := zl2_step eF10 hf
        generalize zl2 F10 n10 = k10 at hf ih10
        refine lv_iload_n hx hb dX7_saves_10 rfl (lv_at hl 1 rfl) ?_
        refine lv_sipush (v := 561) hx hb dX7_saves_11 (by decide) ?_
        refine lv_icmp_ge (tgt := 39) hx hb dX7_saves_14 (by decide) (fun cd14 => ?_) (fun cd14 => ?_)
        · replace hf := zite_t cd14 hf
          refine lv_aload_n hx hb dX7_saves_39 rfl (lv_at hl 0 rfl) ?_
          refine lv_dup hx hb dX7_saves_40 rfl ?_
          refine va_get (D := D) (ci := 7) (v := .int v_this_saved) (C := RX7) (T := TX7) (N := 19) hx hb hts n_X7_saves_X7 hown hK hP 0 rfl rfl 2 (by decide) (hts (.fieldLink RX7 68 "FaultyCubeModel" "saved" "I") (by decide +kernel)) (fun _ h9 => h9) rfl dX7_saves_41 ?_
          refine lv_iconst (v := 1) hx hb dX7_saves_44 (by decide) ?_
          refine lv_isub hx hb dX7_saves_45 ?_
          refine lv_topi (fun x7 ex7 => ?_)
          replace hf := zbd_of ex7 hf
          refine va_put (D := D) (ci := 7) (v := .int x7) (ty := .int) (C := RX7) (T := TX7) (N := 19) hx hb hts n_X7_saves_X7 tyX7 tyX7_ok nmX7 hown hK hP hD hS 0 rfl rfl 2 (by decide) (hts (.fieldLink RX7 68 "FaultyCubeModel" "saved" "I") (by decide +kernel)) (fun _ h9 => h9) rfl (by decide +kernel) rfl rfl (Nat.le_of_ble_eq_true rfl) dX7_saves_46 (fun H locs hP hD hS => ?_)
          have hP : va_P D vwCl [(q_this, .inr (7, [.ref q_this_now, .ref q_this_past, .int x7, .int v_this_refusal, .ref q_this_list, .ref q_this_at, .ref q_this_levels, .ref q_this_newer, .ref q_this_howMany, .ref q_this_vectors, .ref q_this_dims, .ref q_this_comes, .ref q_this_goes, .ref q_this_cameFrom, .ref q_this_halves, .int v_this_halfMany, .ref q_this_way, .ref q_this_used, .long v_this_hash])), (q_this_now, .inl (k_this_now, 187, .inl c_this_now)), (q_this_past, .inl (k_this_past, 748, .inl c_this_past_10))] H := hP
          have hD : va_D A [(q_this, .inr (7, [.ref q_this_now, .ref q_this_past, .int x7, .int v_this_refusal, .ref q_this_list, .ref q_this_at, .ref q_this_levels, .ref q_this_newer, .ref q_this_howMany, .ref q_this_vectors, .ref q_this_dims, .ref q_this_comes, .ref q_this_goes, .ref q_this_cameFrom, .ref q_this_halves, .int v_this_halfMany, .ref q_this_way, .ref q_this_used, .long v_this_hash])), (q_this_now, .inl (k_this_now, 187, .inl c_this_now)), (q_this_past, .inl (k_this_past, 748, .inl c_this_past_10))] := hD
          exact j49 x7 c_this_past_10 hf H locs ls hP hD hS (lv_sub hl [0] rfl)
        · replace hf := zite_f cd14 hf
          refine lv_aload_n hx hb dX7_saves_17 rfl (lv_at hl 0 rfl) ?_
          refine va_get (D := D) (ci := 7) (v := .ref q_this_past) (C := RX7) (T := TX7) (N := 19) hx hb hts n_X7_saves_X7 hown hK hP 0 rfl rfl 1 (by decide) (hts (.fieldLink RX7 13 "FaultyCubeModel" "past" "[I") (by decide +kernel)) (fun _ h9 => h9) rfl dX7_saves_18 ?_
          refine lv_iload_n hx hb dX7_saves_21 rfl (lv_at hl 1 rfl) ?_
          refine lv_aload_n hx hb dX7_saves_22 rfl (lv_at hl 0 rfl) ?_
          refine va_get (D := D) (ci := 7) (v := .ref q_this_past) (C := RX7) (T := TX7) (N := 19) hx hb hts n_X7_saves_X7 hown hK hP 0 rfl rfl 1 (by decide) (hts (.fieldLink RX7 13 "FaultyCubeModel" "past" "[I") (by decide +kernel)) (fun _ h9 => h9) rfl dX7_saves_23 ?_
          refine lv_iload_n hx hb dX7_saves_26 rfl (lv_at hl 1 rfl) ?_
          refine lv_sipush (v := 187) hx hb dX7_saves_27 (by decide) ?_
          refine lv_iadd hx hb dX7_saves_30 ?_
          replace hf := zgd_some hf
          obtain ⟨g8, hf⟩ := hf
          refine va_iald (D := D) hx hb hK hP 2 1 rfl rfl (inb_in g8) dX7_saves_31 ?_
          refine lv_topi (fun x9 ex9 => ?_)
          replace hf := zbd_of ex9 hf
          replace hf := zgd_some hf
          obtain ⟨g10, hf⟩ := hf
          refine va_iast (D := D) hx hb hK hP hD hS 2 1 rfl rfl (inb_in g10) dX7_saves_32 (fun H locs hP hD hS => ?_)
          obtain ⟨y11, ey11⟩ : ∃ y : (Nat → Int32), y = upd c_this_past_10 (i1_10 : Int32).toNatClampNeg x9 := ⟨_, rfl⟩
          replace hf := zbd_of ey11 hf
          have hP : va_P D vwCl [(q_this, .inr (7, [.ref q_this_now, .ref q_this_past, .int v_this_saved, .int v_this_refusal, .ref q_this_list, .ref q_this_at, .ref q_this_levels, .ref q_this_newer, .ref q_this_howMany, .ref q_this_vectors, .ref q_this_dims, .ref q_this_comes, .ref q_this_goes, .ref q_this_cameFrom, .ref q_this_halves, .int v_this_halfMany, .ref q_this_way, .ref q_this_used, .long v_this_hash])), (q_this_now, .inl (k_this_now, 187, .inl c_this_now)), (q_this_past, .inl (k_this_past, 748, .inl y11))] H := by rw [ey11]; exact hP
          have hD : va_D A [(q_this, .inr (7, [.ref q_this_now, .ref q_this_past, .int v_this_saved, .int v_this_refusal, .ref q_this_list, .ref q_this_at, .ref q_this_levels, .ref q_this_newer, .ref q_this_howMany, .ref q_this_vectors, .ref q_this_dims, .ref q_this_comes, .ref q_this_goes, .ref q_this_cameFrom, .ref q_this_halves, .int v_this_halfMany, .ref q_this_way, .ref q_this_used, .long v_this_hash])), (q_this_now, .inl (k_this_now, 187, .inl c_this_now)), (q_this_past, .inl (k_this_past, 748, .inl y11))] := by rw [ey11]; exact hD
          obtain ⟨x12, ex12⟩ : ∃ y : Int32, y = i1_10 + 1 := ⟨_, rfl⟩
          replace hf := zbd_of ex12 hf
          refine lv_iinc (v := x12) (lv' := [(1, .int x12), (0, .ref q_this)]) hx hb dX7_saves_33 hl (k := 1) rfl (by rw [ex12]; rfl) (by decide) rfl (fun ls hl => ?_)
          refine lv_goto (tgt := 10) hx hb dX7_saves_36 (by decide) ?_
          exact ih10 x12 y11 hf H locs ls hP hD hS (lv_sub hl [1, 0] rfl)
    exact h10 zfu 0 c_this_past hf s.heap [] ls hP hD hS (lv_sub hl [1, 0] rfl)
theorem n_X7_undo_X7 : ∀ w ∈ u_ws RX7 TX7 19, w ∈ wsX7_undo := by decide +kernel
abbrev rm_X7_undo : Room := { frames := 1, cells := 0, slots := 0, locals := 21 }
set_option maxHeartbeats 4000000 in
set_option maxRecDepth 100000 in
theorem c_X7_undo (l : Launch) (D : va_G) (sz : Nat) (q_this : Nat) (q_this_now : Nat) (q_this_past : Nat) (q_this_list : Nat) (q_this_at : Nat) (q_this_levels : Nat) (q_this_newer : Nat) (q_this_howMany : Nat) (q_this_vectors : Nat) (q_this_dims : Nat) (q_this_comes : Nat) (q_this_goes : Nat) (q_this_cameFrom : Nat) (q_this_halves : Nat) (q_this_way : Nat) (q_this_used : Nat) (k_this_now : ClassId) (k_this_past : ClassId) (v_this_saved : Int32) (v_this_refusal : Int32) (v_this_halfMany : Int32) (v_this_hash : Int64) (c_this_now : (Nat → Int32)) (c_this_past : (Nat → Int32)) (res : rt_X7_undo) (hf : f_X7_undo v_this_saved v_this_refusal c_this_now c_this_past = some res) : Met l yX7_undo wsX7_undo rm_X7_undo (kP D [.ref q_this] [(q_this, .inr (7, [.ref q_this_now, .ref q_this_past, .int v_this_saved, .int v_this_refusal, .ref q_this_list, .ref q_this_at, .ref q_this_levels, .ref q_this_newer, .ref q_this_howMany, .ref q_this_vectors, .ref q_this_dims, .ref q_this_comes, .ref q_this_goes, .ref q_this_cameFrom, .ref q_this_halves, .int v_this_halfMany, .ref q_this_way, .ref q_this_used, .long v_this_hash])), (q_this_now, .inl (k_this_now, 187, .inl c_this_now)), (q_this_past, .inl (k_this_past, 748, .inl c_this_past))] [(k_this_now, .int), (k_this_past, .int)] sz) (kQi D (va_A [(q_this, .inr (7, [.ref q_this_now, .ref q_this_past, .int v_this_saved, .int v_this_refusal, .ref q_this_list, .ref q_this_at, .ref q_this_levels, .ref q_this_newer, .ref q_this_howMany, .ref q_this_vectors, .ref q_this_dims, .ref q_this_comes, .ref q_this_goes, .ref q_this_cameFrom, .ref q_this_halves, .int v_this_halfMany, .ref q_this_way, .ref q_this_used, .long v_this_hash])), (q_this_now, .inl (k_this_now, 187, .inl c_this_now)), (q_this_past, .inl (k_this_past, 748, .inl c_this_past))] sz) [(k_this_now, .int), (k_this_past, .int)] res.1 [(q_this, .inr (7, [.ref q_this_now, .ref q_this_past, .int res.2.1, .int res.2.2.1, .ref q_this_list, .ref q_this_at, .ref q_this_levels, .ref q_this_newer, .ref q_this_howMany, .ref q_this_vectors, .ref q_this_dims, .ref q_this_comes, .ref q_this_goes, .ref q_this_cameFrom, .ref q_this_halves, .int v_this_halfMany, .ref q_this_way, .ref q_this_used, .long v_this_hash])), (q_this_now, .inl (k_this_now, 187, .inl res.2.2.2)), (q_this_past, .inl (k_this_past, 748, .inl c_this_past))]) 0 0 (va_A [(q_this, .inr (7, [.ref q_this_now, .ref q_this_past, .int v_this_saved, .int v_this_refusal, .ref q_this_list, .ref q_this_at, .ref q_this_levels, .ref q_this_newer, .ref q_this_howMany, .ref q_this_vectors, .ref q_this_dims, .ref q_this_comes, .ref q_this_goes, .ref q_this_cameFrom, .ref q_this_halves, .int v_this_halfMany, .ref q_this_way, .ref q_this_used, .long v_this_hash])), (q_this_now, .inl (k_this_now, 187, .inl c_this_now)), (q_this_past, .inl (k_this_past, 748, .inl c_this_past))] sz) := by
  refine Met.ofW (cc := cX7_undo) (maxL := 2) (ret := (some .int)) (by decide +kernel) rfl ?_
  intro p e s m args below meth c s₁ B hml hv
  obtain ⟨hargs, hsz, hP, hK, hD0, hE⟩ := hv
  have hx := B.exec
  have hb := B.bytes
  have hr := B.returns
  have hts := atoms_spec (ws := wsX7_undo) B.pre
  have hown : s.vm.findClass RX7 = some m.cls := findClass_of_methodNamed B.named
  have hlocks := B.notSynchronized
  subst hsz
  have hD := hD0.self (sz := s.heap.size)
  generalize hAe : va_A [(q_this, .inr (7, [.ref q_this_now, .ref q_this_past, .int v_this_saved, .int v_this_refusal, .ref q_this_list, .ref q_this_at, .ref q_this_levels, .ref q_this_newer, .ref q_this_howMany, .ref q_this_vectors, .ref q_this_dims, .ref q_this_comes, .ref q_this_goes, .ref q_this_cameFrom, .ref q_this_halves, .int v_this_halfMany, .ref q_this_way, .ref q_this_used, .long v_this_hash])), (q_this_now, .inl (k_this_now, 187, .inl c_this_now)), (q_this_past, .inl (k_this_past, 748, .inl c_this_past))] s.heap.size = A at hD hE ⊢
  have hA : ∀ q : Nat, s.heap.size ≤ q → A q := fun q h => by rw [← hAe]; exact Or.inr h
  have hS : va_S A s.heap s.heap [] := va_S.rf
  refine kgen (fun Q eQ => ?_)
  refine kent (av := [.ref q_this]) hargs (Nat.le_of_ble_eq_true rfl) (fun ls hl => ?_)
  have hl : lv_has ls 2 [(0, .ref q_this)] := hl
  show W p l e rm_X7_undo s m args below meth c s.heap [] 0 0 Q (F0 m 0 ls [])
  unfold f_X7_undo at hf
  refine lv_aload_n hx hb dX7_undo_0 rfl (lv_at hl 0 rfl) ?_
  refine lv_aload_n hx hb dX7_undo_1 rfl (lv_at hl 0 rfl) ?_
  refine va_get (D := D) (ci := 7) (v := .int v_this_saved) (C := RX7) (T := TX7) (N := 19) hx hb hts n_X7_undo_X7 hown hK hP 0 rfl rfl 2 (by decide) (hts (.fieldLink RX7 68 "FaultyCubeModel" "saved" "I") (by decide +kernel)) (fun _ h9 => h9) rfl dX7_undo_2 ?_
  replace hf := zjp_some hf
  obtain ⟨K13, eK13, hf⟩ := hf
  have j13 : ∀ (s1_13 : Int32), K13 s1_13 = some res → ∀ (H : Heap) (locs : List Loc) (ls : Array Slot), va_P D vwCl [(q_this, .inr (7, [.ref q_this_now, .ref q_this_past, .int v_this_saved, .int v_this_refusal, .ref q_this_list, .ref q_this_at, .ref q_this_levels, .ref q_this_newer, .ref q_this_howMany, .ref q_this_vectors, .ref q_this_dims, .ref q_this_comes, .ref q_this_goes, .ref q_this_cameFrom, .ref q_this_halves, .int v_this_halfMany, .ref q_this_way, .ref q_this_used, .long v_this_hash])), (q_this_now, .inl (k_this_now, 187, .inl c_this_now)), (q_this_past, .inl (k_this_past, 748, .inl c_this_past))] H → va_D A [(q_this, .inr (7, [.ref q_this_now, .ref q_this_past, .int v_this_saved, .int v_this_refusal, .ref q_this_list, .ref q_this_at, .ref q_this_levels, .ref q_this_newer, .ref q_this_howMany, .ref q_this_vectors, .ref q_this_dims, .ref q_this_comes, .ref q_this_goes, .ref q_this_cameFrom, .ref q_this_halves, .int v_this_halfMany, .ref q_this_way, .ref q_this_used, .long v_this_hash])), (q_this_now, .inl (k_this_now, 187, .inl c_this_now)), (q_this_past, .inl (k_this_past, 748, .inl c_this_past))] → va_S A s.heap H locs → lv_has ls 2 [(0, .ref q_this)] → W p l e rm_X7_undo s m args below meth c H locs 0 0 Q (F0 m 13 ls [.int s1_13, .ref q_this]) := by
    intro s1_13 hf H locs ls hP hD hS hl
    replace hf := zap1 eK13 hf
    replace hf := zob_some hf
    obtain ⟨u1, hu1, hf⟩ := hf
    refine kd_i (D := D) (v := u1.1) (av := [.ref q_this, .int s1_13]) (wc := [(q_this, .inr (7, [.ref q_this_now, .ref q_this_past, .int v_this_saved, .int v_this_refusal, .ref q_this_list, .ref q_this_at, .ref q_this_levels, .ref q_this_newer, .ref q_this_howMany, .ref q_this_vectors, .ref q_this_dims, .ref q_this_comes, .ref q_this_goes, .ref q_this_cameFrom, .ref q_this_halves, .int v_this_halfMany, .ref q_this_way, .ref q_this_used, .long v_this_hash]))]) (w1 := [(q_this, .inr (7, [.ref q_this_now, .ref q_this_past, .int v_this_saved, .int u1.2, .ref q_this_list, .ref q_this_at, .ref q_this_levels, .ref q_this_newer, .ref q_this_howMany, .ref q_this_vectors, .ref q_this_dims, .ref q_this_comes, .ref q_this_goes, .ref q_this_cameFrom, .ref q_this_halves, .int v_this_halfMany, .ref q_this_way, .ref q_this_used, .long v_this_hash]))]) (ws2 := [(q_this, .inr (7, [.ref q_this_now, .ref q_this_past, .int v_this_saved, .int u1.2, .ref q_this_list, .ref q_this_at, .ref q_this_levels, .ref q_this_newer, .ref q_this_howMany, .ref q_this_vectors, .ref q_this_dims, .ref q_this_comes, .ref q_this_goes, .ref q_this_cameFrom, .ref q_this_halves, .int v_this_halfMany, .ref q_this_way, .ref q_this_used, .long v_this_hash])), (q_this_now, .inl (k_this_now, 187, .inl c_this_now)), (q_this_past, .inl (k_this_past, 748, .inl c_this_past))]) hK hP hD hS hA hE [0] [] [1, 2] [2, 0, 1] (fun hb1 hp1 => va_runV (As := [.int s1_13]) (rest := []) ⟨hx, hb, hml, hown, hts⟩ (c_X7_refused l D H.size q_this q_this_now q_this_past q_this_list q_this_at q_this_levels q_this_newer q_this_howMany q_this_vectors q_this_dims q_this_comes q_this_goes q_this_cameFrom q_this_halves q_this_way q_this_used v_this_saved v_this_refusal v_this_halfMany v_this_hash s1_13 u1 hu1) (cwV 1 hts gX7_undo_X7_refused rfl rfl rfl (by decide +kernel) ⟨Nat.le_of_ble_eq_true rfl, Nat.le_of_ble_eq_true rfl⟩) ⟨hb1, va_recv hK hP (ci := 7) (q0 := 0) rfl rfl, hp1⟩ rfl rfl hl.1 rfl (lv_room (Nat.le_of_ble_eq_true rfl)) dX7_undo_13 ⟨Nat.le_of_ble_eq_true rfl, Nat.le_of_ble_eq_true rfl⟩) rfl rfl rfl rfl rfl rfl rfl rfl rfl rfl (fun H locs hP hD hS => ?_)
    have hP : va_P D vwCl [(q_this, .inr (7, [.ref q_this_now, .ref q_this_past, .int v_this_saved, .int u1.2, .ref q_this_list, .ref q_this_at, .ref q_this_levels, .ref q_this_newer, .ref q_this_howMany, .ref q_this_vectors, .ref q_this_dims, .ref q_this_comes, .ref q_this_goes, .ref q_this_cameFrom, .ref q_this_halves, .int v_this_halfMany, .ref q_this_way, .ref q_this_used, .long v_this_hash])), (q_this_now, .inl (k_this_now, 187, .inl c_this_now)), (q_this_past, .inl (k_this_past, 748, .inl c_this_past))] H := hP
    have hD : va_D A [(q_this, .inr (7, [.ref q_this_now, .ref q_this_past, .int v_this_saved, .int u1.2, .ref q_this_list, .ref q_this_at, .ref q_this_levels, .ref q_this_newer, .ref q_this_howMany, .ref q_this_vectors, .ref q_this_dims, .ref q_this_comes, .ref q_this_goes, .ref q_this_cameFrom, .ref q_this_halves, .int v_this_halfMany, .ref q_this_way, .ref q_this_used, .long v_this_hash])), (q_this_now, .inl (k_this_now, 187, .inl c_this_now)), (q_this_past, .inl (k_this_past, 748, .inl c_this_past))] := hD
    refine lv_if_eq (tgt := 21) hx hb dX7_undo_16 (by decide) (fun cd16 => ?_) (fun cd16 => ?_)
    · replace hf := zite_t cd16 hf
      refine lv_aload_n hx hb dX7_undo_21 rfl (lv_at hl 0 rfl) ?_
      refine lv_dup hx hb dX7_undo_22 rfl ?_
      refine va_get (D := D) (ci := 7) (v := .int v_this_saved) (C := RX7) (T := TX7) (N := 19) hx hb hts n_X7_undo_X7 hown hK hP 0 rfl rfl 2 (by decide) (hts (.fieldLink RX7 68 "FaultyCubeModel" "saved" "I") (by decide +kernel)) (fun _ h9 => h9) rfl dX7_undo_23 ?_
      refine lv_iconst (v := 1) hx hb dX7_undo_26 (by decide) ?_
      refine lv_isub hx hb dX7_undo_27 ?_
      refine lv_topi (fun x2 ex2 => ?_)
      replace hf := zbd_of ex2 hf
      refine va_put (D := D) (ci := 7) (v := .int x2) (ty := .int) (C := RX7) (T := TX7) (N := 19) hx hb hts n_X7_undo_X7 tyX7 tyX7_ok nmX7 hown hK hP hD hS 0 rfl rfl 2 (by decide) (hts (.fieldLink RX7 68 "FaultyCubeModel" "saved" "I") (by decide +kernel)) (fun _ h9 => h9) rfl (by decide +kernel) rfl rfl (Nat.le_of_ble_eq_true rfl) dX7_undo_28 (fun H locs hP hD hS => ?_)
      have hP : va_P D vwCl [(q_this, .inr (7, [.ref q_this_now, .ref q_this_past, .int x2, .int u1.2, .ref q_this_list, .ref q_this_at, .ref q_this_levels, .ref q_this_newer, .ref q_this_howMany, .ref q_this_vectors, .ref q_this_dims, .ref q_this_comes, .ref q_this_goes, .ref q_this_cameFrom, .ref q_this_halves, .int v_this_halfMany, .ref q_this_way, .ref q_this_used, .long v_this_hash])), (q_this_now, .inl (k_this_now, 187, .inl c_this_now)), (q_this_past, .inl (k_this_past, 748, .inl c_this_past))] H := hP
      have hD : va_D A [(q_this, .inr (7, [.ref q_this_now, .ref q_this_past, .int x2, .int u1.2, .ref q_this_list, .ref q_this_at, .ref q_this_levels, .ref q_this_newer, .ref q_this_howMany, .ref q_this_vectors, .ref q_this_dims, .ref q_this_comes, .ref q_this_goes, .ref q_this_cameFrom, .ref q_this_halves, .int v_this_halfMany, .ref q_this_way, .ref q_this_used, .long v_this_hash])), (q_this_now, .inl (k_this_now, 187, .inl c_this_now)), (q_this_past, .inl (k_this_past, 748, .inl c_this_past))] := hD
      refine lv_iconst (v := 0) hx hb dX7_undo_31 (by decide) ?_
      refine lv_istore_n (lv' := [(1, .int 0), (0, .ref q_this)]) hx hb dX7_undo_32 rfl hl (by decide) rfl (fun ls hl => ?_)
      replace hf := zl2_some hf
      obtain ⟨F33, eF33, hf⟩ := hf
      have h33 : ∀ (n33 : Nat) (i1_33 : Int32) (c_this_now_33 : (Nat → Int32)), zl2 F33 n33 i1_33 c_this_now_33 = some res → ∀ (H : Heap) (locs : List Loc) (ls : Array Slot), va_P D vwCl [(q_this, .inr (7, [.ref q_this_now, .ref q_this_past, .int x2, .int u1.2, .ref q_this_list, .ref q_this_at, .ref q_this_levels, .ref q_this_newer, .ref q_this_howMany, .ref q_this_vectors, .ref q_this_dims, .ref q_this_comes, .ref q_this_goes, .ref q_this_cameFrom, .ref q_this_halves, .int v_this_halfMany, .ref q_this_way, .ref q_this_used, .long v_this_hash])), (q_this_now, .inl (k_this_now, 187, .inl c_this_now_33)), (q_this_past, .inl (k_this_past, 748, .inl c_this_past))] H → va_D A [(q_this, .inr (7, [.ref q_this_now, .ref q_this_past, .int x2, .int u1.2, .ref q_this_list, .ref q_this_at, .ref q_this_levels, .ref q_this_newer, .ref q_this_howMany, .ref q_this_vectors, .ref q_this_dims, .ref q_this_comes, .ref q_this_goes, .ref q_this_cameFrom, .ref q_this_halves, .int v_this_halfMany, .ref q_this_way, .ref q_this_used, .long v_this_hash])), (q_this_now, .inl (k_this_now, 187, .inl c_this_now_33)), (q_this_past, .inl (k_this_past, 748, .inl c_this_past))] → va_S A s.heap H locs → lv_has ls 2 [(0, .ref q_this), (1, .int i1_33)] → W p l e rm_X7_undo s m args below meth c H locs 0 0 Q (F0 m 33 ls []) := by
        intro n33
        induction n33 with
        | zero => intro i1_33 c_this_now_33 hf; exact (zl2_zero hf).elim
        | succ n33 ih33 =>
          intro i1_33 c_this_now_33 hf H locs ls hP hD hS hl
          replace hf := zl2_step eF33 hf
          generalize zl2 F33 n33 = k33 at hf ih33
          refine lv_iload_n hx hb dX7_undo_33 rfl (lv_at hl 1 rfl) ?_
          refine lv_sipush (v := 187) hx hb dX7_undo_34 (by decide) ?_
          refine lv_icmp_ge (tgt := 67) hx hb dX7_undo_37 (by decide) (fun cd37 => ?_) (fun cd37 => ?_)
          · replace hf := zite_t cd37 hf
            refine lv_aload_n hx hb dX7_undo_67 rfl (lv_at hl 0 rfl) ?_
            refine va_get (D := D) (ci := 7) (v := .int x2) (C := RX7) (T := TX7) (N := 19) hx hb hts n_X7_undo_X7 hown hK hP 0 rfl rfl 2 (by decide) (hts (.fieldLink RX7 68 "FaultyCubeModel" "saved" "I") (by decide +kernel)) (fun _ h9 => h9) rfl dX7_undo_68 ?_
            obtain rfl := Option.some.inj hf
            subst eQ
            exact kr_i hx hb hr hlocks hK hP hD hS dX7_undo_71
          · replace hf := zite_f cd37 hf
            refine lv_aload_n hx hb dX7_undo_40 rfl (lv_at hl 0 rfl) ?_
            refine va_get (D := D) (ci := 7) (v := .ref q_this_now) (C := RX7) (T := TX7) (N := 19) hx hb hts n_X7_undo_X7 hown hK hP 0 rfl rfl 0 (by decide) (hts (.fieldLink RX7 7 "FaultyCubeModel" "now" "[I") (by decide +kernel)) (fun _ h9 => h9) rfl dX7_undo_41 ?_
            refine lv_iload_n hx hb dX7_undo_44 rfl (lv_at hl 1 rfl) ?_
            refine lv_aload_n hx hb dX7_undo_45 rfl (lv_at hl 0 rfl) ?_
            refine va_get (D := D) (ci := 7) (v := .ref q_this_past) (C := RX7) (T := TX7) (N := 19) hx hb hts n_X7_undo_X7 hown hK hP 0 rfl rfl 1 (by decide) (hts (.fieldLink RX7 13 "FaultyCubeModel" "past" "[I") (by decide +kernel)) (fun _ h9 => h9) rfl dX7_undo_46 ?_
            refine lv_sipush (v := 187) hx hb dX7_undo_49 (by decide) ?_
            refine lv_aload_n hx hb dX7_undo_52 rfl (lv_at hl 0 rfl) ?_
            refine va_get (D := D) (ci := 7) (v := .int x2) (C := RX7) (T := TX7) (N := 19) hx hb hts n_X7_undo_X7 hown hK hP 0 rfl rfl 2 (by decide) (hts (.fieldLink RX7 68 "FaultyCubeModel" "saved" "I") (by decide +kernel)) (fun _ h9 => h9) rfl dX7_undo_53 ?_
            refine lv_imul hx hb dX7_undo_56 ?_
            refine lv_iload_n hx hb dX7_undo_57 rfl (lv_at hl 1 rfl) ?_
            refine lv_iadd hx hb dX7_undo_58 ?_
            replace hf := zgd_some hf
            obtain ⟨g3, hf⟩ := hf
            refine va_iald (D := D) hx hb hK hP 2 1 rfl rfl (inb_in g3) dX7_undo_59 ?_
            refine lv_topi (fun x4 ex4 => ?_)
            replace hf := zbd_of ex4 hf
            replace hf := zgd_some hf
            obtain ⟨g5, hf⟩ := hf
            refine va_iast (D := D) hx hb hK hP hD hS 1 0 rfl rfl (inb_in g5) dX7_undo_60 (fun H locs hP hD hS => ?_)
            obtain ⟨y6, ey6⟩ : ∃ y : (Nat → Int32), y = upd c_this_now_33 (i1_33 : Int32).toNatClampNeg x4 := ⟨_, rfl⟩
            replace hf := zbd_of ey6 hf
            have hP : va_P D vwCl [(q_this, .inr (7, [.ref q_this_now, .ref q_this_past, .int x2, .int u1.2, .ref q_this_list, .ref q_this_at, .ref q_this_levels, .ref q_this_newer, .ref q_this_howMany, .ref q_this_vectors, .ref q_this_dims, .ref q_this_comes, .ref q_this_goes, .ref q_this_cameFrom, .ref q_this_halves, .int v_this_halfMany, .ref q_this_way, .ref q_this_used, .long v_this_hash])), (q_this_now, .inl (k_this_now, 187, .inl y6)), (q_this_past, .inl (k_this_past, 748, .inl c_this_past))] H := by rw [ey6]; exact hP
            have hD : va_D A [(q_this, .inr (7, [.ref q_this_now, .ref q_this_past, .int x2, .int u1.2, .ref q_this_list, .ref q_this_at, .ref q_this_levels, .ref q_this_newer, .ref q_this_howMany, .ref q_this_vectors, .ref q_this_dims, .ref q_this_comes, .ref q_this_goes, .ref q_this_cameFrom, .ref q_this_halves, .int v_this_halfMany, .ref q_this_way, .ref q_this_used, .long v_this_hash])), (q_this_now, .inl (k_this_now, 187, .inl y6)), (q_this_past, .inl (k_this_past, 748, .inl c_this_past))] := by rw [ey6]; exact hD
            obtain ⟨x7, ex7⟩ : ∃ y : Int32, y = i1_33 + 1 := ⟨_, rfl⟩
            replace hf := zbd_of ex7 hf
            refine lv_iinc (v := x7) (lv' := [(1, .int x7), (0, .ref q_this)]) hx hb dX7_undo_61 hl (k := 1) rfl (by rw [ex7]; rfl) (by decide) rfl (fun ls hl => ?_)
            refine lv_goto (tgt := 33) hx hb dX7_undo_64 (by decide) ?_
            exact ih33 x7 y6 hf H locs ls hP hD hS (lv_sub hl [1, 0] rfl)
      exact h33 zfu 0 c_this_now hf H locs ls hP hD hS (lv_sub hl [1, 0] rfl)
    · replace hf := zite_f cd16 hf
      refine lv_iconst (v := 0) hx hb dX7_undo_19 (by decide) ?_
      obtain rfl := Option.some.inj hf
      subst eQ
      exact kr_i hx hb hr hlocks hK hP hD hS dX7_undo_20
  refine lv_if_ne (tgt := 12) hx hb dX7_undo_5 (by decide) (fun cd5 => ?_) (fun cd5 => ?_)
  · replace hf := zite_f cd5 hf
    refine lv_iconst (v := 0) hx hb dX7_undo_12 (by decide) ?_
    exact j13 0 hf s.heap [] ls hP hD hS (lv_sub hl [0] rfl)
  · replace hf := zite_t cd5 hf
    refine lv_iconst (v := 1) hx hb dX7_undo_8 (by decide) ?_
    refine lv_goto (tgt := 13) hx hb dX7_undo_9 (by decide) ?_
    exact j13 1 hf s.heap [] ls hP hD hS (lv_sub hl [0] rfl)
theorem n_X7_setDimension_X7 : ∀ w ∈ u_ws RX7 TX7 19, w ∈ wsX7_setDimension := by decide +kernel
abbrev rm_X7_setDimension : Room := { frames := 1, cells := 0, slots := 0, locals := 22 }
set_option maxHeartbeats 4000000 in
set_option maxRecDepth 100000 in
theorem c_X7_setDimension (l : Launch) (D : va_G) (sz : Nat) (q_this : Nat) (q_this_now : Nat) (q_this_past : Nat) (q_this_list : Nat) (q_this_at : Nat) (q_this_levels : Nat) (q_this_newer : Nat) (q_this_howMany : Nat) (q_this_vectors : Nat) (q_this_dims : Nat) (q_this_comes : Nat) (q_this_goes : Nat) (q_this_cameFrom : Nat) (q_this_halves : Nat) (q_this_way : Nat) (q_this_used : Nat) (k_this_now : ClassId) (k_this_past : ClassId) (v_this_saved : Int32) (v_this_refusal : Int32) (v_this_halfMany : Int32) (v_this_hash : Int64) (c_this_now : (Nat → Int32)) (c_this_past : (Nat → Int32)) (a1 : Int32) (res : rt_X7_setDimension) (hf : f_X7_setDimension a1 v_this_saved v_this_refusal c_this_now c_this_past = some res) : Met l yX7_setDimension wsX7_setDimension rm_X7_setDimension (kP D [.ref q_this, .int a1] [(q_this, .inr (7, [.ref q_this_now, .ref q_this_past, .int v_this_saved, .int v_this_refusal, .ref q_this_list, .ref q_this_at, .ref q_this_levels, .ref q_this_newer, .ref q_this_howMany, .ref q_this_vectors, .ref q_this_dims, .ref q_this_comes, .ref q_this_goes, .ref q_this_cameFrom, .ref q_this_halves, .int v_this_halfMany, .ref q_this_way, .ref q_this_used, .long v_this_hash])), (q_this_now, .inl (k_this_now, 187, .inl c_this_now)), (q_this_past, .inl (k_this_past, 748, .inl c_this_past))] [(k_this_now, .int), (k_this_past, .int)] sz) (kQi D (va_A [(q_this, .inr (7, [.ref q_this_now, .ref q_this_past, .int v_this_saved, .int v_this_refusal, .ref q_this_list, .ref q_this_at, .ref q_this_levels, .ref q_this_newer, .ref q_this_howMany, .ref q_this_vectors, .ref q_this_dims, .ref q_this_comes, .ref q_this_goes, .ref q_this_cameFrom, .ref q_this_halves, .int v_this_halfMany, .ref q_this_way, .ref q_this_used, .long v_this_hash])), (q_this_now, .inl (k_this_now, 187, .inl c_this_now)), (q_this_past, .inl (k_this_past, 748, .inl c_this_past))] sz) [(k_this_now, .int), (k_this_past, .int)] res.1 [(q_this, .inr (7, [.ref q_this_now, .ref q_this_past, .int res.2.1, .int res.2.2.1, .ref q_this_list, .ref q_this_at, .ref q_this_levels, .ref q_this_newer, .ref q_this_howMany, .ref q_this_vectors, .ref q_this_dims, .ref q_this_comes, .ref q_this_goes, .ref q_this_cameFrom, .ref q_this_halves, .int v_this_halfMany, .ref q_this_way, .ref q_this_used, .long v_this_hash])), (q_this_now, .inl (k_this_now, 187, .inl res.2.2.2.1)), (q_this_past, .inl (k_this_past, 748, .inl res.2.2.2.2))]) 0 0 (va_A [(q_this, .inr (7, [.ref q_this_now, .ref q_this_past, .int v_this_saved, .int v_this_refusal, .ref q_this_list, .ref q_this_at, .ref q_this_levels, .ref q_this_newer, .ref q_this_howMany, .ref q_this_vectors, .ref q_this_dims, .ref q_this_comes, .ref q_this_goes, .ref q_this_cameFrom, .ref q_this_halves, .int v_this_halfMany, .ref q_this_way, .ref q_this_used, .long v_this_hash])), (q_this_now, .inl (k_this_now, 187, .inl c_this_now)), (q_this_past, .inl (k_this_past, 748, .inl c_this_past))] sz) := by
  refine Met.ofW (cc := cX7_setDimension) (maxL := 4) (ret := (some .int)) (by decide +kernel) rfl ?_
  intro p e s m args below meth c s₁ B hml hv
  obtain ⟨hargs, hsz, hP, hK, hD0, hE⟩ := hv
  have hx := B.exec
  have hb := B.bytes
  have hr := B.returns
  have hts := atoms_spec (ws := wsX7_setDimension) B.pre
  have hown : s.vm.findClass RX7 = some m.cls := findClass_of_methodNamed B.named
  have hlocks := B.notSynchronized
  subst hsz
  have hD := hD0.self (sz := s.heap.size)
  generalize hAe : va_A [(q_this, .inr (7, [.ref q_this_now, .ref q_this_past, .int v_this_saved, .int v_this_refusal, .ref q_this_list, .ref q_this_at, .ref q_this_levels, .ref q_this_newer, .ref q_this_howMany, .ref q_this_vectors, .ref q_this_dims, .ref q_this_comes, .ref q_this_goes, .ref q_this_cameFrom, .ref q_this_halves, .int v_this_halfMany, .ref q_this_way, .ref q_this_used, .long v_this_hash])), (q_this_now, .inl (k_this_now, 187, .inl c_this_now)), (q_this_past, .inl (k_this_past, 748, .inl c_this_past))] s.heap.size = A at hD hE ⊢
  have hA : ∀ q : Nat, s.heap.size ≤ q → A q := fun q h => by rw [← hAe]; exact Or.inr h
  have hS : va_S A s.heap s.heap [] := va_S.rf
  refine kgen (fun Q eQ => ?_)
  refine kent (av := [.ref q_this, .int a1]) hargs (Nat.le_of_ble_eq_true rfl) (fun ls hl => ?_)
  have hl : lv_has ls 4 [(0, .ref q_this), (1, .int a1)] := hl
  show W p l e rm_X7_setDimension s m args below meth c s.heap [] 0 0 Q (F0 m 0 ls [])
  unfold f_X7_setDimension at hf
  refine lv_aload_n hx hb dX7_setDimension_0 rfl (lv_at hl 0 rfl) ?_
  refine lv_iload_n hx hb dX7_setDimension_1 rfl (lv_at hl 1 rfl) ?_
  refine lv_iconst (v := 1) hx hb dX7_setDimension_2 (by decide) ?_
  refine lv_bipush (v := 6) hx hb dX7_setDimension_3 (by decide) ?_
  replace hf := zob_some hf
  obtain ⟨u1, hu1, hf⟩ := hf
  refine kd_i (D := D) (v := u1) (av := [.int a1, .int 1, .int 6]) (wc := []) (w1 := []) (ws2 := [(q_this, .inr (7, [.ref q_this_now, .ref q_this_past, .int v_this_saved, .int v_this_refusal, .ref q_this_list, .ref q_this_at, .ref q_this_levels, .ref q_this_newer, .ref q_this_howMany, .ref q_this_vectors, .ref q_this_dims, .ref q_this_comes, .ref q_this_goes, .ref q_this_cameFrom, .ref q_this_halves, .int v_this_halfMany, .ref q_this_way, .ref q_this_used, .long v_this_hash])), (q_this_now, .inl (k_this_now, 187, .inl c_this_now)), (q_this_past, .inl (k_this_past, 748, .inl c_this_past))]) hK hP hD hS hA hE [] [] [0, 1, 2] [0, 1, 2] (fun hb1 hp1 => va_runS (As := [.int a1, .int 1, .int 6]) (rest := [.ref q_this]) ⟨hx, hb, hml, hown, hts⟩ (c_X7_within l D s.heap.size a1 1 6 u1 hu1) (va_cwS 3 hts gX7_setDimension_X7_within rfl rfl rfl (by decide +kernel) ⟨Nat.le_of_ble_eq_true rfl, Nat.le_of_ble_eq_true rfl⟩) ⟨hb1, hp1⟩ rfl rfl hl.1 rfl (lv_room (Nat.le_of_ble_eq_true rfl)) dX7_setDimension_5 ⟨Nat.le_of_ble_eq_true rfl, Nat.le_of_ble_eq_true rfl⟩) rfl rfl rfl rfl rfl rfl rfl rfl rfl rfl (fun H locs hP hD hS => ?_)
  have hP : va_P D vwCl [(q_this, .inr (7, [.ref q_this_now, .ref q_this_past, .int v_this_saved, .int v_this_refusal, .ref q_this_list, .ref q_this_at, .ref q_this_levels, .ref q_this_newer, .ref q_this_howMany, .ref q_this_vectors, .ref q_this_dims, .ref q_this_comes, .ref q_this_goes, .ref q_this_cameFrom, .ref q_this_halves, .int v_this_halfMany, .ref q_this_way, .ref q_this_used, .long v_this_hash])), (q_this_now, .inl (k_this_now, 187, .inl c_this_now)), (q_this_past, .inl (k_this_past, 748, .inl c_this_past))] H := hP
  have hD : va_D A [(q_this, .inr (7, [.ref q_this_now, .ref q_this_past, .int v_this_saved, .int v_this_refusal, .ref q_this_list, .ref q_this_at, .ref q_this_levels, .ref q_this_newer, .ref q_this_howMany, .ref q_this_vectors, .ref q_this_dims, .ref q_this_comes, .ref q_this_goes, .ref q_this_cameFrom, .ref q_this_halves, .int v_this_halfMany, .ref q_this_way, .ref q_this_used, .long v_this_hash])), (q_this_now, .inl (k_this_now, 187, .inl c_this_now)), (q_this_past, .inl (k_this_past, 748, .inl c_this_past))] := hD
  replace hf := zjp_some hf
  obtain ⟨K16, eK16, hf⟩ := hf
  have j16 : ∀ (s1_16 : Int32), K16 s1_16 = some res → ∀ (H : Heap) (locs : List Loc) (ls : Array Slot), va_P D vwCl [(q_this, .inr (7, [.ref q_this_now, .ref q_this_past, .int v_this_saved, .int v_this_refusal, .ref q_this_list, .ref q_this_at, .ref q_this_levels, .ref q_this_newer, .ref q_this_howMany, .ref q_this_vectors, .ref q_this_dims, .ref q_this_comes, .ref q_this_goes, .ref q_this_cameFrom, .ref q_this_halves, .int v_this_halfMany, .ref q_this_way, .ref q_this_used, .long v_this_hash])), (q_this_now, .inl (k_this_now, 187, .inl c_this_now)), (q_this_past, .inl (k_this_past, 748, .inl c_this_past))] H → va_D A [(q_this, .inr (7, [.ref q_this_now, .ref q_this_past, .int v_this_saved, .int v_this_refusal, .ref q_this_list, .ref q_this_at, .ref q_this_levels, .ref q_this_newer, .ref q_this_howMany, .ref q_this_vectors, .ref q_this_dims, .ref q_this_comes, .ref q_this_goes, .ref q_this_cameFrom, .ref q_this_halves, .int v_this_halfMany, .ref q_this_way, .ref q_this_used, .long v_this_hash])), (q_this_now, .inl (k_this_now, 187, .inl c_this_now)), (q_this_past, .inl (k_this_past, 748, .inl c_this_past))] → va_S A s.heap H locs → lv_has ls 4 [(0, .ref q_this), (1, .int a1)] → W p l e rm_X7_setDimension s m args below meth c H locs 0 0 Q (F0 m 16 ls [.int s1_16, .ref q_this]) := by
    intro s1_16 hf H locs ls hP hD hS hl
    replace hf := zap1 eK16 hf
    replace hf := zob_some hf
    obtain ⟨u2, hu2, hf⟩ := hf
    refine kd_i (D := D) (v := u2.1) (av := [.ref q_this, .int s1_16]) (wc := [(q_this, .inr (7, [.ref q_this_now, .ref q_this_past, .int v_this_saved, .int v_this_refusal, .ref q_this_list, .ref q_this_at, .ref q_this_levels, .ref q_this_newer, .ref q_this_howMany, .ref q_this_vectors, .ref q_this_dims, .ref q_this_comes, .ref q_this_goes, .ref q_this_cameFrom, .ref q_this_halves, .int v_this_halfMany, .ref q_this_way, .ref q_this_used, .long v_this_hash]))]) (w1 := [(q_this, .inr (7, [.ref q_this_now, .ref q_this_past, .int v_this_saved, .int u2.2, .ref q_this_list, .ref q_this_at, .ref q_this_levels, .ref q_this_newer, .ref q_this_howMany, .ref q_this_vectors, .ref q_this_dims, .ref q_this_comes, .ref q_this_goes, .ref q_this_cameFrom, .ref q_this_halves, .int v_this_halfMany, .ref q_this_way, .ref q_this_used, .long v_this_hash]))]) (ws2 := [(q_this, .inr (7, [.ref q_this_now, .ref q_this_past, .int v_this_saved, .int u2.2, .ref q_this_list, .ref q_this_at, .ref q_this_levels, .ref q_this_newer, .ref q_this_howMany, .ref q_this_vectors, .ref q_this_dims, .ref q_this_comes, .ref q_this_goes, .ref q_this_cameFrom, .ref q_this_halves, .int v_this_halfMany, .ref q_this_way, .ref q_this_used, .long v_this_hash])), (q_this_now, .inl (k_this_now, 187, .inl c_this_now)), (q_this_past, .inl (k_this_past, 748, .inl c_this_past))]) hK hP hD hS hA hE [0] [] [1, 2] [2, 0, 1] (fun hb1 hp1 => va_runV (As := [.int s1_16]) (rest := []) ⟨hx, hb, hml, hown, hts⟩ (c_X7_refused l D H.size q_this q_this_now q_this_past q_this_list q_this_at q_this_levels q_this_newer q_this_howMany q_this_vectors q_this_dims q_this_comes q_this_goes q_this_cameFrom q_this_halves q_this_way q_this_used v_this_saved v_this_refusal v_this_halfMany v_this_hash s1_16 u2 hu2) (cwV 1 hts gX7_setDimension_X7_refused rfl rfl rfl (by decide +kernel) ⟨Nat.le_of_ble_eq_true rfl, Nat.le_of_ble_eq_true rfl⟩) ⟨hb1, va_recv hK hP (ci := 7) (q0 := 0) rfl rfl, hp1⟩ rfl rfl hl.1 rfl (lv_room (Nat.le_of_ble_eq_true rfl)) dX7_setDimension_16 ⟨Nat.le_of_ble_eq_true rfl, Nat.le_of_ble_eq_true rfl⟩) rfl rfl rfl rfl rfl rfl rfl rfl rfl rfl (fun H locs hP hD hS => ?_)
    have hP : va_P D vwCl [(q_this, .inr (7, [.ref q_this_now, .ref q_this_past, .int v_this_saved, .int u2.2, .ref q_this_list, .ref q_this_at, .ref q_this_levels, .ref q_this_newer, .ref q_this_howMany, .ref q_this_vectors, .ref q_this_dims, .ref q_this_comes, .ref q_this_goes, .ref q_this_cameFrom, .ref q_this_halves, .int v_this_halfMany, .ref q_this_way, .ref q_this_used, .long v_this_hash])), (q_this_now, .inl (k_this_now, 187, .inl c_this_now)), (q_this_past, .inl (k_this_past, 748, .inl c_this_past))] H := hP
    have hD : va_D A [(q_this, .inr (7, [.ref q_this_now, .ref q_this_past, .int v_this_saved, .int u2.2, .ref q_this_list, .ref q_this_at, .ref q_this_levels, .ref q_this_newer, .ref q_this_howMany, .ref q_this_vectors, .ref q_this_dims, .ref q_this_comes, .ref q_this_goes, .ref q_this_cameFrom, .ref q_this_halves, .int v_this_halfMany, .ref q_this_way, .ref q_this_used, .long v_this_hash])), (q_this_now, .inl (k_this_now, 187, .inl c_this_now)), (q_this_past, .inl (k_this_past, 748, .inl c_this_past))] := hD
    refine lv_if_eq (tgt := 24) hx hb dX7_setDimension_19 (by decide) (fun cd19 => ?_) (fun cd19 => ?_)
    · replace hf := zite_t cd19 hf
      refine lv_aload_n hx hb dX7_setDimension_24 rfl (lv_at hl 0 rfl) ?_
      replace hf := zob_some hf
      obtain ⟨u3, hu3, hf⟩ := hf
      refine kd_v (D := D) (av := [.ref q_this]) (wc := [(q_this, .inr (7, [.ref q_this_now, .ref q_this_past, .int v_this_saved, .int u2.2, .ref q_this_list, .ref q_this_at, .ref q_this_levels, .ref q_this_newer, .ref q_this_howMany, .ref q_this_vectors, .ref q_this_dims, .ref q_this_comes, .ref q_this_goes, .ref q_this_cameFrom, .ref q_this_halves, .int v_this_halfMany, .ref q_this_way, .ref q_this_used, .long v_this_hash])), (q_this_now, .inl (k_this_now, 187, .inl c_this_now)), (q_this_past, .inl (k_this_past, 748, .inl c_this_past))]) (w1 := [(q_this, .inr (7, [.ref q_this_now, .ref q_this_past, .int u3.1, .int u2.2, .ref q_this_list, .ref q_this_at, .ref q_this_levels, .ref q_this_newer, .ref q_this_howMany, .ref q_this_vectors, .ref q_this_dims, .ref q_this_comes, .ref q_this_goes, .ref q_this_cameFrom, .ref q_this_halves, .int v_this_halfMany, .ref q_this_way, .ref q_this_used, .long v_this_hash])), (q_this_now, .inl (k_this_now, 187, .inl c_this_now)), (q_this_past, .inl (k_this_past, 748, .inl u3.2))]) (ws2 := [(q_this, .inr (7, [.ref q_this_now, .ref q_this_past, .int u3.1, .int u2.2, .ref q_this_list, .ref q_this_at, .ref q_this_levels, .ref q_this_newer, .ref q_this_howMany, .ref q_this_vectors, .ref q_this_dims, .ref q_this_comes, .ref q_this_goes, .ref q_this_cameFrom, .ref q_this_halves, .int v_this_halfMany, .ref q_this_way, .ref q_this_used, .long v_this_hash])), (q_this_now, .inl (k_this_now, 187, .inl c_this_now)), (q_this_past, .inl (k_this_past, 748, .inl u3.2))]) hK hP hD hS hA hE [0, 1, 2] [0, 1] [] [0, 1, 2] (fun hb1 hp1 => va_runV (As := []) (rest := []) ⟨hx, hb, hml, hown, hts⟩ (c_X7_saves l D H.size q_this q_this_now q_this_past q_this_list q_this_at q_this_levels q_this_newer q_this_howMany q_this_vectors q_this_dims q_this_comes q_this_goes q_this_cameFrom q_this_halves q_this_way q_this_used k_this_now k_this_past v_this_saved u2.2 v_this_halfMany v_this_hash c_this_now c_this_past u3 hu3) (cwV 0 hts gX7_setDimension_X7_saves rfl rfl rfl (by decide +kernel) ⟨Nat.le_of_ble_eq_true rfl, Nat.le_of_ble_eq_true rfl⟩) ⟨hb1, va_recv hK hP (ci := 7) (q0 := 0) rfl rfl, hp1⟩ rfl rfl hl.1 rfl (lv_room (Nat.le_of_ble_eq_true rfl)) dX7_setDimension_25 ⟨Nat.le_of_ble_eq_true rfl, Nat.le_of_ble_eq_true rfl⟩) rfl rfl rfl rfl rfl rfl rfl rfl rfl rfl (fun H locs hP hD hS => ?_)
      have hP : va_P D vwCl [(q_this, .inr (7, [.ref q_this_now, .ref q_this_past, .int u3.1, .int u2.2, .ref q_this_list, .ref q_this_at, .ref q_this_levels, .ref q_this_newer, .ref q_this_howMany, .ref q_this_vectors, .ref q_this_dims, .ref q_this_comes, .ref q_this_goes, .ref q_this_cameFrom, .ref q_this_halves, .int v_this_halfMany, .ref q_this_way, .ref q_this_used, .long v_this_hash])), (q_this_now, .inl (k_this_now, 187, .inl c_this_now)), (q_this_past, .inl (k_this_past, 748, .inl u3.2))] H := hP
      have hD : va_D A [(q_this, .inr (7, [.ref q_this_now, .ref q_this_past, .int u3.1, .int u2.2, .ref q_this_list, .ref q_this_at, .ref q_this_levels, .ref q_this_newer, .ref q_this_howMany, .ref q_this_vectors, .ref q_this_dims, .ref q_this_comes, .ref q_this_goes, .ref q_this_cameFrom, .ref q_this_halves, .int v_this_halfMany, .ref q_this_way, .ref q_this_used, .long v_this_hash])), (q_this_now, .inl (k_this_now, 187, .inl c_this_now)), (q_this_past, .inl (k_this_past, 748, .inl u3.2))] := hD
      refine lv_aload_n hx hb dX7_setDimension_28 rfl (lv_at hl 0 rfl) ?_
      refine va_get (D := D) (ci := 7) (v := .ref q_this_now) (C := RX7) (T := TX7) (N := 19) hx hb hts n_X7_setDimension_X7 hown hK hP 0 rfl rfl 0 (by decide) (hts (.fieldLink RX7 7 "FaultyCubeModel" "now" "[I") (by decide +kernel)) (fun _ h9 => h9) rfl dX7_setDimension_29 ?_
      refine lv_iconst (v := 0) hx hb dX7_setDimension_32 (by decide) ?_
      replace hf := zgd_some hf
      obtain ⟨g4, hf⟩ := hf
      refine va_iald (D := D) hx hb hK hP 1 0 rfl rfl (inb_in g4) dX7_setDimension_33 ?_
      refine lv_topi (fun x5 ex5 => ?_)
      replace hf := zbd_of ex5 hf
      refine lv_istore_n (lv' := [(2, .int x5), (0, .ref q_this), (1, .int a1)]) hx hb dX7_setDimension_34 rfl hl (by decide) rfl (fun ls hl => ?_)
      refine lv_iconst (v := 0) hx hb dX7_setDimension_35 (by decide) ?_
      refine lv_istore_n (lv' := [(3, .int 0), (2, .int x5), (0, .ref q_this), (1, .int a1)]) hx hb dX7_setDimension_36 rfl hl (by decide) rfl (fun ls hl => ?_)
      replace hf := zl2_some hf
      obtain ⟨F37, eF37, hf⟩ := hf
      have h37 : ∀ (n37 : Nat) (i3_37 : Int32) (c_this_now_37 : (Nat → Int32)), zl2 F37 n37 i3_37 c_this_now_37 = some res → ∀ (H : Heap) (locs : List Loc) (ls : Array Slot), va_P D vwCl [(q_this, .inr (7, [.ref q_this_now, .ref q_this_past, .int u3.1, .int u2.2, .ref q_this_list, .ref q_this_at, .ref q_this_levels, .ref q_this_newer, .ref q_this_howMany, .ref q_this_vectors, .ref q_this_dims, .ref q_this_comes, .ref q_this_goes, .ref q_this_cameFrom, .ref q_this_halves, .int v_this_halfMany, .ref q_this_way, .ref q_this_used, .long v_this_hash])), (q_this_now, .inl (k_this_now, 187, .inl c_this_now_37)), (q_this_past, .inl (k_this_past, 748, .inl u3.2))] H → va_D A [(q_this, .inr (7, [.ref q_this_now, .ref q_this_past, .int u3.1, .int u2.2, .ref q_this_list, .ref q_this_at, .ref q_this_levels, .ref q_this_newer, .ref q_this_howMany, .ref q_this_vectors, .ref q_this_dims, .ref q_this_comes, .ref q_this_goes, .ref q_this_cameFrom, .ref q_this_halves, .int v_this_halfMany, .ref q_this_way, .ref q_this_used, .long v_this_hash])), (q_this_now, .inl (k_this_now, 187, .inl c_this_now_37)), (q_this_past, .inl (k_this_past, 748, .inl u3.2))] → va_S A s.heap H locs → lv_has ls 4 [(0, .ref q_this), (1, .int a1), (2, .int x5), (3, .int i3_37)] → W p l e rm_X7_setDimension s m args below meth c H locs 0 0 Q (F0 m 37 ls []) := by
        intro n37
        induction n37 with
        | zero => intro i3_37 c_this_now_37 hf; exact (zl2_zero hf).elim
        | succ n37 ih37 =>
          intro i3_37 c_this_now_37 hf H locs ls hP hD hS hl
          replace hf := zl2_step eF37 hf
          generalize zl2 F37 n37 = k37 at hf ih37
          refine lv_iload_n hx hb dX7_setDimension_37 rfl (lv_at hl 3 rfl) ?_
          refine lv_sipush (v := 187) hx hb dX7_setDimension_38 (by decide) ?_
          refine lv_icmp_ge (tgt := 57) hx hb dX7_setDimension_41 (by decide) (fun cd41 => ?_) (fun cd41 => ?_)
          · replace hf := zite_t cd41 hf
            refine lv_aload_n hx hb dX7_setDimension_57 rfl (lv_at hl 0 rfl) ?_
            refine va_get (D := D) (ci := 7) (v := .ref q_this_now) (C := RX7) (T := TX7) (N := 19) hx hb hts n_X7_setDimension_X7 hown hK hP 0 rfl rfl 0 (by decide) (hts (.fieldLink RX7 7 "FaultyCubeModel" "now" "[I") (by decide +kernel)) (fun _ h9 => h9) rfl dX7_setDimension_58 ?_
            refine lv_iconst (v := 0) hx hb dX7_setDimension_61 (by decide) ?_
            refine lv_iload_n hx hb dX7_setDimension_62 rfl (lv_at hl 1 rfl) ?_
            replace hf := zgd_some hf
            obtain ⟨g6, hf⟩ := hf
            refine va_iast (D := D) hx hb hK hP hD hS 1 0 rfl rfl (inb_in g6) dX7_setDimension_63 (fun H locs hP hD hS => ?_)
            obtain ⟨y7, ey7⟩ : ∃ y : (Nat → Int32), y = upd c_this_now_37 (0 : Int32).toNatClampNeg a1 := ⟨_, rfl⟩
            replace hf := zbd_of ey7 hf
            have hP : va_P D vwCl [(q_this, .inr (7, [.ref q_this_now, .ref q_this_past, .int u3.1, .int u2.2, .ref q_this_list, .ref q_this_at, .ref q_this_levels, .ref q_this_newer, .ref q_this_howMany, .ref q_this_vectors, .ref q_this_dims, .ref q_this_comes, .ref q_this_goes, .ref q_this_cameFrom, .ref q_this_halves, .int v_this_halfMany, .ref q_this_way, .ref q_this_used, .long v_this_hash])), (q_this_now, .inl (k_this_now, 187, .inl y7)), (q_this_past, .inl (k_this_past, 748, .inl u3.2))] H := by rw [ey7]; exact hP
            have hD : va_D A [(q_this, .inr (7, [.ref q_this_now, .ref q_this_past, .int u3.1, .int u2.2, .ref q_this_list, .ref q_this_at, .ref q_this_levels, .ref q_this_newer, .ref q_this_howMany, .ref q_this_vectors, .ref q_this_dims, .ref q_this_comes, .ref q_this_goes, .ref q_this_cameFrom, .ref q_this_halves, .int v_this_halfMany, .ref q_this_way, .ref q_this_used, .long v_this_hash])), (q_this_now, .inl (k_this_now, 187, .inl y7)), (q_this_past, .inl (k_this_past, 748, .inl u3.2))] := by rw [ey7]; exact hD
            refine lv_iload_n hx hb dX7_setDimension_64 rfl (lv_at hl 2 rfl) ?_
            obtain rfl := Option.some.inj hf
            subst eQ
            exact kr_i hx hb hr hlocks hK hP hD hS dX7_setDimension_65
          · replace hf := zite_f cd41 hf
            refine lv_aload_n hx hb dX7_setDimension_44 rfl (lv_at hl 0 rfl) ?_
            refine va_get (D := D) (ci := 7) (v := .ref q_this_now) (C := RX7) (T := TX7) (N := 19) hx hb hts n_X7_setDimension_X7 hown hK hP 0 rfl rfl 0 (by decide) (hts (.fieldLink RX7 7 "FaultyCubeModel" "now" "[I") (by decide +kernel)) (fun _ h9 => h9) rfl dX7_setDimension_45 ?_
            refine lv_iload_n hx hb dX7_setDimension_48 rfl (lv_at hl 3 rfl) ?_
            refine lv_iconst (v := 0) hx hb dX7_setDimension_49 (by decide) ?_
            replace hf := zgd_some hf
            obtain ⟨g8, hf⟩ := hf
            refine va_iast (D := D) hx hb hK hP hD hS 1 0 rfl rfl (inb_in g8) dX7_setDimension_50 (fun H locs hP hD hS => ?_)
            obtain ⟨y9, ey9⟩ : ∃ y : (Nat → Int32), y = upd c_this_now_37 (i3_37 : Int32).toNatClampNeg 0 := ⟨_, rfl⟩
            replace hf := zbd_of ey9 hf
            have hP : va_P D vwCl [(q_this, .inr (7, [.ref q_this_now, .ref q_this_past, .int u3.1, .int u2.2, .ref q_this_list, .ref q_this_at, .ref q_this_levels, .ref q_this_newer, .ref q_this_howMany, .ref q_this_vectors, .ref q_this_dims, .ref q_this_comes, .ref q_this_goes, .ref q_this_cameFrom, .ref q_this_halves, .int v_this_halfMany, .ref q_this_way, .ref q_this_used, .long v_this_hash])), (q_this_now, .inl (k_this_now, 187, .inl y9)), (q_this_past, .inl (k_this_past, 748, .inl u3.2))] H := by rw [ey9]; exact hP
            have hD : va_D A [(q_this, .inr (7, [.ref q_this_now, .ref q_this_past, .int u3.1, .int u2.2, .ref q_this_list, .ref q_this_at, .ref q_this_levels, .ref q_this_newer, .ref q_this_howMany, .ref q_this_vectors, .ref q_this_dims, .ref q_this_comes, .ref q_this_goes, .ref q_this_cameFrom, .ref q_this_halves, .int v_this_halfMany, .ref q_this_way, .ref q_this_used, .long v_this_hash])), (q_this_now, .inl (k_this_now, 187, .inl y9)), (q_this_past, .inl (k_this_past, 748, .inl u3.2))] := by rw [ey9]; exact hD
            obtain ⟨x10, ex10⟩ : ∃ y : Int32, y = i3_37 + 1 := ⟨_, rfl⟩
            replace hf := zbd_of ex10 hf
            refine lv_iinc (v := x10) (lv' := [(3, .int x10), (0, .ref q_this), (1, .int a1), (2, .int x5)]) hx hb dX7_setDimension_51 hl (k := 3) rfl (by rw [ex10]; rfl) (by decide) rfl (fun ls hl => ?_)
            refine lv_goto (tgt := 37) hx hb dX7_setDimension_54 (by decide) ?_
            exact ih37 x10 y9 hf H locs ls hP hD hS (lv_sub hl [1, 2, 3, 0] rfl)
      exact h37 zfu 0 c_this_now hf H locs ls hP hD hS (lv_sub hl [2, 3, 1, 0] rfl)
    · replace hf := zite_f cd19 hf
      refine lv_iconst (v := 0) hx hb dX7_setDimension_22 (by decide) ?_
      obtain rfl := Option.some.inj hf
      subst eQ
      exact kr_i hx hb hr hlocks hK hP hD hS dX7_setDimension_23
  refine lv_if_eq (tgt := 15) hx hb dX7_setDimension_8 (by decide) (fun cd8 => ?_) (fun cd8 => ?_)
  · replace hf := zite_t cd8 hf
    refine lv_iconst (v := 1) hx hb dX7_setDimension_15 (by decide) ?_
    exact j16 1 hf H locs ls hP hD hS (lv_sub hl [0, 1] rfl)
  · replace hf := zite_f cd8 hf
    refine lv_iconst (v := 0) hx hb dX7_setDimension_11 (by decide) ?_
    refine lv_goto (tgt := 16) hx hb dX7_setDimension_12 (by decide) ?_
    exact j16 0 hf H locs ls hP hD hS (lv_sub hl [0, 1] rfl)
theorem n_X7_dies_X7 : ∀ w ∈ u_ws RX7 TX7 19, w ∈ wsX7_dies := by decide +kernel
abbrev rm_X7_dies : Room := { frames := 0, cells := 0, slots := 0, locals := 0 }
set_option maxHeartbeats 4000000 in
set_option maxRecDepth 100000 in
theorem c_X7_dies (l : Launch) (D : va_G) (sz : Nat) (q_this : Nat) (q_this_now : Nat) (q_this_past : Nat) (q_this_list : Nat) (q_this_at : Nat) (q_this_levels : Nat) (q_this_newer : Nat) (q_this_howMany : Nat) (q_this_vectors : Nat) (q_this_dims : Nat) (q_this_comes : Nat) (q_this_goes : Nat) (q_this_cameFrom : Nat) (q_this_halves : Nat) (q_this_way : Nat) (q_this_used : Nat) (k_this_now : ClassId) (v_this_saved : Int32) (v_this_refusal : Int32) (v_this_halfMany : Int32) (v_this_hash : Int64) (c_this_now : (Nat → Int32)) (a1 : Int32) (res : rt_X7_dies) (hf : f_X7_dies a1 c_this_now = some res) : Met l yX7_dies wsX7_dies rm_X7_dies (kP D [.ref q_this, .int a1] [(q_this, .inr (7, [.ref q_this_now, .ref q_this_past, .int v_this_saved, .int v_this_refusal, .ref q_this_list, .ref q_this_at, .ref q_this_levels, .ref q_this_newer, .ref q_this_howMany, .ref q_this_vectors, .ref q_this_dims, .ref q_this_comes, .ref q_this_goes, .ref q_this_cameFrom, .ref q_this_halves, .int v_this_halfMany, .ref q_this_way, .ref q_this_used, .long v_this_hash])), (q_this_now, .inl (k_this_now, 187, .inl c_this_now))] [(k_this_now, .int)] sz) (kQi D (va_A [(q_this, .inr (7, [.ref q_this_now, .ref q_this_past, .int v_this_saved, .int v_this_refusal, .ref q_this_list, .ref q_this_at, .ref q_this_levels, .ref q_this_newer, .ref q_this_howMany, .ref q_this_vectors, .ref q_this_dims, .ref q_this_comes, .ref q_this_goes, .ref q_this_cameFrom, .ref q_this_halves, .int v_this_halfMany, .ref q_this_way, .ref q_this_used, .long v_this_hash])), (q_this_now, .inl (k_this_now, 187, .inl c_this_now))] sz) [(k_this_now, .int)] res.1 [(q_this, .inr (7, [.ref q_this_now, .ref q_this_past, .int v_this_saved, .int v_this_refusal, .ref q_this_list, .ref q_this_at, .ref q_this_levels, .ref q_this_newer, .ref q_this_howMany, .ref q_this_vectors, .ref q_this_dims, .ref q_this_comes, .ref q_this_goes, .ref q_this_cameFrom, .ref q_this_halves, .int v_this_halfMany, .ref q_this_way, .ref q_this_used, .long v_this_hash])), (q_this_now, .inl (k_this_now, 187, .inl res.2))]) 0 0 (va_A [(q_this, .inr (7, [.ref q_this_now, .ref q_this_past, .int v_this_saved, .int v_this_refusal, .ref q_this_list, .ref q_this_at, .ref q_this_levels, .ref q_this_newer, .ref q_this_howMany, .ref q_this_vectors, .ref q_this_dims, .ref q_this_comes, .ref q_this_goes, .ref q_this_cameFrom, .ref q_this_halves, .int v_this_halfMany, .ref q_this_way, .ref q_this_used, .long v_this_hash])), (q_this_now, .inl (k_this_now, 187, .inl c_this_now))] sz) := by
  refine Met.ofW (cc := cX7_dies) (maxL := 4) (ret := (some .int)) (by decide +kernel) rfl ?_
  intro p e s m args below meth c s₁ B hml hv
  obtain ⟨hargs, hsz, hP, hK, hD0, hE⟩ := hv
  have hx := B.exec
  have hb := B.bytes
  have hr := B.returns
  have hts := atoms_spec (ws := wsX7_dies) B.pre
  have hown : s.vm.findClass RX7 = some m.cls := findClass_of_methodNamed B.named
  have hlocks := B.notSynchronized
  subst hsz
  have hD := hD0.self (sz := s.heap.size)
  generalize hAe : va_A [(q_this, .inr (7, [.ref q_this_now, .ref q_this_past, .int v_this_saved, .int v_this_refusal, .ref q_this_list, .ref q_this_at, .ref q_this_levels, .ref q_this_newer, .ref q_this_howMany, .ref q_this_vectors, .ref q_this_dims, .ref q_this_comes, .ref q_this_goes, .ref q_this_cameFrom, .ref q_this_halves, .int v_this_halfMany, .ref q_this_way, .ref q_this_used, .long v_this_hash])), (q_this_now, .inl (k_this_now, 187, .inl c_this_now))] s.heap.size = A at hD hE ⊢
  have hA : ∀ q : Nat, s.heap.size ≤ q → A q := fun q h => by rw [← hAe]; exact Or.inr h
  have hS : va_S A s.heap s.heap [] := va_S.rf
  refine kgen (fun Q eQ => ?_)
  refine kent (av := [.ref q_this, .int a1]) hargs (Nat.le_of_ble_eq_true rfl) (fun ls hl => ?_)
  have hl : lv_has ls 4 [(0, .ref q_this), (1, .int a1)] := hl
  show W p l e rm_X7_dies s m args below meth c s.heap [] 0 0 Q (F0 m 0 ls [])
  unfold f_X7_dies at hf
  refine lv_aload_n hx hb dX7_dies_0 rfl (lv_at hl 0 rfl) ?_
  refine va_get (D := D) (ci := 7) (v := .ref q_this_now) (C := RX7) (T := TX7) (N := 19) hx hb hts n_X7_dies_X7 hown hK hP 0 rfl rfl 0 (by decide) (hts (.fieldLink RX7 7 "FaultyCubeModel" "now" "[I") (by decide +kernel)) (fun _ h9 => h9) rfl dX7_dies_1 ?_
  refine lv_iconst (v := 3) hx hb dX7_dies_4 (by decide) ?_
  refine lv_iload_n hx hb dX7_dies_5 rfl (lv_at hl 1 rfl) ?_
  refine lv_iadd hx hb dX7_dies_6 ?_
  refine lv_iconst (v := 1) hx hb dX7_dies_7 (by decide) ?_
  replace hf := zgd_some hf
  obtain ⟨g1, hf⟩ := hf
  refine va_iast (D := D) hx hb hK hP hD hS 1 0 rfl rfl (inb_in g1) dX7_dies_8 (fun H locs hP hD hS => ?_)
  obtain ⟨y2, ey2⟩ : ∃ y : (Nat → Int32), y = upd c_this_now (((3 : Int32) + a1) : Int32).toNatClampNeg 1 := ⟨_, rfl⟩
  replace hf := zbd_of ey2 hf
  have hP : va_P D vwCl [(q_this, .inr (7, [.ref q_this_now, .ref q_this_past, .int v_this_saved, .int v_this_refusal, .ref q_this_list, .ref q_this_at, .ref q_this_levels, .ref q_this_newer, .ref q_this_howMany, .ref q_this_vectors, .ref q_this_dims, .ref q_this_comes, .ref q_this_goes, .ref q_this_cameFrom, .ref q_this_halves, .int v_this_halfMany, .ref q_this_way, .ref q_this_used, .long v_this_hash])), (q_this_now, .inl (k_this_now, 187, .inl y2))] H := by rw [ey2]; exact hP
  have hD : va_D A [(q_this, .inr (7, [.ref q_this_now, .ref q_this_past, .int v_this_saved, .int v_this_refusal, .ref q_this_list, .ref q_this_at, .ref q_this_levels, .ref q_this_newer, .ref q_this_howMany, .ref q_this_vectors, .ref q_this_dims, .ref q_this_comes, .ref q_this_goes, .ref q_this_cameFrom, .ref q_this_halves, .int v_this_halfMany, .ref q_this_way, .ref q_this_used, .long v_this_hash])), (q_this_now, .inl (k_this_now, 187, .inl y2))] := by rw [ey2]; exact hD
  refine lv_iconst (v := 0) hx hb dX7_dies_9 (by decide) ?_
  refine lv_istore_n (lv' := [(2, .int 0), (0, .ref q_this), (1, .int a1)]) hx hb dX7_dies_10 rfl hl (by decide) rfl (fun ls hl => ?_)
  refine lv_bipush (v := 67) hx hb dX7_dies_11 (by decide) ?_
  refine lv_istore_n (lv' := [(3, .int 67), (2, .int 0), (0, .ref q_this), (1, .int a1)]) hx hb dX7_dies_13 rfl hl (by decide) rfl (fun ls hl => ?_)
  replace hf := zl3_some hf
  obtain ⟨F14, eF14, hf⟩ := hf
  have h14 : ∀ (n14 : Nat) (i2_14 : Int32) (i3_14 : Int32) (c_this_now_14 : (Nat → Int32)), zl3 F14 n14 i2_14 i3_14 c_this_now_14 = some res → ∀ (H : Heap) (locs : List Loc) (ls : Array Slot), va_P D vwCl [(q_this, .inr (7, [.ref q_this_now, .ref q_this_past, .int v_this_saved, .int v_this_refusal, .ref q_this_list, .ref q_this_at, .ref q_this_levels, .ref q_this_newer, .ref q_this_howMany, .ref q_this_vectors, .ref q_this_dims, .ref q_this_comes, .ref q_this_goes, .ref q_this_cameFrom, .ref q_this_halves, .int v_this_halfMany, .ref q_this_way, .ref q_this_used, .long v_this_hash])), (q_this_now, .inl (k_this_now, 187, .inl c_this_now_14))] H → va_D A [(q_this, .inr (7, [.ref q_this_now, .ref q_this_past, .int v_this_saved, .int v_this_refusal, .ref q_this_list, .ref q_this_at, .ref q_this_levels, .ref q_this_newer, .ref q_this_howMany, .ref q_this_vectors, .ref q_this_dims, .ref q_this_comes, .ref q_this_goes, .ref q_this_cameFrom, .ref q_this_halves, .int v_this_halfMany, .ref q_this_way, .ref q_this_used, .long v_this_hash])), (q_this_now, .inl (k_this_now, 187, .inl c_this_now_14))] → va_S A s.heap H locs → lv_has ls 4 [(0, .ref q_this), (1, .int a1), (2, .int i2_14), (3, .int i3_14)] → W p l e rm_X7_dies s m args below meth c H locs 0 0 Q (F0 m 14 ls []) := by
    intro n14
    induction n14 with
    | zero => intro i2_14 i3_14 c_this_now_14 hf; exact (zl3_zero hf).elim
    | succ n14 ih14 =>
      intro i2_14 i3_14 c_this_now_14 hf H locs ls hP hD hS hl
      replace hf := zl3_step eF14 hf
      generalize zl3 F14 n14 = k14 at hf ih14
      refine lv_iload_n hx hb dX7_dies_14 rfl (lv_at hl 3 rfl) ?_
      refine lv_bipush (v := 67) hx hb dX7_dies_15 (by decide) ?_
      refine lv_iconst (v := 5) hx hb dX7_dies_17 (by decide) ?_
      refine lv_aload_n hx hb dX7_dies_18 rfl (lv_at hl 0 rfl) ?_
      refine va_get (D := D) (ci := 7) (v := .ref q_this_now) (C := RX7) (T := TX7) (N := 19) hx hb hts n_X7_dies_X7 hown hK hP 0 rfl rfl 0 (by decide) (hts (.fieldLink RX7 7 "FaultyCubeModel" "now" "[I") (by decide +kernel)) (fun _ h9 => h9) rfl dX7_dies_19 ?_
      refine lv_iconst (v := 2) hx hb dX7_dies_22 (by decide) ?_
      replace hf := zgd_some hf
      obtain ⟨g3, hf⟩ := hf
      refine va_iald (D := D) hx hb hK hP 1 0 rfl rfl (inb_in g3) dX7_dies_23 ?_
      refine lv_imul hx hb dX7_dies_24 ?_
      refine lv_iadd hx hb dX7_dies_25 ?_
      refine lv_icmp_ge (tgt := 78) hx hb dX7_dies_26 (by decide) (fun cd26 => ?_) (fun cd26 => ?_)
      · replace hf := zite_t cd26 hf
        refine lv_iload_n hx hb dX7_dies_78 rfl (lv_at hl 2 rfl) ?_
        obtain rfl := Option.some.inj hf
        subst eQ
        exact kr_i hx hb hr hlocks hK hP hD hS dX7_dies_79
      · replace hf := zite_f cd26 hf
        refine lv_aload_n hx hb dX7_dies_29 rfl (lv_at hl 0 rfl) ?_
        refine va_get (D := D) (ci := 7) (v := .ref q_this_now) (C := RX7) (T := TX7) (N := 19) hx hb hts n_X7_dies_X7 hown hK hP 0 rfl rfl 0 (by decide) (hts (.fieldLink RX7 7 "FaultyCubeModel" "now" "[I") (by decide +kernel)) (fun _ h9 => h9) rfl dX7_dies_30 ?_
        refine lv_iload_n hx hb dX7_dies_33 rfl (lv_at hl 3 rfl) ?_
        replace hf := zgd_some hf
        obtain ⟨g4, hf⟩ := hf
        refine va_iald (D := D) hx hb hK hP 1 0 rfl rfl (inb_in g4) dX7_dies_34 ?_
        replace hf := zjp_some hf
        obtain ⟨K72, eK72, hf⟩ := hf
        have j72 : ∀ (i2_72 : Int32) (c_this_now_72 : (Nat → Int32)), K72 i2_72 c_this_now_72 = some res → ∀ (H : Heap) (locs : List Loc) (ls : Array Slot), va_P D vwCl [(q_this, .inr (7, [.ref q_this_now, .ref q_this_past, .int v_this_saved, .int v_this_refusal, .ref q_this_list, .ref q_this_at, .ref q_this_levels, .ref q_this_newer, .ref q_this_howMany, .ref q_this_vectors, .ref q_this_dims, .ref q_this_comes, .ref q_this_goes, .ref q_this_cameFrom, .ref q_this_halves, .int v_this_halfMany, .ref q_this_way, .ref q_this_used, .long v_this_hash])), (q_this_now, .inl (k_this_now, 187, .inl c_this_now_72))] H → va_D A [(q_this, .inr (7, [.ref q_this_now, .ref q_this_past, .int v_this_saved, .int v_this_refusal, .ref q_this_list, .ref q_this_at, .ref q_this_levels, .ref q_this_newer, .ref q_this_howMany, .ref q_this_vectors, .ref q_this_dims, .ref q_this_comes, .ref q_this_goes, .ref q_this_cameFrom, .ref q_this_halves, .int v_this_halfMany, .ref q_this_way, .ref q_this_used, .long v_this_hash])), (q_this_now, .inl (k_this_now, 187, .inl c_this_now_72))] → va_S A s.heap H locs → lv_has ls 4 [(0, .ref q_this), (1, .int a1), (2, .int i2_72), (3, .int i3_14)] → W p l e rm_X7_dies s m args below meth c H locs 0 0 Q (F0 m 72 ls []) := by
          intro i2_72 c_this_now_72 hf H locs ls hP hD hS hl
          replace hf := zap2 eK72 hf
          obtain ⟨x5, ex5⟩ : ∃ y : Int32, y = i3_14 + 5 := ⟨_, rfl⟩
          replace hf := zbd_of ex5 hf
          refine lv_iinc (v := x5) (lv' := [(3, .int x5), (0, .ref q_this), (1, .int a1), (2, .int i2_72)]) hx hb dX7_dies_72 hl (k := 3) rfl (by rw [ex5]; rfl) (by decide) rfl (fun ls hl => ?_)
          refine lv_goto (tgt := 14) hx hb dX7_dies_75 (by decide) ?_
          exact ih14 i2_72 x5 c_this_now_72 hf H locs ls hP hD hS (lv_sub hl [1, 2, 3, 0] rfl)
        refine lv_if_ne (tgt := 72) hx hb dX7_dies_35 (by decide) (fun cd35 => ?_) (fun cd35 => ?_)
        · replace hf := zite_f cd35 hf
          exact j72 i2_14 c_this_now_14 hf H locs ls hP hD hS (lv_sub hl [0, 1, 2, 3] rfl)
        · replace hf := zite_t cd35 hf
          refine lv_aload_n hx hb dX7_dies_38 rfl (lv_at hl 0 rfl) ?_
          refine va_get (D := D) (ci := 7) (v := .ref q_this_now) (C := RX7) (T := TX7) (N := 19) hx hb hts n_X7_dies_X7 hown hK hP 0 rfl rfl 0 (by decide) (hts (.fieldLink RX7 7 "FaultyCubeModel" "now" "[I") (by decide +kernel)) (fun _ h9 => h9) rfl dX7_dies_39 ?_
          refine lv_iload_n hx hb dX7_dies_42 rfl (lv_at hl 3 rfl) ?_
          refine lv_iconst (v := 1) hx hb dX7_dies_43 (by decide) ?_
          refine lv_iadd hx hb dX7_dies_44 ?_
          replace hf := zgd_some hf
          obtain ⟨g6, hf⟩ := hf
          refine va_iald (D := D) hx hb hK hP 1 0 rfl rfl (inb_in g6) dX7_dies_45 ?_
          refine lv_iload_n hx hb dX7_dies_46 rfl (lv_at hl 1 rfl) ?_
          replace hf := zjp_some hf
          obtain ⟨K62, eK62, hf⟩ := hf
          have j62 : K62 = some res → ∀ (H : Heap) (locs : List Loc) (ls : Array Slot), va_P D vwCl [(q_this, .inr (7, [.ref q_this_now, .ref q_this_past, .int v_this_saved, .int v_this_refusal, .ref q_this_list, .ref q_this_at, .ref q_this_levels, .ref q_this_newer, .ref q_this_howMany, .ref q_this_vectors, .ref q_this_dims, .ref q_this_comes, .ref q_this_goes, .ref q_this_cameFrom, .ref q_this_halves, .int v_this_halfMany, .ref q_this_way, .ref q_this_used, .long v_this_hash])), (q_this_now, .inl (k_this_now, 187, .inl c_this_now_14))] H → va_D A [(q_this, .inr (7, [.ref q_this_now, .ref q_this_past, .int v_this_saved, .int v_this_refusal, .ref q_this_list, .ref q_this_at, .ref q_this_levels, .ref q_this_newer, .ref q_this_howMany, .ref q_this_vectors, .ref q_this_dims, .ref q_this_comes, .ref q_this_goes, .ref q_this_cameFrom, .ref q_this_halves, .int v_this_halfMany, .ref q_this_way, .ref q_this_used, .long v_this_hash])), (q_this_now, .inl (k_this_now, 187, .inl c_this_now_14))] → va_S A s.heap H locs → lv_has ls 4 [(0, .ref q_this), (1, .int a1), (2, .int i2_14), (3, .int i3_14)] → W p l e rm_X7_dies s m args below meth c H locs 0 0 Q (F0 m 62 ls []) := by
            intro  hf H locs ls hP hD hS hl
            replace hf := zap0 eK62 hf
            refine lv_aload_n hx hb dX7_dies_62 rfl (lv_at hl 0 rfl) ?_
            refine va_get (D := D) (ci := 7) (v := .ref q_this_now) (C := RX7) (T := TX7) (N := 19) hx hb hts n_X7_dies_X7 hown hK hP 0 rfl rfl 0 (by decide) (hts (.fieldLink RX7 7 "FaultyCubeModel" "now" "[I") (by decide +kernel)) (fun _ h9 => h9) rfl dX7_dies_63 ?_
            refine lv_iload_n hx hb dX7_dies_66 rfl (lv_at hl 3 rfl) ?_
            refine lv_iconst (v := 2) hx hb dX7_dies_67 (by decide) ?_
            replace hf := zgd_some hf
            obtain ⟨g7, hf⟩ := hf
            refine va_iast (D := D) hx hb hK hP hD hS 1 0 rfl rfl (inb_in g7) dX7_dies_68 (fun H locs hP hD hS => ?_)
            obtain ⟨y8, ey8⟩ : ∃ y : (Nat → Int32), y = upd c_this_now_14 (i3_14 : Int32).toNatClampNeg 2 := ⟨_, rfl⟩
            replace hf := zbd_of ey8 hf
            have hP : va_P D vwCl [(q_this, .inr (7, [.ref q_this_now, .ref q_this_past, .int v_this_saved, .int v_this_refusal, .ref q_this_list, .ref q_this_at, .ref q_this_levels, .ref q_this_newer, .ref q_this_howMany, .ref q_this_vectors, .ref q_this_dims, .ref q_this_comes, .ref q_this_goes, .ref q_this_cameFrom, .ref q_this_halves, .int v_this_halfMany, .ref q_this_way, .ref q_this_used, .long v_this_hash])), (q_this_now, .inl (k_this_now, 187, .inl y8))] H := by rw [ey8]; exact hP
            have hD : va_D A [(q_this, .inr (7, [.ref q_this_now, .ref q_this_past, .int v_this_saved, .int v_this_refusal, .ref q_this_list, .ref q_this_at, .ref q_this_levels, .ref q_this_newer, .ref q_this_howMany, .ref q_this_vectors, .ref q_this_dims, .ref q_this_comes, .ref q_this_goes, .ref q_this_cameFrom, .ref q_this_halves, .int v_this_halfMany, .ref q_this_way, .ref q_this_used, .long v_this_hash])), (q_this_now, .inl (k_this_now, 187, .inl y8))] := by rw [ey8]; exact hD
            obtain ⟨x9, ex9⟩ : ∃ y : Int32, y = i2_14 + 1 := ⟨_, rfl⟩
            replace hf := zbd_of ex9 hf
            refine lv_iinc (v := x9) (lv' := [(2, .int x9), (0, .ref q_this), (1, .int a1), (3, .int i3_14)]) hx hb dX7_dies_69 hl (k := 2) rfl (by rw [ex9]; rfl) (by decide) rfl (fun ls hl => ?_)
            exact j72 x9 y8 hf H locs ls hP hD hS (lv_sub hl [1, 2, 0, 3] rfl)
          refine lv_icmp_eq (tgt := 62) hx hb dX7_dies_47 (by decide) (fun cd47 => ?_) (fun cd47 => ?_)
          · replace hf := zite_t cd47 hf
            exact j62  hf H locs ls hP hD hS (lv_sub hl [0, 1, 2, 3] rfl)
          · replace hf := zite_f cd47 hf
            refine lv_aload_n hx hb dX7_dies_50 rfl (lv_at hl 0 rfl) ?_
            refine va_get (D := D) (ci := 7) (v := .ref q_this_now) (C := RX7) (T := TX7) (N := 19) hx hb hts n_X7_dies_X7 hown hK hP 0 rfl rfl 0 (by decide) (hts (.fieldLink RX7 7 "FaultyCubeModel" "now" "[I") (by decide +kernel)) (fun _ h9 => h9) rfl dX7_dies_51 ?_
            refine lv_iload_n hx hb dX7_dies_54 rfl (lv_at hl 3 rfl) ?_
            refine lv_iconst (v := 2) hx hb dX7_dies_55 (by decide) ?_
            refine lv_iadd hx hb dX7_dies_56 ?_
            replace hf := zgd_some hf
            obtain ⟨g10, hf⟩ := hf
            refine va_iald (D := D) hx hb hK hP 1 0 rfl rfl (inb_in g10) dX7_dies_57 ?_
            refine lv_iload_n hx hb dX7_dies_58 rfl (lv_at hl 1 rfl) ?_
            refine lv_icmp_ne (tgt := 72) hx hb dX7_dies_59 (by decide) (fun cd59 => ?_) (fun cd59 => ?_)
            · replace hf := zite_f cd59 hf
              exact j72 i2_14 c_this_now_14 hf H locs ls hP hD hS (lv_sub hl [0, 1, 2, 3] rfl)
            · replace hf := zite_t cd59 hf
              exact j62  hf H locs ls hP hD hS (lv_sub hl [0, 1, 2, 3] rfl)
  exact h14 zfu 0 67 y2 hf H locs ls hP hD hS (lv_sub hl [2, 3, 1, 0] rfl)
abbrev rm_X7_kill : Room := { frames := 2, cells := 0, slots := 0, locals := 43 }
set_option maxHeartbeats 4000000 in
set_option maxRecDepth 100000 in
theorem c_X7_kill (l : Launch) (D : va_G) (sz : Nat) (q_this : Nat) (q_this_now : Nat) (q_this_past : Nat) (q_this_list : Nat) (q_this_at : Nat) (q_this_levels : Nat) (q_this_newer : Nat) (q_this_howMany : Nat) (q_this_vectors : Nat) (q_this_dims : Nat) (q_this_comes : Nat) (q_this_goes : Nat) (q_this_cameFrom : Nat) (q_this_halves : Nat) (q_this_way : Nat) (q_this_used : Nat) (k_this_now : ClassId) (k_this_past : ClassId) (v_this_saved : Int32) (v_this_refusal : Int32) (v_this_halfMany : Int32) (v_this_hash : Int64) (c_this_now : (Nat → Int32)) (c_this_past : (Nat → Int32)) (a1 : Int32) (res : rt_X7_kill) (hf : f_X7_kill a1 v_this_saved v_this_refusal c_this_now c_this_past = some res) : Met l yX7_kill wsX7_kill rm_X7_kill (kP D [.ref q_this, .int a1] [(q_this, .inr (7, [.ref q_this_now, .ref q_this_past, .int v_this_saved, .int v_this_refusal, .ref q_this_list, .ref q_this_at, .ref q_this_levels, .ref q_this_newer, .ref q_this_howMany, .ref q_this_vectors, .ref q_this_dims, .ref q_this_comes, .ref q_this_goes, .ref q_this_cameFrom, .ref q_this_halves, .int v_this_halfMany, .ref q_this_way, .ref q_this_used, .long v_this_hash])), (q_this_now, .inl (k_this_now, 187, .inl c_this_now)), (q_this_past, .inl (k_this_past, 748, .inl c_this_past))] [(k_this_now, .int), (k_this_past, .int)] sz) (kQi D (va_A [(q_this, .inr (7, [.ref q_this_now, .ref q_this_past, .int v_this_saved, .int v_this_refusal, .ref q_this_list, .ref q_this_at, .ref q_this_levels, .ref q_this_newer, .ref q_this_howMany, .ref q_this_vectors, .ref q_this_dims, .ref q_this_comes, .ref q_this_goes, .ref q_this_cameFrom, .ref q_this_halves, .int v_this_halfMany, .ref q_this_way, .ref q_this_used, .long v_this_hash])), (q_this_now, .inl (k_this_now, 187, .inl c_this_now)), (q_this_past, .inl (k_this_past, 748, .inl c_this_past))] sz) [(k_this_now, .int), (k_this_past, .int)] res.1 [(q_this, .inr (7, [.ref q_this_now, .ref q_this_past, .int res.2.1, .int res.2.2.1, .ref q_this_list, .ref q_this_at, .ref q_this_levels, .ref q_this_newer, .ref q_this_howMany, .ref q_this_vectors, .ref q_this_dims, .ref q_this_comes, .ref q_this_goes, .ref q_this_cameFrom, .ref q_this_halves, .int v_this_halfMany, .ref q_this_way, .ref q_this_used, .long v_this_hash])), (q_this_now, .inl (k_this_now, 187, .inl res.2.2.2.1)), (q_this_past, .inl (k_this_past, 748, .inl res.2.2.2.2))]) 0 0 (va_A [(q_this, .inr (7, [.ref q_this_now, .ref q_this_past, .int v_this_saved, .int v_this_refusal, .ref q_this_list, .ref q_this_at, .ref q_this_levels, .ref q_this_newer, .ref q_this_howMany, .ref q_this_vectors, .ref q_this_dims, .ref q_this_comes, .ref q_this_goes, .ref q_this_cameFrom, .ref q_this_halves, .int v_this_halfMany, .ref q_this_way, .ref q_this_used, .long v_this_hash])), (q_this_now, .inl (k_this_now, 187, .inl c_this_now)), (q_this_past, .inl (k_this_past, 748, .inl c_this_past))] sz) := by
  refine Met.ofW (cc := cX7_kill) (maxL := 2) (ret := (some .int)) (by decide +kernel) rfl ?_
  intro p e s m args below meth c s₁ B hml hv
  obtain ⟨hargs, hsz, hP, hK, hD0, hE⟩ := hv
  have hx := B.exec
  have hb := B.bytes
  have hr := B.returns
  have hts := atoms_spec (ws := wsX7_kill) B.pre
  have hown : s.vm.findClass RX7 = some m.cls := findClass_of_methodNamed B.named
  have hlocks := B.notSynchronized
  subst hsz
  have hD := hD0.self (sz := s.heap.size)
  generalize hAe : va_A [(q_this, .inr (7, [.ref q_this_now, .ref q_this_past, .int v_this_saved, .int v_this_refusal, .ref q_this_list, .ref q_this_at, .ref q_this_levels, .ref q_this_newer, .ref q_this_howMany, .ref q_this_vectors, .ref q_this_dims, .ref q_this_comes, .ref q_this_goes, .ref q_this_cameFrom, .ref q_this_halves, .int v_this_halfMany, .ref q_this_way, .ref q_this_used, .long v_this_hash])), (q_this_now, .inl (k_this_now, 187, .inl c_this_now)), (q_this_past, .inl (k_this_past, 748, .inl c_this_past))] s.heap.size = A at hD hE ⊢
  have hA : ∀ q : Nat, s.heap.size ≤ q → A q := fun q h => by rw [← hAe]; exact Or.inr h
  have hS : va_S A s.heap s.heap [] := va_S.rf
  refine kgen (fun Q eQ => ?_)
  refine kent (av := [.ref q_this, .int a1]) hargs (Nat.le_of_ble_eq_true rfl) (fun ls hl => ?_)
  have hl : lv_has ls 2 [(0, .ref q_this), (1, .int a1)] := hl
  show W p l e rm_X7_kill s m args below meth c s.heap [] 0 0 Q (F0 m 0 ls [])
  unfold f_X7_kill at hf
  refine lv_aload_n hx hb dX7_kill_0 rfl (lv_at hl 0 rfl) ?_
  refine lv_aload_n hx hb dX7_kill_1 rfl (lv_at hl 0 rfl) ?_
  refine lv_iload_n hx hb dX7_kill_2 rfl (lv_at hl 1 rfl) ?_
  replace hf := zob_some hf
  obtain ⟨u1, hu1, hf⟩ := hf
  refine kd_i (D := D) (v := u1) (av := [.ref q_this, .int a1]) (wc := [(q_this, .inr (7, [.ref q_this_now, .ref q_this_past, .int v_this_saved, .int v_this_refusal, .ref q_this_list, .ref q_this_at, .ref q_this_levels, .ref q_this_newer, .ref q_this_howMany, .ref q_this_vectors, .ref q_this_dims, .ref q_this_comes, .ref q_this_goes, .ref q_this_cameFrom, .ref q_this_halves, .int v_this_halfMany, .ref q_this_way, .ref q_this_used, .long v_this_hash])), (q_this_now, .inl (k_this_now, 187, .inl c_this_now))]) (w1 := [(q_this, .inr (7, [.ref q_this_now, .ref q_this_past, .int v_this_saved, .int v_this_refusal, .ref q_this_list, .ref q_this_at, .ref q_this_levels, .ref q_this_newer, .ref q_this_howMany, .ref q_this_vectors, .ref q_this_dims, .ref q_this_comes, .ref q_this_goes, .ref q_this_cameFrom, .ref q_this_halves, .int v_this_halfMany, .ref q_this_way, .ref q_this_used, .long v_this_hash])), (q_this_now, .inl (k_this_now, 187, .inl c_this_now))]) (ws2 := [(q_this, .inr (7, [.ref q_this_now, .ref q_this_past, .int v_this_saved, .int v_this_refusal, .ref q_this_list, .ref q_this_at, .ref q_this_levels, .ref q_this_newer, .ref q_this_howMany, .ref q_this_vectors, .ref q_this_dims, .ref q_this_comes, .ref q_this_goes, .ref q_this_cameFrom, .ref q_this_halves, .int v_this_halfMany, .ref q_this_way, .ref q_this_used, .long v_this_hash])), (q_this_now, .inl (k_this_now, 187, .inl c_this_now)), (q_this_past, .inl (k_this_past, 748, .inl c_this_past))]) hK hP hD hS hA hE [0, 1] [0] [2] [1, 2, 0] (fun hb1 hp1 => va_runV (As := [.int a1]) (rest := [.ref q_this]) ⟨hx, hb, hml, hown, hts⟩ (c_X7_isNode l D s.heap.size q_this q_this_now q_this_past q_this_list q_this_at q_this_levels q_this_newer q_this_howMany q_this_vectors q_this_dims q_this_comes q_this_goes q_this_cameFrom q_this_halves q_this_way q_this_used k_this_now v_this_saved v_this_refusal v_this_halfMany v_this_hash c_this_now a1 u1 hu1) (cwV 1 hts gX7_kill_X7_isNode rfl rfl rfl (by decide +kernel) ⟨Nat.le_of_ble_eq_true rfl, Nat.le_of_ble_eq_true rfl⟩) ⟨hb1, va_recv hK hP (ci := 7) (q0 := 0) rfl rfl, hp1⟩ rfl rfl hl.1 rfl (lv_room (Nat.le_of_ble_eq_true rfl)) dX7_kill_3 ⟨Nat.le_of_ble_eq_true rfl, Nat.le_of_ble_eq_true rfl⟩) rfl rfl rfl rfl rfl rfl rfl rfl rfl rfl (fun H locs hP hD hS => ?_)
  have hP : va_P D vwCl [(q_this, .inr (7, [.ref q_this_now, .ref q_this_past, .int v_this_saved, .int v_this_refusal, .ref q_this_list, .ref q_this_at, .ref q_this_levels, .ref q_this_newer, .ref q_this_howMany, .ref q_this_vectors, .ref q_this_dims, .ref q_this_comes, .ref q_this_goes, .ref q_this_cameFrom, .ref q_this_halves, .int v_this_halfMany, .ref q_this_way, .ref q_this_used, .long v_this_hash])), (q_this_now, .inl (k_this_now, 187, .inl c_this_now)), (q_this_past, .inl (k_this_past, 748, .inl c_this_past))] H := hP
  have hD : va_D A [(q_this, .inr (7, [.ref q_this_now, .ref q_this_past, .int v_this_saved, .int v_this_refusal, .ref q_this_list, .ref q_this_at, .ref q_this_levels, .ref q_this_newer, .ref q_this_howMany, .ref q_this_vectors, .ref q_this_dims, .ref q_this_comes, .ref q_this_goes, .ref q_this_cameFrom, .ref q_this_halves, .int v_this_halfMany, .ref q_this_way, .ref q_this_used, .long v_this_hash])), (q_this_now, .inl (k_this_now, 187, .inl c_this_now)), (q_this_past, .inl (k_this_past, 748, .inl c_this_past))] := hD
  replace hf := zjp_some hf
  obtain ⟨K26, eK26, hf⟩ := hf
  have j26 : ∀ (s1_26 : Int32), K26 s1_26 = some res → ∀ (H : Heap) (locs : List Loc) (ls : Array Slot), va_P D vwCl [(q_this, .inr (7, [.ref q_this_now, .ref q_this_past, .int v_this_saved, .int v_this_refusal, .ref q_this_list, .ref q_this_at, .ref q_this_levels, .ref q_this_newer, .ref q_this_howMany, .ref q_this_vectors, .ref q_this_dims, .ref q_this_comes, .ref q_this_goes, .ref q_this_cameFrom, .ref q_this_halves, .int v_this_halfMany, .ref q_this_way, .ref q_this_used, .long v_this_hash])), (q_this_now, .inl (k_this_now, 187, .inl c_this_now)), (q_this_past, .inl (k_this_past, 748, .inl c_this_past))] H → va_D A [(q_this, .inr (7, [.ref q_this_now, .ref q_this_past, .int v_this_saved, .int v_this_refusal, .ref q_this_list, .ref q_this_at, .ref q_this_levels, .ref q_this_newer, .ref q_this_howMany, .ref q_this_vectors, .ref q_this_dims, .ref q_this_comes, .ref q_this_goes, .ref q_this_cameFrom, .ref q_this_halves, .int v_this_halfMany, .ref q_this_way, .ref q_this_used, .long v_this_hash])), (q_this_now, .inl (k_this_now, 187, .inl c_this_now)), (q_this_past, .inl (k_this_past, 748, .inl c_this_past))] → va_S A s.heap H locs → lv_has ls 2 [(0, .ref q_this), (1, .int a1)] → W p l e rm_X7_kill s m args below meth c H locs 0 0 Q (F0 m 26 ls [.int s1_26, .ref q_this]) := by
    intro s1_26 hf H locs ls hP hD hS hl
    replace hf := zap1 eK26 hf
    replace hf := zob_some hf
    obtain ⟨u2, hu2, hf⟩ := hf
    refine kd_i (D := D) (v := u2.1) (av := [.ref q_this, .int s1_26]) (wc := [(q_this, .inr (7, [.ref q_this_now, .ref q_this_past, .int v_this_saved, .int v_this_refusal, .ref q_this_list, .ref q_this_at, .ref q_this_levels, .ref q_this_newer, .ref q_this_howMany, .ref q_this_vectors, .ref q_this_dims, .ref q_this_comes, .ref q_this_goes, .ref q_this_cameFrom, .ref q_this_halves, .int v_this_halfMany, .ref q_this_way, .ref q_this_used, .long v_this_hash]))]) (w1 := [(q_this, .inr (7, [.ref q_this_now, .ref q_this_past, .int v_this_saved, .int u2.2, .ref q_this_list, .ref q_this_at, .ref q_this_levels, .ref q_this_newer, .ref q_this_howMany, .ref q_this_vectors, .ref q_this_dims, .ref q_this_comes, .ref q_this_goes, .ref q_this_cameFrom, .ref q_this_halves, .int v_this_halfMany, .ref q_this_way, .ref q_this_used, .long v_this_hash]))]) (ws2 := [(q_this, .inr (7, [.ref q_this_now, .ref q_this_past, .int v_this_saved, .int u2.2, .ref q_this_list, .ref q_this_at, .ref q_this_levels, .ref q_this_newer, .ref q_this_howMany, .ref q_this_vectors, .ref q_this_dims, .ref q_this_comes, .ref q_this_goes, .ref q_this_cameFrom, .ref q_this_halves, .int v_this_halfMany, .ref q_this_way, .ref q_this_used, .long v_this_hash])), (q_this_now, .inl (k_this_now, 187, .inl c_this_now)), (q_this_past, .inl (k_this_past, 748, .inl c_this_past))]) hK hP hD hS hA hE [0] [] [1, 2] [2, 0, 1] (fun hb1 hp1 => va_runV (As := [.int s1_26]) (rest := []) ⟨hx, hb, hml, hown, hts⟩ (c_X7_refused l D H.size q_this q_this_now q_this_past q_this_list q_this_at q_this_levels q_this_newer q_this_howMany q_this_vectors q_this_dims q_this_comes q_this_goes q_this_cameFrom q_this_halves q_this_way q_this_used v_this_saved v_this_refusal v_this_halfMany v_this_hash s1_26 u2 hu2) (cwV 1 hts gX7_kill_X7_refused rfl rfl rfl (by decide +kernel) ⟨Nat.le_of_ble_eq_true rfl, Nat.le_of_ble_eq_true rfl⟩) ⟨hb1, va_recv hK hP (ci := 7) (q0 := 0) rfl rfl, hp1⟩ rfl rfl hl.1 rfl (lv_room (Nat.le_of_ble_eq_true rfl)) dX7_kill_26 ⟨Nat.le_of_ble_eq_true rfl, Nat.le_of_ble_eq_true rfl⟩) rfl rfl rfl rfl rfl rfl rfl rfl rfl rfl (fun H locs hP hD hS => ?_)
    have hP : va_P D vwCl [(q_this, .inr (7, [.ref q_this_now, .ref q_this_past, .int v_this_saved, .int u2.2, .ref q_this_list, .ref q_this_at, .ref q_this_levels, .ref q_this_newer, .ref q_this_howMany, .ref q_this_vectors, .ref q_this_dims, .ref q_this_comes, .ref q_this_goes, .ref q_this_cameFrom, .ref q_this_halves, .int v_this_halfMany, .ref q_this_way, .ref q_this_used, .long v_this_hash])), (q_this_now, .inl (k_this_now, 187, .inl c_this_now)), (q_this_past, .inl (k_this_past, 748, .inl c_this_past))] H := hP
    have hD : va_D A [(q_this, .inr (7, [.ref q_this_now, .ref q_this_past, .int v_this_saved, .int u2.2, .ref q_this_list, .ref q_this_at, .ref q_this_levels, .ref q_this_newer, .ref q_this_howMany, .ref q_this_vectors, .ref q_this_dims, .ref q_this_comes, .ref q_this_goes, .ref q_this_cameFrom, .ref q_this_halves, .int v_this_halfMany, .ref q_this_way, .ref q_this_used, .long v_this_hash])), (q_this_now, .inl (k_this_now, 187, .inl c_this_now)), (q_this_past, .inl (k_this_past, 748, .inl c_this_past))] := hD
    refine lv_if_eq (tgt := 34) hx hb dX7_kill_29 (by decide) (fun cd29 => ?_) (fun cd29 => ?_)
    · replace hf := zite_t cd29 hf
      refine lv_aload_n hx hb dX7_kill_34 rfl (lv_at hl 0 rfl) ?_
      replace hf := zob_some hf
      obtain ⟨u3, hu3, hf⟩ := hf
      refine kd_v (D := D) (av := [.ref q_this]) (wc := [(q_this, .inr (7, [.ref q_this_now, .ref q_this_past, .int v_this_saved, .int u2.2, .ref q_this_list, .ref q_this_at, .ref q_this_levels, .ref q_this_newer, .ref q_this_howMany, .ref q_this_vectors, .ref q_this_dims, .ref q_this_comes, .ref q_this_goes, .ref q_this_cameFrom, .ref q_this_halves, .int v_this_halfMany, .ref q_this_way, .ref q_this_used, .long v_this_hash])), (q_this_now, .inl (k_this_now, 187, .inl c_this_now)), (q_this_past, .inl (k_this_past, 748, .inl c_this_past))]) (w1 := [(q_this, .inr (7, [.ref q_this_now, .ref q_this_past, .int u3.1, .int u2.2, .ref q_this_list, .ref q_this_at, .ref q_this_levels, .ref q_this_newer, .ref q_this_howMany, .ref q_this_vectors, .ref q_this_dims, .ref q_this_comes, .ref q_this_goes, .ref q_this_cameFrom, .ref q_this_halves, .int v_this_halfMany, .ref q_this_way, .ref q_this_used, .long v_this_hash])), (q_this_now, .inl (k_this_now, 187, .inl c_this_now)), (q_this_past, .inl (k_this_past, 748, .inl u3.2))]) (ws2 := [(q_this, .inr (7, [.ref q_this_now, .ref q_this_past, .int u3.1, .int u2.2, .ref q_this_list, .ref q_this_at, .ref q_this_levels, .ref q_this_newer, .ref q_this_howMany, .ref q_this_vectors, .ref q_this_dims, .ref q_this_comes, .ref q_this_goes, .ref q_this_cameFrom, .ref q_this_halves, .int v_this_halfMany, .ref q_this_way, .ref q_this_used, .long v_this_hash])), (q_this_now, .inl (k_this_now, 187, .inl c_this_now)), (q_this_past, .inl (k_this_past, 748, .inl u3.2))]) hK hP hD hS hA hE [0, 1, 2] [0, 1] [] [0, 1, 2] (fun hb1 hp1 => va_runV (As := []) (rest := []) ⟨hx, hb, hml, hown, hts⟩ (c_X7_saves l D H.size q_this q_this_now q_this_past q_this_list q_this_at q_this_levels q_this_newer q_this_howMany q_this_vectors q_this_dims q_this_comes q_this_goes q_this_cameFrom q_this_halves q_this_way q_this_used k_this_now k_this_past v_this_saved u2.2 v_this_halfMany v_this_hash c_this_now c_this_past u3 hu3) (cwV 0 hts gX7_kill_X7_saves rfl rfl rfl (by decide +kernel) ⟨Nat.le_of_ble_eq_true rfl, Nat.le_of_ble_eq_true rfl⟩) ⟨hb1, va_recv hK hP (ci := 7) (q0 := 0) rfl rfl, hp1⟩ rfl rfl hl.1 rfl (lv_room (Nat.le_of_ble_eq_true rfl)) dX7_kill_35 ⟨Nat.le_of_ble_eq_true rfl, Nat.le_of_ble_eq_true rfl⟩) rfl rfl rfl rfl rfl rfl rfl rfl rfl rfl (fun H locs hP hD hS => ?_)
      have hP : va_P D vwCl [(q_this, .inr (7, [.ref q_this_now, .ref q_this_past, .int u3.1, .int u2.2, .ref q_this_list, .ref q_this_at, .ref q_this_levels, .ref q_this_newer, .ref q_this_howMany, .ref q_this_vectors, .ref q_this_dims, .ref q_this_comes, .ref q_this_goes, .ref q_this_cameFrom, .ref q_this_halves, .int v_this_halfMany, .ref q_this_way, .ref q_this_used, .long v_this_hash])), (q_this_now, .inl (k_this_now, 187, .inl c_this_now)), (q_this_past, .inl (k_this_past, 748, .inl u3.2))] H := hP
      have hD : va_D A [(q_this, .inr (7, [.ref q_this_now, .ref q_this_past, .int u3.1, .int u2.2, .ref q_this_list, .ref q_this_at, .ref q_this_levels, .ref q_this_newer, .ref q_this_howMany, .ref q_this_vectors, .ref q_this_dims, .ref q_this_comes, .ref q_this_goes, .ref q_this_cameFrom, .ref q_this_halves, .int v_this_halfMany, .ref q_this_way, .ref q_this_used, .long v_this_hash])), (q_this_now, .inl (k_this_now, 187, .inl c_this_now)), (q_this_past, .inl (k_this_past, 748, .inl u3.2))] := hD
      refine lv_aload_n hx hb dX7_kill_38 rfl (lv_at hl 0 rfl) ?_
      refine lv_iload_n hx hb dX7_kill_39 rfl (lv_at hl 1 rfl) ?_
      replace hf := zob_some hf
      obtain ⟨u4, hu4, hf⟩ := hf
      refine kd_i (D := D) (v := u4.1) (av := [.ref q_this, .int a1]) (wc := [(q_this, .inr (7, [.ref q_this_now, .ref q_this_past, .int u3.1, .int u2.2, .ref q_this_list, .ref q_this_at, .ref q_this_levels, .ref q_this_newer, .ref q_this_howMany, .ref q_this_vectors, .ref q_this_dims, .ref q_this_comes, .ref q_this_goes, .ref q_this_cameFrom, .ref q_this_halves, .int v_this_halfMany, .ref q_this_way, .ref q_this_used, .long v_this_hash])), (q_this_now, .inl (k_this_now, 187, .inl c_this_now))]) (w1 := [(q_this, .inr (7, [.ref q_this_now, .ref q_this_past, .int u3.1, .int u2.2, .ref q_this_list, .ref q_this_at, .ref q_this_levels, .ref q_this_newer, .ref q_this_howMany, .ref q_this_vectors, .ref q_this_dims, .ref q_this_comes, .ref q_this_goes, .ref q_this_cameFrom, .ref q_this_halves, .int v_this_halfMany, .ref q_this_way, .ref q_this_used, .long v_this_hash])), (q_this_now, .inl (k_this_now, 187, .inl u4.2))]) (ws2 := [(q_this, .inr (7, [.ref q_this_now, .ref q_this_past, .int u3.1, .int u2.2, .ref q_this_list, .ref q_this_at, .ref q_this_levels, .ref q_this_newer, .ref q_this_howMany, .ref q_this_vectors, .ref q_this_dims, .ref q_this_comes, .ref q_this_goes, .ref q_this_cameFrom, .ref q_this_halves, .int v_this_halfMany, .ref q_this_way, .ref q_this_used, .long v_this_hash])), (q_this_now, .inl (k_this_now, 187, .inl u4.2)), (q_this_past, .inl (k_this_past, 748, .inl u3.2))]) hK hP hD hS hA hE [0, 1] [0] [2] [1, 2, 0] (fun hb1 hp1 => va_runV (As := [.int a1]) (rest := []) ⟨hx, hb, hml, hown, hts⟩ (c_X7_dies l D H.size q_this q_this_now q_this_past q_this_list q_this_at q_this_levels q_this_newer q_this_howMany q_this_vectors q_this_dims q_this_comes q_this_goes q_this_cameFrom q_this_halves q_this_way q_this_used k_this_now u3.1 u2.2 v_this_halfMany v_this_hash c_this_now a1 u4 hu4) (cwV 1 hts gX7_kill_X7_dies rfl rfl rfl (by decide +kernel) ⟨Nat.le_of_ble_eq_true rfl, Nat.le_of_ble_eq_true rfl⟩) ⟨hb1, va_recv hK hP (ci := 7) (q0 := 0) rfl rfl, hp1⟩ rfl rfl hl.1 rfl (lv_room (Nat.le_of_ble_eq_true rfl)) dX7_kill_40 ⟨Nat.le_of_ble_eq_true rfl, Nat.le_of_ble_eq_true rfl⟩) rfl rfl rfl rfl rfl rfl rfl rfl rfl rfl (fun H locs hP hD hS => ?_)
      have hP : va_P D vwCl [(q_this, .inr (7, [.ref q_this_now, .ref q_this_past, .int u3.1, .int u2.2, .ref q_this_list, .ref q_this_at, .ref q_this_levels, .ref q_this_newer, .ref q_this_howMany, .ref q_this_vectors, .ref q_this_dims, .ref q_this_comes, .ref q_this_goes, .ref q_this_cameFrom, .ref q_this_halves, .int v_this_halfMany, .ref q_this_way, .ref q_this_used, .long v_this_hash])), (q_this_now, .inl (k_this_now, 187, .inl u4.2)), (q_this_past, .inl (k_this_past, 748, .inl u3.2))] H := hP
      have hD : va_D A [(q_this, .inr (7, [.ref q_this_now, .ref q_this_past, .int u3.1, .int u2.2, .ref q_this_list, .ref q_this_at, .ref q_this_levels, .ref q_this_newer, .ref q_this_howMany, .ref q_this_vectors, .ref q_this_dims, .ref q_this_comes, .ref q_this_goes, .ref q_this_cameFrom, .ref q_this_halves, .int v_this_halfMany, .ref q_this_way, .ref q_this_used, .long v_this_hash])), (q_this_now, .inl (k_this_now, 187, .inl u4.2)), (q_this_past, .inl (k_this_past, 748, .inl u3.2))] := hD
      obtain rfl := Option.some.inj hf
      subst eQ
      exact kr_i hx hb hr hlocks hK hP hD hS dX7_kill_43
    · replace hf := zite_f cd29 hf
      refine lv_iconst (v := 0) hx hb dX7_kill_32 (by decide) ?_
      obtain rfl := Option.some.inj hf
      subst eQ
      exact kr_i hx hb hr hlocks hK hP hD hS dX7_kill_33
  refine lv_if_ne (tgt := 13) hx hb dX7_kill_6 (by decide) (fun cd6 => ?_) (fun cd6 => ?_)
  · replace hf := zite_f cd6 hf
    refine lv_aload_n hx hb dX7_kill_13 rfl (lv_at hl 0 rfl) ?_
    refine lv_iload_n hx hb dX7_kill_14 rfl (lv_at hl 1 rfl) ?_
    replace hf := zob_some hf
    obtain ⟨u5, hu5, hf⟩ := hf
    refine kd_i (D := D) (v := u5) (av := [.ref q_this, .int a1]) (wc := [(q_this, .inr (7, [.ref q_this_now, .ref q_this_past, .int v_this_saved, .int v_this_refusal, .ref q_this_list, .ref q_this_at, .ref q_this_levels, .ref q_this_newer, .ref q_this_howMany, .ref q_this_vectors, .ref q_this_dims, .ref q_this_comes, .ref q_this_goes, .ref q_this_cameFrom, .ref q_this_halves, .int v_this_halfMany, .ref q_this_way, .ref q_this_used, .long v_this_hash])), (q_this_now, .inl (k_this_now, 187, .inl c_this_now))]) (w1 := [(q_this, .inr (7, [.ref q_this_now, .ref q_this_past, .int v_this_saved, .int v_this_refusal, .ref q_this_list, .ref q_this_at, .ref q_this_levels, .ref q_this_newer, .ref q_this_howMany, .ref q_this_vectors, .ref q_this_dims, .ref q_this_comes, .ref q_this_goes, .ref q_this_cameFrom, .ref q_this_halves, .int v_this_halfMany, .ref q_this_way, .ref q_this_used, .long v_this_hash])), (q_this_now, .inl (k_this_now, 187, .inl c_this_now))]) (ws2 := [(q_this, .inr (7, [.ref q_this_now, .ref q_this_past, .int v_this_saved, .int v_this_refusal, .ref q_this_list, .ref q_this_at, .ref q_this_levels, .ref q_this_newer, .ref q_this_howMany, .ref q_this_vectors, .ref q_this_dims, .ref q_this_comes, .ref q_this_goes, .ref q_this_cameFrom, .ref q_this_halves, .int v_this_halfMany, .ref q_this_way, .ref q_this_used, .long v_this_hash])), (q_this_now, .inl (k_this_now, 187, .inl c_this_now)), (q_this_past, .inl (k_this_past, 748, .inl c_this_past))]) hK hP hD hS hA hE [0, 1] [0] [2] [1, 2, 0] (fun hb1 hp1 => va_runV (As := [.int a1]) (rest := [.ref q_this]) ⟨hx, hb, hml, hown, hts⟩ (c_X7_lives l D H.size q_this q_this_now q_this_past q_this_list q_this_at q_this_levels q_this_newer q_this_howMany q_this_vectors q_this_dims q_this_comes q_this_goes q_this_cameFrom q_this_halves q_this_way q_this_used k_this_now v_this_saved v_this_refusal v_this_halfMany v_this_hash c_this_now a1 u5 hu5) (cwV 1 hts gX7_kill_X7_lives rfl rfl rfl (by decide +kernel) ⟨Nat.le_of_ble_eq_true rfl, Nat.le_of_ble_eq_true rfl⟩) ⟨hb1, va_recv hK hP (ci := 7) (q0 := 0) rfl rfl, hp1⟩ rfl rfl hl.1 rfl (lv_room (Nat.le_of_ble_eq_true rfl)) dX7_kill_15 ⟨Nat.le_of_ble_eq_true rfl, Nat.le_of_ble_eq_true rfl⟩) rfl rfl rfl rfl rfl rfl rfl rfl rfl rfl (fun H locs hP hD hS => ?_)
    have hP : va_P D vwCl [(q_this, .inr (7, [.ref q_this_now, .ref q_this_past, .int v_this_saved, .int v_this_refusal, .ref q_this_list, .ref q_this_at, .ref q_this_levels, .ref q_this_newer, .ref q_this_howMany, .ref q_this_vectors, .ref q_this_dims, .ref q_this_comes, .ref q_this_goes, .ref q_this_cameFrom, .ref q_this_halves, .int v_this_halfMany, .ref q_this_way, .ref q_this_used, .long v_this_hash])), (q_this_now, .inl (k_this_now, 187, .inl c_this_now)), (q_this_past, .inl (k_this_past, 748, .inl c_this_past))] H := hP
    have hD : va_D A [(q_this, .inr (7, [.ref q_this_now, .ref q_this_past, .int v_this_saved, .int v_this_refusal, .ref q_this_list, .ref q_this_at, .ref q_this_levels, .ref q_this_newer, .ref q_this_howMany, .ref q_this_vectors, .ref q_this_dims, .ref q_this_comes, .ref q_this_goes, .ref q_this_cameFrom, .ref q_this_halves, .int v_this_halfMany, .ref q_this_way, .ref q_this_used, .long v_this_hash])), (q_this_now, .inl (k_this_now, 187, .inl c_this_now)), (q_this_past, .inl (k_this_past, 748, .inl c_this_past))] := hD
    refine lv_if_eq (tgt := 25) hx hb dX7_kill_18 (by decide) (fun cd18 => ?_) (fun cd18 => ?_)
    · replace hf := zite_t cd18 hf
      refine lv_iconst (v := 2) hx hb dX7_kill_25 (by decide) ?_
      exact j26 2 hf H locs ls hP hD hS (lv_sub hl [0, 1] rfl)
    · replace hf := zite_f cd18 hf
      refine lv_iconst (v := 0) hx hb dX7_kill_21 (by decide) ?_
      refine lv_goto (tgt := 26) hx hb dX7_kill_22 (by decide) ?_
      exact j26 0 hf H locs ls hP hD hS (lv_sub hl [0, 1] rfl)
  · replace hf := zite_t cd6 hf
    refine lv_iconst (v := 1) hx hb dX7_kill_9 (by decide) ?_
    refine lv_goto (tgt := 26) hx hb dX7_kill_10 (by decide) ?_
    exact j26 1 hf H locs ls hP hD hS (lv_sub hl [0, 1] rfl)
theorem n_X7_deadOnes_X7 : ∀ w ∈ u_ws RX7 TX7 19, w ∈ wsX7_deadOnes := by decide +kernel
abbrev rm_X7_deadOnes : Room := { frames := 1, cells := 0, slots := 0, locals := 20 }
set_option maxHeartbeats 4000000 in
set_option maxRecDepth 100000 in
theorem c_X7_deadOnes (l : Launch) (D : va_G) (sz : Nat) (q_this : Nat) (q_this_now : Nat) (q_this_past : Nat) (q_this_list : Nat) (q_this_at : Nat) (q_this_levels : Nat) (q_this_newer : Nat) (q_this_howMany : Nat) (q_this_vectors : Nat) (q_this_dims : Nat) (q_this_comes : Nat) (q_this_goes : Nat) (q_this_cameFrom : Nat) (q_this_halves : Nat) (q_this_way : Nat) (q_this_used : Nat) (k_this_now : ClassId) (v_this_saved : Int32) (v_this_refusal : Int32) (v_this_halfMany : Int32) (v_this_hash : Int64) (c_this_now : (Nat → Int32)) (res : rt_X7_deadOnes) (hf : f_X7_deadOnes c_this_now = some res) : Met l yX7_deadOnes wsX7_deadOnes rm_X7_deadOnes (kP D [.ref q_this] [(q_this, .inr (7, [.ref q_this_now, .ref q_this_past, .int v_this_saved, .int v_this_refusal, .ref q_this_list, .ref q_this_at, .ref q_this_levels, .ref q_this_newer, .ref q_this_howMany, .ref q_this_vectors, .ref q_this_dims, .ref q_this_comes, .ref q_this_goes, .ref q_this_cameFrom, .ref q_this_halves, .int v_this_halfMany, .ref q_this_way, .ref q_this_used, .long v_this_hash])), (q_this_now, .inl (k_this_now, 187, .inl c_this_now))] [(k_this_now, .int)] sz) (kQi D (va_A [(q_this, .inr (7, [.ref q_this_now, .ref q_this_past, .int v_this_saved, .int v_this_refusal, .ref q_this_list, .ref q_this_at, .ref q_this_levels, .ref q_this_newer, .ref q_this_howMany, .ref q_this_vectors, .ref q_this_dims, .ref q_this_comes, .ref q_this_goes, .ref q_this_cameFrom, .ref q_this_halves, .int v_this_halfMany, .ref q_this_way, .ref q_this_used, .long v_this_hash])), (q_this_now, .inl (k_this_now, 187, .inl c_this_now))] sz) [(k_this_now, .int)] res [(q_this, .inr (7, [.ref q_this_now, .ref q_this_past, .int v_this_saved, .int v_this_refusal, .ref q_this_list, .ref q_this_at, .ref q_this_levels, .ref q_this_newer, .ref q_this_howMany, .ref q_this_vectors, .ref q_this_dims, .ref q_this_comes, .ref q_this_goes, .ref q_this_cameFrom, .ref q_this_halves, .int v_this_halfMany, .ref q_this_way, .ref q_this_used, .long v_this_hash])), (q_this_now, .inl (k_this_now, 187, .inl c_this_now))]) 0 0 (va_A [(q_this, .inr (7, [.ref q_this_now, .ref q_this_past, .int v_this_saved, .int v_this_refusal, .ref q_this_list, .ref q_this_at, .ref q_this_levels, .ref q_this_newer, .ref q_this_howMany, .ref q_this_vectors, .ref q_this_dims, .ref q_this_comes, .ref q_this_goes, .ref q_this_cameFrom, .ref q_this_halves, .int v_this_halfMany, .ref q_this_way, .ref q_this_used, .long v_this_hash])), (q_this_now, .inl (k_this_now, 187, .inl c_this_now))] sz) := by
  refine Met.ofW (cc := cX7_deadOnes) (maxL := 3) (ret := (some .int)) (by decide +kernel) rfl ?_
  intro p e s m args below meth c s₁ B hml hv
  obtain ⟨hargs, hsz, hP, hK, hD0, hE⟩ := hv
  have hx := B.exec
  have hb := B.bytes
  have hr := B.returns
  have hts := atoms_spec (ws := wsX7_deadOnes) B.pre
  have hown : s.vm.findClass RX7 = some m.cls := findClass_of_methodNamed B.named
  have hlocks := B.notSynchronized
  subst hsz
  have hD := hD0.self (sz := s.heap.size)
  generalize hAe : va_A [(q_this, .inr (7, [.ref q_this_now, .ref q_this_past, .int v_this_saved, .int v_this_refusal, .ref q_this_list, .ref q_this_at, .ref q_this_levels, .ref q_this_newer, .ref q_this_howMany, .ref q_this_vectors, .ref q_this_dims, .ref q_this_comes, .ref q_this_goes, .ref q_this_cameFrom, .ref q_this_halves, .int v_this_halfMany, .ref q_this_way, .ref q_this_used, .long v_this_hash])), (q_this_now, .inl (k_this_now, 187, .inl c_this_now))] s.heap.size = A at hD hE ⊢
  have hA : ∀ q : Nat, s.heap.size ≤ q → A q := fun q h => by rw [← hAe]; exact Or.inr h
  have hS : va_S A s.heap s.heap [] := va_S.rf
  refine kgen (fun Q eQ => ?_)
  refine kent (av := [.ref q_this]) hargs (Nat.le_of_ble_eq_true rfl) (fun ls hl => ?_)
  have hl : lv_has ls 3 [(0, .ref q_this)] := hl
  show W p l e rm_X7_deadOnes s m args below meth c s.heap [] 0 0 Q (F0 m 0 ls [])
  unfold f_X7_deadOnes at hf
  refine lv_iconst (v := 0) hx hb dX7_deadOnes_0 (by decide) ?_
  refine lv_istore_n (lv' := [(1, .int 0), (0, .ref q_this)]) hx hb dX7_deadOnes_1 rfl hl (by decide) rfl (fun ls hl => ?_)
  refine lv_iconst (v := 0) hx hb dX7_deadOnes_2 (by decide) ?_
  refine lv_istore_n (lv' := [(2, .int 0), (1, .int 0), (0, .ref q_this)]) hx hb dX7_deadOnes_3 rfl hl (by decide) rfl (fun ls hl => ?_)
  replace hf := zl2_some hf
  obtain ⟨F4, eF4, hf⟩ := hf
  have h4 : ∀ (n4 : Nat) (i1_4 : Int32) (i2_4 : Int32), zl2 F4 n4 i1_4 i2_4 = some res → ∀ (H : Heap) (locs : List Loc) (ls : Array Slot), va_P D vwCl [(q_this, .inr (7, [.ref q_this_now, .ref q_this_past, .int v_this_saved, .int v_this_refusal, .ref q_this_list, .ref q_this_at, .ref q_this_levels, .ref q_this_newer, .ref q_this_howMany, .ref q_this_vectors, .ref q_this_dims, .ref q_this_comes, .ref q_this_goes, .ref q_this_cameFrom, .ref q_this_halves, .int v_this_halfMany, .ref q_this_way, .ref q_this_used, .long v_this_hash])), (q_this_now, .inl (k_this_now, 187, .inl c_this_now))] H → va_D A [(q_this, .inr (7, [.ref q_this_now, .ref q_this_past, .int v_this_saved, .int v_this_refusal, .ref q_this_list, .ref q_this_at, .ref q_this_levels, .ref q_this_newer, .ref q_this_howMany, .ref q_this_vectors, .ref q_this_dims, .ref q_this_comes, .ref q_this_goes, .ref q_this_cameFrom, .ref q_this_halves, .int v_this_halfMany, .ref q_this_way, .ref q_this_used, .long v_this_hash])), (q_this_now, .inl (k_this_now, 187, .inl c_this_now))] → va_S A s.heap H locs → lv_has ls 3 [(0, .ref q_this), (1, .int i1_4), (2, .int i2_4)] → W p l e rm_X7_deadOnes s m args below meth c H locs 0 0 Q (F0 m 4 ls []) := by
    intro n4
    induction n4 with
    | zero => intro i1_4 i2_4 hf; exact (zl2_zero hf).elim
    | succ n4 ih4 =>
      intro i1_4 i2_4 hf H locs ls hP hD hS hl
      replace hf := zl2_step eF4 hf
      generalize zl2 F4 n4 = k4 at hf ih4
      refine lv_iload_n hx hb dX7_deadOnes_4 rfl (lv_at hl 2 rfl) ?_
      refine lv_aload_n hx hb dX7_deadOnes_5 rfl (lv_at hl 0 rfl) ?_
      replace hf := zob_some hf
      obtain ⟨u1, hu1, hf⟩ := hf
      refine kd_i (D := D) (v := u1) (av := [.ref q_this]) (wc := [(q_this, .inr (7, [.ref q_this_now, .ref q_this_past, .int v_this_saved, .int v_this_refusal, .ref q_this_list, .ref q_this_at, .ref q_this_levels, .ref q_this_newer, .ref q_this_howMany, .ref q_this_vectors, .ref q_this_dims, .ref q_this_comes, .ref q_this_goes, .ref q_this_cameFrom, .ref q_this_halves, .int v_this_halfMany, .ref q_this_way, .ref q_this_used, .long v_this_hash])), (q_this_now, .inl (k_this_now, 187, .inl c_this_now))]) (w1 := [(q_this, .inr (7, [.ref q_this_now, .ref q_this_past, .int v_this_saved, .int v_this_refusal, .ref q_this_list, .ref q_this_at, .ref q_this_levels, .ref q_this_newer, .ref q_this_howMany, .ref q_this_vectors, .ref q_this_dims, .ref q_this_comes, .ref q_this_goes, .ref q_this_cameFrom, .ref q_this_halves, .int v_this_halfMany, .ref q_this_way, .ref q_this_used, .long v_this_hash])), (q_this_now, .inl (k_this_now, 187, .inl c_this_now))]) (ws2 := [(q_this, .inr (7, [.ref q_this_now, .ref q_this_past, .int v_this_saved, .int v_this_refusal, .ref q_this_list, .ref q_this_at, .ref q_this_levels, .ref q_this_newer, .ref q_this_howMany, .ref q_this_vectors, .ref q_this_dims, .ref q_this_comes, .ref q_this_goes, .ref q_this_cameFrom, .ref q_this_halves, .int v_this_halfMany, .ref q_this_way, .ref q_this_used, .long v_this_hash])), (q_this_now, .inl (k_this_now, 187, .inl c_this_now))]) hK hP hD hS hA hE [0, 1] [0] [] [0, 1] (fun hb1 hp1 => va_runV (As := []) (rest := [.int i2_4]) ⟨hx, hb, hml, hown, hts⟩ (c_X7_nodes l D H.size q_this q_this_now q_this_past q_this_list q_this_at q_this_levels q_this_newer q_this_howMany q_this_vectors q_this_dims q_this_comes q_this_goes q_this_cameFrom q_this_halves q_this_way q_this_used k_this_now v_this_saved v_this_refusal v_this_halfMany v_this_hash c_this_now u1 hu1) (cwV 0 hts gX7_deadOnes_X7_nodes rfl rfl rfl (by decide +kernel) ⟨Nat.le_of_ble_eq_true rfl, Nat.le_of_ble_eq_true rfl⟩) ⟨hb1, va_recv hK hP (ci := 7) (q0 := 0) rfl rfl, hp1⟩ rfl rfl hl.1 rfl (lv_room (Nat.le_of_ble_eq_true rfl)) dX7_deadOnes_6 ⟨Nat.le_of_ble_eq_true rfl, Nat.le_of_ble_eq_true rfl⟩) rfl rfl rfl rfl rfl rfl rfl rfl rfl rfl (fun H locs hP hD hS => ?_)
      have hP : va_P D vwCl [(q_this, .inr (7, [.ref q_this_now, .ref q_this_past, .int v_this_saved, .int v_this_refusal, .ref q_this_list, .ref q_this_at, .ref q_this_levels, .ref q_this_newer, .ref q_this_howMany, .ref q_this_vectors, .ref q_this_dims, .ref q_this_comes, .ref q_this_goes, .ref q_this_cameFrom, .ref q_this_halves, .int v_this_halfMany, .ref q_this_way, .ref q_this_used, .long v_this_hash])), (q_this_now, .inl (k_this_now, 187, .inl c_this_now))] H := hP
      have hD : va_D A [(q_this, .inr (7, [.ref q_this_now, .ref q_this_past, .int v_this_saved, .int v_this_refusal, .ref q_this_list, .ref q_this_at, .ref q_this_levels, .ref q_this_newer, .ref q_this_howMany, .ref q_this_vectors, .ref q_this_dims, .ref q_this_comes, .ref q_this_goes, .ref q_this_cameFrom, .ref q_this_halves, .int v_this_halfMany, .ref q_this_way, .ref q_this_used, .long v_this_hash])), (q_this_now, .inl (k_this_now, 187, .inl c_this_now))] := hD
      refine lv_icmp_ge (tgt := 29) hx hb dX7_deadOnes_9 (by decide) (fun cd9 => ?_) (fun cd9 => ?_)
      · replace hf := zite_t cd9 hf
        refine lv_iload_n hx hb dX7_deadOnes_29 rfl (lv_at hl 1 rfl) ?_
        obtain rfl := Option.some.inj hf
        subst eQ
        exact kr_i hx hb hr hlocks hK hP hD hS dX7_deadOnes_30
      · replace hf := zite_f cd9 hf
        refine lv_iload_n hx hb dX7_deadOnes_12 rfl (lv_at hl 1 rfl) ?_
        refine lv_aload_n hx hb dX7_deadOnes_13 rfl (lv_at hl 0 rfl) ?_
        refine va_get (D := D) (ci := 7) (v := .ref q_this_now) (C := RX7) (T := TX7) (N := 19) hx hb hts n_X7_deadOnes_X7 hown hK hP 0 rfl rfl 0 (by decide) (hts (.fieldLink RX7 7 "FaultyCubeModel" "now" "[I") (by decide +kernel)) (fun _ h9 => h9) rfl dX7_deadOnes_14 ?_
        refine lv_iconst (v := 3) hx hb dX7_deadOnes_17 (by decide) ?_
        refine lv_iload_n hx hb dX7_deadOnes_18 rfl (lv_at hl 2 rfl) ?_
        refine lv_iadd hx hb dX7_deadOnes_19 ?_
        replace hf := zgd_some hf
        obtain ⟨g2, hf⟩ := hf
        refine va_iald (D := D) hx hb hK hP 1 0 rfl rfl (inb_in g2) dX7_deadOnes_20 ?_
        refine lv_iadd hx hb dX7_deadOnes_21 ?_
        refine lv_topi (fun x3 ex3 => ?_)
        replace hf := zbd_of ex3 hf
        refine lv_istore_n (lv' := [(1, .int x3), (0, .ref q_this), (2, .int i2_4)]) hx hb dX7_deadOnes_22 rfl hl (by decide) rfl (fun ls hl => ?_)
        obtain ⟨x4, ex4⟩ : ∃ y : Int32, y = i2_4 + 1 := ⟨_, rfl⟩
        replace hf := zbd_of ex4 hf
        refine lv_iinc (v := x4) (lv' := [(2, .int x4), (1, .int x3), (0, .ref q_this)]) hx hb dX7_deadOnes_23 hl (k := 2) rfl (by rw [ex4]; rfl) (by decide) rfl (fun ls hl => ?_)
        refine lv_goto (tgt := 4) hx hb dX7_deadOnes_26 (by decide) ?_
        exact ih4 x3 x4 hf H locs ls hP hD hS (lv_sub hl [2, 1, 0] rfl)
  exact h4 zfu 0 0 hf s.heap [] ls hP hD hS (lv_sub hl [2, 1, 0] rfl)
theorem n_X7_revive_X7 : ∀ w ∈ u_ws RX7 TX7 19, w ∈ wsX7_revive := by decide +kernel
abbrev rm_X7_revive : Room := { frames := 2, cells := 0, slots := 0, locals := 43 }
set_option maxHeartbeats 4000000 in
set_option maxRecDepth 100000 in
theorem c_X7_revive (l : Launch) (D : va_G) (sz : Nat) (q_this : Nat) (q_this_now : Nat) (q_this_past : Nat) (q_this_list : Nat) (q_this_at : Nat) (q_this_levels : Nat) (q_this_newer : Nat) (q_this_howMany : Nat) (q_this_vectors : Nat) (q_this_dims : Nat) (q_this_comes : Nat) (q_this_goes : Nat) (q_this_cameFrom : Nat) (q_this_halves : Nat) (q_this_way : Nat) (q_this_used : Nat) (k_this_now : ClassId) (k_this_past : ClassId) (v_this_saved : Int32) (v_this_refusal : Int32) (v_this_halfMany : Int32) (v_this_hash : Int64) (c_this_now : (Nat → Int32)) (c_this_past : (Nat → Int32)) (a1 : Int32) (res : rt_X7_revive) (hf : f_X7_revive a1 v_this_saved v_this_refusal c_this_now c_this_past = some res) : Met l yX7_revive wsX7_revive rm_X7_revive (kP D [.ref q_this, .int a1] [(q_this, .inr (7, [.ref q_this_now, .ref q_this_past, .int v_this_saved, .int v_this_refusal, .ref q_this_list, .ref q_this_at, .ref q_this_levels, .ref q_this_newer, .ref q_this_howMany, .ref q_this_vectors, .ref q_this_dims, .ref q_this_comes, .ref q_this_goes, .ref q_this_cameFrom, .ref q_this_halves, .int v_this_halfMany, .ref q_this_way, .ref q_this_used, .long v_this_hash])), (q_this_now, .inl (k_this_now, 187, .inl c_this_now)), (q_this_past, .inl (k_this_past, 748, .inl c_this_past))] [(k_this_now, .int), (k_this_past, .int)] sz) (kQi D (va_A [(q_this, .inr (7, [.ref q_this_now, .ref q_this_past, .int v_this_saved, .int v_this_refusal, .ref q_this_list, .ref q_this_at, .ref q_this_levels, .ref q_this_newer, .ref q_this_howMany, .ref q_this_vectors, .ref q_this_dims, .ref q_this_comes, .ref q_this_goes, .ref q_this_cameFrom, .ref q_this_halves, .int v_this_halfMany, .ref q_this_way, .ref q_this_used, .long v_this_hash])), (q_this_now, .inl (k_this_now, 187, .inl c_this_now)), (q_this_past, .inl (k_this_past, 748, .inl c_this_past))] sz) [(k_this_now, .int), (k_this_past, .int)] res.1 [(q_this, .inr (7, [.ref q_this_now, .ref q_this_past, .int res.2.1, .int res.2.2.1, .ref q_this_list, .ref q_this_at, .ref q_this_levels, .ref q_this_newer, .ref q_this_howMany, .ref q_this_vectors, .ref q_this_dims, .ref q_this_comes, .ref q_this_goes, .ref q_this_cameFrom, .ref q_this_halves, .int v_this_halfMany, .ref q_this_way, .ref q_this_used, .long v_this_hash])), (q_this_now, .inl (k_this_now, 187, .inl res.2.2.2.1)), (q_this_past, .inl (k_this_past, 748, .inl res.2.2.2.2))]) 0 0 (va_A [(q_this, .inr (7, [.ref q_this_now, .ref q_this_past, .int v_this_saved, .int v_this_refusal, .ref q_this_list, .ref q_this_at, .ref q_this_levels, .ref q_this_newer, .ref q_this_howMany, .ref q_this_vectors, .ref q_this_dims, .ref q_this_comes, .ref q_this_goes, .ref q_this_cameFrom, .ref q_this_halves, .int v_this_halfMany, .ref q_this_way, .ref q_this_used, .long v_this_hash])), (q_this_now, .inl (k_this_now, 187, .inl c_this_now)), (q_this_past, .inl (k_this_past, 748, .inl c_this_past))] sz) := by
  refine Met.ofW (cc := cX7_revive) (maxL := 2) (ret := (some .int)) (by decide +kernel) rfl ?_
  intro p e s m args below meth c s₁ B hml hv
  obtain ⟨hargs, hsz, hP, hK, hD0, hE⟩ := hv
  have hx := B.exec
  have hb := B.bytes
  have hr := B.returns
  have hts := atoms_spec (ws := wsX7_revive) B.pre
  have hown : s.vm.findClass RX7 = some m.cls := findClass_of_methodNamed B.named
  have hlocks := B.notSynchronized
  subst hsz
  have hD := hD0.self (sz := s.heap.size)
  generalize hAe : va_A [(q_this, .inr (7, [.ref q_this_now, .ref q_this_past, .int v_this_saved, .int v_this_refusal, .ref q_this_list, .ref q_this_at, .ref q_this_levels, .ref q_this_newer, .ref q_this_howMany, .ref q_this_vectors, .ref q_this_dims, .ref q_this_comes, .ref q_this_goes, .ref q_this_cameFrom, .ref q_this_halves, .int v_this_halfMany, .ref q_this_way, .ref q_this_used, .long v_this_hash])), (q_this_now, .inl (k_this_now, 187, .inl c_this_now)), (q_this_past, .inl (k_this_past, 748, .inl c_this_past))] s.heap.size = A at hD hE ⊢
  have hA : ∀ q : Nat, s.heap.size ≤ q → A q := fun q h => by rw [← hAe]; exact Or.inr h
  have hS : va_S A s.heap s.heap [] := va_S.rf
  refine kgen (fun Q eQ => ?_)
  refine kent (av := [.ref q_this, .int a1]) hargs (Nat.le_of_ble_eq_true rfl) (fun ls hl => ?_)
  have hl : lv_has ls 2 [(0, .ref q_this), (1, .int a1)] := hl
  show W p l e rm_X7_revive s m args below meth c s.heap [] 0 0 Q (F0 m 0 ls [])
  unfold f_X7_revive at hf
  refine lv_aload_n hx hb dX7_revive_0 rfl (lv_at hl 0 rfl) ?_
  refine lv_aload_n hx hb dX7_revive_1 rfl (lv_at hl 0 rfl) ?_
  refine lv_iload_n hx hb dX7_revive_2 rfl (lv_at hl 1 rfl) ?_
  replace hf := zob_some hf
  obtain ⟨u1, hu1, hf⟩ := hf
  refine kd_i (D := D) (v := u1) (av := [.ref q_this, .int a1]) (wc := [(q_this, .inr (7, [.ref q_this_now, .ref q_this_past, .int v_this_saved, .int v_this_refusal, .ref q_this_list, .ref q_this_at, .ref q_this_levels, .ref q_this_newer, .ref q_this_howMany, .ref q_this_vectors, .ref q_this_dims, .ref q_this_comes, .ref q_this_goes, .ref q_this_cameFrom, .ref q_this_halves, .int v_this_halfMany, .ref q_this_way, .ref q_this_used, .long v_this_hash])), (q_this_now, .inl (k_this_now, 187, .inl c_this_now))]) (w1 := [(q_this, .inr (7, [.ref q_this_now, .ref q_this_past, .int v_this_saved, .int v_this_refusal, .ref q_this_list, .ref q_this_at, .ref q_this_levels, .ref q_this_newer, .ref q_this_howMany, .ref q_this_vectors, .ref q_this_dims, .ref q_this_comes, .ref q_this_goes, .ref q_this_cameFrom, .ref q_this_halves, .int v_this_halfMany, .ref q_this_way, .ref q_this_used, .long v_this_hash])), (q_this_now, .inl (k_this_now, 187, .inl c_this_now))]) (ws2 := [(q_this, .inr (7, [.ref q_this_now, .ref q_this_past, .int v_this_saved, .int v_this_refusal, .ref q_this_list, .ref q_this_at, .ref q_this_levels, .ref q_this_newer, .ref q_this_howMany, .ref q_this_vectors, .ref q_this_dims, .ref q_this_comes, .ref q_this_goes, .ref q_this_cameFrom, .ref q_this_halves, .int v_this_halfMany, .ref q_this_way, .ref q_this_used, .long v_this_hash])), (q_this_now, .inl (k_this_now, 187, .inl c_this_now)), (q_this_past, .inl (k_this_past, 748, .inl c_this_past))]) hK hP hD hS hA hE [0, 1] [0] [2] [1, 2, 0] (fun hb1 hp1 => va_runV (As := [.int a1]) (rest := [.ref q_this]) ⟨hx, hb, hml, hown, hts⟩ (c_X7_isNode l D s.heap.size q_this q_this_now q_this_past q_this_list q_this_at q_this_levels q_this_newer q_this_howMany q_this_vectors q_this_dims q_this_comes q_this_goes q_this_cameFrom q_this_halves q_this_way q_this_used k_this_now v_this_saved v_this_refusal v_this_halfMany v_this_hash c_this_now a1 u1 hu1) (cwV 1 hts gX7_revive_X7_isNode rfl rfl rfl (by decide +kernel) ⟨Nat.le_of_ble_eq_true rfl, Nat.le_of_ble_eq_true rfl⟩) ⟨hb1, va_recv hK hP (ci := 7) (q0 := 0) rfl rfl, hp1⟩ rfl rfl hl.1 rfl (lv_room (Nat.le_of_ble_eq_true rfl)) dX7_revive_3 ⟨Nat.le_of_ble_eq_true rfl, Nat.le_of_ble_eq_true rfl⟩) rfl rfl rfl rfl rfl rfl rfl rfl rfl rfl (fun H locs hP hD hS => ?_)
  have hP : va_P D vwCl [(q_this, .inr (7, [.ref q_this_now, .ref q_this_past, .int v_this_saved, .int v_this_refusal, .ref q_this_list, .ref q_this_at, .ref q_this_levels, .ref q_this_newer, .ref q_this_howMany, .ref q_this_vectors, .ref q_this_dims, .ref q_this_comes, .ref q_this_goes, .ref q_this_cameFrom, .ref q_this_halves, .int v_this_halfMany, .ref q_this_way, .ref q_this_used, .long v_this_hash])), (q_this_now, .inl (k_this_now, 187, .inl c_this_now)), (q_this_past, .inl (k_this_past, 748, .inl c_this_past))] H := hP
  have hD : va_D A [(q_this, .inr (7, [.ref q_this_now, .ref q_this_past, .int v_this_saved, .int v_this_refusal, .ref q_this_list, .ref q_this_at, .ref q_this_levels, .ref q_this_newer, .ref q_this_howMany, .ref q_this_vectors, .ref q_this_dims, .ref q_this_comes, .ref q_this_goes, .ref q_this_cameFrom, .ref q_this_halves, .int v_this_halfMany, .ref q_this_way, .ref q_this_used, .long v_this_hash])), (q_this_now, .inl (k_this_now, 187, .inl c_this_now)), (q_this_past, .inl (k_this_past, 748, .inl c_this_past))] := hD
  replace hf := zjp_some hf
  obtain ⟨K26, eK26, hf⟩ := hf
  have j26 : ∀ (s1_26 : Int32), K26 s1_26 = some res → ∀ (H : Heap) (locs : List Loc) (ls : Array Slot), va_P D vwCl [(q_this, .inr (7, [.ref q_this_now, .ref q_this_past, .int v_this_saved, .int v_this_refusal, .ref q_this_list, .ref q_this_at, .ref q_this_levels, .ref q_this_newer, .ref q_this_howMany, .ref q_this_vectors, .ref q_this_dims, .ref q_this_comes, .ref q_this_goes, .ref q_this_cameFrom, .ref q_this_halves, .int v_this_halfMany, .ref q_this_way, .ref q_this_used, .long v_this_hash])), (q_this_now, .inl (k_this_now, 187, .inl c_this_now)), (q_this_past, .inl (k_this_past, 748, .inl c_this_past))] H → va_D A [(q_this, .inr (7, [.ref q_this_now, .ref q_this_past, .int v_this_saved, .int v_this_refusal, .ref q_this_list, .ref q_this_at, .ref q_this_levels, .ref q_this_newer, .ref q_this_howMany, .ref q_this_vectors, .ref q_this_dims, .ref q_this_comes, .ref q_this_goes, .ref q_this_cameFrom, .ref q_this_halves, .int v_this_halfMany, .ref q_this_way, .ref q_this_used, .long v_this_hash])), (q_this_now, .inl (k_this_now, 187, .inl c_this_now)), (q_this_past, .inl (k_this_past, 748, .inl c_this_past))] → va_S A s.heap H locs → lv_has ls 2 [(0, .ref q_this), (1, .int a1)] → W p l e rm_X7_revive s m args below meth c H locs 0 0 Q (F0 m 26 ls [.int s1_26, .ref q_this]) := by
    intro s1_26 hf H locs ls hP hD hS hl
    replace hf := zap1 eK26 hf
    replace hf := zob_some hf
    obtain ⟨u2, hu2, hf⟩ := hf
    refine kd_i (D := D) (v := u2.1) (av := [.ref q_this, .int s1_26]) (wc := [(q_this, .inr (7, [.ref q_this_now, .ref q_this_past, .int v_this_saved, .int v_this_refusal, .ref q_this_list, .ref q_this_at, .ref q_this_levels, .ref q_this_newer, .ref q_this_howMany, .ref q_this_vectors, .ref q_this_dims, .ref q_this_comes, .ref q_this_goes, .ref q_this_cameFrom, .ref q_this_halves, .int v_this_halfMany, .ref q_this_way, .ref q_this_used, .long v_this_hash]))]) (w1 := [(q_this, .inr (7, [.ref q_this_now, .ref q_this_past, .int v_this_saved, .int u2.2, .ref q_this_list, .ref q_this_at, .ref q_this_levels, .ref q_this_newer, .ref q_this_howMany, .ref q_this_vectors, .ref q_this_dims, .ref q_this_comes, .ref q_this_goes, .ref q_this_cameFrom, .ref q_this_halves, .int v_this_halfMany, .ref q_this_way, .ref q_this_used, .long v_this_hash]))]) (ws2 := [(q_this, .inr (7, [.ref q_this_now, .ref q_this_past, .int v_this_saved, .int u2.2, .ref q_this_list, .ref q_this_at, .ref q_this_levels, .ref q_this_newer, .ref q_this_howMany, .ref q_this_vectors, .ref q_this_dims, .ref q_this_comes, .ref q_this_goes, .ref q_this_cameFrom, .ref q_this_halves, .int v_this_halfMany, .ref q_this_way, .ref q_this_used, .long v_this_hash])), (q_this_now, .inl (k_this_now, 187, .inl c_this_now)), (q_this_past, .inl (k_this_past, 748, .inl c_this_past))]) hK hP hD hS hA hE [0] [] [1, 2] [2, 0, 1] (fun hb1 hp1 => va_runV (As := [.int s1_26]) (rest := []) ⟨hx, hb, hml, hown, hts⟩ (c_X7_refused l D H.size q_this q_this_now q_this_past q_this_list q_this_at q_this_levels q_this_newer q_this_howMany q_this_vectors q_this_dims q_this_comes q_this_goes q_this_cameFrom q_this_halves q_this_way q_this_used v_this_saved v_this_refusal v_this_halfMany v_this_hash s1_26 u2 hu2) (cwV 1 hts gX7_revive_X7_refused rfl rfl rfl (by decide +kernel) ⟨Nat.le_of_ble_eq_true rfl, Nat.le_of_ble_eq_true rfl⟩) ⟨hb1, va_recv hK hP (ci := 7) (q0 := 0) rfl rfl, hp1⟩ rfl rfl hl.1 rfl (lv_room (Nat.le_of_ble_eq_true rfl)) dX7_revive_26 ⟨Nat.le_of_ble_eq_true rfl, Nat.le_of_ble_eq_true rfl⟩) rfl rfl rfl rfl rfl rfl rfl rfl rfl rfl (fun H locs hP hD hS => ?_)
    have hP : va_P D vwCl [(q_this, .inr (7, [.ref q_this_now, .ref q_this_past, .int v_this_saved, .int u2.2, .ref q_this_list, .ref q_this_at, .ref q_this_levels, .ref q_this_newer, .ref q_this_howMany, .ref q_this_vectors, .ref q_this_dims, .ref q_this_comes, .ref q_this_goes, .ref q_this_cameFrom, .ref q_this_halves, .int v_this_halfMany, .ref q_this_way, .ref q_this_used, .long v_this_hash])), (q_this_now, .inl (k_this_now, 187, .inl c_this_now)), (q_this_past, .inl (k_this_past, 748, .inl c_this_past))] H := hP
    have hD : va_D A [(q_this, .inr (7, [.ref q_this_now, .ref q_this_past, .int v_this_saved, .int u2.2, .ref q_this_list, .ref q_this_at, .ref q_this_levels, .ref q_this_newer, .ref q_this_howMany, .ref q_this_vectors, .ref q_this_dims, .ref q_this_comes, .ref q_this_goes, .ref q_this_cameFrom, .ref q_this_halves, .int v_this_halfMany, .ref q_this_way, .ref q_this_used, .long v_this_hash])), (q_this_now, .inl (k_this_now, 187, .inl c_this_now)), (q_this_past, .inl (k_this_past, 748, .inl c_this_past))] := hD
    refine lv_if_eq (tgt := 34) hx hb dX7_revive_29 (by decide) (fun cd29 => ?_) (fun cd29 => ?_)
    · replace hf := zite_t cd29 hf
      refine lv_aload_n hx hb dX7_revive_34 rfl (lv_at hl 0 rfl) ?_
      replace hf := zob_some hf
      obtain ⟨u3, hu3, hf⟩ := hf
      refine kd_v (D := D) (av := [.ref q_this]) (wc := [(q_this, .inr (7, [.ref q_this_now, .ref q_this_past, .int v_this_saved, .int u2.2, .ref q_this_list, .ref q_this_at, .ref q_this_levels, .ref q_this_newer, .ref q_this_howMany, .ref q_this_vectors, .ref q_this_dims, .ref q_this_comes, .ref q_this_goes, .ref q_this_cameFrom, .ref q_this_halves, .int v_this_halfMany, .ref q_this_way, .ref q_this_used, .long v_this_hash])), (q_this_now, .inl (k_this_now, 187, .inl c_this_now)), (q_this_past, .inl (k_this_past, 748, .inl c_this_past))]) (w1 := [(q_this, .inr (7, [.ref q_this_now, .ref q_this_past, .int u3.1, .int u2.2, .ref q_this_list, .ref q_this_at, .ref q_this_levels, .ref q_this_newer, .ref q_this_howMany, .ref q_this_vectors, .ref q_this_dims, .ref q_this_comes, .ref q_this_goes, .ref q_this_cameFrom, .ref q_this_halves, .int v_this_halfMany, .ref q_this_way, .ref q_this_used, .long v_this_hash])), (q_this_now, .inl (k_this_now, 187, .inl c_this_now)), (q_this_past, .inl (k_this_past, 748, .inl u3.2))]) (ws2 := [(q_this, .inr (7, [.ref q_this_now, .ref q_this_past, .int u3.1, .int u2.2, .ref q_this_list, .ref q_this_at, .ref q_this_levels, .ref q_this_newer, .ref q_this_howMany, .ref q_this_vectors, .ref q_this_dims, .ref q_this_comes, .ref q_this_goes, .ref q_this_cameFrom, .ref q_this_halves, .int v_this_halfMany, .ref q_this_way, .ref q_this_used, .long v_this_hash])), (q_this_now, .inl (k_this_now, 187, .inl c_this_now)), (q_this_past, .inl (k_this_past, 748, .inl u3.2))]) hK hP hD hS hA hE [0, 1, 2] [0, 1] [] [0, 1, 2] (fun hb1 hp1 => va_runV (As := []) (rest := []) ⟨hx, hb, hml, hown, hts⟩ (c_X7_saves l D H.size q_this q_this_now q_this_past q_this_list q_this_at q_this_levels q_this_newer q_this_howMany q_this_vectors q_this_dims q_this_comes q_this_goes q_this_cameFrom q_this_halves q_this_way q_this_used k_this_now k_this_past v_this_saved u2.2 v_this_halfMany v_this_hash c_this_now c_this_past u3 hu3) (cwV 0 hts gX7_revive_X7_saves rfl rfl rfl (by decide +kernel) ⟨Nat.le_of_ble_eq_true rfl, Nat.le_of_ble_eq_true rfl⟩) ⟨hb1, va_recv hK hP (ci := 7) (q0 := 0) rfl rfl, hp1⟩ rfl rfl hl.1 rfl (lv_room (Nat.le_of_ble_eq_true rfl)) dX7_revive_35 ⟨Nat.le_of_ble_eq_true rfl, Nat.le_of_ble_eq_true rfl⟩) rfl rfl rfl rfl rfl rfl rfl rfl rfl rfl (fun H locs hP hD hS => ?_)
      have hP : va_P D vwCl [(q_this, .inr (7, [.ref q_this_now, .ref q_this_past, .int u3.1, .int u2.2, .ref q_this_list, .ref q_this_at, .ref q_this_levels, .ref q_this_newer, .ref q_this_howMany, .ref q_this_vectors, .ref q_this_dims, .ref q_this_comes, .ref q_this_goes, .ref q_this_cameFrom, .ref q_this_halves, .int v_this_halfMany, .ref q_this_way, .ref q_this_used, .long v_this_hash])), (q_this_now, .inl (k_this_now, 187, .inl c_this_now)), (q_this_past, .inl (k_this_past, 748, .inl u3.2))] H := hP
      have hD : va_D A [(q_this, .inr (7, [.ref q_this_now, .ref q_this_past, .int u3.1, .int u2.2, .ref q_this_list, .ref q_this_at, .ref q_this_levels, .ref q_this_newer, .ref q_this_howMany, .ref q_this_vectors, .ref q_this_dims, .ref q_this_comes, .ref q_this_goes, .ref q_this_cameFrom, .ref q_this_halves, .int v_this_halfMany, .ref q_this_way, .ref q_this_used, .long v_this_hash])), (q_this_now, .inl (k_this_now, 187, .inl c_this_now)), (q_this_past, .inl (k_this_past, 748, .inl u3.2))] := hD
      refine lv_aload_n hx hb dX7_revive_38 rfl (lv_at hl 0 rfl) ?_
      refine va_get (D := D) (ci := 7) (v := .ref q_this_now) (C := RX7) (T := TX7) (N := 19) hx hb hts n_X7_revive_X7 hown hK hP 0 rfl rfl 0 (by decide) (hts (.fieldLink RX7 7 "FaultyCubeModel" "now" "[I") (by decide +kernel)) (fun _ h9 => h9) rfl dX7_revive_39 ?_
      refine lv_iconst (v := 3) hx hb dX7_revive_42 (by decide) ?_
      refine lv_iload_n hx hb dX7_revive_43 rfl (lv_at hl 1 rfl) ?_
      refine lv_iadd hx hb dX7_revive_44 ?_
      refine lv_iconst (v := 0) hx hb dX7_revive_45 (by decide) ?_
      replace hf := zgd_some hf
      obtain ⟨g4, hf⟩ := hf
      refine va_iast (D := D) hx hb hK hP hD hS 1 0 rfl rfl (inb_in g4) dX7_revive_46 (fun H locs hP hD hS => ?_)
      obtain ⟨y5, ey5⟩ : ∃ y : (Nat → Int32), y = upd c_this_now (((3 : Int32) + a1) : Int32).toNatClampNeg 0 := ⟨_, rfl⟩
      replace hf := zbd_of ey5 hf
      have hP : va_P D vwCl [(q_this, .inr (7, [.ref q_this_now, .ref q_this_past, .int u3.1, .int u2.2, .ref q_this_list, .ref q_this_at, .ref q_this_levels, .ref q_this_newer, .ref q_this_howMany, .ref q_this_vectors, .ref q_this_dims, .ref q_this_comes, .ref q_this_goes, .ref q_this_cameFrom, .ref q_this_halves, .int v_this_halfMany, .ref q_this_way, .ref q_this_used, .long v_this_hash])), (q_this_now, .inl (k_this_now, 187, .inl y5)), (q_this_past, .inl (k_this_past, 748, .inl u3.2))] H := by rw [ey5]; exact hP
      have hD : va_D A [(q_this, .inr (7, [.ref q_this_now, .ref q_this_past, .int u3.1, .int u2.2, .ref q_this_list, .ref q_this_at, .ref q_this_levels, .ref q_this_newer, .ref q_this_howMany, .ref q_this_vectors, .ref q_this_dims, .ref q_this_comes, .ref q_this_goes, .ref q_this_cameFrom, .ref q_this_halves, .int v_this_halfMany, .ref q_this_way, .ref q_this_used, .long v_this_hash])), (q_this_now, .inl (k_this_now, 187, .inl y5)), (q_this_past, .inl (k_this_past, 748, .inl u3.2))] := by rw [ey5]; exact hD
      refine lv_aload_n hx hb dX7_revive_47 rfl (lv_at hl 0 rfl) ?_
      replace hf := zob_some hf
      obtain ⟨u6, hu6, hf⟩ := hf
      refine kd_i (D := D) (v := u6) (av := [.ref q_this]) (wc := [(q_this, .inr (7, [.ref q_this_now, .ref q_this_past, .int u3.1, .int u2.2, .ref q_this_list, .ref q_this_at, .ref q_this_levels, .ref q_this_newer, .ref q_this_howMany, .ref q_this_vectors, .ref q_this_dims, .ref q_this_comes, .ref q_this_goes, .ref q_this_cameFrom, .ref q_this_halves, .int v_this_halfMany, .ref q_this_way, .ref q_this_used, .long v_this_hash])), (q_this_now, .inl (k_this_now, 187, .inl y5))]) (w1 := [(q_this, .inr (7, [.ref q_this_now, .ref q_this_past, .int u3.1, .int u2.2, .ref q_this_list, .ref q_this_at, .ref q_this_levels, .ref q_this_newer, .ref q_this_howMany, .ref q_this_vectors, .ref q_this_dims, .ref q_this_comes, .ref q_this_goes, .ref q_this_cameFrom, .ref q_this_halves, .int v_this_halfMany, .ref q_this_way, .ref q_this_used, .long v_this_hash])), (q_this_now, .inl (k_this_now, 187, .inl y5))]) (ws2 := [(q_this, .inr (7, [.ref q_this_now, .ref q_this_past, .int u3.1, .int u2.2, .ref q_this_list, .ref q_this_at, .ref q_this_levels, .ref q_this_newer, .ref q_this_howMany, .ref q_this_vectors, .ref q_this_dims, .ref q_this_comes, .ref q_this_goes, .ref q_this_cameFrom, .ref q_this_halves, .int v_this_halfMany, .ref q_this_way, .ref q_this_used, .long v_this_hash])), (q_this_now, .inl (k_this_now, 187, .inl y5)), (q_this_past, .inl (k_this_past, 748, .inl u3.2))]) hK hP hD hS hA hE [0, 1] [0] [2] [1, 2, 0] (fun hb1 hp1 => va_runV (As := []) (rest := []) ⟨hx, hb, hml, hown, hts⟩ (c_X7_deadOnes l D H.size q_this q_this_now q_this_past q_this_list q_this_at q_this_levels q_this_newer q_this_howMany q_this_vectors q_this_dims q_this_comes q_this_goes q_this_cameFrom q_this_halves q_this_way q_this_used k_this_now u3.1 u2.2 v_this_halfMany v_this_hash y5 u6 hu6) (cwV 0 hts gX7_revive_X7_deadOnes rfl rfl rfl (by decide +kernel) ⟨Nat.le_of_ble_eq_true rfl, Nat.le_of_ble_eq_true rfl⟩) ⟨hb1, va_recv hK hP (ci := 7) (q0 := 0) rfl rfl, hp1⟩ rfl rfl hl.1 rfl (lv_room (Nat.le_of_ble_eq_true rfl)) dX7_revive_48 ⟨Nat.le_of_ble_eq_true rfl, Nat.le_of_ble_eq_true rfl⟩) rfl rfl rfl rfl rfl rfl rfl rfl rfl rfl (fun H locs hP hD hS => ?_)
      have hP : va_P D vwCl [(q_this, .inr (7, [.ref q_this_now, .ref q_this_past, .int u3.1, .int u2.2, .ref q_this_list, .ref q_this_at, .ref q_this_levels, .ref q_this_newer, .ref q_this_howMany, .ref q_this_vectors, .ref q_this_dims, .ref q_this_comes, .ref q_this_goes, .ref q_this_cameFrom, .ref q_this_halves, .int v_this_halfMany, .ref q_this_way, .ref q_this_used, .long v_this_hash])), (q_this_now, .inl (k_this_now, 187, .inl y5)), (q_this_past, .inl (k_this_past, 748, .inl u3.2))] H := hP
      have hD : va_D A [(q_this, .inr (7, [.ref q_this_now, .ref q_this_past, .int u3.1, .int u2.2, .ref q_this_list, .ref q_this_at, .ref q_this_levels, .ref q_this_newer, .ref q_this_howMany, .ref q_this_vectors, .ref q_this_dims, .ref q_this_comes, .ref q_this_goes, .ref q_this_cameFrom, .ref q_this_halves, .int v_this_halfMany, .ref q_this_way, .ref q_this_used, .long v_this_hash])), (q_this_now, .inl (k_this_now, 187, .inl y5)), (q_this_past, .inl (k_this_past, 748, .inl u3.2))] := hD
      obtain rfl := Option.some.inj hf
      subst eQ
      exact kr_i hx hb hr hlocks hK hP hD hS dX7_revive_51
    · replace hf := zite_f cd29 hf
      refine lv_iconst (v := 0) hx hb dX7_revive_32 (by decide) ?_
      obtain rfl := Option.some.inj hf
      subst eQ
      exact kr_i hx hb hr hlocks hK hP hD hS dX7_revive_33
  refine lv_if_ne (tgt := 13) hx hb dX7_revive_6 (by decide) (fun cd6 => ?_) (fun cd6 => ?_)
  · replace hf := zite_f cd6 hf
    refine lv_aload_n hx hb dX7_revive_13 rfl (lv_at hl 0 rfl) ?_
    refine lv_iload_n hx hb dX7_revive_14 rfl (lv_at hl 1 rfl) ?_
    replace hf := zob_some hf
    obtain ⟨u7, hu7, hf⟩ := hf
    refine kd_i (D := D) (v := u7) (av := [.ref q_this, .int a1]) (wc := [(q_this, .inr (7, [.ref q_this_now, .ref q_this_past, .int v_this_saved, .int v_this_refusal, .ref q_this_list, .ref q_this_at, .ref q_this_levels, .ref q_this_newer, .ref q_this_howMany, .ref q_this_vectors, .ref q_this_dims, .ref q_this_comes, .ref q_this_goes, .ref q_this_cameFrom, .ref q_this_halves, .int v_this_halfMany, .ref q_this_way, .ref q_this_used, .long v_this_hash])), (q_this_now, .inl (k_this_now, 187, .inl c_this_now))]) (w1 := [(q_this, .inr (7, [.ref q_this_now, .ref q_this_past, .int v_this_saved, .int v_this_refusal, .ref q_this_list, .ref q_this_at, .ref q_this_levels, .ref q_this_newer, .ref q_this_howMany, .ref q_this_vectors, .ref q_this_dims, .ref q_this_comes, .ref q_this_goes, .ref q_this_cameFrom, .ref q_this_halves, .int v_this_halfMany, .ref q_this_way, .ref q_this_used, .long v_this_hash])), (q_this_now, .inl (k_this_now, 187, .inl c_this_now))]) (ws2 := [(q_this, .inr (7, [.ref q_this_now, .ref q_this_past, .int v_this_saved, .int v_this_refusal, .ref q_this_list, .ref q_this_at, .ref q_this_levels, .ref q_this_newer, .ref q_this_howMany, .ref q_this_vectors, .ref q_this_dims, .ref q_this_comes, .ref q_this_goes, .ref q_this_cameFrom, .ref q_this_halves, .int v_this_halfMany, .ref q_this_way, .ref q_this_used, .long v_this_hash])), (q_this_now, .inl (k_this_now, 187, .inl c_this_now)), (q_this_past, .inl (k_this_past, 748, .inl c_this_past))]) hK hP hD hS hA hE [0, 1] [0] [2] [1, 2, 0] (fun hb1 hp1 => va_runV (As := [.int a1]) (rest := [.ref q_this]) ⟨hx, hb, hml, hown, hts⟩ (c_X7_lives l D H.size q_this q_this_now q_this_past q_this_list q_this_at q_this_levels q_this_newer q_this_howMany q_this_vectors q_this_dims q_this_comes q_this_goes q_this_cameFrom q_this_halves q_this_way q_this_used k_this_now v_this_saved v_this_refusal v_this_halfMany v_this_hash c_this_now a1 u7 hu7) (cwV 1 hts gX7_revive_X7_lives rfl rfl rfl (by decide +kernel) ⟨Nat.le_of_ble_eq_true rfl, Nat.le_of_ble_eq_true rfl⟩) ⟨hb1, va_recv hK hP (ci := 7) (q0 := 0) rfl rfl, hp1⟩ rfl rfl hl.1 rfl (lv_room (Nat.le_of_ble_eq_true rfl)) dX7_revive_15 ⟨Nat.le_of_ble_eq_true rfl, Nat.le_of_ble_eq_true rfl⟩) rfl rfl rfl rfl rfl rfl rfl rfl rfl rfl (fun H locs hP hD hS => ?_)
    have hP : va_P D vwCl [(q_this, .inr (7, [.ref q_this_now, .ref q_this_past, .int v_this_saved, .int v_this_refusal, .ref q_this_list, .ref q_this_at, .ref q_this_levels, .ref q_this_newer, .ref q_this_howMany, .ref q_this_vectors, .ref q_this_dims, .ref q_this_comes, .ref q_this_goes, .ref q_this_cameFrom, .ref q_this_halves, .int v_this_halfMany, .ref q_this_way, .ref q_this_used, .long v_this_hash])), (q_this_now, .inl (k_this_now, 187, .inl c_this_now)), (q_this_past, .inl (k_this_past, 748, .inl c_this_past))] H := hP
    have hD : va_D A [(q_this, .inr (7, [.ref q_this_now, .ref q_this_past, .int v_this_saved, .int v_this_refusal, .ref q_this_list, .ref q_this_at, .ref q_this_levels, .ref q_this_newer, .ref q_this_howMany, .ref q_this_vectors, .ref q_this_dims, .ref q_this_comes, .ref q_this_goes, .ref q_this_cameFrom, .ref q_this_halves, .int v_this_halfMany, .ref q_this_way, .ref q_this_used, .long v_this_hash])), (q_this_now, .inl (k_this_now, 187, .inl c_this_now)), (q_this_past, .inl (k_this_past, 748, .inl c_this_past))] := hD
    refine lv_if_eq (tgt := 25) hx hb dX7_revive_18 (by decide) (fun cd18 => ?_) (fun cd18 => ?_)
    · replace hf := zite_t cd18 hf
      refine lv_iconst (v := 0) hx hb dX7_revive_25 (by decide) ?_
      exact j26 0 hf H locs ls hP hD hS (lv_sub hl [0, 1] rfl)
    · replace hf := zite_f cd18 hf
      refine lv_iconst (v := 2) hx hb dX7_revive_21 (by decide) ?_
      refine lv_goto (tgt := 26) hx hb dX7_revive_22 (by decide) ?_
      exact j26 2 hf H locs ls hP hD hS (lv_sub hl [0, 1] rfl)
  · replace hf := zite_t cd6 hf
    refine lv_iconst (v := 1) hx hb dX7_revive_9 (by decide) ?_
    refine lv_goto (tgt := 26) hx hb dX7_revive_10 (by decide) ?_
    exact j26 1 hf H locs ls hP hD hS (lv_sub hl [0, 1] rfl)
theorem n_X7_killAll_X7 : ∀ w ∈ u_ws RX7 TX7 19, w ∈ wsX7_killAll := by decide +kernel
abbrev rm_X7_killAll : Room := { frames := 1, cells := 0, slots := 0, locals := 23 }
set_option maxHeartbeats 4000000 in
set_option maxRecDepth 100000 in
theorem c_X7_killAll (l : Launch) (D : va_G) (sz : Nat) (q_this : Nat) (q_this_now : Nat) (q_this_past : Nat) (q_this_list : Nat) (q_this_at : Nat) (q_this_levels : Nat) (q_this_newer : Nat) (q_this_howMany : Nat) (q_this_vectors : Nat) (q_this_dims : Nat) (q_this_comes : Nat) (q_this_goes : Nat) (q_this_cameFrom : Nat) (q_this_halves : Nat) (q_this_way : Nat) (q_this_used : Nat) (k_this_now : ClassId) (k_this_past : ClassId) (v_this_saved : Int32) (v_this_refusal : Int32) (v_this_halfMany : Int32) (v_this_hash : Int64) (c_this_now : (Nat → Int32)) (c_this_past : (Nat → Int32)) (a1 : Int32) (res : rt_X7_killAll) (hf : f_X7_killAll a1 v_this_saved v_this_refusal c_this_now c_this_past = some res) : Met l yX7_killAll wsX7_killAll rm_X7_killAll (kP D [.ref q_this, .int a1] [(q_this, .inr (7, [.ref q_this_now, .ref q_this_past, .int v_this_saved, .int v_this_refusal, .ref q_this_list, .ref q_this_at, .ref q_this_levels, .ref q_this_newer, .ref q_this_howMany, .ref q_this_vectors, .ref q_this_dims, .ref q_this_comes, .ref q_this_goes, .ref q_this_cameFrom, .ref q_this_halves, .int v_this_halfMany, .ref q_this_way, .ref q_this_used, .long v_this_hash])), (q_this_now, .inl (k_this_now, 187, .inl c_this_now)), (q_this_past, .inl (k_this_past, 748, .inl c_this_past))] [(k_this_now, .int), (k_this_past, .int)] sz) (kQi D (va_A [(q_this, .inr (7, [.ref q_this_now, .ref q_this_past, .int v_this_saved, .int v_this_refusal, .ref q_this_list, .ref q_this_at, .ref q_this_levels, .ref q_this_newer, .ref q_this_howMany, .ref q_this_vectors, .ref q_this_dims, .ref q_this_comes, .ref q_this_goes, .ref q_this_cameFrom, .ref q_this_halves, .int v_this_halfMany, .ref q_this_way, .ref q_this_used, .long v_this_hash])), (q_this_now, .inl (k_this_now, 187, .inl c_this_now)), (q_this_past, .inl (k_this_past, 748, .inl c_this_past))] sz) [(k_this_now, .int), (k_this_past, .int)] res.1 [(q_this, .inr (7, [.ref q_this_now, .ref q_this_past, .int res.2.1, .int res.2.2.1, .ref q_this_list, .ref q_this_at, .ref q_this_levels, .ref q_this_newer, .ref q_this_howMany, .ref q_this_vectors, .ref q_this_dims, .ref q_this_comes, .ref q_this_goes, .ref q_this_cameFrom, .ref q_this_halves, .int v_this_halfMany, .ref q_this_way, .ref q_this_used, .long v_this_hash])), (q_this_now, .inl (k_this_now, 187, .inl res.2.2.2.1)), (q_this_past, .inl (k_this_past, 748, .inl res.2.2.2.2))]) 0 0 (va_A [(q_this, .inr (7, [.ref q_this_now, .ref q_this_past, .int v_this_saved, .int v_this_refusal, .ref q_this_list, .ref q_this_at, .ref q_this_levels, .ref q_this_newer, .ref q_this_howMany, .ref q_this_vectors, .ref q_this_dims, .ref q_this_comes, .ref q_this_goes, .ref q_this_cameFrom, .ref q_this_halves, .int v_this_halfMany, .ref q_this_way, .ref q_this_used, .long v_this_hash])), (q_this_now, .inl (k_this_now, 187, .inl c_this_now)), (q_this_past, .inl (k_this_past, 748, .inl c_this_past))] sz) := by
  refine Met.ofW (cc := cX7_killAll) (maxL := 4) (ret := (some .int)) (by decide +kernel) rfl ?_
  intro p e s m args below meth c s₁ B hml hv
  obtain ⟨hargs, hsz, hP, hK, hD0, hE⟩ := hv
  have hx := B.exec
  have hb := B.bytes
  have hr := B.returns
  have hts := atoms_spec (ws := wsX7_killAll) B.pre
  have hown : s.vm.findClass RX7 = some m.cls := findClass_of_methodNamed B.named
  have hlocks := B.notSynchronized
  subst hsz
  have hD := hD0.self (sz := s.heap.size)
  generalize hAe : va_A [(q_this, .inr (7, [.ref q_this_now, .ref q_this_past, .int v_this_saved, .int v_this_refusal, .ref q_this_list, .ref q_this_at, .ref q_this_levels, .ref q_this_newer, .ref q_this_howMany, .ref q_this_vectors, .ref q_this_dims, .ref q_this_comes, .ref q_this_goes, .ref q_this_cameFrom, .ref q_this_halves, .int v_this_halfMany, .ref q_this_way, .ref q_this_used, .long v_this_hash])), (q_this_now, .inl (k_this_now, 187, .inl c_this_now)), (q_this_past, .inl (k_this_past, 748, .inl c_this_past))] s.heap.size = A at hD hE ⊢
  have hA : ∀ q : Nat, s.heap.size ≤ q → A q := fun q h => by rw [← hAe]; exact Or.inr h
  have hS : va_S A s.heap s.heap [] := va_S.rf
  refine kgen (fun Q eQ => ?_)
  refine kent (av := [.ref q_this, .int a1]) hargs (Nat.le_of_ble_eq_true rfl) (fun ls hl => ?_)
  have hl : lv_has ls 4 [(0, .ref q_this), (1, .int a1)] := hl
  show W p l e rm_X7_killAll s m args below meth c s.heap [] 0 0 Q (F0 m 0 ls [])
  unfold f_X7_killAll at hf
  refine lv_aload_n hx hb dX7_killAll_0 rfl (lv_at hl 0 rfl) ?_
  refine lv_iconst (v := 0) hx hb dX7_killAll_1 (by decide) ?_
  refine va_put (D := D) (ci := 7) (v := .int 0) (ty := .int) (C := RX7) (T := TX7) (N := 19) hx hb hts n_X7_killAll_X7 tyX7 tyX7_ok nmX7 hown hK hP hD hS 0 rfl rfl 3 (by decide) (hts (.fieldLink RX7 56 "FaultyCubeModel" "refusal" "I") (by decide +kernel)) (fun _ h9 => h9) rfl (by decide +kernel) rfl rfl (Nat.le_of_ble_eq_true rfl) dX7_killAll_2 (fun H locs hP hD hS => ?_)
  have hP : va_P D vwCl [(q_this, .inr (7, [.ref q_this_now, .ref q_this_past, .int v_this_saved, .int 0, .ref q_this_list, .ref q_this_at, .ref q_this_levels, .ref q_this_newer, .ref q_this_howMany, .ref q_this_vectors, .ref q_this_dims, .ref q_this_comes, .ref q_this_goes, .ref q_this_cameFrom, .ref q_this_halves, .int v_this_halfMany, .ref q_this_way, .ref q_this_used, .long v_this_hash])), (q_this_now, .inl (k_this_now, 187, .inl c_this_now)), (q_this_past, .inl (k_this_past, 748, .inl c_this_past))] H := hP
  have hD : va_D A [(q_this, .inr (7, [.ref q_this_now, .ref q_this_past, .int v_this_saved, .int 0, .ref q_this_list, .ref q_this_at, .ref q_this_levels, .ref q_this_newer, .ref q_this_howMany, .ref q_this_vectors, .ref q_this_dims, .ref q_this_comes, .ref q_this_goes, .ref q_this_cameFrom, .ref q_this_halves, .int v_this_halfMany, .ref q_this_way, .ref q_this_used, .long v_this_hash])), (q_this_now, .inl (k_this_now, 187, .inl c_this_now)), (q_this_past, .inl (k_this_past, 748, .inl c_this_past))] := hD
  refine lv_aload_n hx hb dX7_killAll_5 rfl (lv_at hl 0 rfl) ?_
  replace hf := zob_some hf
  obtain ⟨u1, hu1, hf⟩ := hf
  refine kd_v (D := D) (av := [.ref q_this]) (wc := [(q_this, .inr (7, [.ref q_this_now, .ref q_this_past, .int v_this_saved, .int 0, .ref q_this_list, .ref q_this_at, .ref q_this_levels, .ref q_this_newer, .ref q_this_howMany, .ref q_this_vectors, .ref q_this_dims, .ref q_this_comes, .ref q_this_goes, .ref q_this_cameFrom, .ref q_this_halves, .int v_this_halfMany, .ref q_this_way, .ref q_this_used, .long v_this_hash])), (q_this_now, .inl (k_this_now, 187, .inl c_this_now)), (q_this_past, .inl (k_this_past, 748, .inl c_this_past))]) (w1 := [(q_this, .inr (7, [.ref q_this_now, .ref q_this_past, .int u1.1, .int 0, .ref q_this_list, .ref q_this_at, .ref q_this_levels, .ref q_this_newer, .ref q_this_howMany, .ref q_this_vectors, .ref q_this_dims, .ref q_this_comes, .ref q_this_goes, .ref q_this_cameFrom, .ref q_this_halves, .int v_this_halfMany, .ref q_this_way, .ref q_this_used, .long v_this_hash])), (q_this_now, .inl (k_this_now, 187, .inl c_this_now)), (q_this_past, .inl (k_this_past, 748, .inl u1.2))]) (ws2 := [(q_this, .inr (7, [.ref q_this_now, .ref q_this_past, .int u1.1, .int 0, .ref q_this_list, .ref q_this_at, .ref q_this_levels, .ref q_this_newer, .ref q_this_howMany, .ref q_this_vectors, .ref q_this_dims, .ref q_this_comes, .ref q_this_goes, .ref q_this_cameFrom, .ref q_this_halves, .int v_this_halfMany, .ref q_this_way, .ref q_this_used, .long v_this_hash])), (q_this_now, .inl (k_this_now, 187, .inl c_this_now)), (q_this_past, .inl (k_this_past, 748, .inl u1.2))]) hK hP hD hS hA hE [0, 1, 2] [0, 1] [] [0, 1, 2] (fun hb1 hp1 => va_runV (As := []) (rest := []) ⟨hx, hb, hml, hown, hts⟩ (c_X7_saves l D H.size q_this q_this_now q_this_past q_this_list q_this_at q_this_levels q_this_newer q_this_howMany q_this_vectors q_this_dims q_this_comes q_this_goes q_this_cameFrom q_this_halves q_this_way q_this_used k_this_now k_this_past v_this_saved 0 v_this_halfMany v_this_hash c_this_now c_this_past u1 hu1) (cwV 0 hts gX7_killAll_X7_saves rfl rfl rfl (by decide +kernel) ⟨Nat.le_of_ble_eq_true rfl, Nat.le_of_ble_eq_true rfl⟩) ⟨hb1, va_recv hK hP (ci := 7) (q0 := 0) rfl rfl, hp1⟩ rfl rfl hl.1 rfl (lv_room (Nat.le_of_ble_eq_true rfl)) dX7_killAll_6 ⟨Nat.le_of_ble_eq_true rfl, Nat.le_of_ble_eq_true rfl⟩) rfl rfl rfl rfl rfl rfl rfl rfl rfl rfl (fun H locs hP hD hS => ?_)
  have hP : va_P D vwCl [(q_this, .inr (7, [.ref q_this_now, .ref q_this_past, .int u1.1, .int 0, .ref q_this_list, .ref q_this_at, .ref q_this_levels, .ref q_this_newer, .ref q_this_howMany, .ref q_this_vectors, .ref q_this_dims, .ref q_this_comes, .ref q_this_goes, .ref q_this_cameFrom, .ref q_this_halves, .int v_this_halfMany, .ref q_this_way, .ref q_this_used, .long v_this_hash])), (q_this_now, .inl (k_this_now, 187, .inl c_this_now)), (q_this_past, .inl (k_this_past, 748, .inl u1.2))] H := hP
  have hD : va_D A [(q_this, .inr (7, [.ref q_this_now, .ref q_this_past, .int u1.1, .int 0, .ref q_this_list, .ref q_this_at, .ref q_this_levels, .ref q_this_newer, .ref q_this_howMany, .ref q_this_vectors, .ref q_this_dims, .ref q_this_comes, .ref q_this_goes, .ref q_this_cameFrom, .ref q_this_halves, .int v_this_halfMany, .ref q_this_way, .ref q_this_used, .long v_this_hash])), (q_this_now, .inl (k_this_now, 187, .inl c_this_now)), (q_this_past, .inl (k_this_past, 748, .inl u1.2))] := hD
  refine lv_iconst (v := 0) hx hb dX7_killAll_9 (by decide) ?_
  refine lv_istore_n (lv' := [(2, .int 0), (0, .ref q_this), (1, .int a1)]) hx hb dX7_killAll_10 rfl hl (by decide) rfl (fun ls hl => ?_)
  refine lv_iconst (v := 0) hx hb dX7_killAll_11 (by decide) ?_
  refine lv_istore_n (lv' := [(3, .int 0), (2, .int 0), (0, .ref q_this), (1, .int a1)]) hx hb dX7_killAll_12 rfl hl (by decide) rfl (fun ls hl => ?_)
  replace hf := zl3_some hf
  obtain ⟨F13, eF13, hf⟩ := hf
  have h13 : ∀ (n13 : Nat) (i2_13 : Int32) (i3_13 : Int32) (c_this_now_13 : (Nat → Int32)), zl3 F13 n13 i2_13 i3_13 c_this_now_13 = some res → ∀ (H : Heap) (locs : List Loc) (ls : Array Slot), va_P D vwCl [(q_this, .inr (7, [.ref q_this_now, .ref q_this_past, .int u1.1, .int 0, .ref q_this_list, .ref q_this_at, .ref q_this_levels, .ref q_this_newer, .ref q_this_howMany, .ref q_this_vectors, .ref q_this_dims, .ref q_this_comes, .ref q_this_goes, .ref q_this_cameFrom, .ref q_this_halves, .int v_this_halfMany, .ref q_this_way, .ref q_this_used, .long v_this_hash])), (q_this_now, .inl (k_this_now, 187, .inl c_this_now_13)), (q_this_past, .inl (k_this_past, 748, .inl u1.2))] H → va_D A [(q_this, .inr (7, [.ref q_this_now, .ref q_this_past, .int u1.1, .int 0, .ref q_this_list, .ref q_this_at, .ref q_this_levels, .ref q_this_newer, .ref q_this_howMany, .ref q_this_vectors, .ref q_this_dims, .ref q_this_comes, .ref q_this_goes, .ref q_this_cameFrom, .ref q_this_halves, .int v_this_halfMany, .ref q_this_way, .ref q_this_used, .long v_this_hash])), (q_this_now, .inl (k_this_now, 187, .inl c_this_now_13)), (q_this_past, .inl (k_this_past, 748, .inl u1.2))] → va_S A s.heap H locs → lv_has ls 4 [(0, .ref q_this), (1, .int a1), (2, .int i2_13), (3, .int i3_13)] → W p l e rm_X7_killAll s m args below meth c H locs 0 0 Q (F0 m 13 ls []) := by
    intro n13
    induction n13 with
    | zero => intro i2_13 i3_13 c_this_now_13 hf; exact (zl3_zero hf).elim
    | succ n13 ih13 =>
      intro i2_13 i3_13 c_this_now_13 hf H locs ls hP hD hS hl
      replace hf := zl3_step eF13 hf
      generalize zl3 F13 n13 = k13 at hf ih13
      refine lv_iload_n hx hb dX7_killAll_13 rfl (lv_at hl 3 rfl) ?_
      refine lv_bipush (v := 32) hx hb dX7_killAll_14 (by decide) ?_
      refine lv_icmp_ge (tgt := 59) hx hb dX7_killAll_16 (by decide) (fun cd16 => ?_) (fun cd16 => ?_)
      · replace hf := zite_t cd16 hf
        refine lv_iload_n hx hb dX7_killAll_59 rfl (lv_at hl 2 rfl) ?_
        obtain rfl := Option.some.inj hf
        subst eQ
        exact kr_i hx hb hr hlocks hK hP hD hS dX7_killAll_60
      · replace hf := zite_f cd16 hf
        refine lv_iload_n hx hb dX7_killAll_19 rfl (lv_at hl 3 rfl) ?_
        refine lv_aload_n hx hb dX7_killAll_20 rfl (lv_at hl 0 rfl) ?_
        replace hf := zob_some hf
        obtain ⟨u2, hu2, hf⟩ := hf
        refine kd_i (D := D) (v := u2) (av := [.ref q_this]) (wc := [(q_this, .inr (7, [.ref q_this_now, .ref q_this_past, .int u1.1, .int 0, .ref q_this_list, .ref q_this_at, .ref q_this_levels, .ref q_this_newer, .ref q_this_howMany, .ref q_this_vectors, .ref q_this_dims, .ref q_this_comes, .ref q_this_goes, .ref q_this_cameFrom, .ref q_this_halves, .int v_this_halfMany, .ref q_this_way, .ref q_this_used, .long v_this_hash])), (q_this_now, .inl (k_this_now, 187, .inl c_this_now_13))]) (w1 := [(q_this, .inr (7, [.ref q_this_now, .ref q_this_past, .int u1.1, .int 0, .ref q_this_list, .ref q_this_at, .ref q_this_levels, .ref q_this_newer, .ref q_this_howMany, .ref q_this_vectors, .ref q_this_dims, .ref q_this_comes, .ref q_this_goes, .ref q_this_cameFrom, .ref q_this_halves, .int v_this_halfMany, .ref q_this_way, .ref q_this_used, .long v_this_hash])), (q_this_now, .inl (k_this_now, 187, .inl c_this_now_13))]) (ws2 := [(q_this, .inr (7, [.ref q_this_now, .ref q_this_past, .int u1.1, .int 0, .ref q_this_list, .ref q_this_at, .ref q_this_levels, .ref q_this_newer, .ref q_this_howMany, .ref q_this_vectors, .ref q_this_dims, .ref q_this_comes, .ref q_this_goes, .ref q_this_cameFrom, .ref q_this_halves, .int v_this_halfMany, .ref q_this_way, .ref q_this_used, .long v_this_hash])), (q_this_now, .inl (k_this_now, 187, .inl c_this_now_13)), (q_this_past, .inl (k_this_past, 748, .inl u1.2))]) hK hP hD hS hA hE [0, 1] [0] [2] [1, 2, 0] (fun hb1 hp1 => va_runV (As := []) (rest := [.int i3_13]) ⟨hx, hb, hml, hown, hts⟩ (c_X7_nodes l D H.size q_this q_this_now q_this_past q_this_list q_this_at q_this_levels q_this_newer q_this_howMany q_this_vectors q_this_dims q_this_comes q_this_goes q_this_cameFrom q_this_halves q_this_way q_this_used k_this_now u1.1 0 v_this_halfMany v_this_hash c_this_now_13 u2 hu2) (cwV 0 hts gX7_killAll_X7_nodes rfl rfl rfl (by decide +kernel) ⟨Nat.le_of_ble_eq_true rfl, Nat.le_of_ble_eq_true rfl⟩) ⟨hb1, va_recv hK hP (ci := 7) (q0 := 0) rfl rfl, hp1⟩ rfl rfl hl.1 rfl (lv_room (Nat.le_of_ble_eq_true rfl)) dX7_killAll_21 ⟨Nat.le_of_ble_eq_true rfl, Nat.le_of_ble_eq_true rfl⟩) rfl rfl rfl rfl rfl rfl rfl rfl rfl rfl (fun H locs hP hD hS => ?_)
        have hP : va_P D vwCl [(q_this, .inr (7, [.ref q_this_now, .ref q_this_past, .int u1.1, .int 0, .ref q_this_list, .ref q_this_at, .ref q_this_levels, .ref q_this_newer, .ref q_this_howMany, .ref q_this_vectors, .ref q_this_dims, .ref q_this_comes, .ref q_this_goes, .ref q_this_cameFrom, .ref q_this_halves, .int v_this_halfMany, .ref q_this_way, .ref q_this_used, .long v_this_hash])), (q_this_now, .inl (k_this_now, 187, .inl c_this_now_13)), (q_this_past, .inl (k_this_past, 748, .inl u1.2))] H := hP
        have hD : va_D A [(q_this, .inr (7, [.ref q_this_now, .ref q_this_past, .int u1.1, .int 0, .ref q_this_list, .ref q_this_at, .ref q_this_levels, .ref q_this_newer, .ref q_this_howMany, .ref q_this_vectors, .ref q_this_dims, .ref q_this_comes, .ref q_this_goes, .ref q_this_cameFrom, .ref q_this_halves, .int v_this_halfMany, .ref q_this_way, .ref q_this_used, .long v_this_hash])), (q_this_now, .inl (k_this_now, 187, .inl c_this_now_13)), (q_this_past, .inl (k_this_past, 748, .inl u1.2))] := hD
        refine lv_icmp_ge (tgt := 59) hx hb dX7_killAll_24 (by decide) (fun cd24 => ?_) (fun cd24 => ?_)
        · replace hf := zite_t cd24 hf
          refine lv_iload_n hx hb dX7_killAll_59 rfl (lv_at hl 2 rfl) ?_
          obtain rfl := Option.some.inj hf
          subst eQ
          exact kr_i hx hb hr hlocks hK hP hD hS dX7_killAll_60
        · replace hf := zite_f cd24 hf
          refine lv_iload_n hx hb dX7_killAll_27 rfl (lv_at hl 1 rfl) ?_
          refine lv_iload_n hx hb dX7_killAll_28 rfl (lv_at hl 3 rfl) ?_
          refine lv_ishr hx hb dX7_killAll_29 ?_
          refine lv_iconst (v := 1) hx hb dX7_killAll_30 (by decide) ?_
          refine lv_iand hx hb dX7_killAll_31 ?_
          refine lv_iconst (v := 1) hx hb dX7_killAll_32 (by decide) ?_
          replace hf := zjp_some hf
          obtain ⟨K53, eK53, hf⟩ := hf
          have j53 : ∀ (i2_53 : Int32) (c_this_now_53 : (Nat → Int32)), K53 i2_53 c_this_now_53 = some res → ∀ (H : Heap) (locs : List Loc) (ls : Array Slot), va_P D vwCl [(q_this, .inr (7, [.ref q_this_now, .ref q_this_past, .int u1.1, .int 0, .ref q_this_list, .ref q_this_at, .ref q_this_levels, .ref q_this_newer, .ref q_this_howMany, .ref q_this_vectors, .ref q_this_dims, .ref q_this_comes, .ref q_this_goes, .ref q_this_cameFrom, .ref q_this_halves, .int v_this_halfMany, .ref q_this_way, .ref q_this_used, .long v_this_hash])), (q_this_now, .inl (k_this_now, 187, .inl c_this_now_53)), (q_this_past, .inl (k_this_past, 748, .inl u1.2))] H → va_D A [(q_this, .inr (7, [.ref q_this_now, .ref q_this_past, .int u1.1, .int 0, .ref q_this_list, .ref q_this_at, .ref q_this_levels, .ref q_this_newer, .ref q_this_howMany, .ref q_this_vectors, .ref q_this_dims, .ref q_this_comes, .ref q_this_goes, .ref q_this_cameFrom, .ref q_this_halves, .int v_this_halfMany, .ref q_this_way, .ref q_this_used, .long v_this_hash])), (q_this_now, .inl (k_this_now, 187, .inl c_this_now_53)), (q_this_past, .inl (k_this_past, 748, .inl u1.2))] → va_S A s.heap H locs → lv_has ls 4 [(0, .ref q_this), (1, .int a1), (2, .int i2_53), (3, .int i3_13)] → W p l e rm_X7_killAll s m args below meth c H locs 0 0 Q (F0 m 53 ls []) := by
            intro i2_53 c_this_now_53 hf H locs ls hP hD hS hl
            replace hf := zap2 eK53 hf
            obtain ⟨x3, ex3⟩ : ∃ y : Int32, y = i3_13 + 1 := ⟨_, rfl⟩
            replace hf := zbd_of ex3 hf
            refine lv_iinc (v := x3) (lv' := [(3, .int x3), (0, .ref q_this), (1, .int a1), (2, .int i2_53)]) hx hb dX7_killAll_53 hl (k := 3) rfl (by rw [ex3]; rfl) (by decide) rfl (fun ls hl => ?_)
            refine lv_goto (tgt := 13) hx hb dX7_killAll_56 (by decide) ?_
            exact ih13 i2_53 x3 c_this_now_53 hf H locs ls hP hD hS (lv_sub hl [1, 2, 3, 0] rfl)
          refine lv_icmp_ne (tgt := 53) hx hb dX7_killAll_33 (by decide) (fun cd33 => ?_) (fun cd33 => ?_)
          · replace hf := zite_f cd33 hf
            exact j53 i2_13 c_this_now_13 hf H locs ls hP hD hS (lv_sub hl [0, 1, 2, 3] rfl)
          · replace hf := zite_t cd33 hf
            refine lv_aload_n hx hb dX7_killAll_36 rfl (lv_at hl 0 rfl) ?_
            refine lv_iload_n hx hb dX7_killAll_37 rfl (lv_at hl 3 rfl) ?_
            replace hf := zob_some hf
            obtain ⟨u4, hu4, hf⟩ := hf
            refine kd_i (D := D) (v := u4) (av := [.ref q_this, .int i3_13]) (wc := [(q_this, .inr (7, [.ref q_this_now, .ref q_this_past, .int u1.1, .int 0, .ref q_this_list, .ref q_this_at, .ref q_this_levels, .ref q_this_newer, .ref q_this_howMany, .ref q_this_vectors, .ref q_this_dims, .ref q_this_comes, .ref q_this_goes, .ref q_this_cameFrom, .ref q_this_halves, .int v_this_halfMany, .ref q_this_way, .ref q_this_used, .long v_this_hash])), (q_this_now, .inl (k_this_now, 187, .inl c_this_now_13))]) (w1 := [(q_this, .inr (7, [.ref q_this_now, .ref q_this_past, .int u1.1, .int 0, .ref q_this_list, .ref q_this_at, .ref q_this_levels, .ref q_this_newer, .ref q_this_howMany, .ref q_this_vectors, .ref q_this_dims, .ref q_this_comes, .ref q_this_goes, .ref q_this_cameFrom, .ref q_this_halves, .int v_this_halfMany, .ref q_this_way, .ref q_this_used, .long v_this_hash])), (q_this_now, .inl (k_this_now, 187, .inl c_this_now_13))]) (ws2 := [(q_this, .inr (7, [.ref q_this_now, .ref q_this_past, .int u1.1, .int 0, .ref q_this_list, .ref q_this_at, .ref q_this_levels, .ref q_this_newer, .ref q_this_howMany, .ref q_this_vectors, .ref q_this_dims, .ref q_this_comes, .ref q_this_goes, .ref q_this_cameFrom, .ref q_this_halves, .int v_this_halfMany, .ref q_this_way, .ref q_this_used, .long v_this_hash])), (q_this_now, .inl (k_this_now, 187, .inl c_this_now_13)), (q_this_past, .inl (k_this_past, 748, .inl u1.2))]) hK hP hD hS hA hE [0, 1] [0] [2] [1, 2, 0] (fun hb1 hp1 => va_runV (As := [.int i3_13]) (rest := []) ⟨hx, hb, hml, hown, hts⟩ (c_X7_lives l D H.size q_this q_this_now q_this_past q_this_list q_this_at q_this_levels q_this_newer q_this_howMany q_this_vectors q_this_dims q_this_comes q_this_goes q_this_cameFrom q_this_halves q_this_way q_this_used k_this_now u1.1 0 v_this_halfMany v_this_hash c_this_now_13 i3_13 u4 hu4) (cwV 1 hts gX7_killAll_X7_lives rfl rfl rfl (by decide +kernel) ⟨Nat.le_of_ble_eq_true rfl, Nat.le_of_ble_eq_true rfl⟩) ⟨hb1, va_recv hK hP (ci := 7) (q0 := 0) rfl rfl, hp1⟩ rfl rfl hl.1 rfl (lv_room (Nat.le_of_ble_eq_true rfl)) dX7_killAll_38 ⟨Nat.le_of_ble_eq_true rfl, Nat.le_of_ble_eq_true rfl⟩) rfl rfl rfl rfl rfl rfl rfl rfl rfl rfl (fun H locs hP hD hS => ?_)
            have hP : va_P D vwCl [(q_this, .inr (7, [.ref q_this_now, .ref q_this_past, .int u1.1, .int 0, .ref q_this_list, .ref q_this_at, .ref q_this_levels, .ref q_this_newer, .ref q_this_howMany, .ref q_this_vectors, .ref q_this_dims, .ref q_this_comes, .ref q_this_goes, .ref q_this_cameFrom, .ref q_this_halves, .int v_this_halfMany, .ref q_this_way, .ref q_this_used, .long v_this_hash])), (q_this_now, .inl (k_this_now, 187, .inl c_this_now_13)), (q_this_past, .inl (k_this_past, 748, .inl u1.2))] H := hP
            have hD : va_D A [(q_this, .inr (7, [.ref q_this_now, .ref q_this_past, .int u1.1, .int 0, .ref q_this_list, .ref q_this_at, .ref q_this_levels, .ref q_this_newer, .ref q_this_howMany, .ref q_this_vectors, .ref q_this_dims, .ref q_this_comes, .ref q_this_goes, .ref q_this_cameFrom, .ref q_this_halves, .int v_this_halfMany, .ref q_this_way, .ref q_this_used, .long v_this_hash])), (q_this_now, .inl (k_this_now, 187, .inl c_this_now_13)), (q_this_past, .inl (k_this_past, 748, .inl u1.2))] := hD
            refine lv_if_eq (tgt := 53) hx hb dX7_killAll_41 (by decide) (fun cd41 => ?_) (fun cd41 => ?_)
            · replace hf := zite_t cd41 hf
              exact j53 i2_13 c_this_now_13 hf H locs ls hP hD hS (lv_sub hl [0, 1, 2, 3] rfl)
            · replace hf := zite_f cd41 hf
              refine lv_aload_n hx hb dX7_killAll_44 rfl (lv_at hl 0 rfl) ?_
              refine lv_iload_n hx hb dX7_killAll_45 rfl (lv_at hl 3 rfl) ?_
              replace hf := zob_some hf
              obtain ⟨u5, hu5, hf⟩ := hf
              refine kd_i (D := D) (v := u5.1) (av := [.ref q_this, .int i3_13]) (wc := [(q_this, .inr (7, [.ref q_this_now, .ref q_this_past, .int u1.1, .int 0, .ref q_this_list, .ref q_this_at, .ref q_this_levels, .ref q_this_newer, .ref q_this_howMany, .ref q_this_vectors, .ref q_this_dims, .ref q_this_comes, .ref q_this_goes, .ref q_this_cameFrom, .ref q_this_halves, .int v_this_halfMany, .ref q_this_way, .ref q_this_used, .long v_this_hash])), (q_this_now, .inl (k_this_now, 187, .inl c_this_now_13))]) (w1 := [(q_this, .inr (7, [.ref q_this_now, .ref q_this_past, .int u1.1, .int 0, .ref q_this_list, .ref q_this_at, .ref q_this_levels, .ref q_this_newer, .ref q_this_howMany, .ref q_this_vectors, .ref q_this_dims, .ref q_this_comes, .ref q_this_goes, .ref q_this_cameFrom, .ref q_this_halves, .int v_this_halfMany, .ref q_this_way, .ref q_this_used, .long v_this_hash])), (q_this_now, .inl (k_this_now, 187, .inl u5.2))]) (ws2 := [(q_this, .inr (7, [.ref q_this_now, .ref q_this_past, .int u1.1, .int 0, .ref q_this_list, .ref q_this_at, .ref q_this_levels, .ref q_this_newer, .ref q_this_howMany, .ref q_this_vectors, .ref q_this_dims, .ref q_this_comes, .ref q_this_goes, .ref q_this_cameFrom, .ref q_this_halves, .int v_this_halfMany, .ref q_this_way, .ref q_this_used, .long v_this_hash])), (q_this_now, .inl (k_this_now, 187, .inl u5.2)), (q_this_past, .inl (k_this_past, 748, .inl u1.2))]) hK hP hD hS hA hE [0, 1] [0] [2] [1, 2, 0] (fun hb1 hp1 => va_runV (As := [.int i3_13]) (rest := []) ⟨hx, hb, hml, hown, hts⟩ (c_X7_dies l D H.size q_this q_this_now q_this_past q_this_list q_this_at q_this_levels q_this_newer q_this_howMany q_this_vectors q_this_dims q_this_comes q_this_goes q_this_cameFrom q_this_halves q_this_way q_this_used k_this_now u1.1 0 v_this_halfMany v_this_hash c_this_now_13 i3_13 u5 hu5) (cwV 1 hts gX7_killAll_X7_dies rfl rfl rfl (by decide +kernel) ⟨Nat.le_of_ble_eq_true rfl, Nat.le_of_ble_eq_true rfl⟩) ⟨hb1, va_recv hK hP (ci := 7) (q0 := 0) rfl rfl, hp1⟩ rfl rfl hl.1 rfl (lv_room (Nat.le_of_ble_eq_true rfl)) dX7_killAll_46 ⟨Nat.le_of_ble_eq_true rfl, Nat.le_of_ble_eq_true rfl⟩) rfl rfl rfl rfl rfl rfl rfl rfl rfl rfl (fun H locs hP hD hS => ?_)
              have hP : va_P D vwCl [(q_this, .inr (7, [.ref q_this_now, .ref q_this_past, .int u1.1, .int 0, .ref q_this_list, .ref q_this_at, .ref q_this_levels, .ref q_this_newer, .ref q_this_howMany, .ref q_this_vectors, .ref q_this_dims, .ref q_this_comes, .ref q_this_goes, .ref q_this_cameFrom, .ref q_this_halves, .int v_this_halfMany, .ref q_this_way, .ref q_this_used, .long v_this_hash])), (q_this_now, .inl (k_this_now, 187, .inl u5.2)), (q_this_past, .inl (k_this_past, 748, .inl u1.2))] H := hP
              have hD : va_D A [(q_this, .inr (7, [.ref q_this_now, .ref q_this_past, .int u1.1, .int 0, .ref q_this_list, .ref q_this_at, .ref q_this_levels, .ref q_this_newer, .ref q_this_howMany, .ref q_this_vectors, .ref q_this_dims, .ref q_this_comes, .ref q_this_goes, .ref q_this_cameFrom, .ref q_this_halves, .int v_this_halfMany, .ref q_this_way, .ref q_this_used, .long v_this_hash])), (q_this_now, .inl (k_this_now, 187, .inl u5.2)), (q_this_past, .inl (k_this_past, 748, .inl u1.2))] := hD
              refine lv_pop hx hb dX7_killAll_49 rfl ?_
              obtain ⟨x6, ex6⟩ : ∃ y : Int32, y = i2_13 + 1 := ⟨_, rfl⟩
              replace hf := zbd_of ex6 hf
              refine lv_iinc (v := x6) (lv' := [(2, .int x6), (0, .ref q_this), (1, .int a1), (3, .int i3_13)]) hx hb dX7_killAll_50 hl (k := 2) rfl (by rw [ex6]; rfl) (by decide) rfl (fun ls hl => ?_)
              exact j53 x6 u5.2 hf H locs ls hP hD hS (lv_sub hl [1, 2, 0, 3] rfl)
  exact h13 zfu 0 0 c_this_now hf H locs ls hP hD hS (lv_sub hl [2, 3, 1, 0] rfl)
abbrev rm_X7_isAlive : Room := { frames := 2, cells := 0, slots := 0, locals := 43 }
set_option maxHeartbeats 4000000 in
set_option maxRecDepth 100000 in
theorem c_X7_isAlive (l : Launch) (D : va_G) (sz : Nat) (q_this : Nat) (q_this_now : Nat) (q_this_past : Nat) (q_this_list : Nat) (q_this_at : Nat) (q_this_levels : Nat) (q_this_newer : Nat) (q_this_howMany : Nat) (q_this_vectors : Nat) (q_this_dims : Nat) (q_this_comes : Nat) (q_this_goes : Nat) (q_this_cameFrom : Nat) (q_this_halves : Nat) (q_this_way : Nat) (q_this_used : Nat) (k_this_now : ClassId) (v_this_saved : Int32) (v_this_refusal : Int32) (v_this_halfMany : Int32) (v_this_hash : Int64) (c_this_now : (Nat → Int32)) (a1 : Int32) (res : rt_X7_isAlive) (hf : f_X7_isAlive a1 v_this_refusal c_this_now = some res) : Met l yX7_isAlive wsX7_isAlive rm_X7_isAlive (kP D [.ref q_this, .int a1] [(q_this, .inr (7, [.ref q_this_now, .ref q_this_past, .int v_this_saved, .int v_this_refusal, .ref q_this_list, .ref q_this_at, .ref q_this_levels, .ref q_this_newer, .ref q_this_howMany, .ref q_this_vectors, .ref q_this_dims, .ref q_this_comes, .ref q_this_goes, .ref q_this_cameFrom, .ref q_this_halves, .int v_this_halfMany, .ref q_this_way, .ref q_this_used, .long v_this_hash])), (q_this_now, .inl (k_this_now, 187, .inl c_this_now))] [(k_this_now, .int)] sz) (kQi D (va_A [(q_this, .inr (7, [.ref q_this_now, .ref q_this_past, .int v_this_saved, .int v_this_refusal, .ref q_this_list, .ref q_this_at, .ref q_this_levels, .ref q_this_newer, .ref q_this_howMany, .ref q_this_vectors, .ref q_this_dims, .ref q_this_comes, .ref q_this_goes, .ref q_this_cameFrom, .ref q_this_halves, .int v_this_halfMany, .ref q_this_way, .ref q_this_used, .long v_this_hash])), (q_this_now, .inl (k_this_now, 187, .inl c_this_now))] sz) [(k_this_now, .int)] res.1 [(q_this, .inr (7, [.ref q_this_now, .ref q_this_past, .int v_this_saved, .int res.2, .ref q_this_list, .ref q_this_at, .ref q_this_levels, .ref q_this_newer, .ref q_this_howMany, .ref q_this_vectors, .ref q_this_dims, .ref q_this_comes, .ref q_this_goes, .ref q_this_cameFrom, .ref q_this_halves, .int v_this_halfMany, .ref q_this_way, .ref q_this_used, .long v_this_hash])), (q_this_now, .inl (k_this_now, 187, .inl c_this_now))]) 0 0 (va_A [(q_this, .inr (7, [.ref q_this_now, .ref q_this_past, .int v_this_saved, .int v_this_refusal, .ref q_this_list, .ref q_this_at, .ref q_this_levels, .ref q_this_newer, .ref q_this_howMany, .ref q_this_vectors, .ref q_this_dims, .ref q_this_comes, .ref q_this_goes, .ref q_this_cameFrom, .ref q_this_halves, .int v_this_halfMany, .ref q_this_way, .ref q_this_used, .long v_this_hash])), (q_this_now, .inl (k_this_now, 187, .inl c_this_now))] sz) := by
  refine Met.ofW (cc := cX7_isAlive) (maxL := 2) (ret := (some .boolean)) (by decide +kernel) rfl ?_
  intro p e s m args below meth c s₁ B hml hv
  obtain ⟨hargs, hsz, hP, hK, hD0, hE⟩ := hv
  have hx := B.exec
  have hb := B.bytes
  have hr := B.returns
  have hts := atoms_spec (ws := wsX7_isAlive) B.pre
  have hown : s.vm.findClass RX7 = some m.cls := findClass_of_methodNamed B.named
  have hlocks := B.notSynchronized
  subst hsz
  have hD := hD0.self (sz := s.heap.size)
  generalize hAe : va_A [(q_this, .inr (7, [.ref q_this_now, .ref q_this_past, .int v_this_saved, .int v_this_refusal, .ref q_this_list, .ref q_this_at, .ref q_this_levels, .ref q_this_newer, .ref q_this_howMany, .ref q_this_vectors, .ref q_this_dims, .ref q_this_comes, .ref q_this_goes, .ref q_this_cameFrom, .ref q_this_halves, .int v_this_halfMany, .ref q_this_way, .ref q_this_used, .long v_this_hash])), (q_this_now, .inl (k_this_now, 187, .inl c_this_now))] s.heap.size = A at hD hE ⊢
  have hA : ∀ q : Nat, s.heap.size ≤ q → A q := fun q h => by rw [← hAe]; exact Or.inr h
  have hS : va_S A s.heap s.heap [] := va_S.rf
  refine kgen (fun Q eQ => ?_)
  refine kent (av := [.ref q_this, .int a1]) hargs (Nat.le_of_ble_eq_true rfl) (fun ls hl => ?_)
  have hl : lv_has ls 2 [(0, .ref q_this), (1, .int a1)] := hl
  show W p l e rm_X7_isAlive s m args below meth c s.heap [] 0 0 Q (F0 m 0 ls [])
  unfold f_X7_isAlive at hf
  refine lv_aload_n hx hb dX7_isAlive_0 rfl (lv_at hl 0 rfl) ?_
  refine lv_aload_n hx hb dX7_isAlive_1 rfl (lv_at hl 0 rfl) ?_
  refine lv_iload_n hx hb dX7_isAlive_2 rfl (lv_at hl 1 rfl) ?_
  replace hf := zob_some hf
  obtain ⟨u1, hu1, hf⟩ := hf
  refine kd_i (D := D) (v := u1) (av := [.ref q_this, .int a1]) (wc := [(q_this, .inr (7, [.ref q_this_now, .ref q_this_past, .int v_this_saved, .int v_this_refusal, .ref q_this_list, .ref q_this_at, .ref q_this_levels, .ref q_this_newer, .ref q_this_howMany, .ref q_this_vectors, .ref q_this_dims, .ref q_this_comes, .ref q_this_goes, .ref q_this_cameFrom, .ref q_this_halves, .int v_this_halfMany, .ref q_this_way, .ref q_this_used, .long v_this_hash])), (q_this_now, .inl (k_this_now, 187, .inl c_this_now))]) (w1 := [(q_this, .inr (7, [.ref q_this_now, .ref q_this_past, .int v_this_saved, .int v_this_refusal, .ref q_this_list, .ref q_this_at, .ref q_this_levels, .ref q_this_newer, .ref q_this_howMany, .ref q_this_vectors, .ref q_this_dims, .ref q_this_comes, .ref q_this_goes, .ref q_this_cameFrom, .ref q_this_halves, .int v_this_halfMany, .ref q_this_way, .ref q_this_used, .long v_this_hash])), (q_this_now, .inl (k_this_now, 187, .inl c_this_now))]) (ws2 := [(q_this, .inr (7, [.ref q_this_now, .ref q_this_past, .int v_this_saved, .int v_this_refusal, .ref q_this_list, .ref q_this_at, .ref q_this_levels, .ref q_this_newer, .ref q_this_howMany, .ref q_this_vectors, .ref q_this_dims, .ref q_this_comes, .ref q_this_goes, .ref q_this_cameFrom, .ref q_this_halves, .int v_this_halfMany, .ref q_this_way, .ref q_this_used, .long v_this_hash])), (q_this_now, .inl (k_this_now, 187, .inl c_this_now))]) hK hP hD hS hA hE [0, 1] [0] [] [0, 1] (fun hb1 hp1 => va_runV (As := [.int a1]) (rest := [.ref q_this]) ⟨hx, hb, hml, hown, hts⟩ (c_X7_isNode l D s.heap.size q_this q_this_now q_this_past q_this_list q_this_at q_this_levels q_this_newer q_this_howMany q_this_vectors q_this_dims q_this_comes q_this_goes q_this_cameFrom q_this_halves q_this_way q_this_used k_this_now v_this_saved v_this_refusal v_this_halfMany v_this_hash c_this_now a1 u1 hu1) (cwV 1 hts gX7_isAlive_X7_isNode rfl rfl rfl (by decide +kernel) ⟨Nat.le_of_ble_eq_true rfl, Nat.le_of_ble_eq_true rfl⟩) ⟨hb1, va_recv hK hP (ci := 7) (q0 := 0) rfl rfl, hp1⟩ rfl rfl hl.1 rfl (lv_room (Nat.le_of_ble_eq_true rfl)) dX7_isAlive_3 ⟨Nat.le_of_ble_eq_true rfl, Nat.le_of_ble_eq_true rfl⟩) rfl rfl rfl rfl rfl rfl rfl rfl rfl rfl (fun H locs hP hD hS => ?_)
  have hP : va_P D vwCl [(q_this, .inr (7, [.ref q_this_now, .ref q_this_past, .int v_this_saved, .int v_this_refusal, .ref q_this_list, .ref q_this_at, .ref q_this_levels, .ref q_this_newer, .ref q_this_howMany, .ref q_this_vectors, .ref q_this_dims, .ref q_this_comes, .ref q_this_goes, .ref q_this_cameFrom, .ref q_this_halves, .int v_this_halfMany, .ref q_this_way, .ref q_this_used, .long v_this_hash])), (q_this_now, .inl (k_this_now, 187, .inl c_this_now))] H := hP
  have hD : va_D A [(q_this, .inr (7, [.ref q_this_now, .ref q_this_past, .int v_this_saved, .int v_this_refusal, .ref q_this_list, .ref q_this_at, .ref q_this_levels, .ref q_this_newer, .ref q_this_howMany, .ref q_this_vectors, .ref q_this_dims, .ref q_this_comes, .ref q_this_goes, .ref q_this_cameFrom, .ref q_this_halves, .int v_this_halfMany, .ref q_this_way, .ref q_this_used, .long v_this_hash])), (q_this_now, .inl (k_this_now, 187, .inl c_this_now))] := hD
  replace hf := zjp_some hf
  obtain ⟨K14, eK14, hf⟩ := hf
  have j14 : ∀ (s1_14 : Int32), K14 s1_14 = some res → ∀ (H : Heap) (locs : List Loc) (ls : Array Slot), va_P D vwCl [(q_this, .inr (7, [.ref q_this_now, .ref q_this_past, .int v_this_saved, .int v_this_refusal, .ref q_this_list, .ref q_this_at, .ref q_this_levels, .ref q_this_newer, .ref q_this_howMany, .ref q_this_vectors, .ref q_this_dims, .ref q_this_comes, .ref q_this_goes, .ref q_this_cameFrom, .ref q_this_halves, .int v_this_halfMany, .ref q_this_way, .ref q_this_used, .long v_this_hash])), (q_this_now, .inl (k_this_now, 187, .inl c_this_now))] H → va_D A [(q_this, .inr (7, [.ref q_this_now, .ref q_this_past, .int v_this_saved, .int v_this_refusal, .ref q_this_list, .ref q_this_at, .ref q_this_levels, .ref q_this_newer, .ref q_this_howMany, .ref q_this_vectors, .ref q_this_dims, .ref q_this_comes, .ref q_this_goes, .ref q_this_cameFrom, .ref q_this_halves, .int v_this_halfMany, .ref q_this_way, .ref q_this_used, .long v_this_hash])), (q_this_now, .inl (k_this_now, 187, .inl c_this_now))] → va_S A s.heap H locs → lv_has ls 2 [(0, .ref q_this), (1, .int a1)] → W p l e rm_X7_isAlive s m args below meth c H locs 0 0 Q (F0 m 14 ls [.int s1_14, .ref q_this]) := by
    intro s1_14 hf H locs ls hP hD hS hl
    replace hf := zap1 eK14 hf
    replace hf := zob_some hf
    obtain ⟨u2, hu2, hf⟩ := hf
    refine kd_i (D := D) (v := u2.1) (av := [.ref q_this, .int s1_14]) (wc := [(q_this, .inr (7, [.ref q_this_now, .ref q_this_past, .int v_this_saved, .int v_this_refusal, .ref q_this_list, .ref q_this_at, .ref q_this_levels, .ref q_this_newer, .ref q_this_howMany, .ref q_this_vectors, .ref q_this_dims, .ref q_this_comes, .ref q_this_goes, .ref q_this_cameFrom, .ref q_this_halves, .int v_this_halfMany, .ref q_this_way, .ref q_this_used, .long v_this_hash]))]) (w1 := [(q_this, .inr (7, [.ref q_this_now, .ref q_this_past, .int v_this_saved, .int u2.2, .ref q_this_list, .ref q_this_at, .ref q_this_levels, .ref q_this_newer, .ref q_this_howMany, .ref q_this_vectors, .ref q_this_dims, .ref q_this_comes, .ref q_this_goes, .ref q_this_cameFrom, .ref q_this_halves, .int v_this_halfMany, .ref q_this_way, .ref q_this_used, .long v_this_hash]))]) (ws2 := [(q_this, .inr (7, [.ref q_this_now, .ref q_this_past, .int v_this_saved, .int u2.2, .ref q_this_list, .ref q_this_at, .ref q_this_levels, .ref q_this_newer, .ref q_this_howMany, .ref q_this_vectors, .ref q_this_dims, .ref q_this_comes, .ref q_this_goes, .ref q_this_cameFrom, .ref q_this_halves, .int v_this_halfMany, .ref q_this_way, .ref q_this_used, .long v_this_hash])), (q_this_now, .inl (k_this_now, 187, .inl c_this_now))]) hK hP hD hS hA hE [0] [] [1] [1, 0] (fun hb1 hp1 => va_runV (As := [.int s1_14]) (rest := []) ⟨hx, hb, hml, hown, hts⟩ (c_X7_refused l D H.size q_this q_this_now q_this_past q_this_list q_this_at q_this_levels q_this_newer q_this_howMany q_this_vectors q_this_dims q_this_comes q_this_goes q_this_cameFrom q_this_halves q_this_way q_this_used v_this_saved v_this_refusal v_this_halfMany v_this_hash s1_14 u2 hu2) (cwV 1 hts gX7_isAlive_X7_refused rfl rfl rfl (by decide +kernel) ⟨Nat.le_of_ble_eq_true rfl, Nat.le_of_ble_eq_true rfl⟩) ⟨hb1, va_recv hK hP (ci := 7) (q0 := 0) rfl rfl, hp1⟩ rfl rfl hl.1 rfl (lv_room (Nat.le_of_ble_eq_true rfl)) dX7_isAlive_14 ⟨Nat.le_of_ble_eq_true rfl, Nat.le_of_ble_eq_true rfl⟩) rfl rfl rfl rfl rfl rfl rfl rfl rfl rfl (fun H locs hP hD hS => ?_)
    have hP : va_P D vwCl [(q_this, .inr (7, [.ref q_this_now, .ref q_this_past, .int v_this_saved, .int u2.2, .ref q_this_list, .ref q_this_at, .ref q_this_levels, .ref q_this_newer, .ref q_this_howMany, .ref q_this_vectors, .ref q_this_dims, .ref q_this_comes, .ref q_this_goes, .ref q_this_cameFrom, .ref q_this_halves, .int v_this_halfMany, .ref q_this_way, .ref q_this_used, .long v_this_hash])), (q_this_now, .inl (k_this_now, 187, .inl c_this_now))] H := hP
    have hD : va_D A [(q_this, .inr (7, [.ref q_this_now, .ref q_this_past, .int v_this_saved, .int u2.2, .ref q_this_list, .ref q_this_at, .ref q_this_levels, .ref q_this_newer, .ref q_this_howMany, .ref q_this_vectors, .ref q_this_dims, .ref q_this_comes, .ref q_this_goes, .ref q_this_cameFrom, .ref q_this_halves, .int v_this_halfMany, .ref q_this_way, .ref q_this_used, .long v_this_hash])), (q_this_now, .inl (k_this_now, 187, .inl c_this_now))] := hD
    replace hf := zjp_some hf
    obtain ⟨K32, eK32, hf⟩ := hf
    have j32 : K32 = some res → ∀ (H : Heap) (locs : List Loc) (ls : Array Slot), va_P D vwCl [(q_this, .inr (7, [.ref q_this_now, .ref q_this_past, .int v_this_saved, .int u2.2, .ref q_this_list, .ref q_this_at, .ref q_this_levels, .ref q_this_newer, .ref q_this_howMany, .ref q_this_vectors, .ref q_this_dims, .ref q_this_comes, .ref q_this_goes, .ref q_this_cameFrom, .ref q_this_halves, .int v_this_halfMany, .ref q_this_way, .ref q_this_used, .long v_this_hash])), (q_this_now, .inl (k_this_now, 187, .inl c_this_now))] H → va_D A [(q_this, .inr (7, [.ref q_this_now, .ref q_this_past, .int v_this_saved, .int u2.2, .ref q_this_list, .ref q_this_at, .ref q_this_levels, .ref q_this_newer, .ref q_this_howMany, .ref q_this_vectors, .ref q_this_dims, .ref q_this_comes, .ref q_this_goes, .ref q_this_cameFrom, .ref q_this_halves, .int v_this_halfMany, .ref q_this_way, .ref q_this_used, .long v_this_hash])), (q_this_now, .inl (k_this_now, 187, .inl c_this_now))] → va_S A s.heap H locs → lv_has ls 2 [] → W p l e rm_X7_isAlive s m args below meth c H locs 0 0 Q (F0 m 32 ls []) := by
      intro  hf H locs ls hP hD hS hl
      replace hf := zap0 eK32 hf
      refine lv_iconst (v := 0) hx hb dX7_isAlive_32 (by decide) ?_
      obtain rfl := Option.some.inj hf
      subst eQ
      exact kr_z hx hb hr nar_0 hlocks hK hP hD hS dX7_isAlive_33
    refine lv_if_ne (tgt := 32) hx hb dX7_isAlive_17 (by decide) (fun cd17 => ?_) (fun cd17 => ?_)
    · replace hf := zite_f cd17 hf
      exact j32  hf H locs ls hP hD hS (lv_sub hl [] rfl)
    · replace hf := zite_t cd17 hf
      refine lv_aload_n hx hb dX7_isAlive_20 rfl (lv_at hl 0 rfl) ?_
      refine lv_iload_n hx hb dX7_isAlive_21 rfl (lv_at hl 1 rfl) ?_
      replace hf := zob_some hf
      obtain ⟨u3, hu3, hf⟩ := hf
      refine kd_i (D := D) (v := u3) (av := [.ref q_this, .int a1]) (wc := [(q_this, .inr (7, [.ref q_this_now, .ref q_this_past, .int v_this_saved, .int u2.2, .ref q_this_list, .ref q_this_at, .ref q_this_levels, .ref q_this_newer, .ref q_this_howMany, .ref q_this_vectors, .ref q_this_dims, .ref q_this_comes, .ref q_this_goes, .ref q_this_cameFrom, .ref q_this_halves, .int v_this_halfMany, .ref q_this_way, .ref q_this_used, .long v_this_hash])), (q_this_now, .inl (k_this_now, 187, .inl c_this_now))]) (w1 := [(q_this, .inr (7, [.ref q_this_now, .ref q_this_past, .int v_this_saved, .int u2.2, .ref q_this_list, .ref q_this_at, .ref q_this_levels, .ref q_this_newer, .ref q_this_howMany, .ref q_this_vectors, .ref q_this_dims, .ref q_this_comes, .ref q_this_goes, .ref q_this_cameFrom, .ref q_this_halves, .int v_this_halfMany, .ref q_this_way, .ref q_this_used, .long v_this_hash])), (q_this_now, .inl (k_this_now, 187, .inl c_this_now))]) (ws2 := [(q_this, .inr (7, [.ref q_this_now, .ref q_this_past, .int v_this_saved, .int u2.2, .ref q_this_list, .ref q_this_at, .ref q_this_levels, .ref q_this_newer, .ref q_this_howMany, .ref q_this_vectors, .ref q_this_dims, .ref q_this_comes, .ref q_this_goes, .ref q_this_cameFrom, .ref q_this_halves, .int v_this_halfMany, .ref q_this_way, .ref q_this_used, .long v_this_hash])), (q_this_now, .inl (k_this_now, 187, .inl c_this_now))]) hK hP hD hS hA hE [0, 1] [0] [] [0, 1] (fun hb1 hp1 => va_runV (As := [.int a1]) (rest := []) ⟨hx, hb, hml, hown, hts⟩ (c_X7_lives l D H.size q_this q_this_now q_this_past q_this_list q_this_at q_this_levels q_this_newer q_this_howMany q_this_vectors q_this_dims q_this_comes q_this_goes q_this_cameFrom q_this_halves q_this_way q_this_used k_this_now v_this_saved u2.2 v_this_halfMany v_this_hash c_this_now a1 u3 hu3) (cwV 1 hts gX7_isAlive_X7_lives rfl rfl rfl (by decide +kernel) ⟨Nat.le_of_ble_eq_true rfl, Nat.le_of_ble_eq_true rfl⟩) ⟨hb1, va_recv hK hP (ci := 7) (q0 := 0) rfl rfl, hp1⟩ rfl rfl hl.1 rfl (lv_room (Nat.le_of_ble_eq_true rfl)) dX7_isAlive_22 ⟨Nat.le_of_ble_eq_true rfl, Nat.le_of_ble_eq_true rfl⟩) rfl rfl rfl rfl rfl rfl rfl rfl rfl rfl (fun H locs hP hD hS => ?_)
      have hP : va_P D vwCl [(q_this, .inr (7, [.ref q_this_now, .ref q_this_past, .int v_this_saved, .int u2.2, .ref q_this_list, .ref q_this_at, .ref q_this_levels, .ref q_this_newer, .ref q_this_howMany, .ref q_this_vectors, .ref q_this_dims, .ref q_this_comes, .ref q_this_goes, .ref q_this_cameFrom, .ref q_this_halves, .int v_this_halfMany, .ref q_this_way, .ref q_this_used, .long v_this_hash])), (q_this_now, .inl (k_this_now, 187, .inl c_this_now))] H := hP
      have hD : va_D A [(q_this, .inr (7, [.ref q_this_now, .ref q_this_past, .int v_this_saved, .int u2.2, .ref q_this_list, .ref q_this_at, .ref q_this_levels, .ref q_this_newer, .ref q_this_howMany, .ref q_this_vectors, .ref q_this_dims, .ref q_this_comes, .ref q_this_goes, .ref q_this_cameFrom, .ref q_this_halves, .int v_this_halfMany, .ref q_this_way, .ref q_this_used, .long v_this_hash])), (q_this_now, .inl (k_this_now, 187, .inl c_this_now))] := hD
      refine lv_if_eq (tgt := 32) hx hb dX7_isAlive_25 (by decide) (fun cd25 => ?_) (fun cd25 => ?_)
      · replace hf := zite_t cd25 hf
        exact j32  hf H locs ls hP hD hS (lv_sub hl [] rfl)
      · replace hf := zite_f cd25 hf
        refine lv_iconst (v := 1) hx hb dX7_isAlive_28 (by decide) ?_
        refine lv_goto (tgt := 33) hx hb dX7_isAlive_29 (by decide) ?_
        obtain rfl := Option.some.inj hf
        subst eQ
        exact kr_z hx hb hr nar_1 hlocks hK hP hD hS dX7_isAlive_33
  refine lv_if_eq (tgt := 13) hx hb dX7_isAlive_6 (by decide) (fun cd6 => ?_) (fun cd6 => ?_)
  · replace hf := zite_t cd6 hf
    refine lv_iconst (v := 1) hx hb dX7_isAlive_13 (by decide) ?_
    exact j14 1 hf H locs ls hP hD hS (lv_sub hl [0, 1] rfl)
  · replace hf := zite_f cd6 hf
    refine lv_iconst (v := 0) hx hb dX7_isAlive_9 (by decide) ?_
    refine lv_goto (tgt := 14) hx hb dX7_isAlive_10 (by decide) ?_
    exact j14 0 hf H locs ls hP hD hS (lv_sub hl [0, 1] rfl)
abbrev rm_X7_far : Room := { frames := 0, cells := 0, slots := 0, locals := 0 }
set_option maxHeartbeats 4000000 in
set_option maxRecDepth 100000 in
theorem c_X7_far (l : Launch) (D : va_G) (sz : Nat) (a0 : Int32) (a1 : Int32) (res : rt_X7_far) (hf : f_X7_far a0 a1 = some res) : Met l yX7_far wsX7_far rm_X7_far (kP D [.int a0, .int a1] [] [] sz) (kQi D (va_A [] sz) [] res []) 0 0 (va_A [] sz) := by
  refine Met.ofW (cc := cX7_far) (maxL := 4) (ret := (some .int)) (by decide +kernel) rfl ?_
  intro p e s m args below meth c s₁ B hml hv
  obtain ⟨hargs, hsz, hP, hK, hD0, hE⟩ := hv
  have hx := B.exec
  have hb := B.bytes
  have hr := B.returns
  have hts := atoms_spec (ws := wsX7_far) B.pre
  have hown : s.vm.findClass RX7 = some m.cls := findClass_of_methodNamed B.named
  have hlocks := B.notSynchronized
  subst hsz
  have hD := hD0.self (sz := s.heap.size)
  generalize hAe : va_A [] s.heap.size = A at hD hE ⊢
  have hA : ∀ q : Nat, s.heap.size ≤ q → A q := fun q h => by rw [← hAe]; exact Or.inr h
  have hS : va_S A s.heap s.heap [] := va_S.rf
  refine kgen (fun Q eQ => ?_)
  refine kent (av := [.int a0, .int a1]) hargs (Nat.le_of_ble_eq_true rfl) (fun ls hl => ?_)
  have hl : lv_has ls 4 [(0, .int a0), (1, .int a1)] := hl
  show W p l e rm_X7_far s m args below meth c s.heap [] 0 0 Q (F0 m 0 ls [])
  unfold f_X7_far at hf
  refine lv_iconst (v := 0) hx hb dX7_far_0 (by decide) ?_
  refine lv_istore_n (lv' := [(2, .int 0), (0, .int a0), (1, .int a1)]) hx hb dX7_far_1 rfl hl (by decide) rfl (fun ls hl => ?_)
  refine lv_iconst (v := 0) hx hb dX7_far_2 (by decide) ?_
  refine lv_istore_n (lv' := [(3, .int 0), (2, .int 0), (0, .int a0), (1, .int a1)]) hx hb dX7_far_3 rfl hl (by decide) rfl (fun ls hl => ?_)
  replace hf := zl2_some hf
  obtain ⟨F4, eF4, hf⟩ := hf
  have h4 : ∀ (n4 : Nat) (i2_4 : Int32) (i3_4 : Int32), zl2 F4 n4 i2_4 i3_4 = some res → ∀ (H : Heap) (locs : List Loc) (ls : Array Slot), va_P D vwCl [] H → va_D A [] → va_S A s.heap H locs → lv_has ls 4 [(0, .int a0), (1, .int a1), (2, .int i2_4), (3, .int i3_4)] → W p l e rm_X7_far s m args below meth c H locs 0 0 Q (F0 m 4 ls []) := by
    intro n4
    induction n4 with
    | zero => intro i2_4 i3_4 hf; exact (zl2_zero hf).elim
    | succ n4 ih4 =>
      intro i2_4 i3_4 hf H locs ls hP hD hS hl
      replace hf := zl2_step eF4 hf
      generalize zl2 F4 n4 = k4 at hf ih4
      refine lv_iload_n hx hb dX7_far_4 rfl (lv_at hl 3 rfl) ?_
      refine lv_bipush (v := 6) hx hb dX7_far_5 (by decide) ?_
      refine lv_icmp_ge (tgt := 26) hx hb dX7_far_7 (by decide) (fun cd7 => ?_) (fun cd7 => ?_)
      · replace hf := zite_t cd7 hf
        refine lv_iload_n hx hb dX7_far_26 rfl (lv_at hl 2 rfl) ?_
        obtain rfl := Option.some.inj hf
        subst eQ
        exact kr_i hx hb hr hlocks hK hP hD hS dX7_far_27
      · replace hf := zite_f cd7 hf
        refine lv_iload_n hx hb dX7_far_10 rfl (lv_at hl 2 rfl) ?_
        refine lv_iload_n hx hb dX7_far_11 rfl (lv_at hl 0 rfl) ?_
        refine lv_iload_n hx hb dX7_far_12 rfl (lv_at hl 1 rfl) ?_
        refine lv_ixor hx hb dX7_far_13 ?_
        refine lv_iload_n hx hb dX7_far_14 rfl (lv_at hl 3 rfl) ?_
        refine lv_ishr hx hb dX7_far_15 ?_
        refine lv_iconst (v := 1) hx hb dX7_far_16 (by decide) ?_
        refine lv_iand hx hb dX7_far_17 ?_
        refine lv_iadd hx hb dX7_far_18 ?_
        refine lv_topi (fun x1 ex1 => ?_)
        replace hf := zbd_of ex1 hf
        refine lv_istore_n (lv' := [(2, .int x1), (0, .int a0), (1, .int a1), (3, .int i3_4)]) hx hb dX7_far_19 rfl hl (by decide) rfl (fun ls hl => ?_)
        obtain ⟨x2, ex2⟩ : ∃ y : Int32, y = i3_4 + 1 := ⟨_, rfl⟩
        replace hf := zbd_of ex2 hf
        refine lv_iinc (v := x2) (lv' := [(3, .int x2), (2, .int x1), (0, .int a0), (1, .int a1)]) hx hb dX7_far_20 hl (k := 3) rfl (by rw [ex2]; rfl) (by decide) rfl (fun ls hl => ?_)
        refine lv_goto (tgt := 4) hx hb dX7_far_23 (by decide) ?_
        exact ih4 x1 x2 hf H locs ls hP hD hS (lv_sub hl [2, 3, 1, 0] rfl)
  exact h4 zfu 0 0 hf s.heap [] ls hP hD hS (lv_sub hl [2, 3, 1, 0] rfl)
abbrev rm_X7_distance : Room := { frames := 2, cells := 0, slots := 0, locals := 43 }
set_option maxHeartbeats 4000000 in
set_option maxRecDepth 100000 in
theorem c_X7_distance (l : Launch) (D : va_G) (sz : Nat) (q_this : Nat) (q_this_now : Nat) (q_this_past : Nat) (q_this_list : Nat) (q_this_at : Nat) (q_this_levels : Nat) (q_this_newer : Nat) (q_this_howMany : Nat) (q_this_vectors : Nat) (q_this_dims : Nat) (q_this_comes : Nat) (q_this_goes : Nat) (q_this_cameFrom : Nat) (q_this_halves : Nat) (q_this_way : Nat) (q_this_used : Nat) (k_this_now : ClassId) (v_this_saved : Int32) (v_this_refusal : Int32) (v_this_halfMany : Int32) (v_this_hash : Int64) (c_this_now : (Nat → Int32)) (a1 : Int32) (a2 : Int32) (res : rt_X7_distance) (hf : f_X7_distance a1 a2 v_this_refusal c_this_now = some res) : Met l yX7_distance wsX7_distance rm_X7_distance (kP D [.ref q_this, .int a1, .int a2] [(q_this, .inr (7, [.ref q_this_now, .ref q_this_past, .int v_this_saved, .int v_this_refusal, .ref q_this_list, .ref q_this_at, .ref q_this_levels, .ref q_this_newer, .ref q_this_howMany, .ref q_this_vectors, .ref q_this_dims, .ref q_this_comes, .ref q_this_goes, .ref q_this_cameFrom, .ref q_this_halves, .int v_this_halfMany, .ref q_this_way, .ref q_this_used, .long v_this_hash])), (q_this_now, .inl (k_this_now, 187, .inl c_this_now))] [(k_this_now, .int)] sz) (kQi D (va_A [(q_this, .inr (7, [.ref q_this_now, .ref q_this_past, .int v_this_saved, .int v_this_refusal, .ref q_this_list, .ref q_this_at, .ref q_this_levels, .ref q_this_newer, .ref q_this_howMany, .ref q_this_vectors, .ref q_this_dims, .ref q_this_comes, .ref q_this_goes, .ref q_this_cameFrom, .ref q_this_halves, .int v_this_halfMany, .ref q_this_way, .ref q_this_used, .long v_this_hash])), (q_this_now, .inl (k_this_now, 187, .inl c_this_now))] sz) [(k_this_now, .int)] res.1 [(q_this, .inr (7, [.ref q_this_now, .ref q_this_past, .int v_this_saved, .int res.2, .ref q_this_list, .ref q_this_at, .ref q_this_levels, .ref q_this_newer, .ref q_this_howMany, .ref q_this_vectors, .ref q_this_dims, .ref q_this_comes, .ref q_this_goes, .ref q_this_cameFrom, .ref q_this_halves, .int v_this_halfMany, .ref q_this_way, .ref q_this_used, .long v_this_hash])), (q_this_now, .inl (k_this_now, 187, .inl c_this_now))]) 0 0 (va_A [(q_this, .inr (7, [.ref q_this_now, .ref q_this_past, .int v_this_saved, .int v_this_refusal, .ref q_this_list, .ref q_this_at, .ref q_this_levels, .ref q_this_newer, .ref q_this_howMany, .ref q_this_vectors, .ref q_this_dims, .ref q_this_comes, .ref q_this_goes, .ref q_this_cameFrom, .ref q_this_halves, .int v_this_halfMany, .ref q_this_way, .ref q_this_used, .long v_this_hash])), (q_this_now, .inl (k_this_now, 187, .inl c_this_now))] sz) := by
  refine Met.ofW (cc := cX7_distance) (maxL := 3) (ret := (some .int)) (by decide +kernel) rfl ?_
  intro p e s m args below meth c s₁ B hml hv
  obtain ⟨hargs, hsz, hP, hK, hD0, hE⟩ := hv
  have hx := B.exec
  have hb := B.bytes
  have hr := B.returns
  have hts := atoms_spec (ws := wsX7_distance) B.pre
  have hown : s.vm.findClass RX7 = some m.cls := findClass_of_methodNamed B.named
  have hlocks := B.notSynchronized
  subst hsz
  have hD := hD0.self (sz := s.heap.size)
  generalize hAe : va_A [(q_this, .inr (7, [.ref q_this_now, .ref q_this_past, .int v_this_saved, .int v_this_refusal, .ref q_this_list, .ref q_this_at, .ref q_this_levels, .ref q_this_newer, .ref q_this_howMany, .ref q_this_vectors, .ref q_this_dims, .ref q_this_comes, .ref q_this_goes, .ref q_this_cameFrom, .ref q_this_halves, .int v_this_halfMany, .ref q_this_way, .ref q_this_used, .long v_this_hash])), (q_this_now, .inl (k_this_now, 187, .inl c_this_now))] s.heap.size = A at hD hE ⊢
  have hA : ∀ q : Nat, s.heap.size ≤ q → A q := fun q h => by rw [← hAe]; exact Or.inr h
  have hS : va_S A s.heap s.heap [] := va_S.rf
  refine kgen (fun Q eQ => ?_)
  refine kent (av := [.ref q_this, .int a1, .int a2]) hargs (Nat.le_of_ble_eq_true rfl) (fun ls hl => ?_)
  have hl : lv_has ls 3 [(0, .ref q_this), (1, .int a1), (2, .int a2)] := hl
  show W p l e rm_X7_distance s m args below meth c s.heap [] 0 0 Q (F0 m 0 ls [])
  unfold f_X7_distance at hf
  refine lv_aload_n hx hb dX7_distance_0 rfl (lv_at hl 0 rfl) ?_
  refine lv_aload_n hx hb dX7_distance_1 rfl (lv_at hl 0 rfl) ?_
  refine lv_iload_n hx hb dX7_distance_2 rfl (lv_at hl 1 rfl) ?_
  replace hf := zob_some hf
  obtain ⟨u1, hu1, hf⟩ := hf
  refine kd_i (D := D) (v := u1) (av := [.ref q_this, .int a1]) (wc := [(q_this, .inr (7, [.ref q_this_now, .ref q_this_past, .int v_this_saved, .int v_this_refusal, .ref q_this_list, .ref q_this_at, .ref q_this_levels, .ref q_this_newer, .ref q_this_howMany, .ref q_this_vectors, .ref q_this_dims, .ref q_this_comes, .ref q_this_goes, .ref q_this_cameFrom, .ref q_this_halves, .int v_this_halfMany, .ref q_this_way, .ref q_this_used, .long v_this_hash])), (q_this_now, .inl (k_this_now, 187, .inl c_this_now))]) (w1 := [(q_this, .inr (7, [.ref q_this_now, .ref q_this_past, .int v_this_saved, .int v_this_refusal, .ref q_this_list, .ref q_this_at, .ref q_this_levels, .ref q_this_newer, .ref q_this_howMany, .ref q_this_vectors, .ref q_this_dims, .ref q_this_comes, .ref q_this_goes, .ref q_this_cameFrom, .ref q_this_halves, .int v_this_halfMany, .ref q_this_way, .ref q_this_used, .long v_this_hash])), (q_this_now, .inl (k_this_now, 187, .inl c_this_now))]) (ws2 := [(q_this, .inr (7, [.ref q_this_now, .ref q_this_past, .int v_this_saved, .int v_this_refusal, .ref q_this_list, .ref q_this_at, .ref q_this_levels, .ref q_this_newer, .ref q_this_howMany, .ref q_this_vectors, .ref q_this_dims, .ref q_this_comes, .ref q_this_goes, .ref q_this_cameFrom, .ref q_this_halves, .int v_this_halfMany, .ref q_this_way, .ref q_this_used, .long v_this_hash])), (q_this_now, .inl (k_this_now, 187, .inl c_this_now))]) hK hP hD hS hA hE [0, 1] [0] [] [0, 1] (fun hb1 hp1 => va_runV (As := [.int a1]) (rest := [.ref q_this]) ⟨hx, hb, hml, hown, hts⟩ (c_X7_isNode l D s.heap.size q_this q_this_now q_this_past q_this_list q_this_at q_this_levels q_this_newer q_this_howMany q_this_vectors q_this_dims q_this_comes q_this_goes q_this_cameFrom q_this_halves q_this_way q_this_used k_this_now v_this_saved v_this_refusal v_this_halfMany v_this_hash c_this_now a1 u1 hu1) (cwV 1 hts gX7_distance_X7_isNode rfl rfl rfl (by decide +kernel) ⟨Nat.le_of_ble_eq_true rfl, Nat.le_of_ble_eq_true rfl⟩) ⟨hb1, va_recv hK hP (ci := 7) (q0 := 0) rfl rfl, hp1⟩ rfl rfl hl.1 rfl (lv_room (Nat.le_of_ble_eq_true rfl)) dX7_distance_3 ⟨Nat.le_of_ble_eq_true rfl, Nat.le_of_ble_eq_true rfl⟩) rfl rfl rfl rfl rfl rfl rfl rfl rfl rfl (fun H locs hP hD hS => ?_)
  have hP : va_P D vwCl [(q_this, .inr (7, [.ref q_this_now, .ref q_this_past, .int v_this_saved, .int v_this_refusal, .ref q_this_list, .ref q_this_at, .ref q_this_levels, .ref q_this_newer, .ref q_this_howMany, .ref q_this_vectors, .ref q_this_dims, .ref q_this_comes, .ref q_this_goes, .ref q_this_cameFrom, .ref q_this_halves, .int v_this_halfMany, .ref q_this_way, .ref q_this_used, .long v_this_hash])), (q_this_now, .inl (k_this_now, 187, .inl c_this_now))] H := hP
  have hD : va_D A [(q_this, .inr (7, [.ref q_this_now, .ref q_this_past, .int v_this_saved, .int v_this_refusal, .ref q_this_list, .ref q_this_at, .ref q_this_levels, .ref q_this_newer, .ref q_this_howMany, .ref q_this_vectors, .ref q_this_dims, .ref q_this_comes, .ref q_this_goes, .ref q_this_cameFrom, .ref q_this_halves, .int v_this_halfMany, .ref q_this_way, .ref q_this_used, .long v_this_hash])), (q_this_now, .inl (k_this_now, 187, .inl c_this_now))] := hD
  replace hf := zjp_some hf
  obtain ⟨K22, eK22, hf⟩ := hf
  have j22 : ∀ (s1_22 : Int32), K22 s1_22 = some res → ∀ (H : Heap) (locs : List Loc) (ls : Array Slot), va_P D vwCl [(q_this, .inr (7, [.ref q_this_now, .ref q_this_past, .int v_this_saved, .int v_this_refusal, .ref q_this_list, .ref q_this_at, .ref q_this_levels, .ref q_this_newer, .ref q_this_howMany, .ref q_this_vectors, .ref q_this_dims, .ref q_this_comes, .ref q_this_goes, .ref q_this_cameFrom, .ref q_this_halves, .int v_this_halfMany, .ref q_this_way, .ref q_this_used, .long v_this_hash])), (q_this_now, .inl (k_this_now, 187, .inl c_this_now))] H → va_D A [(q_this, .inr (7, [.ref q_this_now, .ref q_this_past, .int v_this_saved, .int v_this_refusal, .ref q_this_list, .ref q_this_at, .ref q_this_levels, .ref q_this_newer, .ref q_this_howMany, .ref q_this_vectors, .ref q_this_dims, .ref q_this_comes, .ref q_this_goes, .ref q_this_cameFrom, .ref q_this_halves, .int v_this_halfMany, .ref q_this_way, .ref q_this_used, .long v_this_hash])), (q_this_now, .inl (k_this_now, 187, .inl c_this_now))] → va_S A s.heap H locs → lv_has ls 3 [(1, .int a1), (2, .int a2)] → W p l e rm_X7_distance s m args below meth c H locs 0 0 Q (F0 m 22 ls [.int s1_22, .ref q_this]) := by
    intro s1_22 hf H locs ls hP hD hS hl
    replace hf := zap1 eK22 hf
    replace hf := zob_some hf
    obtain ⟨u2, hu2, hf⟩ := hf
    refine kd_i (D := D) (v := u2.1) (av := [.ref q_this, .int s1_22]) (wc := [(q_this, .inr (7, [.ref q_this_now, .ref q_this_past, .int v_this_saved, .int v_this_refusal, .ref q_this_list, .ref q_this_at, .ref q_this_levels, .ref q_this_newer, .ref q_this_howMany, .ref q_this_vectors, .ref q_this_dims, .ref q_this_comes, .ref q_this_goes, .ref q_this_cameFrom, .ref q_this_halves, .int v_this_halfMany, .ref q_this_way, .ref q_this_used, .long v_this_hash]))]) (w1 := [(q_this, .inr (7, [.ref q_this_now, .ref q_this_past, .int v_this_saved, .int u2.2, .ref q_this_list, .ref q_this_at, .ref q_this_levels, .ref q_this_newer, .ref q_this_howMany, .ref q_this_vectors, .ref q_this_dims, .ref q_this_comes, .ref q_this_goes, .ref q_this_cameFrom, .ref q_this_halves, .int v_this_halfMany, .ref q_this_way, .ref q_this_used, .long v_this_hash]))]) (ws2 := [(q_this, .inr (7, [.ref q_this_now, .ref q_this_past, .int v_this_saved, .int u2.2, .ref q_this_list, .ref q_this_at, .ref q_this_levels, .ref q_this_newer, .ref q_this_howMany, .ref q_this_vectors, .ref q_this_dims, .ref q_this_comes, .ref q_this_goes, .ref q_this_cameFrom, .ref q_this_halves, .int v_this_halfMany, .ref q_this_way, .ref q_this_used, .long v_this_hash])), (q_this_now, .inl (k_this_now, 187, .inl c_this_now))]) hK hP hD hS hA hE [0] [] [1] [1, 0] (fun hb1 hp1 => va_runV (As := [.int s1_22]) (rest := []) ⟨hx, hb, hml, hown, hts⟩ (c_X7_refused l D H.size q_this q_this_now q_this_past q_this_list q_this_at q_this_levels q_this_newer q_this_howMany q_this_vectors q_this_dims q_this_comes q_this_goes q_this_cameFrom q_this_halves q_this_way q_this_used v_this_saved v_this_refusal v_this_halfMany v_this_hash s1_22 u2 hu2) (cwV 1 hts gX7_distance_X7_refused rfl rfl rfl (by decide +kernel) ⟨Nat.le_of_ble_eq_true rfl, Nat.le_of_ble_eq_true rfl⟩) ⟨hb1, va_recv hK hP (ci := 7) (q0 := 0) rfl rfl, hp1⟩ rfl rfl hl.1 rfl (lv_room (Nat.le_of_ble_eq_true rfl)) dX7_distance_22 ⟨Nat.le_of_ble_eq_true rfl, Nat.le_of_ble_eq_true rfl⟩) rfl rfl rfl rfl rfl rfl rfl rfl rfl rfl (fun H locs hP hD hS => ?_)
    have hP : va_P D vwCl [(q_this, .inr (7, [.ref q_this_now, .ref q_this_past, .int v_this_saved, .int u2.2, .ref q_this_list, .ref q_this_at, .ref q_this_levels, .ref q_this_newer, .ref q_this_howMany, .ref q_this_vectors, .ref q_this_dims, .ref q_this_comes, .ref q_this_goes, .ref q_this_cameFrom, .ref q_this_halves, .int v_this_halfMany, .ref q_this_way, .ref q_this_used, .long v_this_hash])), (q_this_now, .inl (k_this_now, 187, .inl c_this_now))] H := hP
    have hD : va_D A [(q_this, .inr (7, [.ref q_this_now, .ref q_this_past, .int v_this_saved, .int u2.2, .ref q_this_list, .ref q_this_at, .ref q_this_levels, .ref q_this_newer, .ref q_this_howMany, .ref q_this_vectors, .ref q_this_dims, .ref q_this_comes, .ref q_this_goes, .ref q_this_cameFrom, .ref q_this_halves, .int v_this_halfMany, .ref q_this_way, .ref q_this_used, .long v_this_hash])), (q_this_now, .inl (k_this_now, 187, .inl c_this_now))] := hD
    refine lv_if_eq (tgt := 32) hx hb dX7_distance_25 (by decide) (fun cd25 => ?_) (fun cd25 => ?_)
    · replace hf := zite_t cd25 hf
      refine lv_iload_n hx hb dX7_distance_32 rfl (lv_at hl 0 rfl) ?_
      refine lv_iload_n hx hb dX7_distance_33 rfl (lv_at hl 1 rfl) ?_
      replace hf := zob_some hf
      obtain ⟨u3, hu3, hf⟩ := hf
      refine kd_i (D := D) (v := u3) (av := [.int a1, .int a2]) (wc := []) (w1 := []) (ws2 := [(q_this, .inr (7, [.ref q_this_now, .ref q_this_past, .int v_this_saved, .int u2.2, .ref q_this_list, .ref q_this_at, .ref q_this_levels, .ref q_this_newer, .ref q_this_howMany, .ref q_this_vectors, .ref q_this_dims, .ref q_this_comes, .ref q_this_goes, .ref q_this_cameFrom, .ref q_this_halves, .int v_this_halfMany, .ref q_this_way, .ref q_this_used, .long v_this_hash])), (q_this_now, .inl (k_this_now, 187, .inl c_this_now))]) hK hP hD hS hA hE [] [] [0, 1] [0, 1] (fun hb1 hp1 => va_runS (As := [.int a1, .int a2]) (rest := []) ⟨hx, hb, hml, hown, hts⟩ (c_X7_far l D H.size a1 a2 u3 hu3) (va_cwS 2 hts gX7_distance_X7_far rfl rfl rfl (by decide +kernel) ⟨Nat.le_of_ble_eq_true rfl, Nat.le_of_ble_eq_true rfl⟩) ⟨hb1, hp1⟩ rfl rfl hl.1 rfl (lv_room (Nat.le_of_ble_eq_true rfl)) dX7_distance_34 ⟨Nat.le_of_ble_eq_true rfl, Nat.le_of_ble_eq_true rfl⟩) rfl rfl rfl rfl rfl rfl rfl rfl rfl rfl (fun H locs hP hD hS => ?_)
      have hP : va_P D vwCl [(q_this, .inr (7, [.ref q_this_now, .ref q_this_past, .int v_this_saved, .int u2.2, .ref q_this_list, .ref q_this_at, .ref q_this_levels, .ref q_this_newer, .ref q_this_howMany, .ref q_this_vectors, .ref q_this_dims, .ref q_this_comes, .ref q_this_goes, .ref q_this_cameFrom, .ref q_this_halves, .int v_this_halfMany, .ref q_this_way, .ref q_this_used, .long v_this_hash])), (q_this_now, .inl (k_this_now, 187, .inl c_this_now))] H := hP
      have hD : va_D A [(q_this, .inr (7, [.ref q_this_now, .ref q_this_past, .int v_this_saved, .int u2.2, .ref q_this_list, .ref q_this_at, .ref q_this_levels, .ref q_this_newer, .ref q_this_howMany, .ref q_this_vectors, .ref q_this_dims, .ref q_this_comes, .ref q_this_goes, .ref q_this_cameFrom, .ref q_this_halves, .int v_this_halfMany, .ref q_this_way, .ref q_this_used, .long v_this_hash])), (q_this_now, .inl (k_this_now, 187, .inl c_this_now))] := hD
      obtain rfl := Option.some.inj hf
      subst eQ
      exact kr_i hx hb hr hlocks hK hP hD hS dX7_distance_37
    · replace hf := zite_f cd25 hf
      refine lv_iconst (v := 0) hx hb dX7_distance_28 (by decide) ?_
      refine lv_goto (tgt := 37) hx hb dX7_distance_29 (by decide) ?_
      obtain rfl := Option.some.inj hf
      subst eQ
      exact kr_i hx hb hr hlocks hK hP hD hS dX7_distance_37
  replace hf := zjp_some hf
  obtain ⟨K21, eK21, hf⟩ := hf
  have j21 : K21 = some res → ∀ (H : Heap) (locs : List Loc) (ls : Array Slot), va_P D vwCl [(q_this, .inr (7, [.ref q_this_now, .ref q_this_past, .int v_this_saved, .int v_this_refusal, .ref q_this_list, .ref q_this_at, .ref q_this_levels, .ref q_this_newer, .ref q_this_howMany, .ref q_this_vectors, .ref q_this_dims, .ref q_this_comes, .ref q_this_goes, .ref q_this_cameFrom, .ref q_this_halves, .int v_this_halfMany, .ref q_this_way, .ref q_this_used, .long v_this_hash])), (q_this_now, .inl (k_this_now, 187, .inl c_this_now))] H → va_D A [(q_this, .inr (7, [.ref q_this_now, .ref q_this_past, .int v_this_saved, .int v_this_refusal, .ref q_this_list, .ref q_this_at, .ref q_this_levels, .ref q_this_newer, .ref q_this_howMany, .ref q_this_vectors, .ref q_this_dims, .ref q_this_comes, .ref q_this_goes, .ref q_this_cameFrom, .ref q_this_halves, .int v_this_halfMany, .ref q_this_way, .ref q_this_used, .long v_this_hash])), (q_this_now, .inl (k_this_now, 187, .inl c_this_now))] → va_S A s.heap H locs → lv_has ls 3 [(1, .int a1), (2, .int a2)] → W p l e rm_X7_distance s m args below meth c H locs 0 0 Q (F0 m 21 ls [.ref q_this]) := by
    intro  hf H locs ls hP hD hS hl
    replace hf := zap0 eK21 hf
    refine lv_iconst (v := 1) hx hb dX7_distance_21 (by decide) ?_
    exact j22 1 hf H locs ls hP hD hS (lv_sub hl [0, 1] rfl)
  refine lv_if_eq (tgt := 21) hx hb dX7_distance_6 (by decide) (fun cd6 => ?_) (fun cd6 => ?_)
  · replace hf := zite_t cd6 hf
    exact j21  hf H locs ls hP hD hS (lv_sub hl [1, 2] rfl)
  · replace hf := zite_f cd6 hf
    refine lv_aload_n hx hb dX7_distance_9 rfl (lv_at hl 0 rfl) ?_
    refine lv_iload_n hx hb dX7_distance_10 rfl (lv_at hl 2 rfl) ?_
    replace hf := zob_some hf
    obtain ⟨u4, hu4, hf⟩ := hf
    refine kd_i (D := D) (v := u4) (av := [.ref q_this, .int a2]) (wc := [(q_this, .inr (7, [.ref q_this_now, .ref q_this_past, .int v_this_saved, .int v_this_refusal, .ref q_this_list, .ref q_this_at, .ref q_this_levels, .ref q_this_newer, .ref q_this_howMany, .ref q_this_vectors, .ref q_this_dims, .ref q_this_comes, .ref q_this_goes, .ref q_this_cameFrom, .ref q_this_halves, .int v_this_halfMany, .ref q_this_way, .ref q_this_used, .long v_this_hash])), (q_this_now, .inl (k_this_now, 187, .inl c_this_now))]) (w1 := [(q_this, .inr (7, [.ref q_this_now, .ref q_this_past, .int v_this_saved, .int v_this_refusal, .ref q_this_list, .ref q_this_at, .ref q_this_levels, .ref q_this_newer, .ref q_this_howMany, .ref q_this_vectors, .ref q_this_dims, .ref q_this_comes, .ref q_this_goes, .ref q_this_cameFrom, .ref q_this_halves, .int v_this_halfMany, .ref q_this_way, .ref q_this_used, .long v_this_hash])), (q_this_now, .inl (k_this_now, 187, .inl c_this_now))]) (ws2 := [(q_this, .inr (7, [.ref q_this_now, .ref q_this_past, .int v_this_saved, .int v_this_refusal, .ref q_this_list, .ref q_this_at, .ref q_this_levels, .ref q_this_newer, .ref q_this_howMany, .ref q_this_vectors, .ref q_this_dims, .ref q_this_comes, .ref q_this_goes, .ref q_this_cameFrom, .ref q_this_halves, .int v_this_halfMany, .ref q_this_way, .ref q_this_used, .long v_this_hash])), (q_this_now, .inl (k_this_now, 187, .inl c_this_now))]) hK hP hD hS hA hE [0, 1] [0] [] [0, 1] (fun hb1 hp1 => va_runV (As := [.int a2]) (rest := [.ref q_this]) ⟨hx, hb, hml, hown, hts⟩ (c_X7_isNode l D H.size q_this q_this_now q_this_past q_this_list q_this_at q_this_levels q_this_newer q_this_howMany q_this_vectors q_this_dims q_this_comes q_this_goes q_this_cameFrom q_this_halves q_this_way q_this_used k_this_now v_this_saved v_this_refusal v_this_halfMany v_this_hash c_this_now a2 u4 hu4) (cwV 1 hts gX7_distance_X7_isNode rfl rfl rfl (by decide +kernel) ⟨Nat.le_of_ble_eq_true rfl, Nat.le_of_ble_eq_true rfl⟩) ⟨hb1, va_recv hK hP (ci := 7) (q0 := 0) rfl rfl, hp1⟩ rfl rfl hl.1 rfl (lv_room (Nat.le_of_ble_eq_true rfl)) dX7_distance_11 ⟨Nat.le_of_ble_eq_true rfl, Nat.le_of_ble_eq_true rfl⟩) rfl rfl rfl rfl rfl rfl rfl rfl rfl rfl (fun H locs hP hD hS => ?_)
    have hP : va_P D vwCl [(q_this, .inr (7, [.ref q_this_now, .ref q_this_past, .int v_this_saved, .int v_this_refusal, .ref q_this_list, .ref q_this_at, .ref q_this_levels, .ref q_this_newer, .ref q_this_howMany, .ref q_this_vectors, .ref q_this_dims, .ref q_this_comes, .ref q_this_goes, .ref q_this_cameFrom, .ref q_this_halves, .int v_this_halfMany, .ref q_this_way, .ref q_this_used, .long v_this_hash])), (q_this_now, .inl (k_this_now, 187, .inl c_this_now))] H := hP
    have hD : va_D A [(q_this, .inr (7, [.ref q_this_now, .ref q_this_past, .int v_this_saved, .int v_this_refusal, .ref q_this_list, .ref q_this_at, .ref q_this_levels, .ref q_this_newer, .ref q_this_howMany, .ref q_this_vectors, .ref q_this_dims, .ref q_this_comes, .ref q_this_goes, .ref q_this_cameFrom, .ref q_this_halves, .int v_this_halfMany, .ref q_this_way, .ref q_this_used, .long v_this_hash])), (q_this_now, .inl (k_this_now, 187, .inl c_this_now))] := hD
    refine lv_if_eq (tgt := 21) hx hb dX7_distance_14 (by decide) (fun cd14 => ?_) (fun cd14 => ?_)
    · replace hf := zite_t cd14 hf
      exact j21  hf H locs ls hP hD hS (lv_sub hl [1, 2] rfl)
    · replace hf := zite_f cd14 hf
      refine lv_iconst (v := 0) hx hb dX7_distance_17 (by decide) ?_
      refine lv_goto (tgt := 22) hx hb dX7_distance_18 (by decide) ?_
      exact j22 0 hf H locs ls hP hD hS (lv_sub hl [1, 2] rfl)
abbrev rm_X7_barOf : Room := { frames := 2, cells := 0, slots := 0, locals := 43 }
set_option maxHeartbeats 4000000 in
set_option maxRecDepth 100000 in
theorem c_X7_barOf (l : Launch) (D : va_G) (sz : Nat) (q_this : Nat) (q_this_now : Nat) (q_this_past : Nat) (q_this_list : Nat) (q_this_at : Nat) (q_this_levels : Nat) (q_this_newer : Nat) (q_this_howMany : Nat) (q_this_vectors : Nat) (q_this_dims : Nat) (q_this_comes : Nat) (q_this_goes : Nat) (q_this_cameFrom : Nat) (q_this_halves : Nat) (q_this_way : Nat) (q_this_used : Nat) (k_this_now : ClassId) (v_this_saved : Int32) (v_this_refusal : Int32) (v_this_halfMany : Int32) (v_this_hash : Int64) (c_this_now : (Nat → Int32)) (a1 : Int32) (a2 : Int32) (res : rt_X7_barOf) (hf : f_X7_barOf a1 a2 c_this_now = some res) : Met l yX7_barOf wsX7_barOf rm_X7_barOf (kP D [.ref q_this, .int a1, .int a2] [(q_this, .inr (7, [.ref q_this_now, .ref q_this_past, .int v_this_saved, .int v_this_refusal, .ref q_this_list, .ref q_this_at, .ref q_this_levels, .ref q_this_newer, .ref q_this_howMany, .ref q_this_vectors, .ref q_this_dims, .ref q_this_comes, .ref q_this_goes, .ref q_this_cameFrom, .ref q_this_halves, .int v_this_halfMany, .ref q_this_way, .ref q_this_used, .long v_this_hash])), (q_this_now, .inl (k_this_now, 187, .inl c_this_now))] [(k_this_now, .int)] sz) (kQi D (va_A [(q_this, .inr (7, [.ref q_this_now, .ref q_this_past, .int v_this_saved, .int v_this_refusal, .ref q_this_list, .ref q_this_at, .ref q_this_levels, .ref q_this_newer, .ref q_this_howMany, .ref q_this_vectors, .ref q_this_dims, .ref q_this_comes, .ref q_this_goes, .ref q_this_cameFrom, .ref q_this_halves, .int v_this_halfMany, .ref q_this_way, .ref q_this_used, .long v_this_hash])), (q_this_now, .inl (k_this_now, 187, .inl c_this_now))] sz) [(k_this_now, .int)] res [(q_this, .inr (7, [.ref q_this_now, .ref q_this_past, .int v_this_saved, .int v_this_refusal, .ref q_this_list, .ref q_this_at, .ref q_this_levels, .ref q_this_newer, .ref q_this_howMany, .ref q_this_vectors, .ref q_this_dims, .ref q_this_comes, .ref q_this_goes, .ref q_this_cameFrom, .ref q_this_halves, .int v_this_halfMany, .ref q_this_way, .ref q_this_used, .long v_this_hash])), (q_this_now, .inl (k_this_now, 187, .inl c_this_now))]) 0 0 (va_A [(q_this, .inr (7, [.ref q_this_now, .ref q_this_past, .int v_this_saved, .int v_this_refusal, .ref q_this_list, .ref q_this_at, .ref q_this_levels, .ref q_this_newer, .ref q_this_howMany, .ref q_this_vectors, .ref q_this_dims, .ref q_this_comes, .ref q_this_goes, .ref q_this_cameFrom, .ref q_this_halves, .int v_this_halfMany, .ref q_this_way, .ref q_this_used, .long v_this_hash])), (q_this_now, .inl (k_this_now, 187, .inl c_this_now))] sz) := by
  refine Met.ofW (cc := cX7_barOf) (maxL := 3) (ret := (some .int)) (by decide +kernel) rfl ?_
  intro p e s m args below meth c s₁ B hml hv
  obtain ⟨hargs, hsz, hP, hK, hD0, hE⟩ := hv
  have hx := B.exec
  have hb := B.bytes
  have hr := B.returns
  have hts := atoms_spec (ws := wsX7_barOf) B.pre
  have hown : s.vm.findClass RX7 = some m.cls := findClass_of_methodNamed B.named
  have hlocks := B.notSynchronized
  subst hsz
  have hD := hD0.self (sz := s.heap.size)
  generalize hAe : va_A [(q_this, .inr (7, [.ref q_this_now, .ref q_this_past, .int v_this_saved, .int v_this_refusal, .ref q_this_list, .ref q_this_at, .ref q_this_levels, .ref q_this_newer, .ref q_this_howMany, .ref q_this_vectors, .ref q_this_dims, .ref q_this_comes, .ref q_this_goes, .ref q_this_cameFrom, .ref q_this_halves, .int v_this_halfMany, .ref q_this_way, .ref q_this_used, .long v_this_hash])), (q_this_now, .inl (k_this_now, 187, .inl c_this_now))] s.heap.size = A at hD hE ⊢
  have hA : ∀ q : Nat, s.heap.size ≤ q → A q := fun q h => by rw [← hAe]; exact Or.inr h
  have hS : va_S A s.heap s.heap [] := va_S.rf
  refine kgen (fun Q eQ => ?_)
  refine kent (av := [.ref q_this, .int a1, .int a2]) hargs (Nat.le_of_ble_eq_true rfl) (fun ls hl => ?_)
  have hl : lv_has ls 3 [(0, .ref q_this), (1, .int a1), (2, .int a2)] := hl
  show W p l e rm_X7_barOf s m args below meth c s.heap [] 0 0 Q (F0 m 0 ls [])
  unfold f_X7_barOf at hf
  refine lv_aload_n hx hb dX7_barOf_0 rfl (lv_at hl 0 rfl) ?_
  refine lv_iload_n hx hb dX7_barOf_1 rfl (lv_at hl 1 rfl) ?_
  replace hf := zob_some hf
  obtain ⟨u1, hu1, hf⟩ := hf
  refine kd_i (D := D) (v := u1) (av := [.ref q_this, .int a1]) (wc := [(q_this, .inr (7, [.ref q_this_now, .ref q_this_past, .int v_this_saved, .int v_this_refusal, .ref q_this_list, .ref q_this_at, .ref q_this_levels, .ref q_this_newer, .ref q_this_howMany, .ref q_this_vectors, .ref q_this_dims, .ref q_this_comes, .ref q_this_goes, .ref q_this_cameFrom, .ref q_this_halves, .int v_this_halfMany, .ref q_this_way, .ref q_this_used, .long v_this_hash])), (q_this_now, .inl (k_this_now, 187, .inl c_this_now))]) (w1 := [(q_this, .inr (7, [.ref q_this_now, .ref q_this_past, .int v_this_saved, .int v_this_refusal, .ref q_this_list, .ref q_this_at, .ref q_this_levels, .ref q_this_newer, .ref q_this_howMany, .ref q_this_vectors, .ref q_this_dims, .ref q_this_comes, .ref q_this_goes, .ref q_this_cameFrom, .ref q_this_halves, .int v_this_halfMany, .ref q_this_way, .ref q_this_used, .long v_this_hash])), (q_this_now, .inl (k_this_now, 187, .inl c_this_now))]) (ws2 := [(q_this, .inr (7, [.ref q_this_now, .ref q_this_past, .int v_this_saved, .int v_this_refusal, .ref q_this_list, .ref q_this_at, .ref q_this_levels, .ref q_this_newer, .ref q_this_howMany, .ref q_this_vectors, .ref q_this_dims, .ref q_this_comes, .ref q_this_goes, .ref q_this_cameFrom, .ref q_this_halves, .int v_this_halfMany, .ref q_this_way, .ref q_this_used, .long v_this_hash])), (q_this_now, .inl (k_this_now, 187, .inl c_this_now))]) hK hP hD hS hA hE [0, 1] [0] [] [0, 1] (fun hb1 hp1 => va_runV (As := [.int a1]) (rest := []) ⟨hx, hb, hml, hown, hts⟩ (c_X7_isNode l D s.heap.size q_this q_this_now q_this_past q_this_list q_this_at q_this_levels q_this_newer q_this_howMany q_this_vectors q_this_dims q_this_comes q_this_goes q_this_cameFrom q_this_halves q_this_way q_this_used k_this_now v_this_saved v_this_refusal v_this_halfMany v_this_hash c_this_now a1 u1 hu1) (cwV 1 hts gX7_barOf_X7_isNode rfl rfl rfl (by decide +kernel) ⟨Nat.le_of_ble_eq_true rfl, Nat.le_of_ble_eq_true rfl⟩) ⟨hb1, va_recv hK hP (ci := 7) (q0 := 0) rfl rfl, hp1⟩ rfl rfl hl.1 rfl (lv_room (Nat.le_of_ble_eq_true rfl)) dX7_barOf_2 ⟨Nat.le_of_ble_eq_true rfl, Nat.le_of_ble_eq_true rfl⟩) rfl rfl rfl rfl rfl rfl rfl rfl rfl rfl (fun H locs hP hD hS => ?_)
  have hP : va_P D vwCl [(q_this, .inr (7, [.ref q_this_now, .ref q_this_past, .int v_this_saved, .int v_this_refusal, .ref q_this_list, .ref q_this_at, .ref q_this_levels, .ref q_this_newer, .ref q_this_howMany, .ref q_this_vectors, .ref q_this_dims, .ref q_this_comes, .ref q_this_goes, .ref q_this_cameFrom, .ref q_this_halves, .int v_this_halfMany, .ref q_this_way, .ref q_this_used, .long v_this_hash])), (q_this_now, .inl (k_this_now, 187, .inl c_this_now))] H := hP
  have hD : va_D A [(q_this, .inr (7, [.ref q_this_now, .ref q_this_past, .int v_this_saved, .int v_this_refusal, .ref q_this_list, .ref q_this_at, .ref q_this_levels, .ref q_this_newer, .ref q_this_howMany, .ref q_this_vectors, .ref q_this_dims, .ref q_this_comes, .ref q_this_goes, .ref q_this_cameFrom, .ref q_this_halves, .int v_this_halfMany, .ref q_this_way, .ref q_this_used, .long v_this_hash])), (q_this_now, .inl (k_this_now, 187, .inl c_this_now))] := hD
  replace hf := zjp_some hf
  obtain ⟨K16, eK16, hf⟩ := hf
  have j16 : K16 = some res → ∀ (H : Heap) (locs : List Loc) (ls : Array Slot), va_P D vwCl [(q_this, .inr (7, [.ref q_this_now, .ref q_this_past, .int v_this_saved, .int v_this_refusal, .ref q_this_list, .ref q_this_at, .ref q_this_levels, .ref q_this_newer, .ref q_this_howMany, .ref q_this_vectors, .ref q_this_dims, .ref q_this_comes, .ref q_this_goes, .ref q_this_cameFrom, .ref q_this_halves, .int v_this_halfMany, .ref q_this_way, .ref q_this_used, .long v_this_hash])), (q_this_now, .inl (k_this_now, 187, .inl c_this_now))] H → va_D A [(q_this, .inr (7, [.ref q_this_now, .ref q_this_past, .int v_this_saved, .int v_this_refusal, .ref q_this_list, .ref q_this_at, .ref q_this_levels, .ref q_this_newer, .ref q_this_howMany, .ref q_this_vectors, .ref q_this_dims, .ref q_this_comes, .ref q_this_goes, .ref q_this_cameFrom, .ref q_this_halves, .int v_this_halfMany, .ref q_this_way, .ref q_this_used, .long v_this_hash])), (q_this_now, .inl (k_this_now, 187, .inl c_this_now))] → va_S A s.heap H locs → lv_has ls 3 [] → W p l e rm_X7_barOf s m args below meth c H locs 0 0 Q (F0 m 16 ls []) := by
    intro  hf H locs ls hP hD hS hl
    replace hf := zap0 eK16 hf
    refine lv_iconst (v := 1) hx hb dX7_barOf_16 (by decide) ?_
    refine lv_goto (tgt := 41) hx hb dX7_barOf_17 (by decide) ?_
    obtain rfl := Option.some.inj hf
    subst eQ
    exact kr_i hx hb hr hlocks hK hP hD hS dX7_barOf_41
  refine lv_if_eq (tgt := 16) hx hb dX7_barOf_5 (by decide) (fun cd5 => ?_) (fun cd5 => ?_)
  · replace hf := zite_t cd5 hf
    exact j16  hf H locs ls hP hD hS (lv_sub hl [] rfl)
  · replace hf := zite_f cd5 hf
    refine lv_aload_n hx hb dX7_barOf_8 rfl (lv_at hl 0 rfl) ?_
    refine lv_iload_n hx hb dX7_barOf_9 rfl (lv_at hl 2 rfl) ?_
    replace hf := zob_some hf
    obtain ⟨u2, hu2, hf⟩ := hf
    refine kd_i (D := D) (v := u2) (av := [.ref q_this, .int a2]) (wc := [(q_this, .inr (7, [.ref q_this_now, .ref q_this_past, .int v_this_saved, .int v_this_refusal, .ref q_this_list, .ref q_this_at, .ref q_this_levels, .ref q_this_newer, .ref q_this_howMany, .ref q_this_vectors, .ref q_this_dims, .ref q_this_comes, .ref q_this_goes, .ref q_this_cameFrom, .ref q_this_halves, .int v_this_halfMany, .ref q_this_way, .ref q_this_used, .long v_this_hash])), (q_this_now, .inl (k_this_now, 187, .inl c_this_now))]) (w1 := [(q_this, .inr (7, [.ref q_this_now, .ref q_this_past, .int v_this_saved, .int v_this_refusal, .ref q_this_list, .ref q_this_at, .ref q_this_levels, .ref q_this_newer, .ref q_this_howMany, .ref q_this_vectors, .ref q_this_dims, .ref q_this_comes, .ref q_this_goes, .ref q_this_cameFrom, .ref q_this_halves, .int v_this_halfMany, .ref q_this_way, .ref q_this_used, .long v_this_hash])), (q_this_now, .inl (k_this_now, 187, .inl c_this_now))]) (ws2 := [(q_this, .inr (7, [.ref q_this_now, .ref q_this_past, .int v_this_saved, .int v_this_refusal, .ref q_this_list, .ref q_this_at, .ref q_this_levels, .ref q_this_newer, .ref q_this_howMany, .ref q_this_vectors, .ref q_this_dims, .ref q_this_comes, .ref q_this_goes, .ref q_this_cameFrom, .ref q_this_halves, .int v_this_halfMany, .ref q_this_way, .ref q_this_used, .long v_this_hash])), (q_this_now, .inl (k_this_now, 187, .inl c_this_now))]) hK hP hD hS hA hE [0, 1] [0] [] [0, 1] (fun hb1 hp1 => va_runV (As := [.int a2]) (rest := []) ⟨hx, hb, hml, hown, hts⟩ (c_X7_isNode l D H.size q_this q_this_now q_this_past q_this_list q_this_at q_this_levels q_this_newer q_this_howMany q_this_vectors q_this_dims q_this_comes q_this_goes q_this_cameFrom q_this_halves q_this_way q_this_used k_this_now v_this_saved v_this_refusal v_this_halfMany v_this_hash c_this_now a2 u2 hu2) (cwV 1 hts gX7_barOf_X7_isNode rfl rfl rfl (by decide +kernel) ⟨Nat.le_of_ble_eq_true rfl, Nat.le_of_ble_eq_true rfl⟩) ⟨hb1, va_recv hK hP (ci := 7) (q0 := 0) rfl rfl, hp1⟩ rfl rfl hl.1 rfl (lv_room (Nat.le_of_ble_eq_true rfl)) dX7_barOf_10 ⟨Nat.le_of_ble_eq_true rfl, Nat.le_of_ble_eq_true rfl⟩) rfl rfl rfl rfl rfl rfl rfl rfl rfl rfl (fun H locs hP hD hS => ?_)
    have hP : va_P D vwCl [(q_this, .inr (7, [.ref q_this_now, .ref q_this_past, .int v_this_saved, .int v_this_refusal, .ref q_this_list, .ref q_this_at, .ref q_this_levels, .ref q_this_newer, .ref q_this_howMany, .ref q_this_vectors, .ref q_this_dims, .ref q_this_comes, .ref q_this_goes, .ref q_this_cameFrom, .ref q_this_halves, .int v_this_halfMany, .ref q_this_way, .ref q_this_used, .long v_this_hash])), (q_this_now, .inl (k_this_now, 187, .inl c_this_now))] H := hP
    have hD : va_D A [(q_this, .inr (7, [.ref q_this_now, .ref q_this_past, .int v_this_saved, .int v_this_refusal, .ref q_this_list, .ref q_this_at, .ref q_this_levels, .ref q_this_newer, .ref q_this_howMany, .ref q_this_vectors, .ref q_this_dims, .ref q_this_comes, .ref q_this_goes, .ref q_this_cameFrom, .ref q_this_halves, .int v_this_halfMany, .ref q_this_way, .ref q_this_used, .long v_this_hash])), (q_this_now, .inl (k_this_now, 187, .inl c_this_now))] := hD
    refine lv_if_ne (tgt := 20) hx hb dX7_barOf_13 (by decide) (fun cd13 => ?_) (fun cd13 => ?_)
    · replace hf := zite_f cd13 hf
      refine lv_aload_n hx hb dX7_barOf_20 rfl (lv_at hl 0 rfl) ?_
      refine lv_iload_n hx hb dX7_barOf_21 rfl (lv_at hl 1 rfl) ?_
      replace hf := zob_some hf
      obtain ⟨u3, hu3, hf⟩ := hf
      refine kd_i (D := D) (v := u3) (av := [.ref q_this, .int a1]) (wc := [(q_this, .inr (7, [.ref q_this_now, .ref q_this_past, .int v_this_saved, .int v_this_refusal, .ref q_this_list, .ref q_this_at, .ref q_this_levels, .ref q_this_newer, .ref q_this_howMany, .ref q_this_vectors, .ref q_this_dims, .ref q_this_comes, .ref q_this_goes, .ref q_this_cameFrom, .ref q_this_halves, .int v_this_halfMany, .ref q_this_way, .ref q_this_used, .long v_this_hash])), (q_this_now, .inl (k_this_now, 187, .inl c_this_now))]) (w1 := [(q_this, .inr (7, [.ref q_this_now, .ref q_this_past, .int v_this_saved, .int v_this_refusal, .ref q_this_list, .ref q_this_at, .ref q_this_levels, .ref q_this_newer, .ref q_this_howMany, .ref q_this_vectors, .ref q_this_dims, .ref q_this_comes, .ref q_this_goes, .ref q_this_cameFrom, .ref q_this_halves, .int v_this_halfMany, .ref q_this_way, .ref q_this_used, .long v_this_hash])), (q_this_now, .inl (k_this_now, 187, .inl c_this_now))]) (ws2 := [(q_this, .inr (7, [.ref q_this_now, .ref q_this_past, .int v_this_saved, .int v_this_refusal, .ref q_this_list, .ref q_this_at, .ref q_this_levels, .ref q_this_newer, .ref q_this_howMany, .ref q_this_vectors, .ref q_this_dims, .ref q_this_comes, .ref q_this_goes, .ref q_this_cameFrom, .ref q_this_halves, .int v_this_halfMany, .ref q_this_way, .ref q_this_used, .long v_this_hash])), (q_this_now, .inl (k_this_now, 187, .inl c_this_now))]) hK hP hD hS hA hE [0, 1] [0] [] [0, 1] (fun hb1 hp1 => va_runV (As := [.int a1]) (rest := []) ⟨hx, hb, hml, hown, hts⟩ (c_X7_lives l D H.size q_this q_this_now q_this_past q_this_list q_this_at q_this_levels q_this_newer q_this_howMany q_this_vectors q_this_dims q_this_comes q_this_goes q_this_cameFrom q_this_halves q_this_way q_this_used k_this_now v_this_saved v_this_refusal v_this_halfMany v_this_hash c_this_now a1 u3 hu3) (cwV 1 hts gX7_barOf_X7_lives rfl rfl rfl (by decide +kernel) ⟨Nat.le_of_ble_eq_true rfl, Nat.le_of_ble_eq_true rfl⟩) ⟨hb1, va_recv hK hP (ci := 7) (q0 := 0) rfl rfl, hp1⟩ rfl rfl hl.1 rfl (lv_room (Nat.le_of_ble_eq_true rfl)) dX7_barOf_22 ⟨Nat.le_of_ble_eq_true rfl, Nat.le_of_ble_eq_true rfl⟩) rfl rfl rfl rfl rfl rfl rfl rfl rfl rfl (fun H locs hP hD hS => ?_)
      have hP : va_P D vwCl [(q_this, .inr (7, [.ref q_this_now, .ref q_this_past, .int v_this_saved, .int v_this_refusal, .ref q_this_list, .ref q_this_at, .ref q_this_levels, .ref q_this_newer, .ref q_this_howMany, .ref q_this_vectors, .ref q_this_dims, .ref q_this_comes, .ref q_this_goes, .ref q_this_cameFrom, .ref q_this_halves, .int v_this_halfMany, .ref q_this_way, .ref q_this_used, .long v_this_hash])), (q_this_now, .inl (k_this_now, 187, .inl c_this_now))] H := hP
      have hD : va_D A [(q_this, .inr (7, [.ref q_this_now, .ref q_this_past, .int v_this_saved, .int v_this_refusal, .ref q_this_list, .ref q_this_at, .ref q_this_levels, .ref q_this_newer, .ref q_this_howMany, .ref q_this_vectors, .ref q_this_dims, .ref q_this_comes, .ref q_this_goes, .ref q_this_cameFrom, .ref q_this_halves, .int v_this_halfMany, .ref q_this_way, .ref q_this_used, .long v_this_hash])), (q_this_now, .inl (k_this_now, 187, .inl c_this_now))] := hD
      replace hf := zjp_some hf
      obtain ⟨K40, eK40, hf⟩ := hf
      have j40 : K40 = some res → ∀ (H : Heap) (locs : List Loc) (ls : Array Slot), va_P D vwCl [(q_this, .inr (7, [.ref q_this_now, .ref q_this_past, .int v_this_saved, .int v_this_refusal, .ref q_this_list, .ref q_this_at, .ref q_this_levels, .ref q_this_newer, .ref q_this_howMany, .ref q_this_vectors, .ref q_this_dims, .ref q_this_comes, .ref q_this_goes, .ref q_this_cameFrom, .ref q_this_halves, .int v_this_halfMany, .ref q_this_way, .ref q_this_used, .long v_this_hash])), (q_this_now, .inl (k_this_now, 187, .inl c_this_now))] H → va_D A [(q_this, .inr (7, [.ref q_this_now, .ref q_this_past, .int v_this_saved, .int v_this_refusal, .ref q_this_list, .ref q_this_at, .ref q_this_levels, .ref q_this_newer, .ref q_this_howMany, .ref q_this_vectors, .ref q_this_dims, .ref q_this_comes, .ref q_this_goes, .ref q_this_cameFrom, .ref q_this_halves, .int v_this_halfMany, .ref q_this_way, .ref q_this_used, .long v_this_hash])), (q_this_now, .inl (k_this_now, 187, .inl c_this_now))] → va_S A s.heap H locs → lv_has ls 3 [] → W p l e rm_X7_barOf s m args below meth c H locs 0 0 Q (F0 m 40 ls []) := by
        intro  hf H locs ls hP hD hS hl
        replace hf := zap0 eK40 hf
        refine lv_iconst (v := 2) hx hb dX7_barOf_40 (by decide) ?_
        obtain rfl := Option.some.inj hf
        subst eQ
        exact kr_i hx hb hr hlocks hK hP hD hS dX7_barOf_41
      refine lv_if_eq (tgt := 40) hx hb dX7_barOf_25 (by decide) (fun cd25 => ?_) (fun cd25 => ?_)
      · replace hf := zite_t cd25 hf
        exact j40  hf H locs ls hP hD hS (lv_sub hl [] rfl)
      · replace hf := zite_f cd25 hf
        refine lv_aload_n hx hb dX7_barOf_28 rfl (lv_at hl 0 rfl) ?_
        refine lv_iload_n hx hb dX7_barOf_29 rfl (lv_at hl 2 rfl) ?_
        replace hf := zob_some hf
        obtain ⟨u4, hu4, hf⟩ := hf
        refine kd_i (D := D) (v := u4) (av := [.ref q_this, .int a2]) (wc := [(q_this, .inr (7, [.ref q_this_now, .ref q_this_past, .int v_this_saved, .int v_this_refusal, .ref q_this_list, .ref q_this_at, .ref q_this_levels, .ref q_this_newer, .ref q_this_howMany, .ref q_this_vectors, .ref q_this_dims, .ref q_this_comes, .ref q_this_goes, .ref q_this_cameFrom, .ref q_this_halves, .int v_this_halfMany, .ref q_this_way, .ref q_this_used, .long v_this_hash])), (q_this_now, .inl (k_this_now, 187, .inl c_this_now))]) (w1 := [(q_this, .inr (7, [.ref q_this_now, .ref q_this_past, .int v_this_saved, .int v_this_refusal, .ref q_this_list, .ref q_this_at, .ref q_this_levels, .ref q_this_newer, .ref q_this_howMany, .ref q_this_vectors, .ref q_this_dims, .ref q_this_comes, .ref q_this_goes, .ref q_this_cameFrom, .ref q_this_halves, .int v_this_halfMany, .ref q_this_way, .ref q_this_used, .long v_this_hash])), (q_this_now, .inl (k_this_now, 187, .inl c_this_now))]) (ws2 := [(q_this, .inr (7, [.ref q_this_now, .ref q_this_past, .int v_this_saved, .int v_this_refusal, .ref q_this_list, .ref q_this_at, .ref q_this_levels, .ref q_this_newer, .ref q_this_howMany, .ref q_this_vectors, .ref q_this_dims, .ref q_this_comes, .ref q_this_goes, .ref q_this_cameFrom, .ref q_this_halves, .int v_this_halfMany, .ref q_this_way, .ref q_this_used, .long v_this_hash])), (q_this_now, .inl (k_this_now, 187, .inl c_this_now))]) hK hP hD hS hA hE [0, 1] [0] [] [0, 1] (fun hb1 hp1 => va_runV (As := [.int a2]) (rest := []) ⟨hx, hb, hml, hown, hts⟩ (c_X7_lives l D H.size q_this q_this_now q_this_past q_this_list q_this_at q_this_levels q_this_newer q_this_howMany q_this_vectors q_this_dims q_this_comes q_this_goes q_this_cameFrom q_this_halves q_this_way q_this_used k_this_now v_this_saved v_this_refusal v_this_halfMany v_this_hash c_this_now a2 u4 hu4) (cwV 1 hts gX7_barOf_X7_lives rfl rfl rfl (by decide +kernel) ⟨Nat.le_of_ble_eq_true rfl, Nat.le_of_ble_eq_true rfl⟩) ⟨hb1, va_recv hK hP (ci := 7) (q0 := 0) rfl rfl, hp1⟩ rfl rfl hl.1 rfl (lv_room (Nat.le_of_ble_eq_true rfl)) dX7_barOf_30 ⟨Nat.le_of_ble_eq_true rfl, Nat.le_of_ble_eq_true rfl⟩) rfl rfl rfl rfl rfl rfl rfl rfl rfl rfl (fun H locs hP hD hS => ?_)
        have hP : va_P D vwCl [(q_this, .inr (7, [.ref q_this_now, .ref q_this_past, .int v_this_saved, .int v_this_refusal, .ref q_this_list, .ref q_this_at, .ref q_this_levels, .ref q_this_newer, .ref q_this_howMany, .ref q_this_vectors, .ref q_this_dims, .ref q_this_comes, .ref q_this_goes, .ref q_this_cameFrom, .ref q_this_halves, .int v_this_halfMany, .ref q_this_way, .ref q_this_used, .long v_this_hash])), (q_this_now, .inl (k_this_now, 187, .inl c_this_now))] H := hP
        have hD : va_D A [(q_this, .inr (7, [.ref q_this_now, .ref q_this_past, .int v_this_saved, .int v_this_refusal, .ref q_this_list, .ref q_this_at, .ref q_this_levels, .ref q_this_newer, .ref q_this_howMany, .ref q_this_vectors, .ref q_this_dims, .ref q_this_comes, .ref q_this_goes, .ref q_this_cameFrom, .ref q_this_halves, .int v_this_halfMany, .ref q_this_way, .ref q_this_used, .long v_this_hash])), (q_this_now, .inl (k_this_now, 187, .inl c_this_now))] := hD
        refine lv_if_eq (tgt := 40) hx hb dX7_barOf_33 (by decide) (fun cd33 => ?_) (fun cd33 => ?_)
        · replace hf := zite_t cd33 hf
          exact j40  hf H locs ls hP hD hS (lv_sub hl [] rfl)
        · replace hf := zite_f cd33 hf
          refine lv_iconst (v := 0) hx hb dX7_barOf_36 (by decide) ?_
          refine lv_goto (tgt := 41) hx hb dX7_barOf_37 (by decide) ?_
          obtain rfl := Option.some.inj hf
          subst eQ
          exact kr_i hx hb hr hlocks hK hP hD hS dX7_barOf_41
    · replace hf := zite_t cd13 hf
      exact j16  hf H locs ls hP hD hS (lv_sub hl [] rfl)
theorem n_X7_shortest_X7 : ∀ w ∈ u_ws RX7 TX7 19, w ∈ wsX7_shortest := by decide +kernel
abbrev rm_X7_shortest : Room := { frames := 3, cells := 0, slots := 0, locals := 65 }
set_option maxHeartbeats 4000000 in
set_option maxRecDepth 100000 in
theorem c_X7_shortest (l : Launch) (D : va_G) (sz : Nat) (q_this : Nat) (q_this_now : Nat) (q_this_past : Nat) (q_this_list : Nat) (q_this_at : Nat) (q_this_levels : Nat) (q_this_newer : Nat) (q_this_howMany : Nat) (q_this_vectors : Nat) (q_this_dims : Nat) (q_this_comes : Nat) (q_this_goes : Nat) (q_this_cameFrom : Nat) (q_this_halves : Nat) (q_this_way : Nat) (q_this_used : Nat) (k_this_now : ClassId) (k_this_list : ClassId) (k_this_at : ClassId) (v_this_saved : Int32) (v_this_refusal : Int32) (v_this_halfMany : Int32) (v_this_hash : Int64) (c_this_now : (Nat → Int32)) (c_this_list : (Nat → Int32)) (c_this_at : (Nat → Int32)) (a1 : Int32) (a2 : Int32) (res : rt_X7_shortest) (hf : f_X7_shortest a1 a2 v_this_refusal c_this_now c_this_list c_this_at = some res) : Met l yX7_shortest wsX7_shortest rm_X7_shortest (kP D [.ref q_this, .int a1, .int a2] [(q_this, .inr (7, [.ref q_this_now, .ref q_this_past, .int v_this_saved, .int v_this_refusal, .ref q_this_list, .ref q_this_at, .ref q_this_levels, .ref q_this_newer, .ref q_this_howMany, .ref q_this_vectors, .ref q_this_dims, .ref q_this_comes, .ref q_this_goes, .ref q_this_cameFrom, .ref q_this_halves, .int v_this_halfMany, .ref q_this_way, .ref q_this_used, .long v_this_hash])), (q_this_now, .inl (k_this_now, 187, .inl c_this_now)), (q_this_list, .inl (k_this_list, 64, .inl c_this_list)), (q_this_at, .inl (k_this_at, 64, .inl c_this_at))] [(k_this_now, .int), (k_this_list, .int), (k_this_at, .int)] sz) (kQi D (va_A [(q_this, .inr (7, [.ref q_this_now, .ref q_this_past, .int v_this_saved, .int v_this_refusal, .ref q_this_list, .ref q_this_at, .ref q_this_levels, .ref q_this_newer, .ref q_this_howMany, .ref q_this_vectors, .ref q_this_dims, .ref q_this_comes, .ref q_this_goes, .ref q_this_cameFrom, .ref q_this_halves, .int v_this_halfMany, .ref q_this_way, .ref q_this_used, .long v_this_hash])), (q_this_now, .inl (k_this_now, 187, .inl c_this_now)), (q_this_list, .inl (k_this_list, 64, .inl c_this_list)), (q_this_at, .inl (k_this_at, 64, .inl c_this_at))] sz) [(k_this_now, .int), (k_this_list, .int), (k_this_at, .int)] res.1 [(q_this, .inr (7, [.ref q_this_now, .ref q_this_past, .int v_this_saved, .int res.2.1, .ref q_this_list, .ref q_this_at, .ref q_this_levels, .ref q_this_newer, .ref q_this_howMany, .ref q_this_vectors, .ref q_this_dims, .ref q_this_comes, .ref q_this_goes, .ref q_this_cameFrom, .ref q_this_halves, .int v_this_halfMany, .ref q_this_way, .ref q_this_used, .long v_this_hash])), (q_this_now, .inl (k_this_now, 187, .inl c_this_now)), (q_this_list, .inl (k_this_list, 64, .inl res.2.2.1)), (q_this_at, .inl (k_this_at, 64, .inl res.2.2.2))]) 0 0 (va_A [(q_this, .inr (7, [.ref q_this_now, .ref q_this_past, .int v_this_saved, .int v_this_refusal, .ref q_this_list, .ref q_this_at, .ref q_this_levels, .ref q_this_newer, .ref q_this_howMany, .ref q_this_vectors, .ref q_this_dims, .ref q_this_comes, .ref q_this_goes, .ref q_this_cameFrom, .ref q_this_halves, .int v_this_halfMany, .ref q_this_way, .ref q_this_used, .long v_this_hash])), (q_this_now, .inl (k_this_now, 187, .inl c_this_now)), (q_this_list, .inl (k_this_list, 64, .inl c_this_list)), (q_this_at, .inl (k_this_at, 64, .inl c_this_at))] sz) := by
  refine Met.ofW (cc := cX7_shortest) (maxL := 8) (ret := (some .int)) (by decide +kernel) rfl ?_
  intro p e s m args below meth c s₁ B hml hv
  obtain ⟨hargs, hsz, hP, hK, hD0, hE⟩ := hv
  have hx := B.exec
  have hb := B.bytes
  have hr := B.returns
  have hts := atoms_spec (ws := wsX7_shortest) B.pre
  have hown : s.vm.findClass RX7 = some m.cls := findClass_of_methodNamed B.named
  have hlocks := B.notSynchronized
  subst hsz
  have hD := hD0.self (sz := s.heap.size)
  generalize hAe : va_A [(q_this, .inr (7, [.ref q_this_now, .ref q_this_past, .int v_this_saved, .int v_this_refusal, .ref q_this_list, .ref q_this_at, .ref q_this_levels, .ref q_this_newer, .ref q_this_howMany, .ref q_this_vectors, .ref q_this_dims, .ref q_this_comes, .ref q_this_goes, .ref q_this_cameFrom, .ref q_this_halves, .int v_this_halfMany, .ref q_this_way, .ref q_this_used, .long v_this_hash])), (q_this_now, .inl (k_this_now, 187, .inl c_this_now)), (q_this_list, .inl (k_this_list, 64, .inl c_this_list)), (q_this_at, .inl (k_this_at, 64, .inl c_this_at))] s.heap.size = A at hD hE ⊢
  have hA : ∀ q : Nat, s.heap.size ≤ q → A q := fun q h => by rw [← hAe]; exact Or.inr h
  have hS : va_S A s.heap s.heap [] := va_S.rf
  refine kgen (fun Q eQ => ?_)
  refine kent (av := [.ref q_this, .int a1, .int a2]) hargs (Nat.le_of_ble_eq_true rfl) (fun ls hl => ?_)
  have hl : lv_has ls 8 [(0, .ref q_this), (1, .int a1), (2, .int a2)] := hl
  show W p l e rm_X7_shortest s m args below meth c s.heap [] 0 0 Q (F0 m 0 ls [])
  unfold f_X7_shortest at hf
  refine lv_aload_n hx hb dX7_shortest_0 rfl (lv_at hl 0 rfl) ?_
  refine lv_aload_n hx hb dX7_shortest_1 rfl (lv_at hl 0 rfl) ?_
  refine lv_iload_n hx hb dX7_shortest_2 rfl (lv_at hl 1 rfl) ?_
  refine lv_iload_n hx hb dX7_shortest_3 rfl (lv_at hl 2 rfl) ?_
  replace hf := zob_some hf
  obtain ⟨u1, hu1, hf⟩ := hf
  refine kd_i (D := D) (v := u1) (av := [.ref q_this, .int a1, .int a2]) (wc := [(q_this, .inr (7, [.ref q_this_now, .ref q_this_past, .int v_this_saved, .int v_this_refusal, .ref q_this_list, .ref q_this_at, .ref q_this_levels, .ref q_this_newer, .ref q_this_howMany, .ref q_this_vectors, .ref q_this_dims, .ref q_this_comes, .ref q_this_goes, .ref q_this_cameFrom, .ref q_this_halves, .int v_this_halfMany, .ref q_this_way, .ref q_this_used, .long v_this_hash])), (q_this_now, .inl (k_this_now, 187, .inl c_this_now))]) (w1 := [(q_this, .inr (7, [.ref q_this_now, .ref q_this_past, .int v_this_saved, .int v_this_refusal, .ref q_this_list, .ref q_this_at, .ref q_this_levels, .ref q_this_newer, .ref q_this_howMany, .ref q_this_vectors, .ref q_this_dims, .ref q_this_comes, .ref q_this_goes, .ref q_this_cameFrom, .ref q_this_halves, .int v_this_halfMany, .ref q_this_way, .ref q_this_used, .long v_this_hash])), (q_this_now, .inl (k_this_now, 187, .inl c_this_now))]) (ws2 := [(q_this, .inr (7, [.ref q_this_now, .ref q_this_past, .int v_this_saved, .int v_this_refusal, .ref q_this_list, .ref q_this_at, .ref q_this_levels, .ref q_this_newer, .ref q_this_howMany, .ref q_this_vectors, .ref q_this_dims, .ref q_this_comes, .ref q_this_goes, .ref q_this_cameFrom, .ref q_this_halves, .int v_this_halfMany, .ref q_this_way, .ref q_this_used, .long v_this_hash])), (q_this_now, .inl (k_this_now, 187, .inl c_this_now)), (q_this_list, .inl (k_this_list, 64, .inl c_this_list)), (q_this_at, .inl (k_this_at, 64, .inl c_this_at))]) hK hP hD hS hA hE [0, 1] [0] [2, 3] [2, 3, 0, 1] (fun hb1 hp1 => va_runV (As := [.int a1, .int a2]) (rest := [.ref q_this]) ⟨hx, hb, hml, hown, hts⟩ (c_X7_barOf l D s.heap.size q_this q_this_now q_this_past q_this_list q_this_at q_this_levels q_this_newer q_this_howMany q_this_vectors q_this_dims q_this_comes q_this_goes q_this_cameFrom q_this_halves q_this_way q_this_used k_this_now v_this_saved v_this_refusal v_this_halfMany v_this_hash c_this_now a1 a2 u1 hu1) (cwV 2 hts gX7_shortest_X7_barOf rfl rfl rfl (by decide +kernel) ⟨Nat.le_of_ble_eq_true rfl, Nat.le_of_ble_eq_true rfl⟩) ⟨hb1, va_recv hK hP (ci := 7) (q0 := 0) rfl rfl, hp1⟩ rfl rfl hl.1 rfl (lv_room (Nat.le_of_ble_eq_true rfl)) dX7_shortest_4 ⟨Nat.le_of_ble_eq_true rfl, Nat.le_of_ble_eq_true rfl⟩) rfl rfl rfl rfl rfl rfl rfl rfl rfl rfl (fun H locs hP hD hS => ?_)
  have hP : va_P D vwCl [(q_this, .inr (7, [.ref q_this_now, .ref q_this_past, .int v_this_saved, .int v_this_refusal, .ref q_this_list, .ref q_this_at, .ref q_this_levels, .ref q_this_newer, .ref q_this_howMany, .ref q_this_vectors, .ref q_this_dims, .ref q_this_comes, .ref q_this_goes, .ref q_this_cameFrom, .ref q_this_halves, .int v_this_halfMany, .ref q_this_way, .ref q_this_used, .long v_this_hash])), (q_this_now, .inl (k_this_now, 187, .inl c_this_now)), (q_this_list, .inl (k_this_list, 64, .inl c_this_list)), (q_this_at, .inl (k_this_at, 64, .inl c_this_at))] H := hP
  have hD : va_D A [(q_this, .inr (7, [.ref q_this_now, .ref q_this_past, .int v_this_saved, .int v_this_refusal, .ref q_this_list, .ref q_this_at, .ref q_this_levels, .ref q_this_newer, .ref q_this_howMany, .ref q_this_vectors, .ref q_this_dims, .ref q_this_comes, .ref q_this_goes, .ref q_this_cameFrom, .ref q_this_halves, .int v_this_halfMany, .ref q_this_way, .ref q_this_used, .long v_this_hash])), (q_this_now, .inl (k_this_now, 187, .inl c_this_now)), (q_this_list, .inl (k_this_list, 64, .inl c_this_list)), (q_this_at, .inl (k_this_at, 64, .inl c_this_at))] := hD
  replace hf := zob_some hf
  obtain ⟨u2, hu2, hf⟩ := hf
  refine kd_i (D := D) (v := u2.1) (av := [.ref q_this, .int u1]) (wc := [(q_this, .inr (7, [.ref q_this_now, .ref q_this_past, .int v_this_saved, .int v_this_refusal, .ref q_this_list, .ref q_this_at, .ref q_this_levels, .ref q_this_newer, .ref q_this_howMany, .ref q_this_vectors, .ref q_this_dims, .ref q_this_comes, .ref q_this_goes, .ref q_this_cameFrom, .ref q_this_halves, .int v_this_halfMany, .ref q_this_way, .ref q_this_used, .long v_this_hash]))]) (w1 := [(q_this, .inr (7, [.ref q_this_now, .ref q_this_past, .int v_this_saved, .int u2.2, .ref q_this_list, .ref q_this_at, .ref q_this_levels, .ref q_this_newer, .ref q_this_howMany, .ref q_this_vectors, .ref q_this_dims, .ref q_this_comes, .ref q_this_goes, .ref q_this_cameFrom, .ref q_this_halves, .int v_this_halfMany, .ref q_this_way, .ref q_this_used, .long v_this_hash]))]) (ws2 := [(q_this, .inr (7, [.ref q_this_now, .ref q_this_past, .int v_this_saved, .int u2.2, .ref q_this_list, .ref q_this_at, .ref q_this_levels, .ref q_this_newer, .ref q_this_howMany, .ref q_this_vectors, .ref q_this_dims, .ref q_this_comes, .ref q_this_goes, .ref q_this_cameFrom, .ref q_this_halves, .int v_this_halfMany, .ref q_this_way, .ref q_this_used, .long v_this_hash])), (q_this_now, .inl (k_this_now, 187, .inl c_this_now)), (q_this_list, .inl (k_this_list, 64, .inl c_this_list)), (q_this_at, .inl (k_this_at, 64, .inl c_this_at))]) hK hP hD hS hA hE [0] [] [1, 2, 3] [3, 0, 1, 2] (fun hb1 hp1 => va_runV (As := [.int u1]) (rest := []) ⟨hx, hb, hml, hown, hts⟩ (c_X7_refused l D H.size q_this q_this_now q_this_past q_this_list q_this_at q_this_levels q_this_newer q_this_howMany q_this_vectors q_this_dims q_this_comes q_this_goes q_this_cameFrom q_this_halves q_this_way q_this_used v_this_saved v_this_refusal v_this_halfMany v_this_hash u1 u2 hu2) (cwV 1 hts gX7_shortest_X7_refused rfl rfl rfl (by decide +kernel) ⟨Nat.le_of_ble_eq_true rfl, Nat.le_of_ble_eq_true rfl⟩) ⟨hb1, va_recv hK hP (ci := 7) (q0 := 0) rfl rfl, hp1⟩ rfl rfl hl.1 rfl (lv_room (Nat.le_of_ble_eq_true rfl)) dX7_shortest_7 ⟨Nat.le_of_ble_eq_true rfl, Nat.le_of_ble_eq_true rfl⟩) rfl rfl rfl rfl rfl rfl rfl rfl rfl rfl (fun H locs hP hD hS => ?_)
  have hP : va_P D vwCl [(q_this, .inr (7, [.ref q_this_now, .ref q_this_past, .int v_this_saved, .int u2.2, .ref q_this_list, .ref q_this_at, .ref q_this_levels, .ref q_this_newer, .ref q_this_howMany, .ref q_this_vectors, .ref q_this_dims, .ref q_this_comes, .ref q_this_goes, .ref q_this_cameFrom, .ref q_this_halves, .int v_this_halfMany, .ref q_this_way, .ref q_this_used, .long v_this_hash])), (q_this_now, .inl (k_this_now, 187, .inl c_this_now)), (q_this_list, .inl (k_this_list, 64, .inl c_this_list)), (q_this_at, .inl (k_this_at, 64, .inl c_this_at))] H := hP
  have hD : va_D A [(q_this, .inr (7, [.ref q_this_now, .ref q_this_past, .int v_this_saved, .int u2.2, .ref q_this_list, .ref q_this_at, .ref q_this_levels, .ref q_this_newer, .ref q_this_howMany, .ref q_this_vectors, .ref q_this_dims, .ref q_this_comes, .ref q_this_goes, .ref q_this_cameFrom, .ref q_this_halves, .int v_this_halfMany, .ref q_this_way, .ref q_this_used, .long v_this_hash])), (q_this_now, .inl (k_this_now, 187, .inl c_this_now)), (q_this_list, .inl (k_this_list, 64, .inl c_this_list)), (q_this_at, .inl (k_this_at, 64, .inl c_this_at))] := hD
  refine lv_if_eq (tgt := 15) hx hb dX7_shortest_10 (by decide) (fun cd10 => ?_) (fun cd10 => ?_)
  · replace hf := zite_t cd10 hf
    refine lv_iconst (v := 0) hx hb dX7_shortest_15 (by decide) ?_
    refine lv_istore_n (lv' := [(3, .int 0), (0, .ref q_this), (1, .int a1), (2, .int a2)]) hx hb dX7_shortest_16 rfl hl (by decide) rfl (fun ls hl => ?_)
    replace hf := zl2_some hf
    obtain ⟨F17, eF17, hf⟩ := hf
    have h17 : ∀ (n17 : Nat) (i3_17 : Int32) (c_this_at_17 : (Nat → Int32)), zl2 F17 n17 i3_17 c_this_at_17 = some res → ∀ (H : Heap) (locs : List Loc) (ls : Array Slot), va_P D vwCl [(q_this, .inr (7, [.ref q_this_now, .ref q_this_past, .int v_this_saved, .int u2.2, .ref q_this_list, .ref q_this_at, .ref q_this_levels, .ref q_this_newer, .ref q_this_howMany, .ref q_this_vectors, .ref q_this_dims, .ref q_this_comes, .ref q_this_goes, .ref q_this_cameFrom, .ref q_this_halves, .int v_this_halfMany, .ref q_this_way, .ref q_this_used, .long v_this_hash])), (q_this_now, .inl (k_this_now, 187, .inl c_this_now)), (q_this_list, .inl (k_this_list, 64, .inl c_this_list)), (q_this_at, .inl (k_this_at, 64, .inl c_this_at_17))] H → va_D A [(q_this, .inr (7, [.ref q_this_now, .ref q_this_past, .int v_this_saved, .int u2.2, .ref q_this_list, .ref q_this_at, .ref q_this_levels, .ref q_this_newer, .ref q_this_howMany, .ref q_this_vectors, .ref q_this_dims, .ref q_this_comes, .ref q_this_goes, .ref q_this_cameFrom, .ref q_this_halves, .int v_this_halfMany, .ref q_this_way, .ref q_this_used, .long v_this_hash])), (q_this_now, .inl (k_this_now, 187, .inl c_this_now)), (q_this_list, .inl (k_this_list, 64, .inl c_this_list)), (q_this_at, .inl (k_this_at, 64, .inl c_this_at_17))] → va_S A s.heap H locs → lv_has ls 8 [(0, .ref q_this), (1, .int a1), (2, .int a2), (3, .int i3_17)] → W p l e rm_X7_shortest s m args below meth c H locs 0 0 Q (F0 m 17 ls []) := by
      intro n17
      induction n17 with
      | zero => intro i3_17 c_this_at_17 hf; exact (zl2_zero hf).elim
      | succ n17 ih17 =>
        intro i3_17 c_this_at_17 hf H locs ls hP hD hS hl
        replace hf := zl2_step eF17 hf
        generalize zl2 F17 n17 = k17 at hf ih17
        refine lv_iload_n hx hb dX7_shortest_17 rfl (lv_at hl 3 rfl) ?_
        refine lv_bipush (v := 64) hx hb dX7_shortest_18 (by decide) ?_
        refine lv_icmp_ge (tgt := 36) hx hb dX7_shortest_20 (by decide) (fun cd20 => ?_) (fun cd20 => ?_)
        · replace hf := zite_t cd20 hf
          refine lv_aload_n hx hb dX7_shortest_36 rfl (lv_at hl 0 rfl) ?_
          refine va_get (D := D) (ci := 7) (v := .ref q_this_list) (C := RX7) (T := TX7) (N := 19) hx hb hts n_X7_shortest_X7 hown hK hP 0 rfl rfl 4 (by decide) (hts (.fieldLink RX7 16 "FaultyCubeModel" "list" "[I") (by decide +kernel)) (fun _ h9 => h9) rfl dX7_shortest_37 ?_
          refine lv_iconst (v := 0) hx hb dX7_shortest_40 (by decide) ?_
          refine lv_iload_n hx hb dX7_shortest_41 rfl (lv_at hl 1 rfl) ?_
          replace hf := zgd_some hf
          obtain ⟨g3, hf⟩ := hf
          refine va_iast (D := D) hx hb hK hP hD hS 2 1 rfl rfl (inb_in g3) dX7_shortest_42 (fun H locs hP hD hS => ?_)
          obtain ⟨y4, ey4⟩ : ∃ y : (Nat → Int32), y = upd c_this_list (0 : Int32).toNatClampNeg a1 := ⟨_, rfl⟩
          replace hf := zbd_of ey4 hf
          have hP : va_P D vwCl [(q_this, .inr (7, [.ref q_this_now, .ref q_this_past, .int v_this_saved, .int u2.2, .ref q_this_list, .ref q_this_at, .ref q_this_levels, .ref q_this_newer, .ref q_this_howMany, .ref q_this_vectors, .ref q_this_dims, .ref q_this_comes, .ref q_this_goes, .ref q_this_cameFrom, .ref q_this_halves, .int v_this_halfMany, .ref q_this_way, .ref q_this_used, .long v_this_hash])), (q_this_now, .inl (k_this_now, 187, .inl c_this_now)), (q_this_list, .inl (k_this_list, 64, .inl y4)), (q_this_at, .inl (k_this_at, 64, .inl c_this_at_17))] H := by rw [ey4]; exact hP
          have hD : va_D A [(q_this, .inr (7, [.ref q_this_now, .ref q_this_past, .int v_this_saved, .int u2.2, .ref q_this_list, .ref q_this_at, .ref q_this_levels, .ref q_this_newer, .ref q_this_howMany, .ref q_this_vectors, .ref q_this_dims, .ref q_this_comes, .ref q_this_goes, .ref q_this_cameFrom, .ref q_this_halves, .int v_this_halfMany, .ref q_this_way, .ref q_this_used, .long v_this_hash])), (q_this_now, .inl (k_this_now, 187, .inl c_this_now)), (q_this_list, .inl (k_this_list, 64, .inl y4)), (q_this_at, .inl (k_this_at, 64, .inl c_this_at_17))] := by rw [ey4]; exact hD
          refine lv_aload_n hx hb dX7_shortest_43 rfl (lv_at hl 0 rfl) ?_
          refine va_get (D := D) (ci := 7) (v := .ref q_this_at) (C := RX7) (T := TX7) (N := 19) hx hb hts n_X7_shortest_X7 hown hK hP 0 rfl rfl 5 (by decide) (hts (.fieldLink RX7 19 "FaultyCubeModel" "at" "[I") (by decide +kernel)) (fun _ h9 => h9) rfl dX7_shortest_44 ?_
          refine lv_iload_n hx hb dX7_shortest_47 rfl (lv_at hl 1 rfl) ?_
          refine lv_iconst (v := 0) hx hb dX7_shortest_48 (by decide) ?_
          replace hf := zgd_some hf
          obtain ⟨g5, hf⟩ := hf
          refine va_iast (D := D) hx hb hK hP hD hS 3 2 rfl rfl (inb_in g5) dX7_shortest_49 (fun H locs hP hD hS => ?_)
          obtain ⟨y6, ey6⟩ : ∃ y : (Nat → Int32), y = upd c_this_at_17 (a1 : Int32).toNatClampNeg 0 := ⟨_, rfl⟩
          replace hf := zbd_of ey6 hf
          have hP : va_P D vwCl [(q_this, .inr (7, [.ref q_this_now, .ref q_this_past, .int v_this_saved, .int u2.2, .ref q_this_list, .ref q_this_at, .ref q_this_levels, .ref q_this_newer, .ref q_this_howMany, .ref q_this_vectors, .ref q_this_dims, .ref q_this_comes, .ref q_this_goes, .ref q_this_cameFrom, .ref q_this_halves, .int v_this_halfMany, .ref q_this_way, .ref q_this_used, .long v_this_hash])), (q_this_now, .inl (k_this_now, 187, .inl c_this_now)), (q_this_list, .inl (k_this_list, 64, .inl y4)), (q_this_at, .inl (k_this_at, 64, .inl y6))] H := by rw [ey6]; exact hP
          have hD : va_D A [(q_this, .inr (7, [.ref q_this_now, .ref q_this_past, .int v_this_saved, .int u2.2, .ref q_this_list, .ref q_this_at, .ref q_this_levels, .ref q_this_newer, .ref q_this_howMany, .ref q_this_vectors, .ref q_this_dims, .ref q_this_comes, .ref q_this_goes, .ref q_this_cameFrom, .ref q_this_halves, .int v_this_halfMany, .ref q_this_way, .ref q_this_used, .long v_this_hash])), (q_this_now, .inl (k_this_now, 187, .inl c_this_now)), (q_this_list, .inl (k_this_list, 64, .inl y4)), (q_this_at, .inl (k_this_at, 64, .inl y6))] := by rw [ey6]; exact hD
          refine lv_iconst (v := 1) hx hb dX7_shortest_50 (by decide) ?_
          refine lv_istore_n (lv' := [(3, .int 1), (0, .ref q_this), (1, .int a1), (2, .int a2)]) hx hb dX7_shortest_51 rfl hl (by decide) rfl (fun ls hl => ?_)
          refine lv_iconst (v := 0) hx hb dX7_shortest_52 (by decide) ?_
          refine lv_istore (lv' := [(4, .int 0), (3, .int 1), (0, .ref q_this), (1, .int a1), (2, .int a2)]) hx hb dX7_shortest_53 hl (by decide) rfl (fun ls hl => ?_)
          replace hf := zl4_some hf
          obtain ⟨F55, eF55, hf⟩ := hf
          have h55 : ∀ (n55 : Nat) (i3_55 : Int32) (i4_55 : Int32) (c_this_list_55 : (Nat → Int32)) (c_this_at_55 : (Nat → Int32)), zl4 F55 n55 i3_55 i4_55 c_this_list_55 c_this_at_55 = some res → ∀ (H : Heap) (locs : List Loc) (ls : Array Slot), va_P D vwCl [(q_this, .inr (7, [.ref q_this_now, .ref q_this_past, .int v_this_saved, .int u2.2, .ref q_this_list, .ref q_this_at, .ref q_this_levels, .ref q_this_newer, .ref q_this_howMany, .ref q_this_vectors, .ref q_this_dims, .ref q_this_comes, .ref q_this_goes, .ref q_this_cameFrom, .ref q_this_halves, .int v_this_halfMany, .ref q_this_way, .ref q_this_used, .long v_this_hash])), (q_this_now, .inl (k_this_now, 187, .inl c_this_now)), (q_this_list, .inl (k_this_list, 64, .inl c_this_list_55)), (q_this_at, .inl (k_this_at, 64, .inl c_this_at_55))] H → va_D A [(q_this, .inr (7, [.ref q_this_now, .ref q_this_past, .int v_this_saved, .int u2.2, .ref q_this_list, .ref q_this_at, .ref q_this_levels, .ref q_this_newer, .ref q_this_howMany, .ref q_this_vectors, .ref q_this_dims, .ref q_this_comes, .ref q_this_goes, .ref q_this_cameFrom, .ref q_this_halves, .int v_this_halfMany, .ref q_this_way, .ref q_this_used, .long v_this_hash])), (q_this_now, .inl (k_this_now, 187, .inl c_this_now)), (q_this_list, .inl (k_this_list, 64, .inl c_this_list_55)), (q_this_at, .inl (k_this_at, 64, .inl c_this_at_55))] → va_S A s.heap H locs → lv_has ls 8 [(0, .ref q_this), (2, .int a2), (3, .int i3_55), (4, .int i4_55)] → W p l e rm_X7_shortest s m args below meth c H locs 0 0 Q (F0 m 55 ls []) := by
            intro n55
            induction n55 with
            | zero => intro i3_55 i4_55 c_this_list_55 c_this_at_55 hf; exact (zl4_zero hf).elim
            | succ n55 ih55 =>
              intro i3_55 i4_55 c_this_list_55 c_this_at_55 hf H locs ls hP hD hS hl
              replace hf := zl4_step eF55 hf
              generalize zl4 F55 n55 = k55 at hf ih55
              refine lv_iload hx hb dX7_shortest_55 (lv_at hl 3 rfl) ?_
              refine lv_iload_n hx hb dX7_shortest_57 rfl (lv_at hl 2 rfl) ?_
              refine lv_icmp_ge (tgt := 152) hx hb dX7_shortest_58 (by decide) (fun cd58 => ?_) (fun cd58 => ?_)
              · replace hf := zite_t cd58 hf
                refine lv_aload_n hx hb dX7_shortest_152 rfl (lv_at hl 0 rfl) ?_
                refine va_get (D := D) (ci := 7) (v := .ref q_this_at) (C := RX7) (T := TX7) (N := 19) hx hb hts n_X7_shortest_X7 hown hK hP 0 rfl rfl 5 (by decide) (hts (.fieldLink RX7 19 "FaultyCubeModel" "at" "[I") (by decide +kernel)) (fun _ h9 => h9) rfl dX7_shortest_153 ?_
                refine lv_iload_n hx hb dX7_shortest_156 rfl (lv_at hl 1 rfl) ?_
                replace hf := zgd_some hf
                obtain ⟨g7, hf⟩ := hf
                refine va_iald (D := D) hx hb hK hP 3 2 rfl rfl (inb_in g7) dX7_shortest_157 ?_
                obtain rfl := Option.some.inj hf
                subst eQ
                exact kr_i hx hb hr hlocks hK hP hD hS dX7_shortest_158
              · replace hf := zite_f cd58 hf
                refine lv_aload_n hx hb dX7_shortest_61 rfl (lv_at hl 0 rfl) ?_
                refine va_get (D := D) (ci := 7) (v := .ref q_this_list) (C := RX7) (T := TX7) (N := 19) hx hb hts n_X7_shortest_X7 hown hK hP 0 rfl rfl 4 (by decide) (hts (.fieldLink RX7 16 "FaultyCubeModel" "list" "[I") (by decide +kernel)) (fun _ h9 => h9) rfl dX7_shortest_62 ?_
                refine lv_iload hx hb dX7_shortest_65 (lv_at hl 3 rfl) ?_
                replace hf := zgd_some hf
                obtain ⟨g8, hf⟩ := hf
                refine va_iald (D := D) hx hb hK hP 2 1 rfl rfl (inb_in g8) dX7_shortest_67 ?_
                refine lv_topi (fun x9 ex9 => ?_)
                replace hf := zbd_of ex9 hf
                refine lv_istore (lv' := [(5, .int x9), (0, .ref q_this), (2, .int a2), (3, .int i3_55), (4, .int i4_55)]) hx hb dX7_shortest_68 hl (by decide) rfl (fun ls hl => ?_)
                refine lv_iconst (v := 0) hx hb dX7_shortest_70 (by decide) ?_
                refine lv_istore (lv' := [(6, .int 0), (5, .int x9), (0, .ref q_this), (2, .int a2), (3, .int i3_55), (4, .int i4_55)]) hx hb dX7_shortest_71 hl (by decide) rfl (fun ls hl => ?_)
                replace hf := zl4_some hf
                obtain ⟨F73, eF73, hf⟩ := hf
                have h73 : ∀ (n73 : Nat) (i3_73 : Int32) (i6_73 : Int32) (c_this_list_73 : (Nat → Int32)) (c_this_at_73 : (Nat → Int32)), zl4 F73 n73 i3_73 i6_73 c_this_list_73 c_this_at_73 = some res → ∀ (H : Heap) (locs : List Loc) (ls : Array Slot), va_P D vwCl [(q_this, .inr (7, [.ref q_this_now, .ref q_this_past, .int v_this_saved, .int u2.2, .ref q_this_list, .ref q_this_at, .ref q_this_levels, .ref q_this_newer, .ref q_this_howMany, .ref q_this_vectors, .ref q_this_dims, .ref q_this_comes, .ref q_this_goes, .ref q_this_cameFrom, .ref q_this_halves, .int v_this_halfMany, .ref q_this_way, .ref q_this_used, .long v_this_hash])), (q_this_now, .inl (k_this_now, 187, .inl c_this_now)), (q_this_list, .inl (k_this_list, 64, .inl c_this_list_73)), (q_this_at, .inl (k_this_at, 64, .inl c_this_at_73))] H → va_D A [(q_this, .inr (7, [.ref q_this_now, .ref q_this_past, .int v_this_saved, .int u2.2, .ref q_this_list, .ref q_this_at, .ref q_this_levels, .ref q_this_newer, .ref q_this_howMany, .ref q_this_vectors, .ref q_this_dims, .ref q_this_comes, .ref q_this_goes, .ref q_this_cameFrom, .ref q_this_halves, .int v_this_halfMany, .ref q_this_way, .ref q_this_used, .long v_this_hash])), (q_this_now, .inl (k_this_now, 187, .inl c_this_now)), (q_this_list, .inl (k_this_list, 64, .inl c_this_list_73)), (q_this_at, .inl (k_this_at, 64, .inl c_this_at_73))] → va_S A s.heap H locs → lv_has ls 8 [(0, .ref q_this), (2, .int a2), (3, .int i3_73), (4, .int i4_55), (5, .int x9), (6, .int i6_73)] → W p l e rm_X7_shortest s m args below meth c H locs 0 0 Q (F0 m 73 ls []) := by
                  intro n73
                  induction n73 with
                  | zero => intro i3_73 i6_73 c_this_list_73 c_this_at_73 hf; exact (zl4_zero hf).elim
                  | succ n73 ih73 =>
                    intro i3_73 i6_73 c_this_list_73 c_this_at_73 hf H locs ls hP hD hS hl
                    replace hf := zl4_step eF73 hf
                    generalize zl4 F73 n73 = k73 at hf ih73
                    refine lv_iload hx hb dX7_shortest_73 (lv_at hl 5 rfl) ?_
                    refine lv_aload_n hx hb dX7_shortest_75 rfl (lv_at hl 0 rfl) ?_
                    refine va_get (D := D) (ci := 7) (v := .ref q_this_now) (C := RX7) (T := TX7) (N := 19) hx hb hts n_X7_shortest_X7 hown hK hP 0 rfl rfl 0 (by decide) (hts (.fieldLink RX7 7 "FaultyCubeModel" "now" "[I") (by decide +kernel)) (fun _ h9 => h9) rfl dX7_shortest_76 ?_
                    refine lv_iconst (v := 0) hx hb dX7_shortest_79 (by decide) ?_
                    replace hf := zgd_some hf
                    obtain ⟨g10, hf⟩ := hf
                    refine va_iald (D := D) hx hb hK hP 1 0 rfl rfl (inb_in g10) dX7_shortest_80 ?_
                    refine lv_icmp_ge (tgt := 146) hx hb dX7_shortest_81 (by decide) (fun cd81 => ?_) (fun cd81 => ?_)
                    · replace hf := zite_t cd81 hf
                      obtain ⟨x11, ex11⟩ : ∃ y : Int32, y = i4_55 + 1 := ⟨_, rfl⟩
                      replace hf := zbd_of ex11 hf
                      refine lv_iinc (v := x11) (lv' := [(4, .int x11), (0, .ref q_this), (2, .int a2), (3, .int i3_73), (5, .int x9), (6, .int i6_73)]) hx hb dX7_shortest_146 hl (k := 3) rfl (by rw [ex11]; rfl) (by decide) rfl (fun ls hl => ?_)
                      refine lv_goto (tgt := 55) hx hb dX7_shortest_149 (by decide) ?_
                      exact ih55 i3_73 x11 c_this_list_73 c_this_at_73 hf H locs ls hP hD hS (lv_sub hl [1, 2, 3, 0] rfl)
                    · replace hf := zite_f cd81 hf
                      refine lv_iload hx hb dX7_shortest_84 (lv_at hl 4 rfl) ?_
                      refine lv_iconst (v := 1) hx hb dX7_shortest_86 (by decide) ?_
                      refine lv_iload hx hb dX7_shortest_87 (lv_at hl 5 rfl) ?_
                      refine lv_ishl hx hb dX7_shortest_89 ?_
                      refine lv_ixor hx hb dX7_shortest_90 ?_
                      refine lv_topi (fun x12 ex12 => ?_)
                      replace hf := zbd_of ex12 hf
                      refine lv_istore (lv' := [(7, .int x12), (0, .ref q_this), (2, .int a2), (3, .int i3_73), (4, .int i4_55), (5, .int x9), (6, .int i6_73)]) hx hb dX7_shortest_91 hl (by decide) rfl (fun ls hl => ?_)
                      refine lv_aload_n hx hb dX7_shortest_93 rfl (lv_at hl 1 rfl) ?_
                      refine lv_iload hx hb dX7_shortest_94 (lv_at hl 0 rfl) ?_
                      replace hf := zob_some hf
                      obtain ⟨u13, hu13, hf⟩ := hf
                      refine kd_i (D := D) (v := u13) (av := [.ref q_this, .int x12]) (wc := [(q_this, .inr (7, [.ref q_this_now, .ref q_this_past, .int v_this_saved, .int u2.2, .ref q_this_list, .ref q_this_at, .ref q_this_levels, .ref q_this_newer, .ref q_this_howMany, .ref q_this_vectors, .ref q_this_dims, .ref q_this_comes, .ref q_this_goes, .ref q_this_cameFrom, .ref q_this_halves, .int v_this_halfMany, .ref q_this_way, .ref q_this_used, .long v_this_hash])), (q_this_now, .inl (k_this_now, 187, .inl c_this_now))]) (w1 := [(q_this, .inr (7, [.ref q_this_now, .ref q_this_past, .int v_this_saved, .int u2.2, .ref q_this_list, .ref q_this_at, .ref q_this_levels, .ref q_this_newer, .ref q_this_howMany, .ref q_this_vectors, .ref q_this_dims, .ref q_this_comes, .ref q_this_goes, .ref q_this_cameFrom, .ref q_this_halves, .int v_this_halfMany, .ref q_this_way, .ref q_this_used, .long v_this_hash])), (q_this_now, .inl (k_this_now, 187, .inl c_this_now))]) (ws2 := [(q_this, .inr (7, [.ref q_this_now, .ref q_this_past, .int v_this_saved, .int u2.2, .ref q_this_list, .ref q_this_at, .ref q_this_levels, .ref q_this_newer, .ref q_this_howMany, .ref q_this_vectors, .ref q_this_dims, .ref q_this_comes, .ref q_this_goes, .ref q_this_cameFrom, .ref q_this_halves, .int v_this_halfMany, .ref q_this_way, .ref q_this_used, .long v_this_hash])), (q_this_now, .inl (k_this_now, 187, .inl c_this_now)), (q_this_list, .inl (k_this_list, 64, .inl c_this_list_73)), (q_this_at, .inl (k_this_at, 64, .inl c_this_at_73))]) hK hP hD hS hA hE [0, 1] [0] [2, 3] [2, 3, 0, 1] (fun hb1 hp1 => va_runV (As := [.int x12]) (rest := []) ⟨hx, hb, hml, hown, hts⟩ (c_X7_lives l D H.size q_this q_this_now q_this_past q_this_list q_this_at q_this_levels q_this_newer q_this_howMany q_this_vectors q_this_dims q_this_comes q_this_goes q_this_cameFrom q_this_halves q_this_way q_this_used k_this_now v_this_saved u2.2 v_this_halfMany v_this_hash c_this_now x12 u13 hu13) (cwV 1 hts gX7_shortest_X7_lives rfl rfl rfl (by decide +kernel) ⟨Nat.le_of_ble_eq_true rfl, Nat.le_of_ble_eq_true rfl⟩) ⟨hb1, va_recv hK hP (ci := 7) (q0 := 0) rfl rfl, hp1⟩ rfl rfl hl.1 rfl (lv_room (Nat.le_of_ble_eq_true rfl)) dX7_shortest_96 ⟨Nat.le_of_ble_eq_true rfl, Nat.le_of_ble_eq_true rfl⟩) rfl rfl rfl rfl rfl rfl rfl rfl rfl rfl (fun H locs hP hD hS => ?_)
                      have hP : va_P D vwCl [(q_this, .inr (7, [.ref q_this_now, .ref q_this_past, .int v_this_saved, .int u2.2, .ref q_this_list, .ref q_this_at, .ref q_this_levels, .ref q_this_newer, .ref q_this_howMany, .ref q_this_vectors, .ref q_this_dims, .ref q_this_comes, .ref q_this_goes, .ref q_this_cameFrom, .ref q_this_halves, .int v_this_halfMany, .ref q_this_way, .ref q_this_used, .long v_this_hash])), (q_this_now, .inl (k_this_now, 187, .inl c_this_now)), (q_this_list, .inl (k_this_list, 64, .inl c_this_list_73)), (q_this_at, .inl (k_this_at, 64, .inl c_this_at_73))] H := hP
                      have hD : va_D A [(q_this, .inr (7, [.ref q_this_now, .ref q_this_past, .int v_this_saved, .int u2.2, .ref q_this_list, .ref q_this_at, .ref q_this_levels, .ref q_this_newer, .ref q_this_howMany, .ref q_this_vectors, .ref q_this_dims, .ref q_this_comes, .ref q_this_goes, .ref q_this_cameFrom, .ref q_this_halves, .int v_this_halfMany, .ref q_this_way, .ref q_this_used, .long v_this_hash])), (q_this_now, .inl (k_this_now, 187, .inl c_this_now)), (q_this_list, .inl (k_this_list, 64, .inl c_this_list_73)), (q_this_at, .inl (k_this_at, 64, .inl c_this_at_73))] := hD
                      replace hf := zjp_some hf
                      obtain ⟨K140, eK140, hf⟩ := hf
                      have j140 : ∀ (i3_140 : Int32) (c_this_list_140 : (Nat → Int32)) (c_this_at_140 : (Nat → Int32)), K140 i3_140 c_this_list_140 c_this_at_140 = some res → ∀ (H : Heap) (locs : List Loc) (ls : Array Slot), va_P D vwCl [(q_this, .inr (7, [.ref q_this_now, .ref q_this_past, .int v_this_saved, .int u2.2, .ref q_this_list, .ref q_this_at, .ref q_this_levels, .ref q_this_newer, .ref q_this_howMany, .ref q_this_vectors, .ref q_this_dims, .ref q_this_comes, .ref q_this_goes, .ref q_this_cameFrom, .ref q_this_halves, .int v_this_halfMany, .ref q_this_way, .ref q_this_used, .long v_this_hash])), (q_this_now, .inl (k_this_now, 187, .inl c_this_now)), (q_this_list, .inl (k_this_list, 64, .inl c_this_list_140)), (q_this_at, .inl (k_this_at, 64, .inl c_this_at_140))] H → va_D A [(q_this, .inr (7, [.ref q_this_now, .ref q_this_past, .int v_this_saved, .int u2.2, .ref q_this_list, .ref q_this_at, .ref q_this_levels, .ref q_this_newer, .ref q_this_howMany, .ref q_this_vectors, .ref q_this_dims, .ref q_this_comes, .ref q_this_goes, .ref q_this_cameFrom, .ref q_this_halves, .int v_this_halfMany, .ref q_this_way, .ref q_this_used, .long v_this_hash])), (q_this_now, .inl (k_this_now, 187, .inl c_this_now)), (q_this_list, .inl (k_this_list, 64, .inl c_this_list_140)), (q_this_at, .inl (k_this_at, 64, .inl c_this_at_140))] → va_S A s.heap H locs → lv_has ls 8 [(0, .ref q_this), (2, .int a2), (3, .int i3_140), (4, .int i4_55), (5, .int x9), (6, .int i6_73)] → W p l e rm_X7_shortest s m args below meth c H locs 0 0 Q (F0 m 140 ls []) := by
                        intro i3_140 c_this_list_140 c_this_at_140 hf H locs ls hP hD hS hl
                        replace hf := zap3 eK140 hf
                        obtain ⟨x14, ex14⟩ : ∃ y : Int32, y = i6_73 + 1 := ⟨_, rfl⟩
                        replace hf := zbd_of ex14 hf
                        refine lv_iinc (v := x14) (lv' := [(6, .int x14), (0, .ref q_this), (2, .int a2), (3, .int i3_140), (4, .int i4_55), (5, .int x9)]) hx hb dX7_shortest_140 hl (k := 5) rfl (by rw [ex14]; rfl) (by decide) rfl (fun ls hl => ?_)
                        refine lv_goto (tgt := 73) hx hb dX7_shortest_143 (by decide) ?_
                        exact ih73 i3_140 x14 c_this_list_140 c_this_at_140 hf H locs ls hP hD hS (lv_sub hl [1, 2, 3, 4, 5, 0] rfl)
                      refine lv_if_eq (tgt := 140) hx hb dX7_shortest_99 (by decide) (fun cd99 => ?_) (fun cd99 => ?_)
                      · replace hf := zite_t cd99 hf
                        exact j140 i3_73 c_this_list_73 c_this_at_73 hf H locs ls hP hD hS (lv_sub hl [1, 2, 3, 4, 5, 6] rfl)
                      · replace hf := zite_f cd99 hf
                        refine lv_aload_n hx hb dX7_shortest_102 rfl (lv_at hl 1 rfl) ?_
                        refine va_get (D := D) (ci := 7) (v := .ref q_this_at) (C := RX7) (T := TX7) (N := 19) hx hb hts n_X7_shortest_X7 hown hK hP 0 rfl rfl 5 (by decide) (hts (.fieldLink RX7 19 "FaultyCubeModel" "at" "[I") (by decide +kernel)) (fun _ h9 => h9) rfl dX7_shortest_103 ?_
                        refine lv_iload hx hb dX7_shortest_106 (lv_at hl 0 rfl) ?_
                        replace hf := zgd_some hf
                        obtain ⟨g15, hf⟩ := hf
                        refine va_iald (D := D) hx hb hK hP 3 2 rfl rfl (inb_in g15) dX7_shortest_108 ?_
                        refine lv_iconst (v := (-1)) hx hb dX7_shortest_109 (by decide) ?_
                        refine lv_icmp_ne (tgt := 140) hx hb dX7_shortest_110 (by decide) (fun cd110 => ?_) (fun cd110 => ?_)
                        · replace hf := zite_f cd110 hf
                          exact j140 i3_73 c_this_list_73 c_this_at_73 hf H locs ls hP hD hS (lv_sub hl [1, 2, 3, 4, 5, 6] rfl)
                        · replace hf := zite_t cd110 hf
                          refine lv_aload_n hx hb dX7_shortest_113 rfl (lv_at hl 1 rfl) ?_
                          refine va_get (D := D) (ci := 7) (v := .ref q_this_at) (C := RX7) (T := TX7) (N := 19) hx hb hts n_X7_shortest_X7 hown hK hP 0 rfl rfl 5 (by decide) (hts (.fieldLink RX7 19 "FaultyCubeModel" "at" "[I") (by decide +kernel)) (fun _ h9 => h9) rfl dX7_shortest_114 ?_
                          refine lv_iload hx hb dX7_shortest_117 (lv_at hl 0 rfl) ?_
                          refine lv_aload_n hx hb dX7_shortest_119 rfl (lv_at hl 1 rfl) ?_
                          refine va_get (D := D) (ci := 7) (v := .ref q_this_at) (C := RX7) (T := TX7) (N := 19) hx hb hts n_X7_shortest_X7 hown hK hP 0 rfl rfl 5 (by decide) (hts (.fieldLink RX7 19 "FaultyCubeModel" "at" "[I") (by decide +kernel)) (fun _ h9 => h9) rfl dX7_shortest_120 ?_
                          refine lv_iload hx hb dX7_shortest_123 (lv_at hl 5 rfl) ?_
                          replace hf := zgd_some hf
                          obtain ⟨g16, hf⟩ := hf
                          refine va_iald (D := D) hx hb hK hP 3 2 rfl rfl (inb_in g16) dX7_shortest_125 ?_
                          refine lv_iconst (v := 1) hx hb dX7_shortest_126 (by decide) ?_
                          refine lv_iadd hx hb dX7_shortest_127 ?_
                          refine lv_topi (fun x17 ex17 => ?_)
                          replace hf := zbd_of ex17 hf
                          replace hf := zgd_some hf
                          obtain ⟨g18, hf⟩ := hf
                          refine va_iast (D := D) hx hb hK hP hD hS 3 2 rfl rfl (inb_in g18) dX7_shortest_128 (fun H locs hP hD hS => ?_)
                          obtain ⟨y19, ey19⟩ : ∃ y : (Nat → Int32), y = upd c_this_at_73 (x12 : Int32).toNatClampNeg x17 := ⟨_, rfl⟩
                          replace hf := zbd_of ey19 hf
                          have hP : va_P D vwCl [(q_this, .inr (7, [.ref q_this_now, .ref q_this_past, .int v_this_saved, .int u2.2, .ref q_this_list, .ref q_this_at, .ref q_this_levels, .ref q_this_newer, .ref q_this_howMany, .ref q_this_vectors, .ref q_this_dims, .ref q_this_comes, .ref q_this_goes, .ref q_this_cameFrom, .ref q_this_halves, .int v_this_halfMany, .ref q_this_way, .ref q_this_used, .long v_this_hash])), (q_this_now, .inl (k_this_now, 187, .inl c_this_now)), (q_this_list, .inl (k_this_list, 64, .inl c_this_list_73)), (q_this_at, .inl (k_this_at, 64, .inl y19))] H := by rw [ey19]; exact hP
                          have hD : va_D A [(q_this, .inr (7, [.ref q_this_now, .ref q_this_past, .int v_this_saved, .int u2.2, .ref q_this_list, .ref q_this_at, .ref q_this_levels, .ref q_this_newer, .ref q_this_howMany, .ref q_this_vectors, .ref q_this_dims, .ref q_this_comes, .ref q_this_goes, .ref q_this_cameFrom, .ref q_this_halves, .int v_this_halfMany, .ref q_this_way, .ref q_this_used, .long v_this_hash])), (q_this_now, .inl (k_this_now, 187, .inl c_this_now)), (q_this_list, .inl (k_this_list, 64, .inl c_this_list_73)), (q_this_at, .inl (k_this_at, 64, .inl y19))] := by rw [ey19]; exact hD
                          refine lv_aload_n hx hb dX7_shortest_129 rfl (lv_at hl 1 rfl) ?_
                          refine va_get (D := D) (ci := 7) (v := .ref q_this_list) (C := RX7) (T := TX7) (N := 19) hx hb hts n_X7_shortest_X7 hown hK hP 0 rfl rfl 4 (by decide) (hts (.fieldLink RX7 16 "FaultyCubeModel" "list" "[I") (by decide +kernel)) (fun _ h9 => h9) rfl dX7_shortest_130 ?_
                          refine lv_iload_n hx hb dX7_shortest_133 rfl (lv_at hl 3 rfl) ?_
                          refine lv_iload hx hb dX7_shortest_134 (lv_at hl 0 rfl) ?_
                          replace hf := zgd_some hf
                          obtain ⟨g20, hf⟩ := hf
                          refine va_iast (D := D) hx hb hK hP hD hS 2 1 rfl rfl (inb_in g20) dX7_shortest_136 (fun H locs hP hD hS => ?_)
                          obtain ⟨y21, ey21⟩ : ∃ y : (Nat → Int32), y = upd c_this_list_73 (i3_73 : Int32).toNatClampNeg x12 := ⟨_, rfl⟩
                          replace hf := zbd_of ey21 hf
                          have hP : va_P D vwCl [(q_this, .inr (7, [.ref q_this_now, .ref q_this_past, .int v_this_saved, .int u2.2, .ref q_this_list, .ref q_this_at, .ref q_this_levels, .ref q_this_newer, .ref q_this_howMany, .ref q_this_vectors, .ref q_this_dims, .ref q_this_comes, .ref q_this_goes, .ref q_this_cameFrom, .ref q_this_halves, .int v_this_halfMany, .ref q_this_way, .ref q_this_used, .long v_this_hash])), (q_this_now, .inl (k_this_now, 187, .inl c_this_now)), (q_this_list, .inl (k_this_list, 64, .inl y21)), (q_this_at, .inl (k_this_at, 64, .inl y19))] H := by rw [ey21]; exact hP
                          have hD : va_D A [(q_this, .inr (7, [.ref q_this_now, .ref q_this_past, .int v_this_saved, .int u2.2, .ref q_this_list, .ref q_this_at, .ref q_this_levels, .ref q_this_newer, .ref q_this_howMany, .ref q_this_vectors, .ref q_this_dims, .ref q_this_comes, .ref q_this_goes, .ref q_this_cameFrom, .ref q_this_halves, .int v_this_halfMany, .ref q_this_way, .ref q_this_used, .long v_this_hash])), (q_this_now, .inl (k_this_now, 187, .inl c_this_now)), (q_this_list, .inl (k_this_list, 64, .inl y21)), (q_this_at, .inl (k_this_at, 64, .inl y19))] := by rw [ey21]; exact hD
                          obtain ⟨x22, ex22⟩ : ∃ y : Int32, y = i3_73 + 1 := ⟨_, rfl⟩
                          replace hf := zbd_of ex22 hf
                          refine lv_iinc (v := x22) (lv' := [(3, .int x22), (7, .int x12), (0, .ref q_this), (2, .int a2), (4, .int i4_55), (5, .int x9), (6, .int i6_73)]) hx hb dX7_shortest_137 hl (k := 3) rfl (by rw [ex22]; rfl) (by decide) rfl (fun ls hl => ?_)
                          exact j140 x22 y21 y19 hf H locs ls hP hD hS (lv_sub hl [2, 3, 0, 4, 5, 6] rfl)
                exact h73 zfu i3_55 0 c_this_list_55 c_this_at_55 hf H locs ls hP hD hS (lv_sub hl [2, 3, 4, 5, 1, 0] rfl)
          exact h55 zfu 1 0 y4 y6 hf H locs ls hP hD hS (lv_sub hl [2, 4, 1, 0] rfl)
        · replace hf := zite_f cd20 hf
          refine lv_aload_n hx hb dX7_shortest_23 rfl (lv_at hl 0 rfl) ?_
          refine va_get (D := D) (ci := 7) (v := .ref q_this_at) (C := RX7) (T := TX7) (N := 19) hx hb hts n_X7_shortest_X7 hown hK hP 0 rfl rfl 5 (by decide) (hts (.fieldLink RX7 19 "FaultyCubeModel" "at" "[I") (by decide +kernel)) (fun _ h9 => h9) rfl dX7_shortest_24 ?_
          refine lv_iload_n hx hb dX7_shortest_27 rfl (lv_at hl 3 rfl) ?_
          refine lv_iconst (v := (-1)) hx hb dX7_shortest_28 (by decide) ?_
          refine lv_topi (fun x23 ex23 => ?_)
          replace hf := zbd_of ex23 hf
          replace hf := zgd_some hf
          obtain ⟨g24, hf⟩ := hf
          refine va_iast (D := D) hx hb hK hP hD hS 3 2 rfl rfl (inb_in g24) dX7_shortest_29 (fun H locs hP hD hS => ?_)
          obtain ⟨y25, ey25⟩ : ∃ y : (Nat → Int32), y = upd c_this_at_17 (i3_17 : Int32).toNatClampNeg x23 := ⟨_, rfl⟩
          replace hf := zbd_of ey25 hf
          have hP : va_P D vwCl [(q_this, .inr (7, [.ref q_this_now, .ref q_this_past, .int v_this_saved, .int u2.2, .ref q_this_list, .ref q_this_at, .ref q_this_levels, .ref q_this_newer, .ref q_this_howMany, .ref q_this_vectors, .ref q_this_dims, .ref q_this_comes, .ref q_this_goes, .ref q_this_cameFrom, .ref q_this_halves, .int v_this_halfMany, .ref q_this_way, .ref q_this_used, .long v_this_hash])), (q_this_now, .inl (k_this_now, 187, .inl c_this_now)), (q_this_list, .inl (k_this_list, 64, .inl c_this_list)), (q_this_at, .inl (k_this_at, 64, .inl y25))] H := by rw [ey25]; exact hP
          have hD : va_D A [(q_this, .inr (7, [.ref q_this_now, .ref q_this_past, .int v_this_saved, .int u2.2, .ref q_this_list, .ref q_this_at, .ref q_this_levels, .ref q_this_newer, .ref q_this_howMany, .ref q_this_vectors, .ref q_this_dims, .ref q_this_comes, .ref q_this_goes, .ref q_this_cameFrom, .ref q_this_halves, .int v_this_halfMany, .ref q_this_way, .ref q_this_used, .long v_this_hash])), (q_this_now, .inl (k_this_now, 187, .inl c_this_now)), (q_this_list, .inl (k_this_list, 64, .inl c_this_list)), (q_this_at, .inl (k_this_at, 64, .inl y25))] := by rw [ey25]; exact hD
          obtain ⟨x26, ex26⟩ : ∃ y : Int32, y = i3_17 + 1 := ⟨_, rfl⟩
          replace hf := zbd_of ex26 hf
          refine lv_iinc (v := x26) (lv' := [(3, .int x26), (0, .ref q_this), (1, .int a1), (2, .int a2)]) hx hb dX7_shortest_30 hl (k := 3) rfl (by rw [ex26]; rfl) (by decide) rfl (fun ls hl => ?_)
          refine lv_goto (tgt := 17) hx hb dX7_shortest_33 (by decide) ?_
          exact ih17 x26 y25 hf H locs ls hP hD hS (lv_sub hl [1, 2, 3, 0] rfl)
    exact h17 zfu 0 c_this_at hf H locs ls hP hD hS (lv_sub hl [1, 2, 3, 0] rfl)
  · replace hf := zite_f cd10 hf
    refine lv_iconst (v := 0) hx hb dX7_shortest_13 (by decide) ?_
    obtain rfl := Option.some.inj hf
    subst eQ
    exact kr_i hx hb hr hlocks hK hP hD hS dX7_shortest_14
theorem n_X7_newLevel_X7 : ∀ w ∈ u_ws RX7 TX7 19, w ∈ wsX7_newLevel := by decide +kernel
abbrev rm_X7_newLevel : Room := { frames := 0, cells := 0, slots := 0, locals := 0 }
set_option maxHeartbeats 4000000 in
set_option maxRecDepth 100000 in
theorem c_X7_newLevel (l : Launch) (D : va_G) (sz : Nat) (q_this : Nat) (q_this_now : Nat) (q_this_past : Nat) (q_this_list : Nat) (q_this_at : Nat) (q_this_levels : Nat) (q_this_newer : Nat) (q_this_howMany : Nat) (q_this_vectors : Nat) (q_this_dims : Nat) (q_this_comes : Nat) (q_this_goes : Nat) (q_this_cameFrom : Nat) (q_this_halves : Nat) (q_this_way : Nat) (q_this_used : Nat) (k_this_now : ClassId) (k_this_levels : ClassId) (k_this_howMany : ClassId) (v_this_saved : Int32) (v_this_refusal : Int32) (v_this_halfMany : Int32) (v_this_hash : Int64) (c_this_now : (Nat → Int32)) (c_this_levels : (Nat → Int32)) (c_this_howMany : (Nat → Int32)) (a1 : Int32) (res : rt_X7_newLevel) (hf : f_X7_newLevel a1 c_this_now c_this_levels c_this_howMany = some res) : Met l yX7_newLevel wsX7_newLevel rm_X7_newLevel (kP D [.ref q_this, .int a1] [(q_this, .inr (7, [.ref q_this_now, .ref q_this_past, .int v_this_saved, .int v_this_refusal, .ref q_this_list, .ref q_this_at, .ref q_this_levels, .ref q_this_newer, .ref q_this_howMany, .ref q_this_vectors, .ref q_this_dims, .ref q_this_comes, .ref q_this_goes, .ref q_this_cameFrom, .ref q_this_halves, .int v_this_halfMany, .ref q_this_way, .ref q_this_used, .long v_this_hash])), (q_this_now, .inl (k_this_now, 187, .inl c_this_now)), (q_this_levels, .inl (k_this_levels, 64, .inl c_this_levels)), (q_this_howMany, .inl (k_this_howMany, 7, .inl c_this_howMany))] [(k_this_now, .int), (k_this_levels, .int), (k_this_howMany, .int)] sz) (kQi D (va_A [(q_this, .inr (7, [.ref q_this_now, .ref q_this_past, .int v_this_saved, .int v_this_refusal, .ref q_this_list, .ref q_this_at, .ref q_this_levels, .ref q_this_newer, .ref q_this_howMany, .ref q_this_vectors, .ref q_this_dims, .ref q_this_comes, .ref q_this_goes, .ref q_this_cameFrom, .ref q_this_halves, .int v_this_halfMany, .ref q_this_way, .ref q_this_used, .long v_this_hash])), (q_this_now, .inl (k_this_now, 187, .inl c_this_now)), (q_this_levels, .inl (k_this_levels, 64, .inl c_this_levels)), (q_this_howMany, .inl (k_this_howMany, 7, .inl c_this_howMany))] sz) [(k_this_now, .int), (k_this_levels, .int), (k_this_howMany, .int)] res.1 [(q_this, .inr (7, [.ref q_this_now, .ref q_this_past, .int v_this_saved, .int v_this_refusal, .ref q_this_list, .ref q_this_at, .ref q_this_levels, .ref q_this_newer, .ref q_this_howMany, .ref q_this_vectors, .ref q_this_dims, .ref q_this_comes, .ref q_this_goes, .ref q_this_cameFrom, .ref q_this_halves, .int v_this_halfMany, .ref q_this_way, .ref q_this_used, .long v_this_hash])), (q_this_now, .inl (k_this_now, 187, .inl c_this_now)), (q_this_levels, .inl (k_this_levels, 64, .inl c_this_levels)), (q_this_howMany, .inl (k_this_howMany, 7, .inl res.2))]) 0 0 (va_A [(q_this, .inr (7, [.ref q_this_now, .ref q_this_past, .int v_this_saved, .int v_this_refusal, .ref q_this_list, .ref q_this_at, .ref q_this_levels, .ref q_this_newer, .ref q_this_howMany, .ref q_this_vectors, .ref q_this_dims, .ref q_this_comes, .ref q_this_goes, .ref q_this_cameFrom, .ref q_this_halves, .int v_this_halfMany, .ref q_this_way, .ref q_this_used, .long v_this_hash])), (q_this_now, .inl (k_this_now, 187, .inl c_this_now)), (q_this_levels, .inl (k_this_levels, 64, .inl c_this_levels)), (q_this_howMany, .inl (k_this_howMany, 7, .inl c_this_howMany))] sz) := by
  refine Met.ofW (cc := cX7_newLevel) (maxL := 4) (ret := (some .int)) (by decide +kernel) rfl ?_
  intro p e s m args below meth c s₁ B hml hv
  obtain ⟨hargs, hsz, hP, hK, hD0, hE⟩ := hv
  have hx := B.exec
  have hb := B.bytes
  have hr := B.returns
  have hts := atoms_spec (ws := wsX7_newLevel) B.pre
  have hown : s.vm.findClass RX7 = some m.cls := findClass_of_methodNamed B.named
  have hlocks := B.notSynchronized
  subst hsz
  have hD := hD0.self (sz := s.heap.size)
  generalize hAe : va_A [(q_this, .inr (7, [.ref q_this_now, .ref q_this_past, .int v_this_saved, .int v_this_refusal, .ref q_this_list, .ref q_this_at, .ref q_this_levels, .ref q_this_newer, .ref q_this_howMany, .ref q_this_vectors, .ref q_this_dims, .ref q_this_comes, .ref q_this_goes, .ref q_this_cameFrom, .ref q_this_halves, .int v_this_halfMany, .ref q_this_way, .ref q_this_used, .long v_this_hash])), (q_this_now, .inl (k_this_now, 187, .inl c_this_now)), (q_this_levels, .inl (k_this_levels, 64, .inl c_this_levels)), (q_this_howMany, .inl (k_this_howMany, 7, .inl c_this_howMany))] s.heap.size = A at hD hE ⊢
  have hA : ∀ q : Nat, s.heap.size ≤ q → A q := fun q h => by rw [← hAe]; exact Or.inr h
  have hS : va_S A s.heap s.heap [] := va_S.rf
  refine kgen (fun Q eQ => ?_)
  refine kent (av := [.ref q_this, .int a1]) hargs (Nat.le_of_ble_eq_true rfl) (fun ls hl => ?_)
  have hl : lv_has ls 4 [(0, .ref q_this), (1, .int a1)] := hl
  show W p l e rm_X7_newLevel s m args below meth c s.heap [] 0 0 Q (F0 m 0 ls [])
  unfold f_X7_newLevel at hf
  refine lv_iconst (v := 0) hx hb dX7_newLevel_0 (by decide) ?_
  refine lv_istore_n (lv' := [(2, .int 0), (0, .ref q_this), (1, .int a1)]) hx hb dX7_newLevel_1 rfl hl (by decide) rfl (fun ls hl => ?_)
  replace hf := zl2_some hf
  obtain ⟨F2, eF2, hf⟩ := hf
  have h2 : ∀ (n2 : Nat) (i2_2 : Int32) (c_this_howMany_2 : (Nat → Int32)), zl2 F2 n2 i2_2 c_this_howMany_2 = some res → ∀ (H : Heap) (locs : List Loc) (ls : Array Slot), va_P D vwCl [(q_this, .inr (7, [.ref q_this_now, .ref q_this_past, .int v_this_saved, .int v_this_refusal, .ref q_this_list, .ref q_this_at, .ref q_this_levels, .ref q_this_newer, .ref q_this_howMany, .ref q_this_vectors, .ref q_this_dims, .ref q_this_comes, .ref q_this_goes, .ref q_this_cameFrom, .ref q_this_halves, .int v_this_halfMany, .ref q_this_way, .ref q_this_used, .long v_this_hash])), (q_this_now, .inl (k_this_now, 187, .inl c_this_now)), (q_this_levels, .inl (k_this_levels, 64, .inl c_this_levels)), (q_this_howMany, .inl (k_this_howMany, 7, .inl c_this_howMany_2))] H → va_D A [(q_this, .inr (7, [.ref q_this_now, .ref q_this_past, .int v_this_saved, .int v_this_refusal, .ref q_this_list, .ref q_this_at, .ref q_this_levels, .ref q_this_newer, .ref q_this_howMany, .ref q_this_vectors, .ref q_this_dims, .ref q_this_comes, .ref q_this_goes, .ref q_this_cameFrom, .ref q_this_halves, .int v_this_halfMany, .ref q_this_way, .ref q_this_used, .long v_this_hash])), (q_this_now, .inl (k_this_now, 187, .inl c_this_now)), (q_this_levels, .inl (k_this_levels, 64, .inl c_this_levels)), (q_this_howMany, .inl (k_this_howMany, 7, .inl c_this_howMany_2))] → va_S A s.heap H locs → lv_has ls 4 [(0, .ref q_this), (1, .int a1), (2, .int i2_2)] → W p l e rm_X7_newLevel s m args below meth c H locs 0 0 Q (F0 m 2 ls []) := by
    intro n2
    induction n2 with
    | zero => intro i2_2 c_this_howMany_2 hf; exact (zl2_zero hf).elim
    | succ n2 ih2 =>
      intro i2_2 c_this_howMany_2 hf H locs ls hP hD hS hl
      replace hf := zl2_step eF2 hf
      generalize zl2 F2 n2 = k2 at hf ih2
      refine lv_iload_n hx hb dX7_newLevel_2 rfl (lv_at hl 2 rfl) ?_
      refine lv_bipush (v := 7) hx hb dX7_newLevel_3 (by decide) ?_
      refine lv_icmp_ge (tgt := 21) hx hb dX7_newLevel_5 (by decide) (fun cd5 => ?_) (fun cd5 => ?_)
      · replace hf := zite_t cd5 hf
        refine lv_iconst (v := 0) hx hb dX7_newLevel_21 (by decide) ?_
        refine lv_istore_n (lv' := [(2, .int 0), (0, .ref q_this), (1, .int a1)]) hx hb dX7_newLevel_22 rfl hl (by decide) rfl (fun ls hl => ?_)
        replace hf := zl2_some hf
        obtain ⟨F23, eF23, hf⟩ := hf
        have h23 : ∀ (n23 : Nat) (i2_23 : Int32) (c_this_howMany_23 : (Nat → Int32)), zl2 F23 n23 i2_23 c_this_howMany_23 = some res → ∀ (H : Heap) (locs : List Loc) (ls : Array Slot), va_P D vwCl [(q_this, .inr (7, [.ref q_this_now, .ref q_this_past, .int v_this_saved, .int v_this_refusal, .ref q_this_list, .ref q_this_at, .ref q_this_levels, .ref q_this_newer, .ref q_this_howMany, .ref q_this_vectors, .ref q_this_dims, .ref q_this_comes, .ref q_this_goes, .ref q_this_cameFrom, .ref q_this_halves, .int v_this_halfMany, .ref q_this_way, .ref q_this_used, .long v_this_hash])), (q_this_now, .inl (k_this_now, 187, .inl c_this_now)), (q_this_levels, .inl (k_this_levels, 64, .inl c_this_levels)), (q_this_howMany, .inl (k_this_howMany, 7, .inl c_this_howMany_23))] H → va_D A [(q_this, .inr (7, [.ref q_this_now, .ref q_this_past, .int v_this_saved, .int v_this_refusal, .ref q_this_list, .ref q_this_at, .ref q_this_levels, .ref q_this_newer, .ref q_this_howMany, .ref q_this_vectors, .ref q_this_dims, .ref q_this_comes, .ref q_this_goes, .ref q_this_cameFrom, .ref q_this_halves, .int v_this_halfMany, .ref q_this_way, .ref q_this_used, .long v_this_hash])), (q_this_now, .inl (k_this_now, 187, .inl c_this_now)), (q_this_levels, .inl (k_this_levels, 64, .inl c_this_levels)), (q_this_howMany, .inl (k_this_howMany, 7, .inl c_this_howMany_23))] → va_S A s.heap H locs → lv_has ls 4 [(0, .ref q_this), (1, .int a1), (2, .int i2_23)] → W p l e rm_X7_newLevel s m args below meth c H locs 0 0 Q (F0 m 23 ls []) := by
          intro n23
          induction n23 with
          | zero => intro i2_23 c_this_howMany_23 hf; exact (zl2_zero hf).elim
          | succ n23 ih23 =>
            intro i2_23 c_this_howMany_23 hf H locs ls hP hD hS hl
            replace hf := zl2_step eF23 hf
            generalize zl2 F23 n23 = k23 at hf ih23
            refine lv_iload_n hx hb dX7_newLevel_23 rfl (lv_at hl 2 rfl) ?_
            refine lv_aload_n hx hb dX7_newLevel_24 rfl (lv_at hl 0 rfl) ?_
            refine va_get (D := D) (ci := 7) (v := .ref q_this_now) (C := RX7) (T := TX7) (N := 19) hx hb hts n_X7_newLevel_X7 hown hK hP 0 rfl rfl 0 (by decide) (hts (.fieldLink RX7 7 "FaultyCubeModel" "now" "[I") (by decide +kernel)) (fun _ h9 => h9) rfl dX7_newLevel_25 ?_
            refine lv_iconst (v := 0) hx hb dX7_newLevel_28 (by decide) ?_
            replace hf := zgd_some hf
            obtain ⟨g1, hf⟩ := hf
            refine va_iald (D := D) hx hb hK hP 1 0 rfl rfl (inb_in g1) dX7_newLevel_29 ?_
            refine lv_icmp_ge (tgt := 58) hx hb dX7_newLevel_30 (by decide) (fun cd30 => ?_) (fun cd30 => ?_)
            · replace hf := zite_t cd30 hf
              refine lv_iconst (v := 0) hx hb dX7_newLevel_58 (by decide) ?_
              refine lv_istore_n (lv' := [(2, .int 0), (0, .ref q_this), (1, .int a1)]) hx hb dX7_newLevel_59 rfl hl (by decide) rfl (fun ls hl => ?_)
              refine lv_iconst (v := 0) hx hb dX7_newLevel_60 (by decide) ?_
              refine lv_istore_n (lv' := [(3, .int 0), (2, .int 0), (0, .ref q_this), (1, .int a1)]) hx hb dX7_newLevel_61 rfl hl (by decide) rfl (fun ls hl => ?_)
              replace hf := zl2_some hf
              obtain ⟨F62, eF62, hf⟩ := hf
              have h62 : ∀ (n62 : Nat) (i2_62 : Int32) (i3_62 : Int32), zl2 F62 n62 i2_62 i3_62 = some res → ∀ (H : Heap) (locs : List Loc) (ls : Array Slot), va_P D vwCl [(q_this, .inr (7, [.ref q_this_now, .ref q_this_past, .int v_this_saved, .int v_this_refusal, .ref q_this_list, .ref q_this_at, .ref q_this_levels, .ref q_this_newer, .ref q_this_howMany, .ref q_this_vectors, .ref q_this_dims, .ref q_this_comes, .ref q_this_goes, .ref q_this_cameFrom, .ref q_this_halves, .int v_this_halfMany, .ref q_this_way, .ref q_this_used, .long v_this_hash])), (q_this_now, .inl (k_this_now, 187, .inl c_this_now)), (q_this_levels, .inl (k_this_levels, 64, .inl c_this_levels)), (q_this_howMany, .inl (k_this_howMany, 7, .inl c_this_howMany_23))] H → va_D A [(q_this, .inr (7, [.ref q_this_now, .ref q_this_past, .int v_this_saved, .int v_this_refusal, .ref q_this_list, .ref q_this_at, .ref q_this_levels, .ref q_this_newer, .ref q_this_howMany, .ref q_this_vectors, .ref q_this_dims, .ref q_this_comes, .ref q_this_goes, .ref q_this_cameFrom, .ref q_this_halves, .int v_this_halfMany, .ref q_this_way, .ref q_this_used, .long v_this_hash])), (q_this_now, .inl (k_this_now, 187, .inl c_this_now)), (q_this_levels, .inl (k_this_levels, 64, .inl c_this_levels)), (q_this_howMany, .inl (k_this_howMany, 7, .inl c_this_howMany_23))] → va_S A s.heap H locs → lv_has ls 4 [(0, .ref q_this), (2, .int i2_62), (3, .int i3_62)] → W p l e rm_X7_newLevel s m args below meth c H locs 0 0 Q (F0 m 62 ls []) := by
                intro n62
                induction n62 with
                | zero => intro i2_62 i3_62 hf; exact (zl2_zero hf).elim
                | succ n62 ih62 =>
                  intro i2_62 i3_62 hf H locs ls hP hD hS hl
                  replace hf := zl2_step eF62 hf
                  generalize zl2 F62 n62 = k62 at hf ih62
                  refine lv_iload_n hx hb dX7_newLevel_62 rfl (lv_at hl 2 rfl) ?_
                  refine lv_aload_n hx hb dX7_newLevel_63 rfl (lv_at hl 0 rfl) ?_
                  refine va_get (D := D) (ci := 7) (v := .ref q_this_now) (C := RX7) (T := TX7) (N := 19) hx hb hts n_X7_newLevel_X7 hown hK hP 0 rfl rfl 0 (by decide) (hts (.fieldLink RX7 7 "FaultyCubeModel" "now" "[I") (by decide +kernel)) (fun _ h9 => h9) rfl dX7_newLevel_64 ?_
                  refine lv_iconst (v := 0) hx hb dX7_newLevel_67 (by decide) ?_
                  replace hf := zgd_some hf
                  obtain ⟨g2, hf⟩ := hf
                  refine va_iald (D := D) hx hb hK hP 1 0 rfl rfl (inb_in g2) dX7_newLevel_68 ?_
                  refine lv_icmp_ge (tgt := 94) hx hb dX7_newLevel_69 (by decide) (fun cd69 => ?_) (fun cd69 => ?_)
                  · replace hf := zite_t cd69 hf
                    refine lv_aload_n hx hb dX7_newLevel_94 rfl (lv_at hl 0 rfl) ?_
                    refine va_get (D := D) (ci := 7) (v := .ref q_this_now) (C := RX7) (T := TX7) (N := 19) hx hb hts n_X7_newLevel_X7 hown hK hP 0 rfl rfl 0 (by decide) (hts (.fieldLink RX7 7 "FaultyCubeModel" "now" "[I") (by decide +kernel)) (fun _ h9 => h9) rfl dX7_newLevel_95 ?_
                    refine lv_iconst (v := 0) hx hb dX7_newLevel_98 (by decide) ?_
                    replace hf := zgd_some hf
                    obtain ⟨g3, hf⟩ := hf
                    refine va_iald (D := D) hx hb hK hP 1 0 rfl rfl (inb_in g3) dX7_newLevel_99 ?_
                    obtain rfl := Option.some.inj hf
                    subst eQ
                    exact kr_i hx hb hr hlocks hK hP hD hS dX7_newLevel_100
                  · replace hf := zite_f cd69 hf
                    refine lv_iload_n hx hb dX7_newLevel_72 rfl (lv_at hl 1 rfl) ?_
                    refine lv_iload_n hx hb dX7_newLevel_73 rfl (lv_at hl 2 rfl) ?_
                    refine lv_icmp_le (tgt := 79) hx hb dX7_newLevel_74 (by decide) (fun cd74 => ?_) (fun cd74 => ?_)
                    · replace hf := zite_t cd74 hf
                      refine lv_iload_n hx hb dX7_newLevel_79 rfl (lv_at hl 1 rfl) ?_
                      refine lv_aload_n hx hb dX7_newLevel_80 rfl (lv_at hl 0 rfl) ?_
                      refine va_get (D := D) (ci := 7) (v := .ref q_this_howMany) (C := RX7) (T := TX7) (N := 19) hx hb hts n_X7_newLevel_X7 hown hK hP 0 rfl rfl 8 (by decide) (hts (.fieldLink RX7 28 "FaultyCubeModel" "howMany" "[I") (by decide +kernel)) (fun _ h9 => h9) rfl dX7_newLevel_81 ?_
                      refine lv_iload_n hx hb dX7_newLevel_84 rfl (lv_at hl 2 rfl) ?_
                      replace hf := zgd_some hf
                      obtain ⟨g4, hf⟩ := hf
                      refine va_iald (D := D) hx hb hK hP 3 2 rfl rfl (inb_in g4) dX7_newLevel_85 ?_
                      refine lv_iadd hx hb dX7_newLevel_86 ?_
                      refine lv_topi (fun x5 ex5 => ?_)
                      replace hf := zbd_of ex5 hf
                      refine lv_istore_n (lv' := [(2, .int x5), (0, .ref q_this), (3, .int i3_62)]) hx hb dX7_newLevel_87 rfl hl (by decide) rfl (fun ls hl => ?_)
                      obtain ⟨x6, ex6⟩ : ∃ y : Int32, y = i3_62 + 1 := ⟨_, rfl⟩
                      replace hf := zbd_of ex6 hf
                      refine lv_iinc (v := x6) (lv' := [(3, .int x6), (2, .int x5), (0, .ref q_this)]) hx hb dX7_newLevel_88 hl (k := 2) rfl (by rw [ex6]; rfl) (by decide) rfl (fun ls hl => ?_)
                      refine lv_goto (tgt := 62) hx hb dX7_newLevel_91 (by decide) ?_
                      exact ih62 x5 x6 hf H locs ls hP hD hS (lv_sub hl [2, 1, 0] rfl)
                    · replace hf := zite_f cd74 hf
                      refine lv_iload_n hx hb dX7_newLevel_77 rfl (lv_at hl 2 rfl) ?_
                      obtain rfl := Option.some.inj hf
                      subst eQ
                      exact kr_i hx hb hr hlocks hK hP hD hS dX7_newLevel_78
              exact h62 zfu 0 0 hf H locs ls hP hD hS (lv_sub hl [2, 1, 0] rfl)
            · replace hf := zite_f cd30 hf
              refine lv_aload_n hx hb dX7_newLevel_33 rfl (lv_at hl 0 rfl) ?_
              refine va_get (D := D) (ci := 7) (v := .ref q_this_howMany) (C := RX7) (T := TX7) (N := 19) hx hb hts n_X7_newLevel_X7 hown hK hP 0 rfl rfl 8 (by decide) (hts (.fieldLink RX7 28 "FaultyCubeModel" "howMany" "[I") (by decide +kernel)) (fun _ h9 => h9) rfl dX7_newLevel_34 ?_
              refine lv_aload_n hx hb dX7_newLevel_37 rfl (lv_at hl 0 rfl) ?_
              refine va_get (D := D) (ci := 7) (v := .ref q_this_levels) (C := RX7) (T := TX7) (N := 19) hx hb hts n_X7_newLevel_X7 hown hK hP 0 rfl rfl 6 (by decide) (hts (.fieldLink RX7 22 "FaultyCubeModel" "levels" "[I") (by decide +kernel)) (fun _ h9 => h9) rfl dX7_newLevel_38 ?_
              refine lv_iload_n hx hb dX7_newLevel_41 rfl (lv_at hl 1 rfl) ?_
              refine lv_iconst (v := 1) hx hb dX7_newLevel_42 (by decide) ?_
              refine lv_iload_n hx hb dX7_newLevel_43 rfl (lv_at hl 2 rfl) ?_
              refine lv_ishl hx hb dX7_newLevel_44 ?_
              refine lv_ixor hx hb dX7_newLevel_45 ?_
              replace hf := zgd_some hf
              obtain ⟨g7, hf⟩ := hf
              refine va_iald (D := D) hx hb hK hP 2 1 rfl rfl (inb_in g7) dX7_newLevel_46 ?_
              refine lv_dup2_11 hx hb dX7_newLevel_47 rfl rfl ?_
              replace hf := zgd_some hf
              obtain ⟨g8, hf⟩ := hf
              refine va_iald (D := D) hx hb hK hP 3 2 rfl rfl (inb_in g8) dX7_newLevel_48 ?_
              refine lv_iconst (v := 1) hx hb dX7_newLevel_49 (by decide) ?_
              refine lv_iadd hx hb dX7_newLevel_50 ?_
              refine lv_topi (fun x9 ex9 => ?_)
              replace hf := zbd_of ex9 hf
              replace hf := zgd_some hf
              obtain ⟨g10, hf⟩ := hf
              refine va_iast (D := D) hx hb hK hP hD hS 3 2 rfl rfl (inb_in g10) dX7_newLevel_51 (fun H locs hP hD hS => ?_)
              obtain ⟨y11, ey11⟩ : ∃ y : (Nat → Int32), y = upd c_this_howMany_23 ((c_this_levels ((a1 ^^^ ((1 : Int32) <<< (i2_23 &&& 31))) : Int32).toNatClampNeg) : Int32).toNatClampNeg x9 := ⟨_, rfl⟩
              replace hf := zbd_of ey11 hf
              have hP : va_P D vwCl [(q_this, .inr (7, [.ref q_this_now, .ref q_this_past, .int v_this_saved, .int v_this_refusal, .ref q_this_list, .ref q_this_at, .ref q_this_levels, .ref q_this_newer, .ref q_this_howMany, .ref q_this_vectors, .ref q_this_dims, .ref q_this_comes, .ref q_this_goes, .ref q_this_cameFrom, .ref q_this_halves, .int v_this_halfMany, .ref q_this_way, .ref q_this_used, .long v_this_hash])), (q_this_now, .inl (k_this_now, 187, .inl c_this_now)), (q_this_levels, .inl (k_this_levels, 64, .inl c_this_levels)), (q_this_howMany, .inl (k_this_howMany, 7, .inl y11))] H := by rw [ey11]; exact hP
              have hD : va_D A [(q_this, .inr (7, [.ref q_this_now, .ref q_this_past, .int v_this_saved, .int v_this_refusal, .ref q_this_list, .ref q_this_at, .ref q_this_levels, .ref q_this_newer, .ref q_this_howMany, .ref q_this_vectors, .ref q_this_dims, .ref q_this_comes, .ref q_this_goes, .ref q_this_cameFrom, .ref q_this_halves, .int v_this_halfMany, .ref q_this_way, .ref q_this_used, .long v_this_hash])), (q_this_now, .inl (k_this_now, 187, .inl c_this_now)), (q_this_levels, .inl (k_this_levels, 64, .inl c_this_levels)), (q_this_howMany, .inl (k_this_howMany, 7, .inl y11))] := by rw [ey11]; exact hD
              obtain ⟨x12, ex12⟩ : ∃ y : Int32, y = i2_23 + 1 := ⟨_, rfl⟩
              replace hf := zbd_of ex12 hf
              refine lv_iinc (v := x12) (lv' := [(2, .int x12), (0, .ref q_this), (1, .int a1)]) hx hb dX7_newLevel_52 hl (k := 2) rfl (by rw [ex12]; rfl) (by decide) rfl (fun ls hl => ?_)
              refine lv_goto (tgt := 23) hx hb dX7_newLevel_55 (by decide) ?_
              exact ih23 x12 y11 hf H locs ls hP hD hS (lv_sub hl [1, 2, 0] rfl)
        exact h23 zfu 0 c_this_howMany_2 hf H locs ls hP hD hS (lv_sub hl [1, 2, 0] rfl)
      · replace hf := zite_f cd5 hf
        refine lv_aload_n hx hb dX7_newLevel_8 rfl (lv_at hl 0 rfl) ?_
        refine va_get (D := D) (ci := 7) (v := .ref q_this_howMany) (C := RX7) (T := TX7) (N := 19) hx hb hts n_X7_newLevel_X7 hown hK hP 0 rfl rfl 8 (by decide) (hts (.fieldLink RX7 28 "FaultyCubeModel" "howMany" "[I") (by decide +kernel)) (fun _ h9 => h9) rfl dX7_newLevel_9 ?_
        refine lv_iload_n hx hb dX7_newLevel_12 rfl (lv_at hl 2 rfl) ?_
        refine lv_iconst (v := 0) hx hb dX7_newLevel_13 (by decide) ?_
        replace hf := zgd_some hf
        obtain ⟨g13, hf⟩ := hf
        refine va_iast (D := D) hx hb hK hP hD hS 3 2 rfl rfl (inb_in g13) dX7_newLevel_14 (fun H locs hP hD hS => ?_)
        obtain ⟨y14, ey14⟩ : ∃ y : (Nat → Int32), y = upd c_this_howMany_2 (i2_2 : Int32).toNatClampNeg 0 := ⟨_, rfl⟩
        replace hf := zbd_of ey14 hf
        have hP : va_P D vwCl [(q_this, .inr (7, [.ref q_this_now, .ref q_this_past, .int v_this_saved, .int v_this_refusal, .ref q_this_list, .ref q_this_at, .ref q_this_levels, .ref q_this_newer, .ref q_this_howMany, .ref q_this_vectors, .ref q_this_dims, .ref q_this_comes, .ref q_this_goes, .ref q_this_cameFrom, .ref q_this_halves, .int v_this_halfMany, .ref q_this_way, .ref q_this_used, .long v_this_hash])), (q_this_now, .inl (k_this_now, 187, .inl c_this_now)), (q_this_levels, .inl (k_this_levels, 64, .inl c_this_levels)), (q_this_howMany, .inl (k_this_howMany, 7, .inl y14))] H := by rw [ey14]; exact hP
        have hD : va_D A [(q_this, .inr (7, [.ref q_this_now, .ref q_this_past, .int v_this_saved, .int v_this_refusal, .ref q_this_list, .ref q_this_at, .ref q_this_levels, .ref q_this_newer, .ref q_this_howMany, .ref q_this_vectors, .ref q_this_dims, .ref q_this_comes, .ref q_this_goes, .ref q_this_cameFrom, .ref q_this_halves, .int v_this_halfMany, .ref q_this_way, .ref q_this_used, .long v_this_hash])), (q_this_now, .inl (k_this_now, 187, .inl c_this_now)), (q_this_levels, .inl (k_this_levels, 64, .inl c_this_levels)), (q_this_howMany, .inl (k_this_howMany, 7, .inl y14))] := by rw [ey14]; exact hD
        obtain ⟨x15, ex15⟩ : ∃ y : Int32, y = i2_2 + 1 := ⟨_, rfl⟩
        replace hf := zbd_of ex15 hf
        refine lv_iinc (v := x15) (lv' := [(2, .int x15), (0, .ref q_this), (1, .int a1)]) hx hb dX7_newLevel_15 hl (k := 2) rfl (by rw [ex15]; rfl) (by decide) rfl (fun ls hl => ?_)
        refine lv_goto (tgt := 2) hx hb dX7_newLevel_18 (by decide) ?_
        exact ih2 x15 y14 hf H locs ls hP hD hS (lv_sub hl [1, 2, 0] rfl)
  exact h2 zfu 0 c_this_howMany hf s.heap [] ls hP hD hS (lv_sub hl [1, 2, 0] rfl)
theorem n_X7_findLevels_X7 : ∀ w ∈ u_ws RX7 TX7 19, w ∈ wsX7_findLevels := by decide +kernel
abbrev rm_X7_findLevels : Room := { frames := 1, cells := 0, slots := 0, locals := 23 }
set_option maxHeartbeats 4000000 in
set_option maxRecDepth 100000 in
theorem c_X7_findLevels (l : Launch) (D : va_G) (sz : Nat) (q_this : Nat) (q_this_now : Nat) (q_this_past : Nat) (q_this_list : Nat) (q_this_at : Nat) (q_this_levels : Nat) (q_this_newer : Nat) (q_this_howMany : Nat) (q_this_vectors : Nat) (q_this_dims : Nat) (q_this_comes : Nat) (q_this_goes : Nat) (q_this_cameFrom : Nat) (q_this_halves : Nat) (q_this_way : Nat) (q_this_used : Nat) (k_this_now : ClassId) (k_this_levels : ClassId) (k_this_newer : ClassId) (k_this_howMany : ClassId) (v_this_saved : Int32) (v_this_refusal : Int32) (v_this_halfMany : Int32) (v_this_hash : Int64) (c_this_now : (Nat → Int32)) (c_this_levels : (Nat → Int32)) (c_this_newer : (Nat → Int32)) (c_this_howMany : (Nat → Int32)) (res : rt_X7_findLevels) (hf : f_X7_findLevels c_this_now c_this_levels c_this_newer c_this_howMany = some res) : Met l yX7_findLevels wsX7_findLevels rm_X7_findLevels (kP D [.ref q_this] [(q_this, .inr (7, [.ref q_this_now, .ref q_this_past, .int v_this_saved, .int v_this_refusal, .ref q_this_list, .ref q_this_at, .ref q_this_levels, .ref q_this_newer, .ref q_this_howMany, .ref q_this_vectors, .ref q_this_dims, .ref q_this_comes, .ref q_this_goes, .ref q_this_cameFrom, .ref q_this_halves, .int v_this_halfMany, .ref q_this_way, .ref q_this_used, .long v_this_hash])), (q_this_now, .inl (k_this_now, 187, .inl c_this_now)), (q_this_levels, .inl (k_this_levels, 64, .inl c_this_levels)), (q_this_newer, .inl (k_this_newer, 64, .inl c_this_newer)), (q_this_howMany, .inl (k_this_howMany, 7, .inl c_this_howMany))] [(k_this_now, .int), (k_this_levels, .int), (k_this_newer, .int), (k_this_howMany, .int)] sz) (kQi D (va_A [(q_this, .inr (7, [.ref q_this_now, .ref q_this_past, .int v_this_saved, .int v_this_refusal, .ref q_this_list, .ref q_this_at, .ref q_this_levels, .ref q_this_newer, .ref q_this_howMany, .ref q_this_vectors, .ref q_this_dims, .ref q_this_comes, .ref q_this_goes, .ref q_this_cameFrom, .ref q_this_halves, .int v_this_halfMany, .ref q_this_way, .ref q_this_used, .long v_this_hash])), (q_this_now, .inl (k_this_now, 187, .inl c_this_now)), (q_this_levels, .inl (k_this_levels, 64, .inl c_this_levels)), (q_this_newer, .inl (k_this_newer, 64, .inl c_this_newer)), (q_this_howMany, .inl (k_this_howMany, 7, .inl c_this_howMany))] sz) [(k_this_now, .int), (k_this_levels, .int), (k_this_newer, .int), (k_this_howMany, .int)] res.1 [(q_this, .inr (7, [.ref q_this_now, .ref q_this_past, .int v_this_saved, .int v_this_refusal, .ref q_this_list, .ref q_this_at, .ref q_this_levels, .ref q_this_newer, .ref q_this_howMany, .ref q_this_vectors, .ref q_this_dims, .ref q_this_comes, .ref q_this_goes, .ref q_this_cameFrom, .ref q_this_halves, .int v_this_halfMany, .ref q_this_way, .ref q_this_used, .long v_this_hash])), (q_this_now, .inl (k_this_now, 187, .inl c_this_now)), (q_this_levels, .inl (k_this_levels, 64, .inl res.2.1)), (q_this_newer, .inl (k_this_newer, 64, .inl res.2.2.1)), (q_this_howMany, .inl (k_this_howMany, 7, .inl res.2.2.2))]) 0 0 (va_A [(q_this, .inr (7, [.ref q_this_now, .ref q_this_past, .int v_this_saved, .int v_this_refusal, .ref q_this_list, .ref q_this_at, .ref q_this_levels, .ref q_this_newer, .ref q_this_howMany, .ref q_this_vectors, .ref q_this_dims, .ref q_this_comes, .ref q_this_goes, .ref q_this_cameFrom, .ref q_this_halves, .int v_this_halfMany, .ref q_this_way, .ref q_this_used, .long v_this_hash])), (q_this_now, .inl (k_this_now, 187, .inl c_this_now)), (q_this_levels, .inl (k_this_levels, 64, .inl c_this_levels)), (q_this_newer, .inl (k_this_newer, 64, .inl c_this_newer)), (q_this_howMany, .inl (k_this_howMany, 7, .inl c_this_howMany))] sz) := by
  refine Met.ofW (cc := cX7_findLevels) (maxL := 4) (ret := (some .int)) (by decide +kernel) rfl ?_
  intro p e s m args below meth c s₁ B hml hv
  obtain ⟨hargs, hsz, hP, hK, hD0, hE⟩ := hv
  have hx := B.exec
  have hb := B.bytes
  have hr := B.returns
  have hts := atoms_spec (ws := wsX7_findLevels) B.pre
  have hown : s.vm.findClass RX7 = some m.cls := findClass_of_methodNamed B.named
  have hlocks := B.notSynchronized
  subst hsz
  have hD := hD0.self (sz := s.heap.size)
  generalize hAe : va_A [(q_this, .inr (7, [.ref q_this_now, .ref q_this_past, .int v_this_saved, .int v_this_refusal, .ref q_this_list, .ref q_this_at, .ref q_this_levels, .ref q_this_newer, .ref q_this_howMany, .ref q_this_vectors, .ref q_this_dims, .ref q_this_comes, .ref q_this_goes, .ref q_this_cameFrom, .ref q_this_halves, .int v_this_halfMany, .ref q_this_way, .ref q_this_used, .long v_this_hash])), (q_this_now, .inl (k_this_now, 187, .inl c_this_now)), (q_this_levels, .inl (k_this_levels, 64, .inl c_this_levels)), (q_this_newer, .inl (k_this_newer, 64, .inl c_this_newer)), (q_this_howMany, .inl (k_this_howMany, 7, .inl c_this_howMany))] s.heap.size = A at hD hE ⊢
  have hA : ∀ q : Nat, s.heap.size ≤ q → A q := fun q h => by rw [← hAe]; exact Or.inr h
  have hS : va_S A s.heap s.heap [] := va_S.rf
  refine kgen (fun Q eQ => ?_)
  refine kent (av := [.ref q_this]) hargs (Nat.le_of_ble_eq_true rfl) (fun ls hl => ?_)
  have hl : lv_has ls 4 [(0, .ref q_this)] := hl
  show W p l e rm_X7_findLevels s m args below meth c s.heap [] 0 0 Q (F0 m 0 ls [])
  unfold f_X7_findLevels at hf
  refine lv_iconst (v := 0) hx hb dX7_findLevels_0 (by decide) ?_
  refine lv_istore_n (lv' := [(1, .int 0), (0, .ref q_this)]) hx hb dX7_findLevels_1 rfl hl (by decide) rfl (fun ls hl => ?_)
  replace hf := zl2_some hf
  obtain ⟨F2, eF2, hf⟩ := hf
  have h2 : ∀ (n2 : Nat) (i1_2 : Int32) (c_this_levels_2 : (Nat → Int32)), zl2 F2 n2 i1_2 c_this_levels_2 = some res → ∀ (H : Heap) (locs : List Loc) (ls : Array Slot), va_P D vwCl [(q_this, .inr (7, [.ref q_this_now, .ref q_this_past, .int v_this_saved, .int v_this_refusal, .ref q_this_list, .ref q_this_at, .ref q_this_levels, .ref q_this_newer, .ref q_this_howMany, .ref q_this_vectors, .ref q_this_dims, .ref q_this_comes, .ref q_this_goes, .ref q_this_cameFrom, .ref q_this_halves, .int v_this_halfMany, .ref q_this_way, .ref q_this_used, .long v_this_hash])), (q_this_now, .inl (k_this_now, 187, .inl c_this_now)), (q_this_levels, .inl (k_this_levels, 64, .inl c_this_levels_2)), (q_this_newer, .inl (k_this_newer, 64, .inl c_this_newer)), (q_this_howMany, .inl (k_this_howMany, 7, .inl c_this_howMany))] H → va_D A [(q_this, .inr (7, [.ref q_this_now, .ref q_this_past, .int v_this_saved, .int v_this_refusal, .ref q_this_list, .ref q_this_at, .ref q_this_levels, .ref q_this_newer, .ref q_this_howMany, .ref q_this_vectors, .ref q_this_dims, .ref q_this_comes, .ref q_this_goes, .ref q_this_cameFrom, .ref q_this_halves, .int v_this_halfMany, .ref q_this_way, .ref q_this_used, .long v_this_hash])), (q_this_now, .inl (k_this_now, 187, .inl c_this_now)), (q_this_levels, .inl (k_this_levels, 64, .inl c_this_levels_2)), (q_this_newer, .inl (k_this_newer, 64, .inl c_this_newer)), (q_this_howMany, .inl (k_this_howMany, 7, .inl c_this_howMany))] → va_S A s.heap H locs → lv_has ls 4 [(0, .ref q_this), (1, .int i1_2)] → W p l e rm_X7_findLevels s m args below meth c H locs 0 0 Q (F0 m 2 ls []) := by
    intro n2
    induction n2 with
    | zero => intro i1_2 c_this_levels_2 hf; exact (zl2_zero hf).elim
    | succ n2 ih2 =>
      intro i1_2 c_this_levels_2 hf H locs ls hP hD hS hl
      replace hf := zl2_step eF2 hf
      generalize zl2 F2 n2 = k2 at hf ih2
      refine lv_iload_n hx hb dX7_findLevels_2 rfl (lv_at hl 1 rfl) ?_
      refine lv_aload_n hx hb dX7_findLevels_3 rfl (lv_at hl 0 rfl) ?_
      replace hf := zob_some hf
      obtain ⟨u1, hu1, hf⟩ := hf
      refine kd_i (D := D) (v := u1) (av := [.ref q_this]) (wc := [(q_this, .inr (7, [.ref q_this_now, .ref q_this_past, .int v_this_saved, .int v_this_refusal, .ref q_this_list, .ref q_this_at, .ref q_this_levels, .ref q_this_newer, .ref q_this_howMany, .ref q_this_vectors, .ref q_this_dims, .ref q_this_comes, .ref q_this_goes, .ref q_this_cameFrom, .ref q_this_halves, .int v_this_halfMany, .ref q_this_way, .ref q_this_used, .long v_this_hash])), (q_this_now, .inl (k_this_now, 187, .inl c_this_now))]) (w1 := [(q_this, .inr (7, [.ref q_this_now, .ref q_this_past, .int v_this_saved, .int v_this_refusal, .ref q_this_list, .ref q_this_at, .ref q_this_levels, .ref q_this_newer, .ref q_this_howMany, .ref q_this_vectors, .ref q_this_dims, .ref q_this_comes, .ref q_this_goes, .ref q_this_cameFrom, .ref q_this_halves, .int v_this_halfMany, .ref q_this_way, .ref q_this_used, .long v_this_hash])), (q_this_now, .inl (k_this_now, 187, .inl c_this_now))]) (ws2 := [(q_this, .inr (7, [.ref q_this_now, .ref q_this_past, .int v_this_saved, .int v_this_refusal, .ref q_this_list, .ref q_this_at, .ref q_this_levels, .ref q_this_newer, .ref q_this_howMany, .ref q_this_vectors, .ref q_this_dims, .ref q_this_comes, .ref q_this_goes, .ref q_this_cameFrom, .ref q_this_halves, .int v_this_halfMany, .ref q_this_way, .ref q_this_used, .long v_this_hash])), (q_this_now, .inl (k_this_now, 187, .inl c_this_now)), (q_this_levels, .inl (k_this_levels, 64, .inl c_this_levels_2)), (q_this_newer, .inl (k_this_newer, 64, .inl c_this_newer)), (q_this_howMany, .inl (k_this_howMany, 7, .inl c_this_howMany))]) hK hP hD hS hA hE [0, 1] [0] [2, 3, 4] [3, 4, 0, 1, 2] (fun hb1 hp1 => va_runV (As := []) (rest := [.int i1_2]) ⟨hx, hb, hml, hown, hts⟩ (c_X7_nodes l D H.size q_this q_this_now q_this_past q_this_list q_this_at q_this_levels q_this_newer q_this_howMany q_this_vectors q_this_dims q_this_comes q_this_goes q_this_cameFrom q_this_halves q_this_way q_this_used k_this_now v_this_saved v_this_refusal v_this_halfMany v_this_hash c_this_now u1 hu1) (cwV 0 hts gX7_findLevels_X7_nodes rfl rfl rfl (by decide +kernel) ⟨Nat.le_of_ble_eq_true rfl, Nat.le_of_ble_eq_true rfl⟩) ⟨hb1, va_recv hK hP (ci := 7) (q0 := 0) rfl rfl, hp1⟩ rfl rfl hl.1 rfl (lv_room (Nat.le_of_ble_eq_true rfl)) dX7_findLevels_4 ⟨Nat.le_of_ble_eq_true rfl, Nat.le_of_ble_eq_true rfl⟩) rfl rfl rfl rfl rfl rfl rfl rfl rfl rfl (fun H locs hP hD hS => ?_)
      have hP : va_P D vwCl [(q_this, .inr (7, [.ref q_this_now, .ref q_this_past, .int v_this_saved, .int v_this_refusal, .ref q_this_list, .ref q_this_at, .ref q_this_levels, .ref q_this_newer, .ref q_this_howMany, .ref q_this_vectors, .ref q_this_dims, .ref q_this_comes, .ref q_this_goes, .ref q_this_cameFrom, .ref q_this_halves, .int v_this_halfMany, .ref q_this_way, .ref q_this_used, .long v_this_hash])), (q_this_now, .inl (k_this_now, 187, .inl c_this_now)), (q_this_levels, .inl (k_this_levels, 64, .inl c_this_levels_2)), (q_this_newer, .inl (k_this_newer, 64, .inl c_this_newer)), (q_this_howMany, .inl (k_this_howMany, 7, .inl c_this_howMany))] H := hP
      have hD : va_D A [(q_this, .inr (7, [.ref q_this_now, .ref q_this_past, .int v_this_saved, .int v_this_refusal, .ref q_this_list, .ref q_this_at, .ref q_this_levels, .ref q_this_newer, .ref q_this_howMany, .ref q_this_vectors, .ref q_this_dims, .ref q_this_comes, .ref q_this_goes, .ref q_this_cameFrom, .ref q_this_halves, .int v_this_halfMany, .ref q_this_way, .ref q_this_used, .long v_this_hash])), (q_this_now, .inl (k_this_now, 187, .inl c_this_now)), (q_this_levels, .inl (k_this_levels, 64, .inl c_this_levels_2)), (q_this_newer, .inl (k_this_newer, 64, .inl c_this_newer)), (q_this_howMany, .inl (k_this_howMany, 7, .inl c_this_howMany))] := hD
      refine lv_icmp_ge (tgt := 40) hx hb dX7_findLevels_7 (by decide) (fun cd7 => ?_) (fun cd7 => ?_)
      · replace hf := zite_t cd7 hf
        refine lv_iconst (v := 0) hx hb dX7_findLevels_40 (by decide) ?_
        refine lv_istore_n (lv' := [(1, .int 0), (0, .ref q_this)]) hx hb dX7_findLevels_41 rfl hl (by decide) rfl (fun ls hl => ?_)
        refine lv_iconst (v := 1) hx hb dX7_findLevels_42 (by decide) ?_
        refine lv_istore_n (lv' := [(2, .int 1), (1, .int 0), (0, .ref q_this)]) hx hb dX7_findLevels_43 rfl hl (by decide) rfl (fun ls hl => ?_)
        replace hf := zl5_some hf
        obtain ⟨F44, eF44, hf⟩ := hf
        have h44 : ∀ (n44 : Nat) (i1_44 : Int32) (i2_44 : Int32) (c_this_levels_44 : (Nat → Int32)) (c_this_newer_44 : (Nat → Int32)) (c_this_howMany_44 : (Nat → Int32)), zl5 F44 n44 i1_44 i2_44 c_this_levels_44 c_this_newer_44 c_this_howMany_44 = some res → ∀ (H : Heap) (locs : List Loc) (ls : Array Slot), va_P D vwCl [(q_this, .inr (7, [.ref q_this_now, .ref q_this_past, .int v_this_saved, .int v_this_refusal, .ref q_this_list, .ref q_this_at, .ref q_this_levels, .ref q_this_newer, .ref q_this_howMany, .ref q_this_vectors, .ref q_this_dims, .ref q_this_comes, .ref q_this_goes, .ref q_this_cameFrom, .ref q_this_halves, .int v_this_halfMany, .ref q_this_way, .ref q_this_used, .long v_this_hash])), (q_this_now, .inl (k_this_now, 187, .inl c_this_now)), (q_this_levels, .inl (k_this_levels, 64, .inl c_this_levels_44)), (q_this_newer, .inl (k_this_newer, 64, .inl c_this_newer_44)), (q_this_howMany, .inl (k_this_howMany, 7, .inl c_this_howMany_44))] H → va_D A [(q_this, .inr (7, [.ref q_this_now, .ref q_this_past, .int v_this_saved, .int v_this_refusal, .ref q_this_list, .ref q_this_at, .ref q_this_levels, .ref q_this_newer, .ref q_this_howMany, .ref q_this_vectors, .ref q_this_dims, .ref q_this_comes, .ref q_this_goes, .ref q_this_cameFrom, .ref q_this_halves, .int v_this_halfMany, .ref q_this_way, .ref q_this_used, .long v_this_hash])), (q_this_now, .inl (k_this_now, 187, .inl c_this_now)), (q_this_levels, .inl (k_this_levels, 64, .inl c_this_levels_44)), (q_this_newer, .inl (k_this_newer, 64, .inl c_this_newer_44)), (q_this_howMany, .inl (k_this_howMany, 7, .inl c_this_howMany_44))] → va_S A s.heap H locs → lv_has ls 4 [(0, .ref q_this), (1, .int i1_44), (2, .int i2_44)] → W p l e rm_X7_findLevels s m args below meth c H locs 0 0 Q (F0 m 44 ls []) := by
          intro n44
          induction n44 with
          | zero => intro i1_44 i2_44 c_this_levels_44 c_this_newer_44 c_this_howMany_44 hf; exact (zl5_zero hf).elim
          | succ n44 ih44 =>
            intro i1_44 i2_44 c_this_levels_44 c_this_newer_44 c_this_howMany_44 hf H locs ls hP hD hS hl
            replace hf := zl5_step eF44 hf
            generalize zl5 F44 n44 = k44 at hf ih44
            refine lv_iload_n hx hb dX7_findLevels_44 rfl (lv_at hl 2 rfl) ?_
            refine lv_if_eq (tgt := 157) hx hb dX7_findLevels_45 (by decide) (fun cd45 => ?_) (fun cd45 => ?_)
            · replace hf := zite_t cd45 hf
              refine lv_iload_n hx hb dX7_findLevels_157 rfl (lv_at hl 1 rfl) ?_
              obtain rfl := Option.some.inj hf
              subst eQ
              exact kr_i hx hb hr hlocks hK hP hD hS dX7_findLevels_158
            · replace hf := zite_f cd45 hf
              refine lv_iconst (v := 0) hx hb dX7_findLevels_48 (by decide) ?_
              refine lv_istore_n (lv' := [(2, .int 0), (0, .ref q_this), (1, .int i1_44)]) hx hb dX7_findLevels_49 rfl hl (by decide) rfl (fun ls hl => ?_)
              refine lv_iconst (v := 0) hx hb dX7_findLevels_50 (by decide) ?_
              refine lv_istore_n (lv' := [(3, .int 0), (2, .int 0), (0, .ref q_this), (1, .int i1_44)]) hx hb dX7_findLevels_51 rfl hl (by decide) rfl (fun ls hl => ?_)
              replace hf := zl4_some hf
              obtain ⟨F52, eF52, hf⟩ := hf
              have h52 : ∀ (n52 : Nat) (i2_52 : Int32) (i3_52 : Int32) (c_this_newer_52 : (Nat → Int32)) (c_this_howMany_52 : (Nat → Int32)), zl4 F52 n52 i2_52 i3_52 c_this_newer_52 c_this_howMany_52 = some res → ∀ (H : Heap) (locs : List Loc) (ls : Array Slot), va_P D vwCl [(q_this, .inr (7, [.ref q_this_now, .ref q_this_past, .int v_this_saved, .int v_this_refusal, .ref q_this_list, .ref q_this_at, .ref q_this_levels, .ref q_this_newer, .ref q_this_howMany, .ref q_this_vectors, .ref q_this_dims, .ref q_this_comes, .ref q_this_goes, .ref q_this_cameFrom, .ref q_this_halves, .int v_this_halfMany, .ref q_this_way, .ref q_this_used, .long v_this_hash])), (q_this_now, .inl (k_this_now, 187, .inl c_this_now)), (q_this_levels, .inl (k_this_levels, 64, .inl c_this_levels_44)), (q_this_newer, .inl (k_this_newer, 64, .inl c_this_newer_52)), (q_this_howMany, .inl (k_this_howMany, 7, .inl c_this_howMany_52))] H → va_D A [(q_this, .inr (7, [.ref q_this_now, .ref q_this_past, .int v_this_saved, .int v_this_refusal, .ref q_this_list, .ref q_this_at, .ref q_this_levels, .ref q_this_newer, .ref q_this_howMany, .ref q_this_vectors, .ref q_this_dims, .ref q_this_comes, .ref q_this_goes, .ref q_this_cameFrom, .ref q_this_halves, .int v_this_halfMany, .ref q_this_way, .ref q_this_used, .long v_this_hash])), (q_this_now, .inl (k_this_now, 187, .inl c_this_now)), (q_this_levels, .inl (k_this_levels, 64, .inl c_this_levels_44)), (q_this_newer, .inl (k_this_newer, 64, .inl c_this_newer_52)), (q_this_howMany, .inl (k_this_howMany, 7, .inl c_this_howMany_52))] → va_S A s.heap H locs → lv_has ls 4 [(0, .ref q_this), (1, .int i1_44), (2, .int i2_52), (3, .int i3_52)] → W p l e rm_X7_findLevels s m args below meth c H locs 0 0 Q (F0 m 52 ls []) := by
                intro n52
                induction n52 with
                | zero => intro i2_52 i3_52 c_this_newer_52 c_this_howMany_52 hf; exact (zl4_zero hf).elim
                | succ n52 ih52 =>
                  intro i2_52 i3_52 c_this_newer_52 c_this_howMany_52 hf H locs ls hP hD hS hl
                  replace hf := zl4_step eF52 hf
                  generalize zl4 F52 n52 = k52 at hf ih52
                  refine lv_iload_n hx hb dX7_findLevels_52 rfl (lv_at hl 3 rfl) ?_
                  refine lv_aload_n hx hb dX7_findLevels_53 rfl (lv_at hl 0 rfl) ?_
                  replace hf := zob_some hf
                  obtain ⟨u2, hu2, hf⟩ := hf
                  refine kd_i (D := D) (v := u2) (av := [.ref q_this]) (wc := [(q_this, .inr (7, [.ref q_this_now, .ref q_this_past, .int v_this_saved, .int v_this_refusal, .ref q_this_list, .ref q_this_at, .ref q_this_levels, .ref q_this_newer, .ref q_this_howMany, .ref q_this_vectors, .ref q_this_dims, .ref q_this_comes, .ref q_this_goes, .ref q_this_cameFrom, .ref q_this_halves, .int v_this_halfMany, .ref q_this_way, .ref q_this_used, .long v_this_hash])), (q_this_now, .inl (k_this_now, 187, .inl c_this_now))]) (w1 := [(q_this, .inr (7, [.ref q_this_now, .ref q_this_past, .int v_this_saved, .int v_this_refusal, .ref q_this_list, .ref q_this_at, .ref q_this_levels, .ref q_this_newer, .ref q_this_howMany, .ref q_this_vectors, .ref q_this_dims, .ref q_this_comes, .ref q_this_goes, .ref q_this_cameFrom, .ref q_this_halves, .int v_this_halfMany, .ref q_this_way, .ref q_this_used, .long v_this_hash])), (q_this_now, .inl (k_this_now, 187, .inl c_this_now))]) (ws2 := [(q_this, .inr (7, [.ref q_this_now, .ref q_this_past, .int v_this_saved, .int v_this_refusal, .ref q_this_list, .ref q_this_at, .ref q_this_levels, .ref q_this_newer, .ref q_this_howMany, .ref q_this_vectors, .ref q_this_dims, .ref q_this_comes, .ref q_this_goes, .ref q_this_cameFrom, .ref q_this_halves, .int v_this_halfMany, .ref q_this_way, .ref q_this_used, .long v_this_hash])), (q_this_now, .inl (k_this_now, 187, .inl c_this_now)), (q_this_levels, .inl (k_this_levels, 64, .inl c_this_levels_44)), (q_this_newer, .inl (k_this_newer, 64, .inl c_this_newer_52)), (q_this_howMany, .inl (k_this_howMany, 7, .inl c_this_howMany_52))]) hK hP hD hS hA hE [0, 1] [0] [2, 3, 4] [3, 4, 0, 1, 2] (fun hb1 hp1 => va_runV (As := []) (rest := [.int i3_52]) ⟨hx, hb, hml, hown, hts⟩ (c_X7_nodes l D H.size q_this q_this_now q_this_past q_this_list q_this_at q_this_levels q_this_newer q_this_howMany q_this_vectors q_this_dims q_this_comes q_this_goes q_this_cameFrom q_this_halves q_this_way q_this_used k_this_now v_this_saved v_this_refusal v_this_halfMany v_this_hash c_this_now u2 hu2) (cwV 0 hts gX7_findLevels_X7_nodes rfl rfl rfl (by decide +kernel) ⟨Nat.le_of_ble_eq_true rfl, Nat.le_of_ble_eq_true rfl⟩) ⟨hb1, va_recv hK hP (ci := 7) (q0 := 0) rfl rfl, hp1⟩ rfl rfl hl.1 rfl (lv_room (Nat.le_of_ble_eq_true rfl)) dX7_findLevels_54 ⟨Nat.le_of_ble_eq_true rfl, Nat.le_of_ble_eq_true rfl⟩) rfl rfl rfl rfl rfl rfl rfl rfl rfl rfl (fun H locs hP hD hS => ?_)
                  have hP : va_P D vwCl [(q_this, .inr (7, [.ref q_this_now, .ref q_this_past, .int v_this_saved, .int v_this_refusal, .ref q_this_list, .ref q_this_at, .ref q_this_levels, .ref q_this_newer, .ref q_this_howMany, .ref q_this_vectors, .ref q_this_dims, .ref q_this_comes, .ref q_this_goes, .ref q_this_cameFrom, .ref q_this_halves, .int v_this_halfMany, .ref q_this_way, .ref q_this_used, .long v_this_hash])), (q_this_now, .inl (k_this_now, 187, .inl c_this_now)), (q_this_levels, .inl (k_this_levels, 64, .inl c_this_levels_44)), (q_this_newer, .inl (k_this_newer, 64, .inl c_this_newer_52)), (q_this_howMany, .inl (k_this_howMany, 7, .inl c_this_howMany_52))] H := hP
                  have hD : va_D A [(q_this, .inr (7, [.ref q_this_now, .ref q_this_past, .int v_this_saved, .int v_this_refusal, .ref q_this_list, .ref q_this_at, .ref q_this_levels, .ref q_this_newer, .ref q_this_howMany, .ref q_this_vectors, .ref q_this_dims, .ref q_this_comes, .ref q_this_goes, .ref q_this_cameFrom, .ref q_this_halves, .int v_this_halfMany, .ref q_this_way, .ref q_this_used, .long v_this_hash])), (q_this_now, .inl (k_this_now, 187, .inl c_this_now)), (q_this_levels, .inl (k_this_levels, 64, .inl c_this_levels_44)), (q_this_newer, .inl (k_this_newer, 64, .inl c_this_newer_52)), (q_this_howMany, .inl (k_this_howMany, 7, .inl c_this_howMany_52))] := hD
                  refine lv_icmp_ge (tgt := 114) hx hb dX7_findLevels_57 (by decide) (fun cd57 => ?_) (fun cd57 => ?_)
                  · replace hf := zite_t cd57 hf
                    refine lv_iconst (v := 0) hx hb dX7_findLevels_114 (by decide) ?_
                    refine lv_istore_n (lv' := [(3, .int 0), (0, .ref q_this), (1, .int i1_44), (2, .int i2_52)]) hx hb dX7_findLevels_115 rfl hl (by decide) rfl (fun ls hl => ?_)
                    replace hf := zl2_some hf
                    obtain ⟨F116, eF116, hf⟩ := hf
                    have h116 : ∀ (n116 : Nat) (i3_116 : Int32) (c_this_levels_116 : (Nat → Int32)), zl2 F116 n116 i3_116 c_this_levels_116 = some res → ∀ (H : Heap) (locs : List Loc) (ls : Array Slot), va_P D vwCl [(q_this, .inr (7, [.ref q_this_now, .ref q_this_past, .int v_this_saved, .int v_this_refusal, .ref q_this_list, .ref q_this_at, .ref q_this_levels, .ref q_this_newer, .ref q_this_howMany, .ref q_this_vectors, .ref q_this_dims, .ref q_this_comes, .ref q_this_goes, .ref q_this_cameFrom, .ref q_this_halves, .int v_this_halfMany, .ref q_this_way, .ref q_this_used, .long v_this_hash])), (q_this_now, .inl (k_this_now, 187, .inl c_this_now)), (q_this_levels, .inl (k_this_levels, 64, .inl c_this_levels_116)), (q_this_newer, .inl (k_this_newer, 64, .inl c_this_newer_52)), (q_this_howMany, .inl (k_this_howMany, 7, .inl c_this_howMany_52))] H → va_D A [(q_this, .inr (7, [.ref q_this_now, .ref q_this_past, .int v_this_saved, .int v_this_refusal, .ref q_this_list, .ref q_this_at, .ref q_this_levels, .ref q_this_newer, .ref q_this_howMany, .ref q_this_vectors, .ref q_this_dims, .ref q_this_comes, .ref q_this_goes, .ref q_this_cameFrom, .ref q_this_halves, .int v_this_halfMany, .ref q_this_way, .ref q_this_used, .long v_this_hash])), (q_this_now, .inl (k_this_now, 187, .inl c_this_now)), (q_this_levels, .inl (k_this_levels, 64, .inl c_this_levels_116)), (q_this_newer, .inl (k_this_newer, 64, .inl c_this_newer_52)), (q_this_howMany, .inl (k_this_howMany, 7, .inl c_this_howMany_52))] → va_S A s.heap H locs → lv_has ls 4 [(0, .ref q_this), (1, .int i1_44), (2, .int i2_52), (3, .int i3_116)] → W p l e rm_X7_findLevels s m args below meth c H locs 0 0 Q (F0 m 116 ls []) := by
                      intro n116
                      induction n116 with
                      | zero => intro i3_116 c_this_levels_116 hf; exact (zl2_zero hf).elim
                      | succ n116 ih116 =>
                        intro i3_116 c_this_levels_116 hf H locs ls hP hD hS hl
                        replace hf := zl2_step eF116 hf
                        generalize zl2 F116 n116 = k116 at hf ih116
                        refine lv_iload_n hx hb dX7_findLevels_116 rfl (lv_at hl 3 rfl) ?_
                        refine lv_aload_n hx hb dX7_findLevels_117 rfl (lv_at hl 0 rfl) ?_
                        replace hf := zob_some hf
                        obtain ⟨u3, hu3, hf⟩ := hf
                        refine kd_i (D := D) (v := u3) (av := [.ref q_this]) (wc := [(q_this, .inr (7, [.ref q_this_now, .ref q_this_past, .int v_this_saved, .int v_this_refusal, .ref q_this_list, .ref q_this_at, .ref q_this_levels, .ref q_this_newer, .ref q_this_howMany, .ref q_this_vectors, .ref q_this_dims, .ref q_this_comes, .ref q_this_goes, .ref q_this_cameFrom, .ref q_this_halves, .int v_this_halfMany, .ref q_this_way, .ref q_this_used, .long v_this_hash])), (q_this_now, .inl (k_this_now, 187, .inl c_this_now))]) (w1 := [(q_this, .inr (7, [.ref q_this_now, .ref q_this_past, .int v_this_saved, .int v_this_refusal, .ref q_this_list, .ref q_this_at, .ref q_this_levels, .ref q_this_newer, .ref q_this_howMany, .ref q_this_vectors, .ref q_this_dims, .ref q_this_comes, .ref q_this_goes, .ref q_this_cameFrom, .ref q_this_halves, .int v_this_halfMany, .ref q_this_way, .ref q_this_used, .long v_this_hash])), (q_this_now, .inl (k_this_now, 187, .inl c_this_now))]) (ws2 := [(q_this, .inr (7, [.ref q_this_now, .ref q_this_past, .int v_this_saved, .int v_this_refusal, .ref q_this_list, .ref q_this_at, .ref q_this_levels, .ref q_this_newer, .ref q_this_howMany, .ref q_this_vectors, .ref q_this_dims, .ref q_this_comes, .ref q_this_goes, .ref q_this_cameFrom, .ref q_this_halves, .int v_this_halfMany, .ref q_this_way, .ref q_this_used, .long v_this_hash])), (q_this_now, .inl (k_this_now, 187, .inl c_this_now)), (q_this_levels, .inl (k_this_levels, 64, .inl c_this_levels_116)), (q_this_newer, .inl (k_this_newer, 64, .inl c_this_newer_52)), (q_this_howMany, .inl (k_this_howMany, 7, .inl c_this_howMany_52))]) hK hP hD hS hA hE [0, 1] [0] [2, 3, 4] [3, 4, 0, 1, 2] (fun hb1 hp1 => va_runV (As := []) (rest := [.int i3_116]) ⟨hx, hb, hml, hown, hts⟩ (c_X7_nodes l D H.size q_this q_this_now q_this_past q_this_list q_this_at q_this_levels q_this_newer q_this_howMany q_this_vectors q_this_dims q_this_comes q_this_goes q_this_cameFrom q_this_halves q_this_way q_this_used k_this_now v_this_saved v_this_refusal v_this_halfMany v_this_hash c_this_now u3 hu3) (cwV 0 hts gX7_findLevels_X7_nodes rfl rfl rfl (by decide +kernel) ⟨Nat.le_of_ble_eq_true rfl, Nat.le_of_ble_eq_true rfl⟩) ⟨hb1, va_recv hK hP (ci := 7) (q0 := 0) rfl rfl, hp1⟩ rfl rfl hl.1 rfl (lv_room (Nat.le_of_ble_eq_true rfl)) dX7_findLevels_118 ⟨Nat.le_of_ble_eq_true rfl, Nat.le_of_ble_eq_true rfl⟩) rfl rfl rfl rfl rfl rfl rfl rfl rfl rfl (fun H locs hP hD hS => ?_)
                        have hP : va_P D vwCl [(q_this, .inr (7, [.ref q_this_now, .ref q_this_past, .int v_this_saved, .int v_this_refusal, .ref q_this_list, .ref q_this_at, .ref q_this_levels, .ref q_this_newer, .ref q_this_howMany, .ref q_this_vectors, .ref q_this_dims, .ref q_this_comes, .ref q_this_goes, .ref q_this_cameFrom, .ref q_this_halves, .int v_this_halfMany, .ref q_this_way, .ref q_this_used, .long v_this_hash])), (q_this_now, .inl (k_this_now, 187, .inl c_this_now)), (q_this_levels, .inl (k_this_levels, 64, .inl c_this_levels_116)), (q_this_newer, .inl (k_this_newer, 64, .inl c_this_newer_52)), (q_this_howMany, .inl (k_this_howMany, 7, .inl c_this_howMany_52))] H := hP
                        have hD : va_D A [(q_this, .inr (7, [.ref q_this_now, .ref q_this_past, .int v_this_saved, .int v_this_refusal, .ref q_this_list, .ref q_this_at, .ref q_this_levels, .ref q_this_newer, .ref q_this_howMany, .ref q_this_vectors, .ref q_this_dims, .ref q_this_comes, .ref q_this_goes, .ref q_this_cameFrom, .ref q_this_halves, .int v_this_halfMany, .ref q_this_way, .ref q_this_used, .long v_this_hash])), (q_this_now, .inl (k_this_now, 187, .inl c_this_now)), (q_this_levels, .inl (k_this_levels, 64, .inl c_this_levels_116)), (q_this_newer, .inl (k_this_newer, 64, .inl c_this_newer_52)), (q_this_howMany, .inl (k_this_howMany, 7, .inl c_this_howMany_52))] := hD
                        refine lv_icmp_ge (tgt := 142) hx hb dX7_findLevels_121 (by decide) (fun cd121 => ?_) (fun cd121 => ?_)
                        · replace hf := zite_t cd121 hf
                          refine lv_iload_n hx hb dX7_findLevels_142 rfl (lv_at hl 1 rfl) ?_
                          refine lv_iload_n hx hb dX7_findLevels_143 rfl (lv_at hl 2 rfl) ?_
                          replace hf := zjp_some hf
                          obtain ⟨K152, eK152, hf⟩ := hf
                          have j152 : ∀ (s0_152 : Int32) (s1_152 : Int32), K152 s0_152 s1_152 = some res → ∀ (H : Heap) (locs : List Loc) (ls : Array Slot), va_P D vwCl [(q_this, .inr (7, [.ref q_this_now, .ref q_this_past, .int v_this_saved, .int v_this_refusal, .ref q_this_list, .ref q_this_at, .ref q_this_levels, .ref q_this_newer, .ref q_this_howMany, .ref q_this_vectors, .ref q_this_dims, .ref q_this_comes, .ref q_this_goes, .ref q_this_cameFrom, .ref q_this_halves, .int v_this_halfMany, .ref q_this_way, .ref q_this_used, .long v_this_hash])), (q_this_now, .inl (k_this_now, 187, .inl c_this_now)), (q_this_levels, .inl (k_this_levels, 64, .inl c_this_levels_116)), (q_this_newer, .inl (k_this_newer, 64, .inl c_this_newer_52)), (q_this_howMany, .inl (k_this_howMany, 7, .inl c_this_howMany_52))] H → va_D A [(q_this, .inr (7, [.ref q_this_now, .ref q_this_past, .int v_this_saved, .int v_this_refusal, .ref q_this_list, .ref q_this_at, .ref q_this_levels, .ref q_this_newer, .ref q_this_howMany, .ref q_this_vectors, .ref q_this_dims, .ref q_this_comes, .ref q_this_goes, .ref q_this_cameFrom, .ref q_this_halves, .int v_this_halfMany, .ref q_this_way, .ref q_this_used, .long v_this_hash])), (q_this_now, .inl (k_this_now, 187, .inl c_this_now)), (q_this_levels, .inl (k_this_levels, 64, .inl c_this_levels_116)), (q_this_newer, .inl (k_this_newer, 64, .inl c_this_newer_52)), (q_this_howMany, .inl (k_this_howMany, 7, .inl c_this_howMany_52))] → va_S A s.heap H locs → lv_has ls 4 [(0, .ref q_this), (2, .int i2_52)] → W p l e rm_X7_findLevels s m args below meth c H locs 0 0 Q (F0 m 152 ls [.int s1_152, .int s0_152]) := by
                            intro s0_152 s1_152 hf H locs ls hP hD hS hl
                            replace hf := zap2 eK152 hf
                            refine lv_iadd hx hb dX7_findLevels_152 ?_
                            refine lv_topi (fun x4 ex4 => ?_)
                            replace hf := zbd_of ex4 hf
                            refine lv_istore_n (lv' := [(1, .int x4), (0, .ref q_this), (2, .int i2_52)]) hx hb dX7_findLevels_153 rfl hl (by decide) rfl (fun ls hl => ?_)
                            refine lv_goto (tgt := 44) hx hb dX7_findLevels_154 (by decide) ?_
                            exact ih44 x4 i2_52 c_this_levels_116 c_this_newer_52 c_this_howMany_52 hf H locs ls hP hD hS (lv_sub hl [1, 0, 2] rfl)
                          refine lv_if_eq (tgt := 151) hx hb dX7_findLevels_144 (by decide) (fun cd144 => ?_) (fun cd144 => ?_)
                          · replace hf := zite_t cd144 hf
                            refine lv_iconst (v := 0) hx hb dX7_findLevels_151 (by decide) ?_
                            exact j152 i1_44 0 hf H locs ls hP hD hS (lv_sub hl [0, 2] rfl)
                          · replace hf := zite_f cd144 hf
                            refine lv_iconst (v := 1) hx hb dX7_findLevels_147 (by decide) ?_
                            refine lv_goto (tgt := 152) hx hb dX7_findLevels_148 (by decide) ?_
                            exact j152 i1_44 1 hf H locs ls hP hD hS (lv_sub hl [0, 2] rfl)
                        · replace hf := zite_f cd121 hf
                          refine lv_aload_n hx hb dX7_findLevels_124 rfl (lv_at hl 0 rfl) ?_
                          refine va_get (D := D) (ci := 7) (v := .ref q_this_levels) (C := RX7) (T := TX7) (N := 19) hx hb hts n_X7_findLevels_X7 hown hK hP 0 rfl rfl 6 (by decide) (hts (.fieldLink RX7 22 "FaultyCubeModel" "levels" "[I") (by decide +kernel)) (fun _ h9 => h9) rfl dX7_findLevels_125 ?_
                          refine lv_iload_n hx hb dX7_findLevels_128 rfl (lv_at hl 3 rfl) ?_
                          refine lv_aload_n hx hb dX7_findLevels_129 rfl (lv_at hl 0 rfl) ?_
                          refine va_get (D := D) (ci := 7) (v := .ref q_this_newer) (C := RX7) (T := TX7) (N := 19) hx hb hts n_X7_findLevels_X7 hown hK hP 0 rfl rfl 7 (by decide) (hts (.fieldLink RX7 25 "FaultyCubeModel" "newer" "[I") (by decide +kernel)) (fun _ h9 => h9) rfl dX7_findLevels_130 ?_
                          refine lv_iload_n hx hb dX7_findLevels_133 rfl (lv_at hl 3 rfl) ?_
                          replace hf := zgd_some hf
                          obtain ⟨g5, hf⟩ := hf
                          refine va_iald (D := D) hx hb hK hP 3 2 rfl rfl (inb_in g5) dX7_findLevels_134 ?_
                          refine lv_topi (fun x6 ex6 => ?_)
                          replace hf := zbd_of ex6 hf
                          replace hf := zgd_some hf
                          obtain ⟨g7, hf⟩ := hf
                          refine va_iast (D := D) hx hb hK hP hD hS 2 1 rfl rfl (inb_in g7) dX7_findLevels_135 (fun H locs hP hD hS => ?_)
                          obtain ⟨y8, ey8⟩ : ∃ y : (Nat → Int32), y = upd c_this_levels_116 (i3_116 : Int32).toNatClampNeg x6 := ⟨_, rfl⟩
                          replace hf := zbd_of ey8 hf
                          have hP : va_P D vwCl [(q_this, .inr (7, [.ref q_this_now, .ref q_this_past, .int v_this_saved, .int v_this_refusal, .ref q_this_list, .ref q_this_at, .ref q_this_levels, .ref q_this_newer, .ref q_this_howMany, .ref q_this_vectors, .ref q_this_dims, .ref q_this_comes, .ref q_this_goes, .ref q_this_cameFrom, .ref q_this_halves, .int v_this_halfMany, .ref q_this_way, .ref q_this_used, .long v_this_hash])), (q_this_now, .inl (k_this_now, 187, .inl c_this_now)), (q_this_levels, .inl (k_this_levels, 64, .inl y8)), (q_this_newer, .inl (k_this_newer, 64, .inl c_this_newer_52)), (q_this_howMany, .inl (k_this_howMany, 7, .inl c_this_howMany_52))] H := by rw [ey8]; exact hP
                          have hD : va_D A [(q_this, .inr (7, [.ref q_this_now, .ref q_this_past, .int v_this_saved, .int v_this_refusal, .ref q_this_list, .ref q_this_at, .ref q_this_levels, .ref q_this_newer, .ref q_this_howMany, .ref q_this_vectors, .ref q_this_dims, .ref q_this_comes, .ref q_this_goes, .ref q_this_cameFrom, .ref q_this_halves, .int v_this_halfMany, .ref q_this_way, .ref q_this_used, .long v_this_hash])), (q_this_now, .inl (k_this_now, 187, .inl c_this_now)), (q_this_levels, .inl (k_this_levels, 64, .inl y8)), (q_this_newer, .inl (k_this_newer, 64, .inl c_this_newer_52)), (q_this_howMany, .inl (k_this_howMany, 7, .inl c_this_howMany_52))] := by rw [ey8]; exact hD
                          obtain ⟨x9, ex9⟩ : ∃ y : Int32, y = i3_116 + 1 := ⟨_, rfl⟩
                          replace hf := zbd_of ex9 hf
                          refine lv_iinc (v := x9) (lv' := [(3, .int x9), (0, .ref q_this), (1, .int i1_44), (2, .int i2_52)]) hx hb dX7_findLevels_136 hl (k := 3) rfl (by rw [ex9]; rfl) (by decide) rfl (fun ls hl => ?_)
                          refine lv_goto (tgt := 116) hx hb dX7_findLevels_139 (by decide) ?_
                          exact ih116 x9 y8 hf H locs ls hP hD hS (lv_sub hl [1, 2, 3, 0] rfl)
                    exact h116 zfu 0 c_this_levels_44 hf H locs ls hP hD hS (lv_sub hl [1, 2, 3, 0] rfl)
                  · replace hf := zite_f cd57 hf
                    refine lv_aload_n hx hb dX7_findLevels_60 rfl (lv_at hl 0 rfl) ?_
                    refine va_get (D := D) (ci := 7) (v := .ref q_this_newer) (C := RX7) (T := TX7) (N := 19) hx hb hts n_X7_findLevels_X7 hown hK hP 0 rfl rfl 7 (by decide) (hts (.fieldLink RX7 25 "FaultyCubeModel" "newer" "[I") (by decide +kernel)) (fun _ h9 => h9) rfl dX7_findLevels_61 ?_
                    refine lv_iload_n hx hb dX7_findLevels_64 rfl (lv_at hl 3 rfl) ?_
                    refine lv_aload_n hx hb dX7_findLevels_65 rfl (lv_at hl 0 rfl) ?_
                    refine lv_iload_n hx hb dX7_findLevels_66 rfl (lv_at hl 3 rfl) ?_
                    replace hf := zob_some hf
                    obtain ⟨u10, hu10, hf⟩ := hf
                    refine kd_i (D := D) (v := u10) (av := [.ref q_this, .int i3_52]) (wc := [(q_this, .inr (7, [.ref q_this_now, .ref q_this_past, .int v_this_saved, .int v_this_refusal, .ref q_this_list, .ref q_this_at, .ref q_this_levels, .ref q_this_newer, .ref q_this_howMany, .ref q_this_vectors, .ref q_this_dims, .ref q_this_comes, .ref q_this_goes, .ref q_this_cameFrom, .ref q_this_halves, .int v_this_halfMany, .ref q_this_way, .ref q_this_used, .long v_this_hash])), (q_this_now, .inl (k_this_now, 187, .inl c_this_now))]) (w1 := [(q_this, .inr (7, [.ref q_this_now, .ref q_this_past, .int v_this_saved, .int v_this_refusal, .ref q_this_list, .ref q_this_at, .ref q_this_levels, .ref q_this_newer, .ref q_this_howMany, .ref q_this_vectors, .ref q_this_dims, .ref q_this_comes, .ref q_this_goes, .ref q_this_cameFrom, .ref q_this_halves, .int v_this_halfMany, .ref q_this_way, .ref q_this_used, .long v_this_hash])), (q_this_now, .inl (k_this_now, 187, .inl c_this_now))]) (ws2 := [(q_this, .inr (7, [.ref q_this_now, .ref q_this_past, .int v_this_saved, .int v_this_refusal, .ref q_this_list, .ref q_this_at, .ref q_this_levels, .ref q_this_newer, .ref q_this_howMany, .ref q_this_vectors, .ref q_this_dims, .ref q_this_comes, .ref q_this_goes, .ref q_this_cameFrom, .ref q_this_halves, .int v_this_halfMany, .ref q_this_way, .ref q_this_used, .long v_this_hash])), (q_this_now, .inl (k_this_now, 187, .inl c_this_now)), (q_this_levels, .inl (k_this_levels, 64, .inl c_this_levels_44)), (q_this_newer, .inl (k_this_newer, 64, .inl c_this_newer_52)), (q_this_howMany, .inl (k_this_howMany, 7, .inl c_this_howMany_52))]) hK hP hD hS hA hE [0, 1] [0] [2, 3, 4] [3, 4, 0, 1, 2] (fun hb1 hp1 => va_runV (As := [.int i3_52]) (rest := [.int i3_52, .ref q_this_newer]) ⟨hx, hb, hml, hown, hts⟩ (c_X7_lives l D H.size q_this q_this_now q_this_past q_this_list q_this_at q_this_levels q_this_newer q_this_howMany q_this_vectors q_this_dims q_this_comes q_this_goes q_this_cameFrom q_this_halves q_this_way q_this_used k_this_now v_this_saved v_this_refusal v_this_halfMany v_this_hash c_this_now i3_52 u10 hu10) (cwV 1 hts gX7_findLevels_X7_lives rfl rfl rfl (by decide +kernel) ⟨Nat.le_of_ble_eq_true rfl, Nat.le_of_ble_eq_true rfl⟩) ⟨hb1, va_recv hK hP (ci := 7) (q0 := 0) rfl rfl, hp1⟩ rfl rfl hl.1 rfl (lv_room (Nat.le_of_ble_eq_true rfl)) dX7_findLevels_67 ⟨Nat.le_of_ble_eq_true rfl, Nat.le_of_ble_eq_true rfl⟩) rfl rfl rfl rfl rfl rfl rfl rfl rfl rfl (fun H locs hP hD hS => ?_)
                    have hP : va_P D vwCl [(q_this, .inr (7, [.ref q_this_now, .ref q_this_past, .int v_this_saved, .int v_this_refusal, .ref q_this_list, .ref q_this_at, .ref q_this_levels, .ref q_this_newer, .ref q_this_howMany, .ref q_this_vectors, .ref q_this_dims, .ref q_this_comes, .ref q_this_goes, .ref q_this_cameFrom, .ref q_this_halves, .int v_this_halfMany, .ref q_this_way, .ref q_this_used, .long v_this_hash])), (q_this_now, .inl (k_this_now, 187, .inl c_this_now)), (q_this_levels, .inl (k_this_levels, 64, .inl c_this_levels_44)), (q_this_newer, .inl (k_this_newer, 64, .inl c_this_newer_52)), (q_this_howMany, .inl (k_this_howMany, 7, .inl c_this_howMany_52))] H := hP
                    have hD : va_D A [(q_this, .inr (7, [.ref q_this_now, .ref q_this_past, .int v_this_saved, .int v_this_refusal, .ref q_this_list, .ref q_this_at, .ref q_this_levels, .ref q_this_newer, .ref q_this_howMany, .ref q_this_vectors, .ref q_this_dims, .ref q_this_comes, .ref q_this_goes, .ref q_this_cameFrom, .ref q_this_halves, .int v_this_halfMany, .ref q_this_way, .ref q_this_used, .long v_this_hash])), (q_this_now, .inl (k_this_now, 187, .inl c_this_now)), (q_this_levels, .inl (k_this_levels, 64, .inl c_this_levels_44)), (q_this_newer, .inl (k_this_newer, 64, .inl c_this_newer_52)), (q_this_howMany, .inl (k_this_howMany, 7, .inl c_this_howMany_52))] := hD
                    replace hf := zjp_some hf
                    obtain ⟨K82, eK82, hf⟩ := hf
                    have j82 : ∀ (s1_82 : Int32) (s2_82 : Int32) (c_this_howMany_82 : (Nat → Int32)), K82 s1_82 s2_82 c_this_howMany_82 = some res → ∀ (H : Heap) (locs : List Loc) (ls : Array Slot), va_P D vwCl [(q_this, .inr (7, [.ref q_this_now, .ref q_this_past, .int v_this_saved, .int v_this_refusal, .ref q_this_list, .ref q_this_at, .ref q_this_levels, .ref q_this_newer, .ref q_this_howMany, .ref q_this_vectors, .ref q_this_dims, .ref q_this_comes, .ref q_this_goes, .ref q_this_cameFrom, .ref q_this_halves, .int v_this_halfMany, .ref q_this_way, .ref q_this_used, .long v_this_hash])), (q_this_now, .inl (k_this_now, 187, .inl c_this_now)), (q_this_levels, .inl (k_this_levels, 64, .inl c_this_levels_44)), (q_this_newer, .inl (k_this_newer, 64, .inl c_this_newer_52)), (q_this_howMany, .inl (k_this_howMany, 7, .inl c_this_howMany_82))] H → va_D A [(q_this, .inr (7, [.ref q_this_now, .ref q_this_past, .int v_this_saved, .int v_this_refusal, .ref q_this_list, .ref q_this_at, .ref q_this_levels, .ref q_this_newer, .ref q_this_howMany, .ref q_this_vectors, .ref q_this_dims, .ref q_this_comes, .ref q_this_goes, .ref q_this_cameFrom, .ref q_this_halves, .int v_this_halfMany, .ref q_this_way, .ref q_this_used, .long v_this_hash])), (q_this_now, .inl (k_this_now, 187, .inl c_this_now)), (q_this_levels, .inl (k_this_levels, 64, .inl c_this_levels_44)), (q_this_newer, .inl (k_this_newer, 64, .inl c_this_newer_52)), (q_this_howMany, .inl (k_this_howMany, 7, .inl c_this_howMany_82))] → va_S A s.heap H locs → lv_has ls 4 [(0, .ref q_this), (1, .int i1_44), (2, .int i2_52), (3, .int i3_52)] → W p l e rm_X7_findLevels s m args below meth c H locs 0 0 Q (F0 m 82 ls [.int s2_82, .int s1_82, .ref q_this_newer]) := by
                      intro s1_82 s2_82 c_this_howMany_82 hf H locs ls hP hD hS hl
                      replace hf := zap3 eK82 hf
                      replace hf := zgd_some hf
                      obtain ⟨g11, hf⟩ := hf
                      refine va_iast (D := D) hx hb hK hP hD hS 3 2 rfl rfl (inb_in g11) dX7_findLevels_82 (fun H locs hP hD hS => ?_)
                      obtain ⟨y12, ey12⟩ : ∃ y : (Nat → Int32), y = upd c_this_newer_52 (s1_82 : Int32).toNatClampNeg s2_82 := ⟨_, rfl⟩
                      replace hf := zbd_of ey12 hf
                      have hP : va_P D vwCl [(q_this, .inr (7, [.ref q_this_now, .ref q_this_past, .int v_this_saved, .int v_this_refusal, .ref q_this_list, .ref q_this_at, .ref q_this_levels, .ref q_this_newer, .ref q_this_howMany, .ref q_this_vectors, .ref q_this_dims, .ref q_this_comes, .ref q_this_goes, .ref q_this_cameFrom, .ref q_this_halves, .int v_this_halfMany, .ref q_this_way, .ref q_this_used, .long v_this_hash])), (q_this_now, .inl (k_this_now, 187, .inl c_this_now)), (q_this_levels, .inl (k_this_levels, 64, .inl c_this_levels_44)), (q_this_newer, .inl (k_this_newer, 64, .inl y12)), (q_this_howMany, .inl (k_this_howMany, 7, .inl c_this_howMany_82))] H := by rw [ey12]; exact hP
                      have hD : va_D A [(q_this, .inr (7, [.ref q_this_now, .ref q_this_past, .int v_this_saved, .int v_this_refusal, .ref q_this_list, .ref q_this_at, .ref q_this_levels, .ref q_this_newer, .ref q_this_howMany, .ref q_this_vectors, .ref q_this_dims, .ref q_this_comes, .ref q_this_goes, .ref q_this_cameFrom, .ref q_this_halves, .int v_this_halfMany, .ref q_this_way, .ref q_this_used, .long v_this_hash])), (q_this_now, .inl (k_this_now, 187, .inl c_this_now)), (q_this_levels, .inl (k_this_levels, 64, .inl c_this_levels_44)), (q_this_newer, .inl (k_this_newer, 64, .inl y12)), (q_this_howMany, .inl (k_this_howMany, 7, .inl c_this_howMany_82))] := by rw [ey12]; exact hD
                      refine lv_iload_n hx hb dX7_findLevels_83 rfl (lv_at hl 2 rfl) ?_
                      replace hf := zjp_some hf
                      obtain ⟨K107, eK107, hf⟩ := hf
                      have j107 : ∀ (s0_107 : Int32), K107 s0_107 = some res → ∀ (H : Heap) (locs : List Loc) (ls : Array Slot), va_P D vwCl [(q_this, .inr (7, [.ref q_this_now, .ref q_this_past, .int v_this_saved, .int v_this_refusal, .ref q_this_list, .ref q_this_at, .ref q_this_levels, .ref q_this_newer, .ref q_this_howMany, .ref q_this_vectors, .ref q_this_dims, .ref q_this_comes, .ref q_this_goes, .ref q_this_cameFrom, .ref q_this_halves, .int v_this_halfMany, .ref q_this_way, .ref q_this_used, .long v_this_hash])), (q_this_now, .inl (k_this_now, 187, .inl c_this_now)), (q_this_levels, .inl (k_this_levels, 64, .inl c_this_levels_44)), (q_this_newer, .inl (k_this_newer, 64, .inl y12)), (q_this_howMany, .inl (k_this_howMany, 7, .inl c_this_howMany_82))] H → va_D A [(q_this, .inr (7, [.ref q_this_now, .ref q_this_past, .int v_this_saved, .int v_this_refusal, .ref q_this_list, .ref q_this_at, .ref q_this_levels, .ref q_this_newer, .ref q_this_howMany, .ref q_this_vectors, .ref q_this_dims, .ref q_this_comes, .ref q_this_goes, .ref q_this_cameFrom, .ref q_this_halves, .int v_this_halfMany, .ref q_this_way, .ref q_this_used, .long v_this_hash])), (q_this_now, .inl (k_this_now, 187, .inl c_this_now)), (q_this_levels, .inl (k_this_levels, 64, .inl c_this_levels_44)), (q_this_newer, .inl (k_this_newer, 64, .inl y12)), (q_this_howMany, .inl (k_this_howMany, 7, .inl c_this_howMany_82))] → va_S A s.heap H locs → lv_has ls 4 [(0, .ref q_this), (1, .int i1_44), (3, .int i3_52)] → W p l e rm_X7_findLevels s m args below meth c H locs 0 0 Q (F0 m 107 ls [.int s0_107]) := by
                        intro s0_107 hf H locs ls hP hD hS hl
                        replace hf := zap1 eK107 hf
                        refine lv_istore_n (lv' := [(2, .int s0_107), (0, .ref q_this), (1, .int i1_44), (3, .int i3_52)]) hx hb dX7_findLevels_107 rfl hl (by decide) rfl (fun ls hl => ?_)
                        obtain ⟨x13, ex13⟩ : ∃ y : Int32, y = i3_52 + 1 := ⟨_, rfl⟩
                        replace hf := zbd_of ex13 hf
                        refine lv_iinc (v := x13) (lv' := [(3, .int x13), (2, .int s0_107), (0, .ref q_this), (1, .int i1_44)]) hx hb dX7_findLevels_108 hl (k := 3) rfl (by rw [ex13]; rfl) (by decide) rfl (fun ls hl => ?_)
                        refine lv_goto (tgt := 52) hx hb dX7_findLevels_111 (by decide) ?_
                        exact ih52 s0_107 x13 y12 c_this_howMany_82 hf H locs ls hP hD hS (lv_sub hl [2, 3, 1, 0] rfl)
                      replace hf := zjp_some hf
                      obtain ⟨K102, eK102, hf⟩ := hf
                      have j102 : K102 = some res → ∀ (H : Heap) (locs : List Loc) (ls : Array Slot), va_P D vwCl [(q_this, .inr (7, [.ref q_this_now, .ref q_this_past, .int v_this_saved, .int v_this_refusal, .ref q_this_list, .ref q_this_at, .ref q_this_levels, .ref q_this_newer, .ref q_this_howMany, .ref q_this_vectors, .ref q_this_dims, .ref q_this_comes, .ref q_this_goes, .ref q_this_cameFrom, .ref q_this_halves, .int v_this_halfMany, .ref q_this_way, .ref q_this_used, .long v_this_hash])), (q_this_now, .inl (k_this_now, 187, .inl c_this_now)), (q_this_levels, .inl (k_this_levels, 64, .inl c_this_levels_44)), (q_this_newer, .inl (k_this_newer, 64, .inl y12)), (q_this_howMany, .inl (k_this_howMany, 7, .inl c_this_howMany_82))] H → va_D A [(q_this, .inr (7, [.ref q_this_now, .ref q_this_past, .int v_this_saved, .int v_this_refusal, .ref q_this_list, .ref q_this_at, .ref q_this_levels, .ref q_this_newer, .ref q_this_howMany, .ref q_this_vectors, .ref q_this_dims, .ref q_this_comes, .ref q_this_goes, .ref q_this_cameFrom, .ref q_this_halves, .int v_this_halfMany, .ref q_this_way, .ref q_this_used, .long v_this_hash])), (q_this_now, .inl (k_this_now, 187, .inl c_this_now)), (q_this_levels, .inl (k_this_levels, 64, .inl c_this_levels_44)), (q_this_newer, .inl (k_this_newer, 64, .inl y12)), (q_this_howMany, .inl (k_this_howMany, 7, .inl c_this_howMany_82))] → va_S A s.heap H locs → lv_has ls 4 [(0, .ref q_this), (1, .int i1_44), (3, .int i3_52)] → W p l e rm_X7_findLevels s m args below meth c H locs 0 0 Q (F0 m 102 ls []) := by
                        intro  hf H locs ls hP hD hS hl
                        replace hf := zap0 eK102 hf
                        refine lv_iconst (v := 1) hx hb dX7_findLevels_102 (by decide) ?_
                        refine lv_goto (tgt := 107) hx hb dX7_findLevels_103 (by decide) ?_
                        exact j107 1 hf H locs ls hP hD hS (lv_sub hl [0, 1, 2] rfl)
                      refine lv_if_ne (tgt := 102) hx hb dX7_findLevels_84 (by decide) (fun cd84 => ?_) (fun cd84 => ?_)
                      · replace hf := zite_f cd84 hf
                        exact j102  hf H locs ls hP hD hS (lv_sub hl [0, 1, 3] rfl)
                      · replace hf := zite_t cd84 hf
                        refine lv_aload_n hx hb dX7_findLevels_87 rfl (lv_at hl 0 rfl) ?_
                        refine va_get (D := D) (ci := 7) (v := .ref q_this_newer) (C := RX7) (T := TX7) (N := 19) hx hb hts n_X7_findLevels_X7 hown hK hP 0 rfl rfl 7 (by decide) (hts (.fieldLink RX7 25 "FaultyCubeModel" "newer" "[I") (by decide +kernel)) (fun _ h9 => h9) rfl dX7_findLevels_88 ?_
                        refine lv_iload_n hx hb dX7_findLevels_91 rfl (lv_at hl 3 rfl) ?_
                        replace hf := zgd_some hf
                        obtain ⟨g14, hf⟩ := hf
                        refine va_iald (D := D) hx hb hK hP 3 2 rfl rfl (inb_in g14) dX7_findLevels_92 ?_
                        refine lv_aload_n hx hb dX7_findLevels_93 rfl (lv_at hl 0 rfl) ?_
                        refine va_get (D := D) (ci := 7) (v := .ref q_this_levels) (C := RX7) (T := TX7) (N := 19) hx hb hts n_X7_findLevels_X7 hown hK hP 0 rfl rfl 6 (by decide) (hts (.fieldLink RX7 22 "FaultyCubeModel" "levels" "[I") (by decide +kernel)) (fun _ h9 => h9) rfl dX7_findLevels_94 ?_
                        refine lv_iload_n hx hb dX7_findLevels_97 rfl (lv_at hl 3 rfl) ?_
                        replace hf := zgd_some hf
                        obtain ⟨g15, hf⟩ := hf
                        refine va_iald (D := D) hx hb hK hP 2 1 rfl rfl (inb_in g15) dX7_findLevels_98 ?_
                        refine lv_icmp_eq (tgt := 106) hx hb dX7_findLevels_99 (by decide) (fun cd99 => ?_) (fun cd99 => ?_)
                        · replace hf := zite_t cd99 hf
                          refine lv_iconst (v := 0) hx hb dX7_findLevels_106 (by decide) ?_
                          exact j107 0 hf H locs ls hP hD hS (lv_sub hl [0, 1, 3] rfl)
                        · replace hf := zite_f cd99 hf
                          exact j102  hf H locs ls hP hD hS (lv_sub hl [0, 1, 3] rfl)
                    refine lv_if_eq (tgt := 81) hx hb dX7_findLevels_70 (by decide) (fun cd70 => ?_) (fun cd70 => ?_)
                    · replace hf := zite_t cd70 hf
                      refine lv_iconst (v := 0) hx hb dX7_findLevels_81 (by decide) ?_
                      exact j82 i3_52 0 c_this_howMany_52 hf H locs ls hP hD hS (lv_sub hl [0, 1, 2, 3] rfl)
                    · replace hf := zite_f cd70 hf
                      refine lv_aload_n hx hb dX7_findLevels_73 rfl (lv_at hl 0 rfl) ?_
                      refine lv_iload_n hx hb dX7_findLevels_74 rfl (lv_at hl 3 rfl) ?_
                      replace hf := zob_some hf
                      obtain ⟨u16, hu16, hf⟩ := hf
                      refine kd_i (D := D) (v := u16.1) (av := [.ref q_this, .int i3_52]) (wc := [(q_this, .inr (7, [.ref q_this_now, .ref q_this_past, .int v_this_saved, .int v_this_refusal, .ref q_this_list, .ref q_this_at, .ref q_this_levels, .ref q_this_newer, .ref q_this_howMany, .ref q_this_vectors, .ref q_this_dims, .ref q_this_comes, .ref q_this_goes, .ref q_this_cameFrom, .ref q_this_halves, .int v_this_halfMany, .ref q_this_way, .ref q_this_used, .long v_this_hash])), (q_this_now, .inl (k_this_now, 187, .inl c_this_now)), (q_this_levels, .inl (k_this_levels, 64, .inl c_this_levels_44)), (q_this_howMany, .inl (k_this_howMany, 7, .inl c_this_howMany_52))]) (w1 := [(q_this, .inr (7, [.ref q_this_now, .ref q_this_past, .int v_this_saved, .int v_this_refusal, .ref q_this_list, .ref q_this_at, .ref q_this_levels, .ref q_this_newer, .ref q_this_howMany, .ref q_this_vectors, .ref q_this_dims, .ref q_this_comes, .ref q_this_goes, .ref q_this_cameFrom, .ref q_this_halves, .int v_this_halfMany, .ref q_this_way, .ref q_this_used, .long v_this_hash])), (q_this_now, .inl (k_this_now, 187, .inl c_this_now)), (q_this_levels, .inl (k_this_levels, 64, .inl c_this_levels_44)), (q_this_howMany, .inl (k_this_howMany, 7, .inl u16.2))]) (ws2 := [(q_this, .inr (7, [.ref q_this_now, .ref q_this_past, .int v_this_saved, .int v_this_refusal, .ref q_this_list, .ref q_this_at, .ref q_this_levels, .ref q_this_newer, .ref q_this_howMany, .ref q_this_vectors, .ref q_this_dims, .ref q_this_comes, .ref q_this_goes, .ref q_this_cameFrom, .ref q_this_halves, .int v_this_halfMany, .ref q_this_way, .ref q_this_used, .long v_this_hash])), (q_this_now, .inl (k_this_now, 187, .inl c_this_now)), (q_this_levels, .inl (k_this_levels, 64, .inl c_this_levels_44)), (q_this_newer, .inl (k_this_newer, 64, .inl c_this_newer_52)), (q_this_howMany, .inl (k_this_howMany, 7, .inl u16.2))]) hK hP hD hS hA hE [0, 1, 2, 4] [0, 1, 3] [3] [1, 2, 3, 0, 4] (fun hb1 hp1 => va_runV (As := [.int i3_52]) (rest := [.int i3_52, .ref q_this_newer]) ⟨hx, hb, hml, hown, hts⟩ (c_X7_newLevel l D H.size q_this q_this_now q_this_past q_this_list q_this_at q_this_levels q_this_newer q_this_howMany q_this_vectors q_this_dims q_this_comes q_this_goes q_this_cameFrom q_this_halves q_this_way q_this_used k_this_now k_this_levels k_this_howMany v_this_saved v_this_refusal v_this_halfMany v_this_hash c_this_now c_this_levels_44 c_this_howMany_52 i3_52 u16 hu16) (cwV 1 hts gX7_findLevels_X7_newLevel rfl rfl rfl (by decide +kernel) ⟨Nat.le_of_ble_eq_true rfl, Nat.le_of_ble_eq_true rfl⟩) ⟨hb1, va_recv hK hP (ci := 7) (q0 := 0) rfl rfl, hp1⟩ rfl rfl hl.1 rfl (lv_room (Nat.le_of_ble_eq_true rfl)) dX7_findLevels_75 ⟨Nat.le_of_ble_eq_true rfl, Nat.le_of_ble_eq_true rfl⟩) rfl rfl rfl rfl rfl rfl rfl rfl rfl rfl (fun H locs hP hD hS => ?_)
                      have hP : va_P D vwCl [(q_this, .inr (7, [.ref q_this_now, .ref q_this_past, .int v_this_saved, .int v_this_refusal, .ref q_this_list, .ref q_this_at, .ref q_this_levels, .ref q_this_newer, .ref q_this_howMany, .ref q_this_vectors, .ref q_this_dims, .ref q_this_comes, .ref q_this_goes, .ref q_this_cameFrom, .ref q_this_halves, .int v_this_halfMany, .ref q_this_way, .ref q_this_used, .long v_this_hash])), (q_this_now, .inl (k_this_now, 187, .inl c_this_now)), (q_this_levels, .inl (k_this_levels, 64, .inl c_this_levels_44)), (q_this_newer, .inl (k_this_newer, 64, .inl c_this_newer_52)), (q_this_howMany, .inl (k_this_howMany, 7, .inl u16.2))] H := hP
                      have hD : va_D A [(q_this, .inr (7, [.ref q_this_now, .ref q_this_past, .int v_this_saved, .int v_this_refusal, .ref q_this_list, .ref q_this_at, .ref q_this_levels, .ref q_this_newer, .ref q_this_howMany, .ref q_this_vectors, .ref q_this_dims, .ref q_this_comes, .ref q_this_goes, .ref q_this_cameFrom, .ref q_this_halves, .int v_this_halfMany, .ref q_this_way, .ref q_this_used, .long v_this_hash])), (q_this_now, .inl (k_this_now, 187, .inl c_this_now)), (q_this_levels, .inl (k_this_levels, 64, .inl c_this_levels_44)), (q_this_newer, .inl (k_this_newer, 64, .inl c_this_newer_52)), (q_this_howMany, .inl (k_this_howMany, 7, .inl u16.2))] := hD
                      refine lv_goto (tgt := 82) hx hb dX7_findLevels_78 (by decide) ?_
                      exact j82 i3_52 u16.1 u16.2 hf H locs ls hP hD hS (lv_sub hl [0, 1, 2, 3] rfl)
              exact h52 zfu 0 0 c_this_newer_44 c_this_howMany_44 hf H locs ls hP hD hS (lv_sub hl [2, 3, 1, 0] rfl)
        exact h44 zfu 0 1 c_this_levels_2 c_this_newer c_this_howMany hf H locs ls hP hD hS (lv_sub hl [2, 1, 0] rfl)
      · replace hf := zite_f cd7 hf
        refine lv_aload_n hx hb dX7_findLevels_10 rfl (lv_at hl 0 rfl) ?_
        refine va_get (D := D) (ci := 7) (v := .ref q_this_levels) (C := RX7) (T := TX7) (N := 19) hx hb hts n_X7_findLevels_X7 hown hK hP 0 rfl rfl 6 (by decide) (hts (.fieldLink RX7 22 "FaultyCubeModel" "levels" "[I") (by decide +kernel)) (fun _ h9 => h9) rfl dX7_findLevels_11 ?_
        refine lv_iload_n hx hb dX7_findLevels_14 rfl (lv_at hl 1 rfl) ?_
        refine lv_aload_n hx hb dX7_findLevels_15 rfl (lv_at hl 0 rfl) ?_
        refine lv_iload_n hx hb dX7_findLevels_16 rfl (lv_at hl 1 rfl) ?_
        replace hf := zob_some hf
        obtain ⟨u17, hu17, hf⟩ := hf
        refine kd_i (D := D) (v := u17) (av := [.ref q_this, .int i1_2]) (wc := [(q_this, .inr (7, [.ref q_this_now, .ref q_this_past, .int v_this_saved, .int v_this_refusal, .ref q_this_list, .ref q_this_at, .ref q_this_levels, .ref q_this_newer, .ref q_this_howMany, .ref q_this_vectors, .ref q_this_dims, .ref q_this_comes, .ref q_this_goes, .ref q_this_cameFrom, .ref q_this_halves, .int v_this_halfMany, .ref q_this_way, .ref q_this_used, .long v_this_hash])), (q_this_now, .inl (k_this_now, 187, .inl c_this_now))]) (w1 := [(q_this, .inr (7, [.ref q_this_now, .ref q_this_past, .int v_this_saved, .int v_this_refusal, .ref q_this_list, .ref q_this_at, .ref q_this_levels, .ref q_this_newer, .ref q_this_howMany, .ref q_this_vectors, .ref q_this_dims, .ref q_this_comes, .ref q_this_goes, .ref q_this_cameFrom, .ref q_this_halves, .int v_this_halfMany, .ref q_this_way, .ref q_this_used, .long v_this_hash])), (q_this_now, .inl (k_this_now, 187, .inl c_this_now))]) (ws2 := [(q_this, .inr (7, [.ref q_this_now, .ref q_this_past, .int v_this_saved, .int v_this_refusal, .ref q_this_list, .ref q_this_at, .ref q_this_levels, .ref q_this_newer, .ref q_this_howMany, .ref q_this_vectors, .ref q_this_dims, .ref q_this_comes, .ref q_this_goes, .ref q_this_cameFrom, .ref q_this_halves, .int v_this_halfMany, .ref q_this_way, .ref q_this_used, .long v_this_hash])), (q_this_now, .inl (k_this_now, 187, .inl c_this_now)), (q_this_levels, .inl (k_this_levels, 64, .inl c_this_levels_2)), (q_this_newer, .inl (k_this_newer, 64, .inl c_this_newer)), (q_this_howMany, .inl (k_this_howMany, 7, .inl c_this_howMany))]) hK hP hD hS hA hE [0, 1] [0] [2, 3, 4] [3, 4, 0, 1, 2] (fun hb1 hp1 => va_runV (As := [.int i1_2]) (rest := [.int i1_2, .ref q_this_levels]) ⟨hx, hb, hml, hown, hts⟩ (c_X7_lives l D H.size q_this q_this_now q_this_past q_this_list q_this_at q_this_levels q_this_newer q_this_howMany q_this_vectors q_this_dims q_this_comes q_this_goes q_this_cameFrom q_this_halves q_this_way q_this_used k_this_now v_this_saved v_this_refusal v_this_halfMany v_this_hash c_this_now i1_2 u17 hu17) (cwV 1 hts gX7_findLevels_X7_lives rfl rfl rfl (by decide +kernel) ⟨Nat.le_of_ble_eq_true rfl, Nat.le_of_ble_eq_true rfl⟩) ⟨hb1, va_recv hK hP (ci := 7) (q0 := 0) rfl rfl, hp1⟩ rfl rfl hl.1 rfl (lv_room (Nat.le_of_ble_eq_true rfl)) dX7_findLevels_17 ⟨Nat.le_of_ble_eq_true rfl, Nat.le_of_ble_eq_true rfl⟩) rfl rfl rfl rfl rfl rfl rfl rfl rfl rfl (fun H locs hP hD hS => ?_)
        have hP : va_P D vwCl [(q_this, .inr (7, [.ref q_this_now, .ref q_this_past, .int v_this_saved, .int v_this_refusal, .ref q_this_list, .ref q_this_at, .ref q_this_levels, .ref q_this_newer, .ref q_this_howMany, .ref q_this_vectors, .ref q_this_dims, .ref q_this_comes, .ref q_this_goes, .ref q_this_cameFrom, .ref q_this_halves, .int v_this_halfMany, .ref q_this_way, .ref q_this_used, .long v_this_hash])), (q_this_now, .inl (k_this_now, 187, .inl c_this_now)), (q_this_levels, .inl (k_this_levels, 64, .inl c_this_levels_2)), (q_this_newer, .inl (k_this_newer, 64, .inl c_this_newer)), (q_this_howMany, .inl (k_this_howMany, 7, .inl c_this_howMany))] H := hP
        have hD : va_D A [(q_this, .inr (7, [.ref q_this_now, .ref q_this_past, .int v_this_saved, .int v_this_refusal, .ref q_this_list, .ref q_this_at, .ref q_this_levels, .ref q_this_newer, .ref q_this_howMany, .ref q_this_vectors, .ref q_this_dims, .ref q_this_comes, .ref q_this_goes, .ref q_this_cameFrom, .ref q_this_halves, .int v_this_halfMany, .ref q_this_way, .ref q_this_used, .long v_this_hash])), (q_this_now, .inl (k_this_now, 187, .inl c_this_now)), (q_this_levels, .inl (k_this_levels, 64, .inl c_this_levels_2)), (q_this_newer, .inl (k_this_newer, 64, .inl c_this_newer)), (q_this_howMany, .inl (k_this_howMany, 7, .inl c_this_howMany))] := hD
        replace hf := zjp_some hf
        obtain ⟨K33, eK33, hf⟩ := hf
        have j33 : ∀ (s1_33 : Int32) (s2_33 : Int32), K33 s1_33 s2_33 = some res → ∀ (H : Heap) (locs : List Loc) (ls : Array Slot), va_P D vwCl [(q_this, .inr (7, [.ref q_this_now, .ref q_this_past, .int v_this_saved, .int v_this_refusal, .ref q_this_list, .ref q_this_at, .ref q_this_levels, .ref q_this_newer, .ref q_this_howMany, .ref q_this_vectors, .ref q_this_dims, .ref q_this_comes, .ref q_this_goes, .ref q_this_cameFrom, .ref q_this_halves, .int v_this_halfMany, .ref q_this_way, .ref q_this_used, .long v_this_hash])), (q_this_now, .inl (k_this_now, 187, .inl c_this_now)), (q_this_levels, .inl (k_this_levels, 64, .inl c_this_levels_2)), (q_this_newer, .inl (k_this_newer, 64, .inl c_this_newer)), (q_this_howMany, .inl (k_this_howMany, 7, .inl c_this_howMany))] H → va_D A [(q_this, .inr (7, [.ref q_this_now, .ref q_this_past, .int v_this_saved, .int v_this_refusal, .ref q_this_list, .ref q_this_at, .ref q_this_levels, .ref q_this_newer, .ref q_this_howMany, .ref q_this_vectors, .ref q_this_dims, .ref q_this_comes, .ref q_this_goes, .ref q_this_cameFrom, .ref q_this_halves, .int v_this_halfMany, .ref q_this_way, .ref q_this_used, .long v_this_hash])), (q_this_now, .inl (k_this_now, 187, .inl c_this_now)), (q_this_levels, .inl (k_this_levels, 64, .inl c_this_levels_2)), (q_this_newer, .inl (k_this_newer, 64, .inl c_this_newer)), (q_this_howMany, .inl (k_this_howMany, 7, .inl c_this_howMany))] → va_S A s.heap H locs → lv_has ls 4 [(0, .ref q_this), (1, .int i1_2)] → W p l e rm_X7_findLevels s m args below meth c H locs 0 0 Q (F0 m 33 ls [.int s2_33, .int s1_33, .ref q_this_levels]) := by
          intro s1_33 s2_33 hf H locs ls hP hD hS hl
          replace hf := zap2 eK33 hf
          replace hf := zgd_some hf
          obtain ⟨g18, hf⟩ := hf
          refine va_iast (D := D) hx hb hK hP hD hS 2 1 rfl rfl (inb_in g18) dX7_findLevels_33 (fun H locs hP hD hS => ?_)
          obtain ⟨y19, ey19⟩ : ∃ y : (Nat → Int32), y = upd c_this_levels_2 (s1_33 : Int32).toNatClampNeg s2_33 := ⟨_, rfl⟩
          replace hf := zbd_of ey19 hf
          have hP : va_P D vwCl [(q_this, .inr (7, [.ref q_this_now, .ref q_this_past, .int v_this_saved, .int v_this_refusal, .ref q_this_list, .ref q_this_at, .ref q_this_levels, .ref q_this_newer, .ref q_this_howMany, .ref q_this_vectors, .ref q_this_dims, .ref q_this_comes, .ref q_this_goes, .ref q_this_cameFrom, .ref q_this_halves, .int v_this_halfMany, .ref q_this_way, .ref q_this_used, .long v_this_hash])), (q_this_now, .inl (k_this_now, 187, .inl c_this_now)), (q_this_levels, .inl (k_this_levels, 64, .inl y19)), (q_this_newer, .inl (k_this_newer, 64, .inl c_this_newer)), (q_this_howMany, .inl (k_this_howMany, 7, .inl c_this_howMany))] H := by rw [ey19]; exact hP
          have hD : va_D A [(q_this, .inr (7, [.ref q_this_now, .ref q_this_past, .int v_this_saved, .int v_this_refusal, .ref q_this_list, .ref q_this_at, .ref q_this_levels, .ref q_this_newer, .ref q_this_howMany, .ref q_this_vectors, .ref q_this_dims, .ref q_this_comes, .ref q_this_goes, .ref q_this_cameFrom, .ref q_this_halves, .int v_this_halfMany, .ref q_this_way, .ref q_this_used, .long v_this_hash])), (q_this_now, .inl (k_this_now, 187, .inl c_this_now)), (q_this_levels, .inl (k_this_levels, 64, .inl y19)), (q_this_newer, .inl (k_this_newer, 64, .inl c_this_newer)), (q_this_howMany, .inl (k_this_howMany, 7, .inl c_this_howMany))] := by rw [ey19]; exact hD
          obtain ⟨x20, ex20⟩ : ∃ y : Int32, y = i1_2 + 1 := ⟨_, rfl⟩
          replace hf := zbd_of ex20 hf
          refine lv_iinc (v := x20) (lv' := [(1, .int x20), (0, .ref q_this)]) hx hb dX7_findLevels_34 hl (k := 1) rfl (by rw [ex20]; rfl) (by decide) rfl (fun ls hl => ?_)
          refine lv_goto (tgt := 2) hx hb dX7_findLevels_37 (by decide) ?_
          exact ih2 x20 y19 hf H locs ls hP hD hS (lv_sub hl [1, 0] rfl)
        refine lv_if_eq (tgt := 32) hx hb dX7_findLevels_20 (by decide) (fun cd20 => ?_) (fun cd20 => ?_)
        · replace hf := zite_t cd20 hf
          refine lv_iconst (v := 0) hx hb dX7_findLevels_32 (by decide) ?_
          exact j33 i1_2 0 hf H locs ls hP hD hS (lv_sub hl [0, 1] rfl)
        · replace hf := zite_f cd20 hf
          refine lv_aload_n hx hb dX7_findLevels_23 rfl (lv_at hl 0 rfl) ?_
          refine va_get (D := D) (ci := 7) (v := .ref q_this_now) (C := RX7) (T := TX7) (N := 19) hx hb hts n_X7_findLevels_X7 hown hK hP 0 rfl rfl 0 (by decide) (hts (.fieldLink RX7 7 "FaultyCubeModel" "now" "[I") (by decide +kernel)) (fun _ h9 => h9) rfl dX7_findLevels_24 ?_
          refine lv_iconst (v := 0) hx hb dX7_findLevels_27 (by decide) ?_
          replace hf := zgd_some hf
          obtain ⟨g21, hf⟩ := hf
          refine va_iald (D := D) hx hb hK hP 1 0 rfl rfl (inb_in g21) dX7_findLevels_28 ?_
          refine lv_goto (tgt := 33) hx hb dX7_findLevels_29 (by decide) ?_
          exact j33 i1_2 (c_this_now (0 : Int32).toNatClampNeg) hf H locs ls hP hD hS (lv_sub hl [0, 1] rfl)
  exact h2 zfu 0 c_this_levels hf s.heap [] ls hP hD hS (lv_sub hl [1, 0] rfl)
theorem n_X7_level_X7 : ∀ w ∈ u_ws RX7 TX7 19, w ∈ wsX7_level := by decide +kernel
abbrev rm_X7_level : Room := { frames := 2, cells := 0, slots := 0, locals := 46 }
set_option maxHeartbeats 4000000 in
set_option maxRecDepth 100000 in
theorem c_X7_level (l : Launch) (D : va_G) (sz : Nat) (q_this : Nat) (q_this_now : Nat) (q_this_past : Nat) (q_this_list : Nat) (q_this_at : Nat) (q_this_levels : Nat) (q_this_newer : Nat) (q_this_howMany : Nat) (q_this_vectors : Nat) (q_this_dims : Nat) (q_this_comes : Nat) (q_this_goes : Nat) (q_this_cameFrom : Nat) (q_this_halves : Nat) (q_this_way : Nat) (q_this_used : Nat) (k_this_now : ClassId) (k_this_levels : ClassId) (k_this_newer : ClassId) (k_this_howMany : ClassId) (v_this_saved : Int32) (v_this_refusal : Int32) (v_this_halfMany : Int32) (v_this_hash : Int64) (c_this_now : (Nat → Int32)) (c_this_levels : (Nat → Int32)) (c_this_newer : (Nat → Int32)) (c_this_howMany : (Nat → Int32)) (a1 : Int32) (res : rt_X7_level) (hf : f_X7_level a1 v_this_refusal c_this_now c_this_levels c_this_newer c_this_howMany = some res) : Met l yX7_level wsX7_level rm_X7_level (kP D [.ref q_this, .int a1] [(q_this, .inr (7, [.ref q_this_now, .ref q_this_past, .int v_this_saved, .int v_this_refusal, .ref q_this_list, .ref q_this_at, .ref q_this_levels, .ref q_this_newer, .ref q_this_howMany, .ref q_this_vectors, .ref q_this_dims, .ref q_this_comes, .ref q_this_goes, .ref q_this_cameFrom, .ref q_this_halves, .int v_this_halfMany, .ref q_this_way, .ref q_this_used, .long v_this_hash])), (q_this_now, .inl (k_this_now, 187, .inl c_this_now)), (q_this_levels, .inl (k_this_levels, 64, .inl c_this_levels)), (q_this_newer, .inl (k_this_newer, 64, .inl c_this_newer)), (q_this_howMany, .inl (k_this_howMany, 7, .inl c_this_howMany))] [(k_this_now, .int), (k_this_levels, .int), (k_this_newer, .int), (k_this_howMany, .int)] sz) (kQi D (va_A [(q_this, .inr (7, [.ref q_this_now, .ref q_this_past, .int v_this_saved, .int v_this_refusal, .ref q_this_list, .ref q_this_at, .ref q_this_levels, .ref q_this_newer, .ref q_this_howMany, .ref q_this_vectors, .ref q_this_dims, .ref q_this_comes, .ref q_this_goes, .ref q_this_cameFrom, .ref q_this_halves, .int v_this_halfMany, .ref q_this_way, .ref q_this_used, .long v_this_hash])), (q_this_now, .inl (k_this_now, 187, .inl c_this_now)), (q_this_levels, .inl (k_this_levels, 64, .inl c_this_levels)), (q_this_newer, .inl (k_this_newer, 64, .inl c_this_newer)), (q_this_howMany, .inl (k_this_howMany, 7, .inl c_this_howMany))] sz) [(k_this_now, .int), (k_this_levels, .int), (k_this_newer, .int), (k_this_howMany, .int)] res.1 [(q_this, .inr (7, [.ref q_this_now, .ref q_this_past, .int v_this_saved, .int res.2.1, .ref q_this_list, .ref q_this_at, .ref q_this_levels, .ref q_this_newer, .ref q_this_howMany, .ref q_this_vectors, .ref q_this_dims, .ref q_this_comes, .ref q_this_goes, .ref q_this_cameFrom, .ref q_this_halves, .int v_this_halfMany, .ref q_this_way, .ref q_this_used, .long v_this_hash])), (q_this_now, .inl (k_this_now, 187, .inl c_this_now)), (q_this_levels, .inl (k_this_levels, 64, .inl res.2.2.1)), (q_this_newer, .inl (k_this_newer, 64, .inl res.2.2.2.1)), (q_this_howMany, .inl (k_this_howMany, 7, .inl res.2.2.2.2))]) 0 0 (va_A [(q_this, .inr (7, [.ref q_this_now, .ref q_this_past, .int v_this_saved, .int v_this_refusal, .ref q_this_list, .ref q_this_at, .ref q_this_levels, .ref q_this_newer, .ref q_this_howMany, .ref q_this_vectors, .ref q_this_dims, .ref q_this_comes, .ref q_this_goes, .ref q_this_cameFrom, .ref q_this_halves, .int v_this_halfMany, .ref q_this_way, .ref q_this_used, .long v_this_hash])), (q_this_now, .inl (k_this_now, 187, .inl c_this_now)), (q_this_levels, .inl (k_this_levels, 64, .inl c_this_levels)), (q_this_newer, .inl (k_this_newer, 64, .inl c_this_newer)), (q_this_howMany, .inl (k_this_howMany, 7, .inl c_this_howMany))] sz) := by
  refine Met.ofW (cc := cX7_level) (maxL := 2) (ret := (some .int)) (by decide +kernel) rfl ?_
  intro p e s m args below meth c s₁ B hml hv
  obtain ⟨hargs, hsz, hP, hK, hD0, hE⟩ := hv
  have hx := B.exec
  have hb := B.bytes
  have hr := B.returns
  have hts := atoms_spec (ws := wsX7_level) B.pre
  have hown : s.vm.findClass RX7 = some m.cls := findClass_of_methodNamed B.named
  have hlocks := B.notSynchronized
  subst hsz
  have hD := hD0.self (sz := s.heap.size)
  generalize hAe : va_A [(q_this, .inr (7, [.ref q_this_now, .ref q_this_past, .int v_this_saved, .int v_this_refusal, .ref q_this_list, .ref q_this_at, .ref q_this_levels, .ref q_this_newer, .ref q_this_howMany, .ref q_this_vectors, .ref q_this_dims, .ref q_this_comes, .ref q_this_goes, .ref q_this_cameFrom, .ref q_this_halves, .int v_this_halfMany, .ref q_this_way, .ref q_this_used, .long v_this_hash])), (q_this_now, .inl (k_this_now, 187, .inl c_this_now)), (q_this_levels, .inl (k_this_levels, 64, .inl c_this_levels)), (q_this_newer, .inl (k_this_newer, 64, .inl c_this_newer)), (q_this_howMany, .inl (k_this_howMany, 7, .inl c_this_howMany))] s.heap.size = A at hD hE ⊢
  have hA : ∀ q : Nat, s.heap.size ≤ q → A q := fun q h => by rw [← hAe]; exact Or.inr h
  have hS : va_S A s.heap s.heap [] := va_S.rf
  refine kgen (fun Q eQ => ?_)
  refine kent (av := [.ref q_this, .int a1]) hargs (Nat.le_of_ble_eq_true rfl) (fun ls hl => ?_)
  have hl : lv_has ls 2 [(0, .ref q_this), (1, .int a1)] := hl
  show W p l e rm_X7_level s m args below meth c s.heap [] 0 0 Q (F0 m 0 ls [])
  unfold f_X7_level at hf
  refine lv_aload_n hx hb dX7_level_0 rfl (lv_at hl 0 rfl) ?_
  refine lv_aload_n hx hb dX7_level_1 rfl (lv_at hl 0 rfl) ?_
  refine lv_iload_n hx hb dX7_level_2 rfl (lv_at hl 1 rfl) ?_
  replace hf := zob_some hf
  obtain ⟨u1, hu1, hf⟩ := hf
  refine kd_i (D := D) (v := u1) (av := [.ref q_this, .int a1]) (wc := [(q_this, .inr (7, [.ref q_this_now, .ref q_this_past, .int v_this_saved, .int v_this_refusal, .ref q_this_list, .ref q_this_at, .ref q_this_levels, .ref q_this_newer, .ref q_this_howMany, .ref q_this_vectors, .ref q_this_dims, .ref q_this_comes, .ref q_this_goes, .ref q_this_cameFrom, .ref q_this_halves, .int v_this_halfMany, .ref q_this_way, .ref q_this_used, .long v_this_hash])), (q_this_now, .inl (k_this_now, 187, .inl c_this_now))]) (w1 := [(q_this, .inr (7, [.ref q_this_now, .ref q_this_past, .int v_this_saved, .int v_this_refusal, .ref q_this_list, .ref q_this_at, .ref q_this_levels, .ref q_this_newer, .ref q_this_howMany, .ref q_this_vectors, .ref q_this_dims, .ref q_this_comes, .ref q_this_goes, .ref q_this_cameFrom, .ref q_this_halves, .int v_this_halfMany, .ref q_this_way, .ref q_this_used, .long v_this_hash])), (q_this_now, .inl (k_this_now, 187, .inl c_this_now))]) (ws2 := [(q_this, .inr (7, [.ref q_this_now, .ref q_this_past, .int v_this_saved, .int v_this_refusal, .ref q_this_list, .ref q_this_at, .ref q_this_levels, .ref q_this_newer, .ref q_this_howMany, .ref q_this_vectors, .ref q_this_dims, .ref q_this_comes, .ref q_this_goes, .ref q_this_cameFrom, .ref q_this_halves, .int v_this_halfMany, .ref q_this_way, .ref q_this_used, .long v_this_hash])), (q_this_now, .inl (k_this_now, 187, .inl c_this_now)), (q_this_levels, .inl (k_this_levels, 64, .inl c_this_levels)), (q_this_newer, .inl (k_this_newer, 64, .inl c_this_newer)), (q_this_howMany, .inl (k_this_howMany, 7, .inl c_this_howMany))]) hK hP hD hS hA hE [0, 1] [0] [2, 3, 4] [3, 4, 0, 1, 2] (fun hb1 hp1 => va_runV (As := [.int a1]) (rest := [.ref q_this]) ⟨hx, hb, hml, hown, hts⟩ (c_X7_isNode l D s.heap.size q_this q_this_now q_this_past q_this_list q_this_at q_this_levels q_this_newer q_this_howMany q_this_vectors q_this_dims q_this_comes q_this_goes q_this_cameFrom q_this_halves q_this_way q_this_used k_this_now v_this_saved v_this_refusal v_this_halfMany v_this_hash c_this_now a1 u1 hu1) (cwV 1 hts gX7_level_X7_isNode rfl rfl rfl (by decide +kernel) ⟨Nat.le_of_ble_eq_true rfl, Nat.le_of_ble_eq_true rfl⟩) ⟨hb1, va_recv hK hP (ci := 7) (q0 := 0) rfl rfl, hp1⟩ rfl rfl hl.1 rfl (lv_room (Nat.le_of_ble_eq_true rfl)) dX7_level_3 ⟨Nat.le_of_ble_eq_true rfl, Nat.le_of_ble_eq_true rfl⟩) rfl rfl rfl rfl rfl rfl rfl rfl rfl rfl (fun H locs hP hD hS => ?_)
  have hP : va_P D vwCl [(q_this, .inr (7, [.ref q_this_now, .ref q_this_past, .int v_this_saved, .int v_this_refusal, .ref q_this_list, .ref q_this_at, .ref q_this_levels, .ref q_this_newer, .ref q_this_howMany, .ref q_this_vectors, .ref q_this_dims, .ref q_this_comes, .ref q_this_goes, .ref q_this_cameFrom, .ref q_this_halves, .int v_this_halfMany, .ref q_this_way, .ref q_this_used, .long v_this_hash])), (q_this_now, .inl (k_this_now, 187, .inl c_this_now)), (q_this_levels, .inl (k_this_levels, 64, .inl c_this_levels)), (q_this_newer, .inl (k_this_newer, 64, .inl c_this_newer)), (q_this_howMany, .inl (k_this_howMany, 7, .inl c_this_howMany))] H := hP
  have hD : va_D A [(q_this, .inr (7, [.ref q_this_now, .ref q_this_past, .int v_this_saved, .int v_this_refusal, .ref q_this_list, .ref q_this_at, .ref q_this_levels, .ref q_this_newer, .ref q_this_howMany, .ref q_this_vectors, .ref q_this_dims, .ref q_this_comes, .ref q_this_goes, .ref q_this_cameFrom, .ref q_this_halves, .int v_this_halfMany, .ref q_this_way, .ref q_this_used, .long v_this_hash])), (q_this_now, .inl (k_this_now, 187, .inl c_this_now)), (q_this_levels, .inl (k_this_levels, 64, .inl c_this_levels)), (q_this_newer, .inl (k_this_newer, 64, .inl c_this_newer)), (q_this_howMany, .inl (k_this_howMany, 7, .inl c_this_howMany))] := hD
  replace hf := zjp_some hf
  obtain ⟨K14, eK14, hf⟩ := hf
  have j14 : ∀ (s1_14 : Int32), K14 s1_14 = some res → ∀ (H : Heap) (locs : List Loc) (ls : Array Slot), va_P D vwCl [(q_this, .inr (7, [.ref q_this_now, .ref q_this_past, .int v_this_saved, .int v_this_refusal, .ref q_this_list, .ref q_this_at, .ref q_this_levels, .ref q_this_newer, .ref q_this_howMany, .ref q_this_vectors, .ref q_this_dims, .ref q_this_comes, .ref q_this_goes, .ref q_this_cameFrom, .ref q_this_halves, .int v_this_halfMany, .ref q_this_way, .ref q_this_used, .long v_this_hash])), (q_this_now, .inl (k_this_now, 187, .inl c_this_now)), (q_this_levels, .inl (k_this_levels, 64, .inl c_this_levels)), (q_this_newer, .inl (k_this_newer, 64, .inl c_this_newer)), (q_this_howMany, .inl (k_this_howMany, 7, .inl c_this_howMany))] H → va_D A [(q_this, .inr (7, [.ref q_this_now, .ref q_this_past, .int v_this_saved, .int v_this_refusal, .ref q_this_list, .ref q_this_at, .ref q_this_levels, .ref q_this_newer, .ref q_this_howMany, .ref q_this_vectors, .ref q_this_dims, .ref q_this_comes, .ref q_this_goes, .ref q_this_cameFrom, .ref q_this_halves, .int v_this_halfMany, .ref q_this_way, .ref q_this_used, .long v_this_hash])), (q_this_now, .inl (k_this_now, 187, .inl c_this_now)), (q_this_levels, .inl (k_this_levels, 64, .inl c_this_levels)), (q_this_newer, .inl (k_this_newer, 64, .inl c_this_newer)), (q_this_howMany, .inl (k_this_howMany, 7, .inl c_this_howMany))] → va_S A s.heap H locs → lv_has ls 2 [(0, .ref q_this), (1, .int a1)] → W p l e rm_X7_level s m args below meth c H locs 0 0 Q (F0 m 14 ls [.int s1_14, .ref q_this]) := by
    intro s1_14 hf H locs ls hP hD hS hl
    replace hf := zap1 eK14 hf
    replace hf := zob_some hf
    obtain ⟨u2, hu2, hf⟩ := hf
    refine kd_i (D := D) (v := u2.1) (av := [.ref q_this, .int s1_14]) (wc := [(q_this, .inr (7, [.ref q_this_now, .ref q_this_past, .int v_this_saved, .int v_this_refusal, .ref q_this_list, .ref q_this_at, .ref q_this_levels, .ref q_this_newer, .ref q_this_howMany, .ref q_this_vectors, .ref q_this_dims, .ref q_this_comes, .ref q_this_goes, .ref q_this_cameFrom, .ref q_this_halves, .int v_this_halfMany, .ref q_this_way, .ref q_this_used, .long v_this_hash]))]) (w1 := [(q_this, .inr (7, [.ref q_this_now, .ref q_this_past, .int v_this_saved, .int u2.2, .ref q_this_list, .ref q_this_at, .ref q_this_levels, .ref q_this_newer, .ref q_this_howMany, .ref q_this_vectors, .ref q_this_dims, .ref q_this_comes, .ref q_this_goes, .ref q_this_cameFrom, .ref q_this_halves, .int v_this_halfMany, .ref q_this_way, .ref q_this_used, .long v_this_hash]))]) (ws2 := [(q_this, .inr (7, [.ref q_this_now, .ref q_this_past, .int v_this_saved, .int u2.2, .ref q_this_list, .ref q_this_at, .ref q_this_levels, .ref q_this_newer, .ref q_this_howMany, .ref q_this_vectors, .ref q_this_dims, .ref q_this_comes, .ref q_this_goes, .ref q_this_cameFrom, .ref q_this_halves, .int v_this_halfMany, .ref q_this_way, .ref q_this_used, .long v_this_hash])), (q_this_now, .inl (k_this_now, 187, .inl c_this_now)), (q_this_levels, .inl (k_this_levels, 64, .inl c_this_levels)), (q_this_newer, .inl (k_this_newer, 64, .inl c_this_newer)), (q_this_howMany, .inl (k_this_howMany, 7, .inl c_this_howMany))]) hK hP hD hS hA hE [0] [] [1, 2, 3, 4] [4, 0, 1, 2, 3] (fun hb1 hp1 => va_runV (As := [.int s1_14]) (rest := []) ⟨hx, hb, hml, hown, hts⟩ (c_X7_refused l D H.size q_this q_this_now q_this_past q_this_list q_this_at q_this_levels q_this_newer q_this_howMany q_this_vectors q_this_dims q_this_comes q_this_goes q_this_cameFrom q_this_halves q_this_way q_this_used v_this_saved v_this_refusal v_this_halfMany v_this_hash s1_14 u2 hu2) (cwV 1 hts gX7_level_X7_refused rfl rfl rfl (by decide +kernel) ⟨Nat.le_of_ble_eq_true rfl, Nat.le_of_ble_eq_true rfl⟩) ⟨hb1, va_recv hK hP (ci := 7) (q0 := 0) rfl rfl, hp1⟩ rfl rfl hl.1 rfl (lv_room (Nat.le_of_ble_eq_true rfl)) dX7_level_14 ⟨Nat.le_of_ble_eq_true rfl, Nat.le_of_ble_eq_true rfl⟩) rfl rfl rfl rfl rfl rfl rfl rfl rfl rfl (fun H locs hP hD hS => ?_)
    have hP : va_P D vwCl [(q_this, .inr (7, [.ref q_this_now, .ref q_this_past, .int v_this_saved, .int u2.2, .ref q_this_list, .ref q_this_at, .ref q_this_levels, .ref q_this_newer, .ref q_this_howMany, .ref q_this_vectors, .ref q_this_dims, .ref q_this_comes, .ref q_this_goes, .ref q_this_cameFrom, .ref q_this_halves, .int v_this_halfMany, .ref q_this_way, .ref q_this_used, .long v_this_hash])), (q_this_now, .inl (k_this_now, 187, .inl c_this_now)), (q_this_levels, .inl (k_this_levels, 64, .inl c_this_levels)), (q_this_newer, .inl (k_this_newer, 64, .inl c_this_newer)), (q_this_howMany, .inl (k_this_howMany, 7, .inl c_this_howMany))] H := hP
    have hD : va_D A [(q_this, .inr (7, [.ref q_this_now, .ref q_this_past, .int v_this_saved, .int u2.2, .ref q_this_list, .ref q_this_at, .ref q_this_levels, .ref q_this_newer, .ref q_this_howMany, .ref q_this_vectors, .ref q_this_dims, .ref q_this_comes, .ref q_this_goes, .ref q_this_cameFrom, .ref q_this_halves, .int v_this_halfMany, .ref q_this_way, .ref q_this_used, .long v_this_hash])), (q_this_now, .inl (k_this_now, 187, .inl c_this_now)), (q_this_levels, .inl (k_this_levels, 64, .inl c_this_levels)), (q_this_newer, .inl (k_this_newer, 64, .inl c_this_newer)), (q_this_howMany, .inl (k_this_howMany, 7, .inl c_this_howMany))] := hD
    refine lv_if_eq (tgt := 22) hx hb dX7_level_17 (by decide) (fun cd17 => ?_) (fun cd17 => ?_)
    · replace hf := zite_t cd17 hf
      refine lv_aload_n hx hb dX7_level_22 rfl (lv_at hl 0 rfl) ?_
      replace hf := zob_some hf
      obtain ⟨u3, hu3, hf⟩ := hf
      refine kd_i (D := D) (v := u3.1) (av := [.ref q_this]) (wc := [(q_this, .inr (7, [.ref q_this_now, .ref q_this_past, .int v_this_saved, .int u2.2, .ref q_this_list, .ref q_this_at, .ref q_this_levels, .ref q_this_newer, .ref q_this_howMany, .ref q_this_vectors, .ref q_this_dims, .ref q_this_comes, .ref q_this_goes, .ref q_this_cameFrom, .ref q_this_halves, .int v_this_halfMany, .ref q_this_way, .ref q_this_used, .long v_this_hash])), (q_this_now, .inl (k_this_now, 187, .inl c_this_now)), (q_this_levels, .inl (k_this_levels, 64, .inl c_this_levels)), (q_this_newer, .inl (k_this_newer, 64, .inl c_this_newer)), (q_this_howMany, .inl (k_this_howMany, 7, .inl c_this_howMany))]) (w1 := [(q_this, .inr (7, [.ref q_this_now, .ref q_this_past, .int v_this_saved, .int u2.2, .ref q_this_list, .ref q_this_at, .ref q_this_levels, .ref q_this_newer, .ref q_this_howMany, .ref q_this_vectors, .ref q_this_dims, .ref q_this_comes, .ref q_this_goes, .ref q_this_cameFrom, .ref q_this_halves, .int v_this_halfMany, .ref q_this_way, .ref q_this_used, .long v_this_hash])), (q_this_now, .inl (k_this_now, 187, .inl c_this_now)), (q_this_levels, .inl (k_this_levels, 64, .inl u3.2.1)), (q_this_newer, .inl (k_this_newer, 64, .inl u3.2.2.1)), (q_this_howMany, .inl (k_this_howMany, 7, .inl u3.2.2.2))]) (ws2 := [(q_this, .inr (7, [.ref q_this_now, .ref q_this_past, .int v_this_saved, .int u2.2, .ref q_this_list, .ref q_this_at, .ref q_this_levels, .ref q_this_newer, .ref q_this_howMany, .ref q_this_vectors, .ref q_this_dims, .ref q_this_comes, .ref q_this_goes, .ref q_this_cameFrom, .ref q_this_halves, .int v_this_halfMany, .ref q_this_way, .ref q_this_used, .long v_this_hash])), (q_this_now, .inl (k_this_now, 187, .inl c_this_now)), (q_this_levels, .inl (k_this_levels, 64, .inl u3.2.1)), (q_this_newer, .inl (k_this_newer, 64, .inl u3.2.2.1)), (q_this_howMany, .inl (k_this_howMany, 7, .inl u3.2.2.2))]) hK hP hD hS hA hE [0, 1, 2, 3, 4] [0, 1, 2, 3] [] [0, 1, 2, 3, 4] (fun hb1 hp1 => va_runV (As := []) (rest := []) ⟨hx, hb, hml, hown, hts⟩ (c_X7_findLevels l D H.size q_this q_this_now q_this_past q_this_list q_this_at q_this_levels q_this_newer q_this_howMany q_this_vectors q_this_dims q_this_comes q_this_goes q_this_cameFrom q_this_halves q_this_way q_this_used k_this_now k_this_levels k_this_newer k_this_howMany v_this_saved u2.2 v_this_halfMany v_this_hash c_this_now c_this_levels c_this_newer c_this_howMany u3 hu3) (cwV 0 hts gX7_level_X7_findLevels rfl rfl rfl (by decide +kernel) ⟨Nat.le_of_ble_eq_true rfl, Nat.le_of_ble_eq_true rfl⟩) ⟨hb1, va_recv hK hP (ci := 7) (q0 := 0) rfl rfl, hp1⟩ rfl rfl hl.1 rfl (lv_room (Nat.le_of_ble_eq_true rfl)) dX7_level_23 ⟨Nat.le_of_ble_eq_true rfl, Nat.le_of_ble_eq_true rfl⟩) rfl rfl rfl rfl rfl rfl rfl rfl rfl rfl (fun H locs hP hD hS => ?_)
      have hP : va_P D vwCl [(q_this, .inr (7, [.ref q_this_now, .ref q_this_past, .int v_this_saved, .int u2.2, .ref q_this_list, .ref q_this_at, .ref q_this_levels, .ref q_this_newer, .ref q_this_howMany, .ref q_this_vectors, .ref q_this_dims, .ref q_this_comes, .ref q_this_goes, .ref q_this_cameFrom, .ref q_this_halves, .int v_this_halfMany, .ref q_this_way, .ref q_this_used, .long v_this_hash])), (q_this_now, .inl (k_this_now, 187, .inl c_this_now)), (q_this_levels, .inl (k_this_levels, 64, .inl u3.2.1)), (q_this_newer, .inl (k_this_newer, 64, .inl u3.2.2.1)), (q_this_howMany, .inl (k_this_howMany, 7, .inl u3.2.2.2))] H := hP
      have hD : va_D A [(q_this, .inr (7, [.ref q_this_now, .ref q_this_past, .int v_this_saved, .int u2.2, .ref q_this_list, .ref q_this_at, .ref q_this_levels, .ref q_this_newer, .ref q_this_howMany, .ref q_this_vectors, .ref q_this_dims, .ref q_this_comes, .ref q_this_goes, .ref q_this_cameFrom, .ref q_this_halves, .int v_this_halfMany, .ref q_this_way, .ref q_this_used, .long v_this_hash])), (q_this_now, .inl (k_this_now, 187, .inl c_this_now)), (q_this_levels, .inl (k_this_levels, 64, .inl u3.2.1)), (q_this_newer, .inl (k_this_newer, 64, .inl u3.2.2.1)), (q_this_howMany, .inl (k_this_howMany, 7, .inl u3.2.2.2))] := hD
      refine lv_pop hx hb dX7_level_26 rfl ?_
      refine lv_aload_n hx hb dX7_level_27 rfl (lv_at hl 0 rfl) ?_
      refine va_get (D := D) (ci := 7) (v := .ref q_this_levels) (C := RX7) (T := TX7) (N := 19) hx hb hts n_X7_level_X7 hown hK hP 0 rfl rfl 6 (by decide) (hts (.fieldLink RX7 22 "FaultyCubeModel" "levels" "[I") (by decide +kernel)) (fun _ h9 => h9) rfl dX7_level_28 ?_
      refine lv_iload_n hx hb dX7_level_31 rfl (lv_at hl 1 rfl) ?_
      replace hf := zgd_some hf
      obtain ⟨g4, hf⟩ := hf
      refine va_iald (D := D) hx hb hK hP 2 1 rfl rfl (inb_in g4) dX7_level_32 ?_
      obtain rfl := Option.some.inj hf
      subst eQ
      exact kr_i hx hb hr hlocks hK hP hD hS dX7_level_33
    · replace hf := zite_f cd17 hf
      refine lv_iconst (v := 0) hx hb dX7_level_20 (by decide) ?_
      obtain rfl := Option.some.inj hf
      subst eQ
      exact kr_i hx hb hr hlocks hK hP hD hS dX7_level_21
  refine lv_if_eq (tgt := 13) hx hb dX7_level_6 (by decide) (fun cd6 => ?_) (fun cd6 => ?_)
  · replace hf := zite_t cd6 hf
    refine lv_iconst (v := 1) hx hb dX7_level_13 (by decide) ?_
    exact j14 1 hf H locs ls hP hD hS (lv_sub hl [0, 1] rfl)
  · replace hf := zite_f cd6 hf
    refine lv_iconst (v := 0) hx hb dX7_level_9 (by decide) ?_
    refine lv_goto (tgt := 14) hx hb dX7_level_10 (by decide) ?_
    exact j14 0 hf H locs ls hP hD hS (lv_sub hl [0, 1] rfl)
theorem n_X7_rounds_X7 : ∀ w ∈ u_ws RX7 TX7 19, w ∈ wsX7_rounds := by decide +kernel
abbrev rm_X7_rounds : Room := { frames := 2, cells := 0, slots := 0, locals := 46 }
set_option maxHeartbeats 4000000 in
set_option maxRecDepth 100000 in
theorem c_X7_rounds (l : Launch) (D : va_G) (sz : Nat) (q_this : Nat) (q_this_now : Nat) (q_this_past : Nat) (q_this_list : Nat) (q_this_at : Nat) (q_this_levels : Nat) (q_this_newer : Nat) (q_this_howMany : Nat) (q_this_vectors : Nat) (q_this_dims : Nat) (q_this_comes : Nat) (q_this_goes : Nat) (q_this_cameFrom : Nat) (q_this_halves : Nat) (q_this_way : Nat) (q_this_used : Nat) (k_this_now : ClassId) (k_this_levels : ClassId) (k_this_newer : ClassId) (k_this_howMany : ClassId) (v_this_saved : Int32) (v_this_refusal : Int32) (v_this_halfMany : Int32) (v_this_hash : Int64) (c_this_now : (Nat → Int32)) (c_this_levels : (Nat → Int32)) (c_this_newer : (Nat → Int32)) (c_this_howMany : (Nat → Int32)) (res : rt_X7_rounds) (hf : f_X7_rounds v_this_refusal c_this_now c_this_levels c_this_newer c_this_howMany = some res) : Met l yX7_rounds wsX7_rounds rm_X7_rounds (kP D [.ref q_this] [(q_this, .inr (7, [.ref q_this_now, .ref q_this_past, .int v_this_saved, .int v_this_refusal, .ref q_this_list, .ref q_this_at, .ref q_this_levels, .ref q_this_newer, .ref q_this_howMany, .ref q_this_vectors, .ref q_this_dims, .ref q_this_comes, .ref q_this_goes, .ref q_this_cameFrom, .ref q_this_halves, .int v_this_halfMany, .ref q_this_way, .ref q_this_used, .long v_this_hash])), (q_this_now, .inl (k_this_now, 187, .inl c_this_now)), (q_this_levels, .inl (k_this_levels, 64, .inl c_this_levels)), (q_this_newer, .inl (k_this_newer, 64, .inl c_this_newer)), (q_this_howMany, .inl (k_this_howMany, 7, .inl c_this_howMany))] [(k_this_now, .int), (k_this_levels, .int), (k_this_newer, .int), (k_this_howMany, .int)] sz) (kQi D (va_A [(q_this, .inr (7, [.ref q_this_now, .ref q_this_past, .int v_this_saved, .int v_this_refusal, .ref q_this_list, .ref q_this_at, .ref q_this_levels, .ref q_this_newer, .ref q_this_howMany, .ref q_this_vectors, .ref q_this_dims, .ref q_this_comes, .ref q_this_goes, .ref q_this_cameFrom, .ref q_this_halves, .int v_this_halfMany, .ref q_this_way, .ref q_this_used, .long v_this_hash])), (q_this_now, .inl (k_this_now, 187, .inl c_this_now)), (q_this_levels, .inl (k_this_levels, 64, .inl c_this_levels)), (q_this_newer, .inl (k_this_newer, 64, .inl c_this_newer)), (q_this_howMany, .inl (k_this_howMany, 7, .inl c_this_howMany))] sz) [(k_this_now, .int), (k_this_levels, .int), (k_this_newer, .int), (k_this_howMany, .int)] res.1 [(q_this, .inr (7, [.ref q_this_now, .ref q_this_past, .int v_this_saved, .int res.2.1, .ref q_this_list, .ref q_this_at, .ref q_this_levels, .ref q_this_newer, .ref q_this_howMany, .ref q_this_vectors, .ref q_this_dims, .ref q_this_comes, .ref q_this_goes, .ref q_this_cameFrom, .ref q_this_halves, .int v_this_halfMany, .ref q_this_way, .ref q_this_used, .long v_this_hash])), (q_this_now, .inl (k_this_now, 187, .inl c_this_now)), (q_this_levels, .inl (k_this_levels, 64, .inl res.2.2.1)), (q_this_newer, .inl (k_this_newer, 64, .inl res.2.2.2.1)), (q_this_howMany, .inl (k_this_howMany, 7, .inl res.2.2.2.2))]) 0 0 (va_A [(q_this, .inr (7, [.ref q_this_now, .ref q_this_past, .int v_this_saved, .int v_this_refusal, .ref q_this_list, .ref q_this_at, .ref q_this_levels, .ref q_this_newer, .ref q_this_howMany, .ref q_this_vectors, .ref q_this_dims, .ref q_this_comes, .ref q_this_goes, .ref q_this_cameFrom, .ref q_this_halves, .int v_this_halfMany, .ref q_this_way, .ref q_this_used, .long v_this_hash])), (q_this_now, .inl (k_this_now, 187, .inl c_this_now)), (q_this_levels, .inl (k_this_levels, 64, .inl c_this_levels)), (q_this_newer, .inl (k_this_newer, 64, .inl c_this_newer)), (q_this_howMany, .inl (k_this_howMany, 7, .inl c_this_howMany))] sz) := by
  refine Met.ofW (cc := cX7_rounds) (maxL := 1) (ret := (some .int)) (by decide +kernel) rfl ?_
  intro p e s m args below meth c s₁ B hml hv
  obtain ⟨hargs, hsz, hP, hK, hD0, hE⟩ := hv
  have hx := B.exec
  have hb := B.bytes
  have hr := B.returns
  have hts := atoms_spec (ws := wsX7_rounds) B.pre
  have hown : s.vm.findClass RX7 = some m.cls := findClass_of_methodNamed B.named
  have hlocks := B.notSynchronized
  subst hsz
  have hD := hD0.self (sz := s.heap.size)
  generalize hAe : va_A [(q_this, .inr (7, [.ref q_this_now, .ref q_this_past, .int v_this_saved, .int v_this_refusal, .ref q_this_list, .ref q_this_at, .ref q_this_levels, .ref q_this_newer, .ref q_this_howMany, .ref q_this_vectors, .ref q_this_dims, .ref q_this_comes, .ref q_this_goes, .ref q_this_cameFrom, .ref q_this_halves, .int v_this_halfMany, .ref q_this_way, .ref q_this_used, .long v_this_hash])), (q_this_now, .inl (k_this_now, 187, .inl c_this_now)), (q_this_levels, .inl (k_this_levels, 64, .inl c_this_levels)), (q_this_newer, .inl (k_this_newer, 64, .inl c_this_newer)), (q_this_howMany, .inl (k_this_howMany, 7, .inl c_this_howMany))] s.heap.size = A at hD hE ⊢
  have hA : ∀ q : Nat, s.heap.size ≤ q → A q := fun q h => by rw [← hAe]; exact Or.inr h
  have hS : va_S A s.heap s.heap [] := va_S.rf
  refine kgen (fun Q eQ => ?_)
  refine kent (av := [.ref q_this]) hargs (Nat.le_of_ble_eq_true rfl) (fun ls hl => ?_)
  have hl : lv_has ls 1 [(0, .ref q_this)] := hl
  show W p l e rm_X7_rounds s m args below meth c s.heap [] 0 0 Q (F0 m 0 ls [])
  unfold f_X7_rounds at hf
  refine lv_aload_n hx hb dX7_rounds_0 rfl (lv_at hl 0 rfl) ?_
  refine lv_iconst (v := 0) hx hb dX7_rounds_1 (by decide) ?_
  refine va_put (D := D) (ci := 7) (v := .int 0) (ty := .int) (C := RX7) (T := TX7) (N := 19) hx hb hts n_X7_rounds_X7 tyX7 tyX7_ok nmX7 hown hK hP hD hS 0 rfl rfl 3 (by decide) (hts (.fieldLink RX7 56 "FaultyCubeModel" "refusal" "I") (by decide +kernel)) (fun _ h9 => h9) rfl (by decide +kernel) rfl rfl (Nat.le_of_ble_eq_true rfl) dX7_rounds_2 (fun H locs hP hD hS => ?_)
  have hP : va_P D vwCl [(q_this, .inr (7, [.ref q_this_now, .ref q_this_past, .int v_this_saved, .int 0, .ref q_this_list, .ref q_this_at, .ref q_this_levels, .ref q_this_newer, .ref q_this_howMany, .ref q_this_vectors, .ref q_this_dims, .ref q_this_comes, .ref q_this_goes, .ref q_this_cameFrom, .ref q_this_halves, .int v_this_halfMany, .ref q_this_way, .ref q_this_used, .long v_this_hash])), (q_this_now, .inl (k_this_now, 187, .inl c_this_now)), (q_this_levels, .inl (k_this_levels, 64, .inl c_this_levels)), (q_this_newer, .inl (k_this_newer, 64, .inl c_this_newer)), (q_this_howMany, .inl (k_this_howMany, 7, .inl c_this_howMany))] H := hP
  have hD : va_D A [(q_this, .inr (7, [.ref q_this_now, .ref q_this_past, .int v_this_saved, .int 0, .ref q_this_list, .ref q_this_at, .ref q_this_levels, .ref q_this_newer, .ref q_this_howMany, .ref q_this_vectors, .ref q_this_dims, .ref q_this_comes, .ref q_this_goes, .ref q_this_cameFrom, .ref q_this_halves, .int v_this_halfMany, .ref q_this_way, .ref q_this_used, .long v_this_hash])), (q_this_now, .inl (k_this_now, 187, .inl c_this_now)), (q_this_levels, .inl (k_this_levels, 64, .inl c_this_levels)), (q_this_newer, .inl (k_this_newer, 64, .inl c_this_newer)), (q_this_howMany, .inl (k_this_howMany, 7, .inl c_this_howMany))] := hD
  refine lv_aload_n hx hb dX7_rounds_5 rfl (lv_at hl 0 rfl) ?_
  replace hf := zob_some hf
  obtain ⟨u1, hu1, hf⟩ := hf
  refine kd_i (D := D) (v := u1.1) (av := [.ref q_this]) (wc := [(q_this, .inr (7, [.ref q_this_now, .ref q_this_past, .int v_this_saved, .int 0, .ref q_this_list, .ref q_this_at, .ref q_this_levels, .ref q_this_newer, .ref q_this_howMany, .ref q_this_vectors, .ref q_this_dims, .ref q_this_comes, .ref q_this_goes, .ref q_this_cameFrom, .ref q_this_halves, .int v_this_halfMany, .ref q_this_way, .ref q_this_used, .long v_this_hash])), (q_this_now, .inl (k_this_now, 187, .inl c_this_now)), (q_this_levels, .inl (k_this_levels, 64, .inl c_this_levels)), (q_this_newer, .inl (k_this_newer, 64, .inl c_this_newer)), (q_this_howMany, .inl (k_this_howMany, 7, .inl c_this_howMany))]) (w1 := [(q_this, .inr (7, [.ref q_this_now, .ref q_this_past, .int v_this_saved, .int 0, .ref q_this_list, .ref q_this_at, .ref q_this_levels, .ref q_this_newer, .ref q_this_howMany, .ref q_this_vectors, .ref q_this_dims, .ref q_this_comes, .ref q_this_goes, .ref q_this_cameFrom, .ref q_this_halves, .int v_this_halfMany, .ref q_this_way, .ref q_this_used, .long v_this_hash])), (q_this_now, .inl (k_this_now, 187, .inl c_this_now)), (q_this_levels, .inl (k_this_levels, 64, .inl u1.2.1)), (q_this_newer, .inl (k_this_newer, 64, .inl u1.2.2.1)), (q_this_howMany, .inl (k_this_howMany, 7, .inl u1.2.2.2))]) (ws2 := [(q_this, .inr (7, [.ref q_this_now, .ref q_this_past, .int v_this_saved, .int 0, .ref q_this_list, .ref q_this_at, .ref q_this_levels, .ref q_this_newer, .ref q_this_howMany, .ref q_this_vectors, .ref q_this_dims, .ref q_this_comes, .ref q_this_goes, .ref q_this_cameFrom, .ref q_this_halves, .int v_this_halfMany, .ref q_this_way, .ref q_this_used, .long v_this_hash])), (q_this_now, .inl (k_this_now, 187, .inl c_this_now)), (q_this_levels, .inl (k_this_levels, 64, .inl u1.2.1)), (q_this_newer, .inl (k_this_newer, 64, .inl u1.2.2.1)), (q_this_howMany, .inl (k_this_howMany, 7, .inl u1.2.2.2))]) hK hP hD hS hA hE [0, 1, 2, 3, 4] [0, 1, 2, 3] [] [0, 1, 2, 3, 4] (fun hb1 hp1 => va_runV (As := []) (rest := []) ⟨hx, hb, hml, hown, hts⟩ (c_X7_findLevels l D H.size q_this q_this_now q_this_past q_this_list q_this_at q_this_levels q_this_newer q_this_howMany q_this_vectors q_this_dims q_this_comes q_this_goes q_this_cameFrom q_this_halves q_this_way q_this_used k_this_now k_this_levels k_this_newer k_this_howMany v_this_saved 0 v_this_halfMany v_this_hash c_this_now c_this_levels c_this_newer c_this_howMany u1 hu1) (cwV 0 hts gX7_rounds_X7_findLevels rfl rfl rfl (by decide +kernel) ⟨Nat.le_of_ble_eq_true rfl, Nat.le_of_ble_eq_true rfl⟩) ⟨hb1, va_recv hK hP (ci := 7) (q0 := 0) rfl rfl, hp1⟩ rfl rfl hl.1 rfl (lv_room (Nat.le_of_ble_eq_true rfl)) dX7_rounds_6 ⟨Nat.le_of_ble_eq_true rfl, Nat.le_of_ble_eq_true rfl⟩) rfl rfl rfl rfl rfl rfl rfl rfl rfl rfl (fun H locs hP hD hS => ?_)
  have hP : va_P D vwCl [(q_this, .inr (7, [.ref q_this_now, .ref q_this_past, .int v_this_saved, .int 0, .ref q_this_list, .ref q_this_at, .ref q_this_levels, .ref q_this_newer, .ref q_this_howMany, .ref q_this_vectors, .ref q_this_dims, .ref q_this_comes, .ref q_this_goes, .ref q_this_cameFrom, .ref q_this_halves, .int v_this_halfMany, .ref q_this_way, .ref q_this_used, .long v_this_hash])), (q_this_now, .inl (k_this_now, 187, .inl c_this_now)), (q_this_levels, .inl (k_this_levels, 64, .inl u1.2.1)), (q_this_newer, .inl (k_this_newer, 64, .inl u1.2.2.1)), (q_this_howMany, .inl (k_this_howMany, 7, .inl u1.2.2.2))] H := hP
  have hD : va_D A [(q_this, .inr (7, [.ref q_this_now, .ref q_this_past, .int v_this_saved, .int 0, .ref q_this_list, .ref q_this_at, .ref q_this_levels, .ref q_this_newer, .ref q_this_howMany, .ref q_this_vectors, .ref q_this_dims, .ref q_this_comes, .ref q_this_goes, .ref q_this_cameFrom, .ref q_this_halves, .int v_this_halfMany, .ref q_this_way, .ref q_this_used, .long v_this_hash])), (q_this_now, .inl (k_this_now, 187, .inl c_this_now)), (q_this_levels, .inl (k_this_levels, 64, .inl u1.2.1)), (q_this_newer, .inl (k_this_newer, 64, .inl u1.2.2.1)), (q_this_howMany, .inl (k_this_howMany, 7, .inl u1.2.2.2))] := hD
  obtain rfl := Option.some.inj hf
  subst eQ
  exact kr_i hx hb hr hlocks hK hP hD hS dX7_rounds_9
theorem n_X7_safeOnes_X7 : ∀ w ∈ u_ws RX7 TX7 19, w ∈ wsX7_safeOnes := by decide +kernel
abbrev rm_X7_safeOnes : Room := { frames := 2, cells := 0, slots := 0, locals := 46 }
set_option maxHeartbeats 4000000 in
set_option maxRecDepth 100000 in
theorem c_X7_safeOnes (l : Launch) (D : va_G) (sz : Nat) (q_this : Nat) (q_this_now : Nat) (q_this_past : Nat) (q_this_list : Nat) (q_this_at : Nat) (q_this_levels : Nat) (q_this_newer : Nat) (q_this_howMany : Nat) (q_this_vectors : Nat) (q_this_dims : Nat) (q_this_comes : Nat) (q_this_goes : Nat) (q_this_cameFrom : Nat) (q_this_halves : Nat) (q_this_way : Nat) (q_this_used : Nat) (k_this_now : ClassId) (k_this_levels : ClassId) (k_this_newer : ClassId) (k_this_howMany : ClassId) (v_this_saved : Int32) (v_this_refusal : Int32) (v_this_halfMany : Int32) (v_this_hash : Int64) (c_this_now : (Nat → Int32)) (c_this_levels : (Nat → Int32)) (c_this_newer : (Nat → Int32)) (c_this_howMany : (Nat → Int32)) (res : rt_X7_safeOnes) (hf : f_X7_safeOnes c_this_now c_this_levels c_this_newer c_this_howMany = some res) : Met l yX7_safeOnes wsX7_safeOnes rm_X7_safeOnes (kP D [.ref q_this] [(q_this, .inr (7, [.ref q_this_now, .ref q_this_past, .int v_this_saved, .int v_this_refusal, .ref q_this_list, .ref q_this_at, .ref q_this_levels, .ref q_this_newer, .ref q_this_howMany, .ref q_this_vectors, .ref q_this_dims, .ref q_this_comes, .ref q_this_goes, .ref q_this_cameFrom, .ref q_this_halves, .int v_this_halfMany, .ref q_this_way, .ref q_this_used, .long v_this_hash])), (q_this_now, .inl (k_this_now, 187, .inl c_this_now)), (q_this_levels, .inl (k_this_levels, 64, .inl c_this_levels)), (q_this_newer, .inl (k_this_newer, 64, .inl c_this_newer)), (q_this_howMany, .inl (k_this_howMany, 7, .inl c_this_howMany))] [(k_this_now, .int), (k_this_levels, .int), (k_this_newer, .int), (k_this_howMany, .int)] sz) (kQi D (va_A [(q_this, .inr (7, [.ref q_this_now, .ref q_this_past, .int v_this_saved, .int v_this_refusal, .ref q_this_list, .ref q_this_at, .ref q_this_levels, .ref q_this_newer, .ref q_this_howMany, .ref q_this_vectors, .ref q_this_dims, .ref q_this_comes, .ref q_this_goes, .ref q_this_cameFrom, .ref q_this_halves, .int v_this_halfMany, .ref q_this_way, .ref q_this_used, .long v_this_hash])), (q_this_now, .inl (k_this_now, 187, .inl c_this_now)), (q_this_levels, .inl (k_this_levels, 64, .inl c_this_levels)), (q_this_newer, .inl (k_this_newer, 64, .inl c_this_newer)), (q_this_howMany, .inl (k_this_howMany, 7, .inl c_this_howMany))] sz) [(k_this_now, .int), (k_this_levels, .int), (k_this_newer, .int), (k_this_howMany, .int)] res.1 [(q_this, .inr (7, [.ref q_this_now, .ref q_this_past, .int v_this_saved, .int v_this_refusal, .ref q_this_list, .ref q_this_at, .ref q_this_levels, .ref q_this_newer, .ref q_this_howMany, .ref q_this_vectors, .ref q_this_dims, .ref q_this_comes, .ref q_this_goes, .ref q_this_cameFrom, .ref q_this_halves, .int v_this_halfMany, .ref q_this_way, .ref q_this_used, .long v_this_hash])), (q_this_now, .inl (k_this_now, 187, .inl c_this_now)), (q_this_levels, .inl (k_this_levels, 64, .inl res.2.1)), (q_this_newer, .inl (k_this_newer, 64, .inl res.2.2.1)), (q_this_howMany, .inl (k_this_howMany, 7, .inl res.2.2.2))]) 0 0 (va_A [(q_this, .inr (7, [.ref q_this_now, .ref q_this_past, .int v_this_saved, .int v_this_refusal, .ref q_this_list, .ref q_this_at, .ref q_this_levels, .ref q_this_newer, .ref q_this_howMany, .ref q_this_vectors, .ref q_this_dims, .ref q_this_comes, .ref q_this_goes, .ref q_this_cameFrom, .ref q_this_halves, .int v_this_halfMany, .ref q_this_way, .ref q_this_used, .long v_this_hash])), (q_this_now, .inl (k_this_now, 187, .inl c_this_now)), (q_this_levels, .inl (k_this_levels, 64, .inl c_this_levels)), (q_this_newer, .inl (k_this_newer, 64, .inl c_this_newer)), (q_this_howMany, .inl (k_this_howMany, 7, .inl c_this_howMany))] sz) := by
  refine Met.ofW (cc := cX7_safeOnes) (maxL := 3) (ret := (some .int)) (by decide +kernel) rfl ?_
  intro p e s m args below meth c s₁ B hml hv
  obtain ⟨hargs, hsz, hP, hK, hD0, hE⟩ := hv
  have hx := B.exec
  have hb := B.bytes
  have hr := B.returns
  have hts := atoms_spec (ws := wsX7_safeOnes) B.pre
  have hown : s.vm.findClass RX7 = some m.cls := findClass_of_methodNamed B.named
  have hlocks := B.notSynchronized
  subst hsz
  have hD := hD0.self (sz := s.heap.size)
  generalize hAe : va_A [(q_this, .inr (7, [.ref q_this_now, .ref q_this_past, .int v_this_saved, .int v_this_refusal, .ref q_this_list, .ref q_this_at, .ref q_this_levels, .ref q_this_newer, .ref q_this_howMany, .ref q_this_vectors, .ref q_this_dims, .ref q_this_comes, .ref q_this_goes, .ref q_this_cameFrom, .ref q_this_halves, .int v_this_halfMany, .ref q_this_way, .ref q_this_used, .long v_this_hash])), (q_this_now, .inl (k_this_now, 187, .inl c_this_now)), (q_this_levels, .inl (k_this_levels, 64, .inl c_this_levels)), (q_this_newer, .inl (k_this_newer, 64, .inl c_this_newer)), (q_this_howMany, .inl (k_this_howMany, 7, .inl c_this_howMany))] s.heap.size = A at hD hE ⊢
  have hA : ∀ q : Nat, s.heap.size ≤ q → A q := fun q h => by rw [← hAe]; exact Or.inr h
  have hS : va_S A s.heap s.heap [] := va_S.rf
  refine kgen (fun Q eQ => ?_)
  refine kent (av := [.ref q_this]) hargs (Nat.le_of_ble_eq_true rfl) (fun ls hl => ?_)
  have hl : lv_has ls 3 [(0, .ref q_this)] := hl
  show W p l e rm_X7_safeOnes s m args below meth c s.heap [] 0 0 Q (F0 m 0 ls [])
  unfold f_X7_safeOnes at hf
  refine lv_aload_n hx hb dX7_safeOnes_0 rfl (lv_at hl 0 rfl) ?_
  replace hf := zob_some hf
  obtain ⟨u1, hu1, hf⟩ := hf
  refine kd_i (D := D) (v := u1.1) (av := [.ref q_this]) (wc := [(q_this, .inr (7, [.ref q_this_now, .ref q_this_past, .int v_this_saved, .int v_this_refusal, .ref q_this_list, .ref q_this_at, .ref q_this_levels, .ref q_this_newer, .ref q_this_howMany, .ref q_this_vectors, .ref q_this_dims, .ref q_this_comes, .ref q_this_goes, .ref q_this_cameFrom, .ref q_this_halves, .int v_this_halfMany, .ref q_this_way, .ref q_this_used, .long v_this_hash])), (q_this_now, .inl (k_this_now, 187, .inl c_this_now)), (q_this_levels, .inl (k_this_levels, 64, .inl c_this_levels)), (q_this_newer, .inl (k_this_newer, 64, .inl c_this_newer)), (q_this_howMany, .inl (k_this_howMany, 7, .inl c_this_howMany))]) (w1 := [(q_this, .inr (7, [.ref q_this_now, .ref q_this_past, .int v_this_saved, .int v_this_refusal, .ref q_this_list, .ref q_this_at, .ref q_this_levels, .ref q_this_newer, .ref q_this_howMany, .ref q_this_vectors, .ref q_this_dims, .ref q_this_comes, .ref q_this_goes, .ref q_this_cameFrom, .ref q_this_halves, .int v_this_halfMany, .ref q_this_way, .ref q_this_used, .long v_this_hash])), (q_this_now, .inl (k_this_now, 187, .inl c_this_now)), (q_this_levels, .inl (k_this_levels, 64, .inl u1.2.1)), (q_this_newer, .inl (k_this_newer, 64, .inl u1.2.2.1)), (q_this_howMany, .inl (k_this_howMany, 7, .inl u1.2.2.2))]) (ws2 := [(q_this, .inr (7, [.ref q_this_now, .ref q_this_past, .int v_this_saved, .int v_this_refusal, .ref q_this_list, .ref q_this_at, .ref q_this_levels, .ref q_this_newer, .ref q_this_howMany, .ref q_this_vectors, .ref q_this_dims, .ref q_this_comes, .ref q_this_goes, .ref q_this_cameFrom, .ref q_this_halves, .int v_this_halfMany, .ref q_this_way, .ref q_this_used, .long v_this_hash])), (q_this_now, .inl (k_this_now, 187, .inl c_this_now)), (q_this_levels, .inl (k_this_levels, 64, .inl u1.2.1)), (q_this_newer, .inl (k_this_newer, 64, .inl u1.2.2.1)), (q_this_howMany, .inl (k_this_howMany, 7, .inl u1.2.2.2))]) hK hP hD hS hA hE [0, 1, 2, 3, 4] [0, 1, 2, 3] [] [0, 1, 2, 3, 4] (fun hb1 hp1 => va_runV (As := []) (rest := []) ⟨hx, hb, hml, hown, hts⟩ (c_X7_findLevels l D s.heap.size q_this q_this_now q_this_past q_this_list q_this_at q_this_levels q_this_newer q_this_howMany q_this_vectors q_this_dims q_this_comes q_this_goes q_this_cameFrom q_this_halves q_this_way q_this_used k_this_now k_this_levels k_this_newer k_this_howMany v_this_saved v_this_refusal v_this_halfMany v_this_hash c_this_now c_this_levels c_this_newer c_this_howMany u1 hu1) (cwV 0 hts gX7_safeOnes_X7_findLevels rfl rfl rfl (by decide +kernel) ⟨Nat.le_of_ble_eq_true rfl, Nat.le_of_ble_eq_true rfl⟩) ⟨hb1, va_recv hK hP (ci := 7) (q0 := 0) rfl rfl, hp1⟩ rfl rfl hl.1 rfl (lv_room (Nat.le_of_ble_eq_true rfl)) dX7_safeOnes_1 ⟨Nat.le_of_ble_eq_true rfl, Nat.le_of_ble_eq_true rfl⟩) rfl rfl rfl rfl rfl rfl rfl rfl rfl rfl (fun H locs hP hD hS => ?_)
  have hP : va_P D vwCl [(q_this, .inr (7, [.ref q_this_now, .ref q_this_past, .int v_this_saved, .int v_this_refusal, .ref q_this_list, .ref q_this_at, .ref q_this_levels, .ref q_this_newer, .ref q_this_howMany, .ref q_this_vectors, .ref q_this_dims, .ref q_this_comes, .ref q_this_goes, .ref q_this_cameFrom, .ref q_this_halves, .int v_this_halfMany, .ref q_this_way, .ref q_this_used, .long v_this_hash])), (q_this_now, .inl (k_this_now, 187, .inl c_this_now)), (q_this_levels, .inl (k_this_levels, 64, .inl u1.2.1)), (q_this_newer, .inl (k_this_newer, 64, .inl u1.2.2.1)), (q_this_howMany, .inl (k_this_howMany, 7, .inl u1.2.2.2))] H := hP
  have hD : va_D A [(q_this, .inr (7, [.ref q_this_now, .ref q_this_past, .int v_this_saved, .int v_this_refusal, .ref q_this_list, .ref q_this_at, .ref q_this_levels, .ref q_this_newer, .ref q_this_howMany, .ref q_this_vectors, .ref q_this_dims, .ref q_this_comes, .ref q_this_goes, .ref q_this_cameFrom, .ref q_this_halves, .int v_this_halfMany, .ref q_this_way, .ref q_this_used, .long v_this_hash])), (q_this_now, .inl (k_this_now, 187, .inl c_this_now)), (q_this_levels, .inl (k_this_levels, 64, .inl u1.2.1)), (q_this_newer, .inl (k_this_newer, 64, .inl u1.2.2.1)), (q_this_howMany, .inl (k_this_howMany, 7, .inl u1.2.2.2))] := hD
  refine lv_pop hx hb dX7_safeOnes_4 rfl ?_
  refine lv_iconst (v := 0) hx hb dX7_safeOnes_5 (by decide) ?_
  refine lv_istore_n (lv' := [(1, .int 0), (0, .ref q_this)]) hx hb dX7_safeOnes_6 rfl hl (by decide) rfl (fun ls hl => ?_)
  refine lv_iconst (v := 0) hx hb dX7_safeOnes_7 (by decide) ?_
  refine lv_istore_n (lv' := [(2, .int 0), (1, .int 0), (0, .ref q_this)]) hx hb dX7_safeOnes_8 rfl hl (by decide) rfl (fun ls hl => ?_)
  replace hf := zl2_some hf
  obtain ⟨F9, eF9, hf⟩ := hf
  have h9 : ∀ (n9 : Nat) (i1_9 : Int32) (i2_9 : Int32), zl2 F9 n9 i1_9 i2_9 = some res → ∀ (H : Heap) (locs : List Loc) (ls : Array Slot), va_P D vwCl [(q_this, .inr (7, [.ref q_this_now, .ref q_this_past, .int v_this_saved, .int v_this_refusal, .ref q_this_list, .ref q_this_at, .ref q_this_levels, .ref q_this_newer, .ref q_this_howMany, .ref q_this_vectors, .ref q_this_dims, .ref q_this_comes, .ref q_this_goes, .ref q_this_cameFrom, .ref q_this_halves, .int v_this_halfMany, .ref q_this_way, .ref q_this_used, .long v_this_hash])), (q_this_now, .inl (k_this_now, 187, .inl c_this_now)), (q_this_levels, .inl (k_this_levels, 64, .inl u1.2.1)), (q_this_newer, .inl (k_this_newer, 64, .inl u1.2.2.1)), (q_this_howMany, .inl (k_this_howMany, 7, .inl u1.2.2.2))] H → va_D A [(q_this, .inr (7, [.ref q_this_now, .ref q_this_past, .int v_this_saved, .int v_this_refusal, .ref q_this_list, .ref q_this_at, .ref q_this_levels, .ref q_this_newer, .ref q_this_howMany, .ref q_this_vectors, .ref q_this_dims, .ref q_this_comes, .ref q_this_goes, .ref q_this_cameFrom, .ref q_this_halves, .int v_this_halfMany, .ref q_this_way, .ref q_this_used, .long v_this_hash])), (q_this_now, .inl (k_this_now, 187, .inl c_this_now)), (q_this_levels, .inl (k_this_levels, 64, .inl u1.2.1)), (q_this_newer, .inl (k_this_newer, 64, .inl u1.2.2.1)), (q_this_howMany, .inl (k_this_howMany, 7, .inl u1.2.2.2))] → va_S A s.heap H locs → lv_has ls 3 [(0, .ref q_this), (1, .int i1_9), (2, .int i2_9)] → W p l e rm_X7_safeOnes s m args below meth c H locs 0 0 Q (F0 m 9 ls []) := by
    intro n9
    induction n9 with
    | zero => intro i1_9 i2_9 hf; exact (zl2_zero hf).elim
    | succ n9 ih9 =>
      intro i1_9 i2_9 hf H locs ls hP hD hS hl
      replace hf := zl2_step eF9 hf
      generalize zl2 F9 n9 = k9 at hf ih9
      refine lv_iload_n hx hb dX7_safeOnes_9 rfl (lv_at hl 2 rfl) ?_
      refine lv_aload_n hx hb dX7_safeOnes_10 rfl (lv_at hl 0 rfl) ?_
      replace hf := zob_some hf
      obtain ⟨u2, hu2, hf⟩ := hf
      refine kd_i (D := D) (v := u2) (av := [.ref q_this]) (wc := [(q_this, .inr (7, [.ref q_this_now, .ref q_this_past, .int v_this_saved, .int v_this_refusal, .ref q_this_list, .ref q_this_at, .ref q_this_levels, .ref q_this_newer, .ref q_this_howMany, .ref q_this_vectors, .ref q_this_dims, .ref q_this_comes, .ref q_this_goes, .ref q_this_cameFrom, .ref q_this_halves, .int v_this_halfMany, .ref q_this_way, .ref q_this_used, .long v_this_hash])), (q_this_now, .inl (k_this_now, 187, .inl c_this_now))]) (w1 := [(q_this, .inr (7, [.ref q_this_now, .ref q_this_past, .int v_this_saved, .int v_this_refusal, .ref q_this_list, .ref q_this_at, .ref q_this_levels, .ref q_this_newer, .ref q_this_howMany, .ref q_this_vectors, .ref q_this_dims, .ref q_this_comes, .ref q_this_goes, .ref q_this_cameFrom, .ref q_this_halves, .int v_this_halfMany, .ref q_this_way, .ref q_this_used, .long v_this_hash])), (q_this_now, .inl (k_this_now, 187, .inl c_this_now))]) (ws2 := [(q_this, .inr (7, [.ref q_this_now, .ref q_this_past, .int v_this_saved, .int v_this_refusal, .ref q_this_list, .ref q_this_at, .ref q_this_levels, .ref q_this_newer, .ref q_this_howMany, .ref q_this_vectors, .ref q_this_dims, .ref q_this_comes, .ref q_this_goes, .ref q_this_cameFrom, .ref q_this_halves, .int v_this_halfMany, .ref q_this_way, .ref q_this_used, .long v_this_hash])), (q_this_now, .inl (k_this_now, 187, .inl c_this_now)), (q_this_levels, .inl (k_this_levels, 64, .inl u1.2.1)), (q_this_newer, .inl (k_this_newer, 64, .inl u1.2.2.1)), (q_this_howMany, .inl (k_this_howMany, 7, .inl u1.2.2.2))]) hK hP hD hS hA hE [0, 1] [0] [2, 3, 4] [3, 4, 0, 1, 2] (fun hb1 hp1 => va_runV (As := []) (rest := [.int i2_9]) ⟨hx, hb, hml, hown, hts⟩ (c_X7_nodes l D H.size q_this q_this_now q_this_past q_this_list q_this_at q_this_levels q_this_newer q_this_howMany q_this_vectors q_this_dims q_this_comes q_this_goes q_this_cameFrom q_this_halves q_this_way q_this_used k_this_now v_this_saved v_this_refusal v_this_halfMany v_this_hash c_this_now u2 hu2) (cwV 0 hts gX7_safeOnes_X7_nodes rfl rfl rfl (by decide +kernel) ⟨Nat.le_of_ble_eq_true rfl, Nat.le_of_ble_eq_true rfl⟩) ⟨hb1, va_recv hK hP (ci := 7) (q0 := 0) rfl rfl, hp1⟩ rfl rfl hl.1 rfl (lv_room (Nat.le_of_ble_eq_true rfl)) dX7_safeOnes_11 ⟨Nat.le_of_ble_eq_true rfl, Nat.le_of_ble_eq_true rfl⟩) rfl rfl rfl rfl rfl rfl rfl rfl rfl rfl (fun H locs hP hD hS => ?_)
      have hP : va_P D vwCl [(q_this, .inr (7, [.ref q_this_now, .ref q_this_past, .int v_this_saved, .int v_this_refusal, .ref q_this_list, .ref q_this_at, .ref q_this_levels, .ref q_this_newer, .ref q_this_howMany, .ref q_this_vectors, .ref q_this_dims, .ref q_this_comes, .ref q_this_goes, .ref q_this_cameFrom, .ref q_this_halves, .int v_this_halfMany, .ref q_this_way, .ref q_this_used, .long v_this_hash])), (q_this_now, .inl (k_this_now, 187, .inl c_this_now)), (q_this_levels, .inl (k_this_levels, 64, .inl u1.2.1)), (q_this_newer, .inl (k_this_newer, 64, .inl u1.2.2.1)), (q_this_howMany, .inl (k_this_howMany, 7, .inl u1.2.2.2))] H := hP
      have hD : va_D A [(q_this, .inr (7, [.ref q_this_now, .ref q_this_past, .int v_this_saved, .int v_this_refusal, .ref q_this_list, .ref q_this_at, .ref q_this_levels, .ref q_this_newer, .ref q_this_howMany, .ref q_this_vectors, .ref q_this_dims, .ref q_this_comes, .ref q_this_goes, .ref q_this_cameFrom, .ref q_this_halves, .int v_this_halfMany, .ref q_this_way, .ref q_this_used, .long v_this_hash])), (q_this_now, .inl (k_this_now, 187, .inl c_this_now)), (q_this_levels, .inl (k_this_levels, 64, .inl u1.2.1)), (q_this_newer, .inl (k_this_newer, 64, .inl u1.2.2.1)), (q_this_howMany, .inl (k_this_howMany, 7, .inl u1.2.2.2))] := hD
      refine lv_icmp_ge (tgt := 46) hx hb dX7_safeOnes_14 (by decide) (fun cd14 => ?_) (fun cd14 => ?_)
      · replace hf := zite_t cd14 hf
        refine lv_iload_n hx hb dX7_safeOnes_46 rfl (lv_at hl 1 rfl) ?_
        obtain rfl := Option.some.inj hf
        subst eQ
        exact kr_i hx hb hr hlocks hK hP hD hS dX7_safeOnes_47
      · replace hf := zite_f cd14 hf
        refine lv_iload_n hx hb dX7_safeOnes_17 rfl (lv_at hl 1 rfl) ?_
        refine lv_aload_n hx hb dX7_safeOnes_18 rfl (lv_at hl 0 rfl) ?_
        refine va_get (D := D) (ci := 7) (v := .ref q_this_levels) (C := RX7) (T := TX7) (N := 19) hx hb hts n_X7_safeOnes_X7 hown hK hP 0 rfl rfl 6 (by decide) (hts (.fieldLink RX7 22 "FaultyCubeModel" "levels" "[I") (by decide +kernel)) (fun _ h9 => h9) rfl dX7_safeOnes_19 ?_
        refine lv_iload_n hx hb dX7_safeOnes_22 rfl (lv_at hl 2 rfl) ?_
        replace hf := zgd_some hf
        obtain ⟨g3, hf⟩ := hf
        refine va_iald (D := D) hx hb hK hP 2 1 rfl rfl (inb_in g3) dX7_safeOnes_23 ?_
        refine lv_aload_n hx hb dX7_safeOnes_24 rfl (lv_at hl 0 rfl) ?_
        refine va_get (D := D) (ci := 7) (v := .ref q_this_now) (C := RX7) (T := TX7) (N := 19) hx hb hts n_X7_safeOnes_X7 hown hK hP 0 rfl rfl 0 (by decide) (hts (.fieldLink RX7 7 "FaultyCubeModel" "now" "[I") (by decide +kernel)) (fun _ h9 => h9) rfl dX7_safeOnes_25 ?_
        refine lv_iconst (v := 0) hx hb dX7_safeOnes_28 (by decide) ?_
        replace hf := zgd_some hf
        obtain ⟨g4, hf⟩ := hf
        refine va_iald (D := D) hx hb hK hP 1 0 rfl rfl (inb_in g4) dX7_safeOnes_29 ?_
        replace hf := zjp_some hf
        obtain ⟨K38, eK38, hf⟩ := hf
        have j38 : ∀ (s0_38 : Int32) (s1_38 : Int32), K38 s0_38 s1_38 = some res → ∀ (H : Heap) (locs : List Loc) (ls : Array Slot), va_P D vwCl [(q_this, .inr (7, [.ref q_this_now, .ref q_this_past, .int v_this_saved, .int v_this_refusal, .ref q_this_list, .ref q_this_at, .ref q_this_levels, .ref q_this_newer, .ref q_this_howMany, .ref q_this_vectors, .ref q_this_dims, .ref q_this_comes, .ref q_this_goes, .ref q_this_cameFrom, .ref q_this_halves, .int v_this_halfMany, .ref q_this_way, .ref q_this_used, .long v_this_hash])), (q_this_now, .inl (k_this_now, 187, .inl c_this_now)), (q_this_levels, .inl (k_this_levels, 64, .inl u1.2.1)), (q_this_newer, .inl (k_this_newer, 64, .inl u1.2.2.1)), (q_this_howMany, .inl (k_this_howMany, 7, .inl u1.2.2.2))] H → va_D A [(q_this, .inr (7, [.ref q_this_now, .ref q_this_past, .int v_this_saved, .int v_this_refusal, .ref q_this_list, .ref q_this_at, .ref q_this_levels, .ref q_this_newer, .ref q_this_howMany, .ref q_this_vectors, .ref q_this_dims, .ref q_this_comes, .ref q_this_goes, .ref q_this_cameFrom, .ref q_this_halves, .int v_this_halfMany, .ref q_this_way, .ref q_this_used, .long v_this_hash])), (q_this_now, .inl (k_this_now, 187, .inl c_this_now)), (q_this_levels, .inl (k_this_levels, 64, .inl u1.2.1)), (q_this_newer, .inl (k_this_newer, 64, .inl u1.2.2.1)), (q_this_howMany, .inl (k_this_howMany, 7, .inl u1.2.2.2))] → va_S A s.heap H locs → lv_has ls 3 [(0, .ref q_this), (2, .int i2_9)] → W p l e rm_X7_safeOnes s m args below meth c H locs 0 0 Q (F0 m 38 ls [.int s1_38, .int s0_38]) := by
          intro s0_38 s1_38 hf H locs ls hP hD hS hl
          replace hf := zap2 eK38 hf
          refine lv_iadd hx hb dX7_safeOnes_38 ?_
          refine lv_topi (fun x5 ex5 => ?_)
          replace hf := zbd_of ex5 hf
          refine lv_istore_n (lv' := [(1, .int x5), (0, .ref q_this), (2, .int i2_9)]) hx hb dX7_safeOnes_39 rfl hl (by decide) rfl (fun ls hl => ?_)
          obtain ⟨x6, ex6⟩ : ∃ y : Int32, y = i2_9 + 1 := ⟨_, rfl⟩
          replace hf := zbd_of ex6 hf
          refine lv_iinc (v := x6) (lv' := [(2, .int x6), (1, .int x5), (0, .ref q_this)]) hx hb dX7_safeOnes_40 hl (k := 2) rfl (by rw [ex6]; rfl) (by decide) rfl (fun ls hl => ?_)
          refine lv_goto (tgt := 9) hx hb dX7_safeOnes_43 (by decide) ?_
          exact ih9 x5 x6 hf H locs ls hP hD hS (lv_sub hl [2, 1, 0] rfl)
        refine lv_icmp_ne (tgt := 37) hx hb dX7_safeOnes_30 (by decide) (fun cd30 => ?_) (fun cd30 => ?_)
        · replace hf := zite_f cd30 hf
          refine lv_iconst (v := 0) hx hb dX7_safeOnes_37 (by decide) ?_
          exact j38 i1_9 0 hf H locs ls hP hD hS (lv_sub hl [0, 2] rfl)
        · replace hf := zite_t cd30 hf
          refine lv_iconst (v := 1) hx hb dX7_safeOnes_33 (by decide) ?_
          refine lv_goto (tgt := 38) hx hb dX7_safeOnes_34 (by decide) ?_
          exact j38 i1_9 1 hf H locs ls hP hD hS (lv_sub hl [0, 2] rfl)
  exact h9 zfu 0 0 hf H locs ls hP hD hS (lv_sub hl [2, 1, 0] rfl)
theorem n_X7_safeNodes_X7 : ∀ w ∈ u_ws RX7 TX7 19, w ∈ wsX7_safeNodes := by decide +kernel
abbrev rm_X7_safeNodes : Room := { frames := 3, cells := 0, slots := 0, locals := 68 }
set_option maxHeartbeats 4000000 in
set_option maxRecDepth 100000 in
theorem c_X7_safeNodes (l : Launch) (D : va_G) (sz : Nat) (q_this : Nat) (q_this_now : Nat) (q_this_past : Nat) (q_this_list : Nat) (q_this_at : Nat) (q_this_levels : Nat) (q_this_newer : Nat) (q_this_howMany : Nat) (q_this_vectors : Nat) (q_this_dims : Nat) (q_this_comes : Nat) (q_this_goes : Nat) (q_this_cameFrom : Nat) (q_this_halves : Nat) (q_this_way : Nat) (q_this_used : Nat) (k_this_now : ClassId) (k_this_levels : ClassId) (k_this_newer : ClassId) (k_this_howMany : ClassId) (v_this_saved : Int32) (v_this_refusal : Int32) (v_this_halfMany : Int32) (v_this_hash : Int64) (c_this_now : (Nat → Int32)) (c_this_levels : (Nat → Int32)) (c_this_newer : (Nat → Int32)) (c_this_howMany : (Nat → Int32)) (res : rt_X7_safeNodes) (hf : f_X7_safeNodes v_this_refusal c_this_now c_this_levels c_this_newer c_this_howMany = some res) : Met l yX7_safeNodes wsX7_safeNodes rm_X7_safeNodes (kP D [.ref q_this] [(q_this, .inr (7, [.ref q_this_now, .ref q_this_past, .int v_this_saved, .int v_this_refusal, .ref q_this_list, .ref q_this_at, .ref q_this_levels, .ref q_this_newer, .ref q_this_howMany, .ref q_this_vectors, .ref q_this_dims, .ref q_this_comes, .ref q_this_goes, .ref q_this_cameFrom, .ref q_this_halves, .int v_this_halfMany, .ref q_this_way, .ref q_this_used, .long v_this_hash])), (q_this_now, .inl (k_this_now, 187, .inl c_this_now)), (q_this_levels, .inl (k_this_levels, 64, .inl c_this_levels)), (q_this_newer, .inl (k_this_newer, 64, .inl c_this_newer)), (q_this_howMany, .inl (k_this_howMany, 7, .inl c_this_howMany))] [(k_this_now, .int), (k_this_levels, .int), (k_this_newer, .int), (k_this_howMany, .int)] sz) (kQi D (va_A [(q_this, .inr (7, [.ref q_this_now, .ref q_this_past, .int v_this_saved, .int v_this_refusal, .ref q_this_list, .ref q_this_at, .ref q_this_levels, .ref q_this_newer, .ref q_this_howMany, .ref q_this_vectors, .ref q_this_dims, .ref q_this_comes, .ref q_this_goes, .ref q_this_cameFrom, .ref q_this_halves, .int v_this_halfMany, .ref q_this_way, .ref q_this_used, .long v_this_hash])), (q_this_now, .inl (k_this_now, 187, .inl c_this_now)), (q_this_levels, .inl (k_this_levels, 64, .inl c_this_levels)), (q_this_newer, .inl (k_this_newer, 64, .inl c_this_newer)), (q_this_howMany, .inl (k_this_howMany, 7, .inl c_this_howMany))] sz) [(k_this_now, .int), (k_this_levels, .int), (k_this_newer, .int), (k_this_howMany, .int)] res.1 [(q_this, .inr (7, [.ref q_this_now, .ref q_this_past, .int v_this_saved, .int res.2.1, .ref q_this_list, .ref q_this_at, .ref q_this_levels, .ref q_this_newer, .ref q_this_howMany, .ref q_this_vectors, .ref q_this_dims, .ref q_this_comes, .ref q_this_goes, .ref q_this_cameFrom, .ref q_this_halves, .int v_this_halfMany, .ref q_this_way, .ref q_this_used, .long v_this_hash])), (q_this_now, .inl (k_this_now, 187, .inl c_this_now)), (q_this_levels, .inl (k_this_levels, 64, .inl res.2.2.1)), (q_this_newer, .inl (k_this_newer, 64, .inl res.2.2.2.1)), (q_this_howMany, .inl (k_this_howMany, 7, .inl res.2.2.2.2))]) 0 0 (va_A [(q_this, .inr (7, [.ref q_this_now, .ref q_this_past, .int v_this_saved, .int v_this_refusal, .ref q_this_list, .ref q_this_at, .ref q_this_levels, .ref q_this_newer, .ref q_this_howMany, .ref q_this_vectors, .ref q_this_dims, .ref q_this_comes, .ref q_this_goes, .ref q_this_cameFrom, .ref q_this_halves, .int v_this_halfMany, .ref q_this_way, .ref q_this_used, .long v_this_hash])), (q_this_now, .inl (k_this_now, 187, .inl c_this_now)), (q_this_levels, .inl (k_this_levels, 64, .inl c_this_levels)), (q_this_newer, .inl (k_this_newer, 64, .inl c_this_newer)), (q_this_howMany, .inl (k_this_howMany, 7, .inl c_this_howMany))] sz) := by
  refine Met.ofW (cc := cX7_safeNodes) (maxL := 1) (ret := (some .int)) (by decide +kernel) rfl ?_
  intro p e s m args below meth c s₁ B hml hv
  obtain ⟨hargs, hsz, hP, hK, hD0, hE⟩ := hv
  have hx := B.exec
  have hb := B.bytes
  have hr := B.returns
  have hts := atoms_spec (ws := wsX7_safeNodes) B.pre
  have hown : s.vm.findClass RX7 = some m.cls := findClass_of_methodNamed B.named
  have hlocks := B.notSynchronized
  subst hsz
  have hD := hD0.self (sz := s.heap.size)
  generalize hAe : va_A [(q_this, .inr (7, [.ref q_this_now, .ref q_this_past, .int v_this_saved, .int v_this_refusal, .ref q_this_list, .ref q_this_at, .ref q_this_levels, .ref q_this_newer, .ref q_this_howMany, .ref q_this_vectors, .ref q_this_dims, .ref q_this_comes, .ref q_this_goes, .ref q_this_cameFrom, .ref q_this_halves, .int v_this_halfMany, .ref q_this_way, .ref q_this_used, .long v_this_hash])), (q_this_now, .inl (k_this_now, 187, .inl c_this_now)), (q_this_levels, .inl (k_this_levels, 64, .inl c_this_levels)), (q_this_newer, .inl (k_this_newer, 64, .inl c_this_newer)), (q_this_howMany, .inl (k_this_howMany, 7, .inl c_this_howMany))] s.heap.size = A at hD hE ⊢
  have hA : ∀ q : Nat, s.heap.size ≤ q → A q := fun q h => by rw [← hAe]; exact Or.inr h
  have hS : va_S A s.heap s.heap [] := va_S.rf
  refine kgen (fun Q eQ => ?_)
  refine kent (av := [.ref q_this]) hargs (Nat.le_of_ble_eq_true rfl) (fun ls hl => ?_)
  have hl : lv_has ls 1 [(0, .ref q_this)] := hl
  show W p l e rm_X7_safeNodes s m args below meth c s.heap [] 0 0 Q (F0 m 0 ls [])
  unfold f_X7_safeNodes at hf
  refine lv_aload_n hx hb dX7_safeNodes_0 rfl (lv_at hl 0 rfl) ?_
  refine lv_iconst (v := 0) hx hb dX7_safeNodes_1 (by decide) ?_
  refine va_put (D := D) (ci := 7) (v := .int 0) (ty := .int) (C := RX7) (T := TX7) (N := 19) hx hb hts n_X7_safeNodes_X7 tyX7 tyX7_ok nmX7 hown hK hP hD hS 0 rfl rfl 3 (by decide) (hts (.fieldLink RX7 56 "FaultyCubeModel" "refusal" "I") (by decide +kernel)) (fun _ h9 => h9) rfl (by decide +kernel) rfl rfl (Nat.le_of_ble_eq_true rfl) dX7_safeNodes_2 (fun H locs hP hD hS => ?_)
  have hP : va_P D vwCl [(q_this, .inr (7, [.ref q_this_now, .ref q_this_past, .int v_this_saved, .int 0, .ref q_this_list, .ref q_this_at, .ref q_this_levels, .ref q_this_newer, .ref q_this_howMany, .ref q_this_vectors, .ref q_this_dims, .ref q_this_comes, .ref q_this_goes, .ref q_this_cameFrom, .ref q_this_halves, .int v_this_halfMany, .ref q_this_way, .ref q_this_used, .long v_this_hash])), (q_this_now, .inl (k_this_now, 187, .inl c_this_now)), (q_this_levels, .inl (k_this_levels, 64, .inl c_this_levels)), (q_this_newer, .inl (k_this_newer, 64, .inl c_this_newer)), (q_this_howMany, .inl (k_this_howMany, 7, .inl c_this_howMany))] H := hP
  have hD : va_D A [(q_this, .inr (7, [.ref q_this_now, .ref q_this_past, .int v_this_saved, .int 0, .ref q_this_list, .ref q_this_at, .ref q_this_levels, .ref q_this_newer, .ref q_this_howMany, .ref q_this_vectors, .ref q_this_dims, .ref q_this_comes, .ref q_this_goes, .ref q_this_cameFrom, .ref q_this_halves, .int v_this_halfMany, .ref q_this_way, .ref q_this_used, .long v_this_hash])), (q_this_now, .inl (k_this_now, 187, .inl c_this_now)), (q_this_levels, .inl (k_this_levels, 64, .inl c_this_levels)), (q_this_newer, .inl (k_this_newer, 64, .inl c_this_newer)), (q_this_howMany, .inl (k_this_howMany, 7, .inl c_this_howMany))] := hD
  refine lv_aload_n hx hb dX7_safeNodes_5 rfl (lv_at hl 0 rfl) ?_
  replace hf := zob_some hf
  obtain ⟨u1, hu1, hf⟩ := hf
  refine kd_i (D := D) (v := u1.1) (av := [.ref q_this]) (wc := [(q_this, .inr (7, [.ref q_this_now, .ref q_this_past, .int v_this_saved, .int 0, .ref q_this_list, .ref q_this_at, .ref q_this_levels, .ref q_this_newer, .ref q_this_howMany, .ref q_this_vectors, .ref q_this_dims, .ref q_this_comes, .ref q_this_goes, .ref q_this_cameFrom, .ref q_this_halves, .int v_this_halfMany, .ref q_this_way, .ref q_this_used, .long v_this_hash])), (q_this_now, .inl (k_this_now, 187, .inl c_this_now)), (q_this_levels, .inl (k_this_levels, 64, .inl c_this_levels)), (q_this_newer, .inl (k_this_newer, 64, .inl c_this_newer)), (q_this_howMany, .inl (k_this_howMany, 7, .inl c_this_howMany))]) (w1 := [(q_this, .inr (7, [.ref q_this_now, .ref q_this_past, .int v_this_saved, .int 0, .ref q_this_list, .ref q_this_at, .ref q_this_levels, .ref q_this_newer, .ref q_this_howMany, .ref q_this_vectors, .ref q_this_dims, .ref q_this_comes, .ref q_this_goes, .ref q_this_cameFrom, .ref q_this_halves, .int v_this_halfMany, .ref q_this_way, .ref q_this_used, .long v_this_hash])), (q_this_now, .inl (k_this_now, 187, .inl c_this_now)), (q_this_levels, .inl (k_this_levels, 64, .inl u1.2.1)), (q_this_newer, .inl (k_this_newer, 64, .inl u1.2.2.1)), (q_this_howMany, .inl (k_this_howMany, 7, .inl u1.2.2.2))]) (ws2 := [(q_this, .inr (7, [.ref q_this_now, .ref q_this_past, .int v_this_saved, .int 0, .ref q_this_list, .ref q_this_at, .ref q_this_levels, .ref q_this_newer, .ref q_this_howMany, .ref q_this_vectors, .ref q_this_dims, .ref q_this_comes, .ref q_this_goes, .ref q_this_cameFrom, .ref q_this_halves, .int v_this_halfMany, .ref q_this_way, .ref q_this_used, .long v_this_hash])), (q_this_now, .inl (k_this_now, 187, .inl c_this_now)), (q_this_levels, .inl (k_this_levels, 64, .inl u1.2.1)), (q_this_newer, .inl (k_this_newer, 64, .inl u1.2.2.1)), (q_this_howMany, .inl (k_this_howMany, 7, .inl u1.2.2.2))]) hK hP hD hS hA hE [0, 1, 2, 3, 4] [0, 1, 2, 3] [] [0, 1, 2, 3, 4] (fun hb1 hp1 => va_runV (As := []) (rest := []) ⟨hx, hb, hml, hown, hts⟩ (c_X7_safeOnes l D H.size q_this q_this_now q_this_past q_this_list q_this_at q_this_levels q_this_newer q_this_howMany q_this_vectors q_this_dims q_this_comes q_this_goes q_this_cameFrom q_this_halves q_this_way q_this_used k_this_now k_this_levels k_this_newer k_this_howMany v_this_saved 0 v_this_halfMany v_this_hash c_this_now c_this_levels c_this_newer c_this_howMany u1 hu1) (cwV 0 hts gX7_safeNodes_X7_safeOnes rfl rfl rfl (by decide +kernel) ⟨Nat.le_of_ble_eq_true rfl, Nat.le_of_ble_eq_true rfl⟩) ⟨hb1, va_recv hK hP (ci := 7) (q0 := 0) rfl rfl, hp1⟩ rfl rfl hl.1 rfl (lv_room (Nat.le_of_ble_eq_true rfl)) dX7_safeNodes_6 ⟨Nat.le_of_ble_eq_true rfl, Nat.le_of_ble_eq_true rfl⟩) rfl rfl rfl rfl rfl rfl rfl rfl rfl rfl (fun H locs hP hD hS => ?_)
  have hP : va_P D vwCl [(q_this, .inr (7, [.ref q_this_now, .ref q_this_past, .int v_this_saved, .int 0, .ref q_this_list, .ref q_this_at, .ref q_this_levels, .ref q_this_newer, .ref q_this_howMany, .ref q_this_vectors, .ref q_this_dims, .ref q_this_comes, .ref q_this_goes, .ref q_this_cameFrom, .ref q_this_halves, .int v_this_halfMany, .ref q_this_way, .ref q_this_used, .long v_this_hash])), (q_this_now, .inl (k_this_now, 187, .inl c_this_now)), (q_this_levels, .inl (k_this_levels, 64, .inl u1.2.1)), (q_this_newer, .inl (k_this_newer, 64, .inl u1.2.2.1)), (q_this_howMany, .inl (k_this_howMany, 7, .inl u1.2.2.2))] H := hP
  have hD : va_D A [(q_this, .inr (7, [.ref q_this_now, .ref q_this_past, .int v_this_saved, .int 0, .ref q_this_list, .ref q_this_at, .ref q_this_levels, .ref q_this_newer, .ref q_this_howMany, .ref q_this_vectors, .ref q_this_dims, .ref q_this_comes, .ref q_this_goes, .ref q_this_cameFrom, .ref q_this_halves, .int v_this_halfMany, .ref q_this_way, .ref q_this_used, .long v_this_hash])), (q_this_now, .inl (k_this_now, 187, .inl c_this_now)), (q_this_levels, .inl (k_this_levels, 64, .inl u1.2.1)), (q_this_newer, .inl (k_this_newer, 64, .inl u1.2.2.1)), (q_this_howMany, .inl (k_this_howMany, 7, .inl u1.2.2.2))] := hD
  obtain rfl := Option.some.inj hf
  subst eQ
  exact kr_i hx hb hr hlocks hK hP hD hS dX7_safeNodes_9
theorem n_X7_findVectors_X7 : ∀ w ∈ u_ws RX7 TX7 19, w ∈ wsX7_findVectors := by decide +kernel
abbrev rm_X7_findVectors : Room := { frames := 1, cells := 0, slots := 0, locals := 21 }
set_option maxHeartbeats 4000000 in
set_option maxRecDepth 100000 in
theorem c_X7_findVectors (l : Launch) (D : va_G) (sz : Nat) (q_this : Nat) (q_this_now : Nat) (q_this_past : Nat) (q_this_list : Nat) (q_this_at : Nat) (q_this_levels : Nat) (q_this_newer : Nat) (q_this_howMany : Nat) (q_this_vectors : Nat) (q_this_dims : Nat) (q_this_comes : Nat) (q_this_goes : Nat) (q_this_cameFrom : Nat) (q_this_halves : Nat) (q_this_way : Nat) (q_this_used : Nat) (k_this_now : ClassId) (k_this_vectors : ClassId) (v_this_saved : Int32) (v_this_refusal : Int32) (v_this_halfMany : Int32) (v_this_hash : Int64) (c_this_now : (Nat → Int32)) (c_this_vectors : (Nat → Int32)) (res : rt_X7_findVectors) (hf : f_X7_findVectors c_this_now c_this_vectors = some res) : Met l yX7_findVectors wsX7_findVectors rm_X7_findVectors (kP D [.ref q_this] [(q_this, .inr (7, [.ref q_this_now, .ref q_this_past, .int v_this_saved, .int v_this_refusal, .ref q_this_list, .ref q_this_at, .ref q_this_levels, .ref q_this_newer, .ref q_this_howMany, .ref q_this_vectors, .ref q_this_dims, .ref q_this_comes, .ref q_this_goes, .ref q_this_cameFrom, .ref q_this_halves, .int v_this_halfMany, .ref q_this_way, .ref q_this_used, .long v_this_hash])), (q_this_now, .inl (k_this_now, 187, .inl c_this_now)), (q_this_vectors, .inl (k_this_vectors, 64, .inl c_this_vectors))] [(k_this_now, .int), (k_this_vectors, .int)] sz) (kQv D (va_A [(q_this, .inr (7, [.ref q_this_now, .ref q_this_past, .int v_this_saved, .int v_this_refusal, .ref q_this_list, .ref q_this_at, .ref q_this_levels, .ref q_this_newer, .ref q_this_howMany, .ref q_this_vectors, .ref q_this_dims, .ref q_this_comes, .ref q_this_goes, .ref q_this_cameFrom, .ref q_this_halves, .int v_this_halfMany, .ref q_this_way, .ref q_this_used, .long v_this_hash])), (q_this_now, .inl (k_this_now, 187, .inl c_this_now)), (q_this_vectors, .inl (k_this_vectors, 64, .inl c_this_vectors))] sz) [(k_this_now, .int), (k_this_vectors, .int)] [(q_this, .inr (7, [.ref q_this_now, .ref q_this_past, .int v_this_saved, .int v_this_refusal, .ref q_this_list, .ref q_this_at, .ref q_this_levels, .ref q_this_newer, .ref q_this_howMany, .ref q_this_vectors, .ref q_this_dims, .ref q_this_comes, .ref q_this_goes, .ref q_this_cameFrom, .ref q_this_halves, .int v_this_halfMany, .ref q_this_way, .ref q_this_used, .long v_this_hash])), (q_this_now, .inl (k_this_now, 187, .inl c_this_now)), (q_this_vectors, .inl (k_this_vectors, 64, .inl res))]) 0 0 (va_A [(q_this, .inr (7, [.ref q_this_now, .ref q_this_past, .int v_this_saved, .int v_this_refusal, .ref q_this_list, .ref q_this_at, .ref q_this_levels, .ref q_this_newer, .ref q_this_howMany, .ref q_this_vectors, .ref q_this_dims, .ref q_this_comes, .ref q_this_goes, .ref q_this_cameFrom, .ref q_this_halves, .int v_this_halfMany, .ref q_this_way, .ref q_this_used, .long v_this_hash])), (q_this_now, .inl (k_this_now, 187, .inl c_this_now)), (q_this_vectors, .inl (k_this_vectors, 64, .inl c_this_vectors))] sz) := by
  refine Met.ofW (cc := cX7_findVectors) (maxL := 6) (ret := none) (by decide +kernel) rfl ?_
  intro p e s m args below meth c s₁ B hml hv
  obtain ⟨hargs, hsz, hP, hK, hD0, hE⟩ := hv
  have hx := B.exec
  have hb := B.bytes
  have hr := B.returns
  have hts := atoms_spec (ws := wsX7_findVectors) B.pre
  have hown : s.vm.findClass RX7 = some m.cls := findClass_of_methodNamed B.named
  have hlocks := B.notSynchronized
  subst hsz
  have hD := hD0.self (sz := s.heap.size)
  generalize hAe : va_A [(q_this, .inr (7, [.ref q_this_now, .ref q_this_past, .int v_this_saved, .int v_this_refusal, .ref q_this_list, .ref q_this_at, .ref q_this_levels, .ref q_this_newer, .ref q_this_howMany, .ref q_this_vectors, .ref q_this_dims, .ref q_this_comes, .ref q_this_goes, .ref q_this_cameFrom, .ref q_this_halves, .int v_this_halfMany, .ref q_this_way, .ref q_this_used, .long v_this_hash])), (q_this_now, .inl (k_this_now, 187, .inl c_this_now)), (q_this_vectors, .inl (k_this_vectors, 64, .inl c_this_vectors))] s.heap.size = A at hD hE ⊢
  have hA : ∀ q : Nat, s.heap.size ≤ q → A q := fun q h => by rw [← hAe]; exact Or.inr h
  have hS : va_S A s.heap s.heap [] := va_S.rf
  refine kgen (fun Q eQ => ?_)
  refine kent (av := [.ref q_this]) hargs (Nat.le_of_ble_eq_true rfl) (fun ls hl => ?_)
  have hl : lv_has ls 6 [(0, .ref q_this)] := hl
  show W p l e rm_X7_findVectors s m args below meth c s.heap [] 0 0 Q (F0 m 0 ls [])
  unfold f_X7_findVectors at hf
  refine lv_aload_n hx hb dX7_findVectors_0 rfl (lv_at hl 0 rfl) ?_
  refine va_get (D := D) (ci := 7) (v := .ref q_this_now) (C := RX7) (T := TX7) (N := 19) hx hb hts n_X7_findVectors_X7 hown hK hP 0 rfl rfl 0 (by decide) (hts (.fieldLink RX7 7 "FaultyCubeModel" "now" "[I") (by decide +kernel)) (fun _ h9 => h9) rfl dX7_findVectors_1 ?_
  refine lv_iconst (v := 0) hx hb dX7_findVectors_4 (by decide) ?_
  replace hf := zgd_some hf
  obtain ⟨g1, hf⟩ := hf
  refine va_iald (D := D) hx hb hK hP 1 0 rfl rfl (inb_in g1) dX7_findVectors_5 ?_
  refine lv_topi (fun x2 ex2 => ?_)
  replace hf := zbd_of ex2 hf
  refine lv_istore_n (lv' := [(1, .int x2), (0, .ref q_this)]) hx hb dX7_findVectors_6 rfl hl (by decide) rfl (fun ls hl => ?_)
  refine lv_iconst (v := 0) hx hb dX7_findVectors_7 (by decide) ?_
  refine lv_istore_n (lv' := [(2, .int 0), (1, .int x2), (0, .ref q_this)]) hx hb dX7_findVectors_8 rfl hl (by decide) rfl (fun ls hl => ?_)
  replace hf := zl2_some hf
  obtain ⟨F9, eF9, hf⟩ := hf
  have h9 : ∀ (n9 : Nat) (i2_9 : Int32) (c_this_vectors_9 : (Nat → Int32)), zl2 F9 n9 i2_9 c_this_vectors_9 = some res → ∀ (H : Heap) (locs : List Loc) (ls : Array Slot), va_P D vwCl [(q_this, .inr (7, [.ref q_this_now, .ref q_this_past, .int v_this_saved, .int v_this_refusal, .ref q_this_list, .ref q_this_at, .ref q_this_levels, .ref q_this_newer, .ref q_this_howMany, .ref q_this_vectors, .ref q_this_dims, .ref q_this_comes, .ref q_this_goes, .ref q_this_cameFrom, .ref q_this_halves, .int v_this_halfMany, .ref q_this_way, .ref q_this_used, .long v_this_hash])), (q_this_now, .inl (k_this_now, 187, .inl c_this_now)), (q_this_vectors, .inl (k_this_vectors, 64, .inl c_this_vectors_9))] H → va_D A [(q_this, .inr (7, [.ref q_this_now, .ref q_this_past, .int v_this_saved, .int v_this_refusal, .ref q_this_list, .ref q_this_at, .ref q_this_levels, .ref q_this_newer, .ref q_this_howMany, .ref q_this_vectors, .ref q_this_dims, .ref q_this_comes, .ref q_this_goes, .ref q_this_cameFrom, .ref q_this_halves, .int v_this_halfMany, .ref q_this_way, .ref q_this_used, .long v_this_hash])), (q_this_now, .inl (k_this_now, 187, .inl c_this_now)), (q_this_vectors, .inl (k_this_vectors, 64, .inl c_this_vectors_9))] → va_S A s.heap H locs → lv_has ls 6 [(0, .ref q_this), (1, .int x2), (2, .int i2_9)] → W p l e rm_X7_findVectors s m args below meth c H locs 0 0 Q (F0 m 9 ls []) := by
    intro n9
    induction n9 with
    | zero => intro i2_9 c_this_vectors_9 hf; exact (zl2_zero hf).elim
    | succ n9 ih9 =>
      intro i2_9 c_this_vectors_9 hf H locs ls hP hD hS hl
      replace hf := zl2_step eF9 hf
      generalize zl2 F9 n9 = k9 at hf ih9
      refine lv_iload_n hx hb dX7_findVectors_9 rfl (lv_at hl 2 rfl) ?_
      refine lv_aload_n hx hb dX7_findVectors_10 rfl (lv_at hl 0 rfl) ?_
      replace hf := zob_some hf
      obtain ⟨u3, hu3, hf⟩ := hf
      refine kd_i (D := D) (v := u3) (av := [.ref q_this]) (wc := [(q_this, .inr (7, [.ref q_this_now, .ref q_this_past, .int v_this_saved, .int v_this_refusal, .ref q_this_list, .ref q_this_at, .ref q_this_levels, .ref q_this_newer, .ref q_this_howMany, .ref q_this_vectors, .ref q_this_dims, .ref q_this_comes, .ref q_this_goes, .ref q_this_cameFrom, .ref q_this_halves, .int v_this_halfMany, .ref q_this_way, .ref q_this_used, .long v_this_hash])), (q_this_now, .inl (k_this_now, 187, .inl c_this_now))]) (w1 := [(q_this, .inr (7, [.ref q_this_now, .ref q_this_past, .int v_this_saved, .int v_this_refusal, .ref q_this_list, .ref q_this_at, .ref q_this_levels, .ref q_this_newer, .ref q_this_howMany, .ref q_this_vectors, .ref q_this_dims, .ref q_this_comes, .ref q_this_goes, .ref q_this_cameFrom, .ref q_this_halves, .int v_this_halfMany, .ref q_this_way, .ref q_this_used, .long v_this_hash])), (q_this_now, .inl (k_this_now, 187, .inl c_this_now))]) (ws2 := [(q_this, .inr (7, [.ref q_this_now, .ref q_this_past, .int v_this_saved, .int v_this_refusal, .ref q_this_list, .ref q_this_at, .ref q_this_levels, .ref q_this_newer, .ref q_this_howMany, .ref q_this_vectors, .ref q_this_dims, .ref q_this_comes, .ref q_this_goes, .ref q_this_cameFrom, .ref q_this_halves, .int v_this_halfMany, .ref q_this_way, .ref q_this_used, .long v_this_hash])), (q_this_now, .inl (k_this_now, 187, .inl c_this_now)), (q_this_vectors, .inl (k_this_vectors, 64, .inl c_this_vectors_9))]) hK hP hD hS hA hE [0, 1] [0] [2] [1, 2, 0] (fun hb1 hp1 => va_runV (As := []) (rest := [.int i2_9]) ⟨hx, hb, hml, hown, hts⟩ (c_X7_nodes l D H.size q_this q_this_now q_this_past q_this_list q_this_at q_this_levels q_this_newer q_this_howMany q_this_vectors q_this_dims q_this_comes q_this_goes q_this_cameFrom q_this_halves q_this_way q_this_used k_this_now v_this_saved v_this_refusal v_this_halfMany v_this_hash c_this_now u3 hu3) (cwV 0 hts gX7_findVectors_X7_nodes rfl rfl rfl (by decide +kernel) ⟨Nat.le_of_ble_eq_true rfl, Nat.le_of_ble_eq_true rfl⟩) ⟨hb1, va_recv hK hP (ci := 7) (q0 := 0) rfl rfl, hp1⟩ rfl rfl hl.1 rfl (lv_room (Nat.le_of_ble_eq_true rfl)) dX7_findVectors_11 ⟨Nat.le_of_ble_eq_true rfl, Nat.le_of_ble_eq_true rfl⟩) rfl rfl rfl rfl rfl rfl rfl rfl rfl rfl (fun H locs hP hD hS => ?_)
      have hP : va_P D vwCl [(q_this, .inr (7, [.ref q_this_now, .ref q_this_past, .int v_this_saved, .int v_this_refusal, .ref q_this_list, .ref q_this_at, .ref q_this_levels, .ref q_this_newer, .ref q_this_howMany, .ref q_this_vectors, .ref q_this_dims, .ref q_this_comes, .ref q_this_goes, .ref q_this_cameFrom, .ref q_this_halves, .int v_this_halfMany, .ref q_this_way, .ref q_this_used, .long v_this_hash])), (q_this_now, .inl (k_this_now, 187, .inl c_this_now)), (q_this_vectors, .inl (k_this_vectors, 64, .inl c_this_vectors_9))] H := hP
      have hD : va_D A [(q_this, .inr (7, [.ref q_this_now, .ref q_this_past, .int v_this_saved, .int v_this_refusal, .ref q_this_list, .ref q_this_at, .ref q_this_levels, .ref q_this_newer, .ref q_this_howMany, .ref q_this_vectors, .ref q_this_dims, .ref q_this_comes, .ref q_this_goes, .ref q_this_cameFrom, .ref q_this_halves, .int v_this_halfMany, .ref q_this_way, .ref q_this_used, .long v_this_hash])), (q_this_now, .inl (k_this_now, 187, .inl c_this_now)), (q_this_vectors, .inl (k_this_vectors, 64, .inl c_this_vectors_9))] := hD
      refine lv_icmp_ge (tgt := 42) hx hb dX7_findVectors_14 (by decide) (fun cd14 => ?_) (fun cd14 => ?_)
      · replace hf := zite_t cd14 hf
        refine lv_iconst (v := 2) hx hb dX7_findVectors_42 (by decide) ?_
        refine lv_istore_n (lv' := [(2, .int 2), (0, .ref q_this), (1, .int x2)]) hx hb dX7_findVectors_43 rfl hl (by decide) rfl (fun ls hl => ?_)
        replace hf := zl2_some hf
        obtain ⟨F44, eF44, hf⟩ := hf
        have h44 : ∀ (n44 : Nat) (i2_44 : Int32) (c_this_vectors_44 : (Nat → Int32)), zl2 F44 n44 i2_44 c_this_vectors_44 = some res → ∀ (H : Heap) (locs : List Loc) (ls : Array Slot), va_P D vwCl [(q_this, .inr (7, [.ref q_this_now, .ref q_this_past, .int v_this_saved, .int v_this_refusal, .ref q_this_list, .ref q_this_at, .ref q_this_levels, .ref q_this_newer, .ref q_this_howMany, .ref q_this_vectors, .ref q_this_dims, .ref q_this_comes, .ref q_this_goes, .ref q_this_cameFrom, .ref q_this_halves, .int v_this_halfMany, .ref q_this_way, .ref q_this_used, .long v_this_hash])), (q_this_now, .inl (k_this_now, 187, .inl c_this_now)), (q_this_vectors, .inl (k_this_vectors, 64, .inl c_this_vectors_44))] H → va_D A [(q_this, .inr (7, [.ref q_this_now, .ref q_this_past, .int v_this_saved, .int v_this_refusal, .ref q_this_list, .ref q_this_at, .ref q_this_levels, .ref q_this_newer, .ref q_this_howMany, .ref q_this_vectors, .ref q_this_dims, .ref q_this_comes, .ref q_this_goes, .ref q_this_cameFrom, .ref q_this_halves, .int v_this_halfMany, .ref q_this_way, .ref q_this_used, .long v_this_hash])), (q_this_now, .inl (k_this_now, 187, .inl c_this_now)), (q_this_vectors, .inl (k_this_vectors, 64, .inl c_this_vectors_44))] → va_S A s.heap H locs → lv_has ls 6 [(0, .ref q_this), (1, .int x2), (2, .int i2_44)] → W p l e rm_X7_findVectors s m args below meth c H locs 0 0 Q (F0 m 44 ls []) := by
          intro n44
          induction n44 with
          | zero => intro i2_44 c_this_vectors_44 hf; exact (zl2_zero hf).elim
          | succ n44 ih44 =>
            intro i2_44 c_this_vectors_44 hf H locs ls hP hD hS hl
            replace hf := zl2_step eF44 hf
            generalize zl2 F44 n44 = k44 at hf ih44
            refine lv_iload_n hx hb dX7_findVectors_44 rfl (lv_at hl 2 rfl) ?_
            refine lv_iload_n hx hb dX7_findVectors_45 rfl (lv_at hl 1 rfl) ?_
            refine lv_icmp_gt (tgt := 143) hx hb dX7_findVectors_46 (by decide) (fun cd46 => ?_) (fun cd46 => ?_)
            · replace hf := zite_t cd46 hf
              obtain rfl := Option.some.inj hf
              subst eQ
              exact kr_v hx hb hr hlocks hK hP hD hS dX7_findVectors_143
            · replace hf := zite_f cd46 hf
              refine lv_iconst (v := 0) hx hb dX7_findVectors_49 (by decide) ?_
              refine lv_istore_n (lv' := [(3, .int 0), (0, .ref q_this), (1, .int x2), (2, .int i2_44)]) hx hb dX7_findVectors_50 rfl hl (by decide) rfl (fun ls hl => ?_)
              replace hf := zl2_some hf
              obtain ⟨F51, eF51, hf⟩ := hf
              have h51 : ∀ (n51 : Nat) (i3_51 : Int32) (c_this_vectors_51 : (Nat → Int32)), zl2 F51 n51 i3_51 c_this_vectors_51 = some res → ∀ (H : Heap) (locs : List Loc) (ls : Array Slot), va_P D vwCl [(q_this, .inr (7, [.ref q_this_now, .ref q_this_past, .int v_this_saved, .int v_this_refusal, .ref q_this_list, .ref q_this_at, .ref q_this_levels, .ref q_this_newer, .ref q_this_howMany, .ref q_this_vectors, .ref q_this_dims, .ref q_this_comes, .ref q_this_goes, .ref q_this_cameFrom, .ref q_this_halves, .int v_this_halfMany, .ref q_this_way, .ref q_this_used, .long v_this_hash])), (q_this_now, .inl (k_this_now, 187, .inl c_this_now)), (q_this_vectors, .inl (k_this_vectors, 64, .inl c_this_vectors_51))] H → va_D A [(q_this, .inr (7, [.ref q_this_now, .ref q_this_past, .int v_this_saved, .int v_this_refusal, .ref q_this_list, .ref q_this_at, .ref q_this_levels, .ref q_this_newer, .ref q_this_howMany, .ref q_this_vectors, .ref q_this_dims, .ref q_this_comes, .ref q_this_goes, .ref q_this_cameFrom, .ref q_this_halves, .int v_this_halfMany, .ref q_this_way, .ref q_this_used, .long v_this_hash])), (q_this_now, .inl (k_this_now, 187, .inl c_this_now)), (q_this_vectors, .inl (k_this_vectors, 64, .inl c_this_vectors_51))] → va_S A s.heap H locs → lv_has ls 6 [(0, .ref q_this), (1, .int x2), (2, .int i2_44), (3, .int i3_51)] → W p l e rm_X7_findVectors s m args below meth c H locs 0 0 Q (F0 m 51 ls []) := by
                intro n51
                induction n51 with
                | zero => intro i3_51 c_this_vectors_51 hf; exact (zl2_zero hf).elim
                | succ n51 ih51 =>
                  intro i3_51 c_this_vectors_51 hf H locs ls hP hD hS hl
                  replace hf := zl2_step eF51 hf
                  generalize zl2 F51 n51 = k51 at hf ih51
                  refine lv_iload_n hx hb dX7_findVectors_51 rfl (lv_at hl 3 rfl) ?_
                  refine lv_aload_n hx hb dX7_findVectors_52 rfl (lv_at hl 0 rfl) ?_
                  replace hf := zob_some hf
                  obtain ⟨u4, hu4, hf⟩ := hf
                  refine kd_i (D := D) (v := u4) (av := [.ref q_this]) (wc := [(q_this, .inr (7, [.ref q_this_now, .ref q_this_past, .int v_this_saved, .int v_this_refusal, .ref q_this_list, .ref q_this_at, .ref q_this_levels, .ref q_this_newer, .ref q_this_howMany, .ref q_this_vectors, .ref q_this_dims, .ref q_this_comes, .ref q_this_goes, .ref q_this_cameFrom, .ref q_this_halves, .int v_this_halfMany, .ref q_this_way, .ref q_this_used, .long v_this_hash])), (q_this_now, .inl (k_this_now, 187, .inl c_this_now))]) (w1 := [(q_this, .inr (7, [.ref q_this_now, .ref q_this_past, .int v_this_saved, .int v_this_refusal, .ref q_this_list, .ref q_this_at, .ref q_this_levels, .ref q_this_newer, .ref q_this_howMany, .ref q_this_vectors, .ref q_this_dims, .ref q_this_comes, .ref q_this_goes, .ref q_this_cameFrom, .ref q_this_halves, .int v_this_halfMany, .ref q_this_way, .ref q_this_used, .long v_this_hash])), (q_this_now, .inl (k_this_now, 187, .inl c_this_now))]) (ws2 := [(q_this, .inr (7, [.ref q_this_now, .ref q_this_past, .int v_this_saved, .int v_this_refusal, .ref q_this_list, .ref q_this_at, .ref q_this_levels, .ref q_this_newer, .ref q_this_howMany, .ref q_this_vectors, .ref q_this_dims, .ref q_this_comes, .ref q_this_goes, .ref q_this_cameFrom, .ref q_this_halves, .int v_this_halfMany, .ref q_this_way, .ref q_this_used, .long v_this_hash])), (q_this_now, .inl (k_this_now, 187, .inl c_this_now)), (q_this_vectors, .inl (k_this_vectors, 64, .inl c_this_vectors_51))]) hK hP hD hS hA hE [0, 1] [0] [2] [1, 2, 0] (fun hb1 hp1 => va_runV (As := []) (rest := [.int i3_51]) ⟨hx, hb, hml, hown, hts⟩ (c_X7_nodes l D H.size q_this q_this_now q_this_past q_this_list q_this_at q_this_levels q_this_newer q_this_howMany q_this_vectors q_this_dims q_this_comes q_this_goes q_this_cameFrom q_this_halves q_this_way q_this_used k_this_now v_this_saved v_this_refusal v_this_halfMany v_this_hash c_this_now u4 hu4) (cwV 0 hts gX7_findVectors_X7_nodes rfl rfl rfl (by decide +kernel) ⟨Nat.le_of_ble_eq_true rfl, Nat.le_of_ble_eq_true rfl⟩) ⟨hb1, va_recv hK hP (ci := 7) (q0 := 0) rfl rfl, hp1⟩ rfl rfl hl.1 rfl (lv_room (Nat.le_of_ble_eq_true rfl)) dX7_findVectors_53 ⟨Nat.le_of_ble_eq_true rfl, Nat.le_of_ble_eq_true rfl⟩) rfl rfl rfl rfl rfl rfl rfl rfl rfl rfl (fun H locs hP hD hS => ?_)
                  have hP : va_P D vwCl [(q_this, .inr (7, [.ref q_this_now, .ref q_this_past, .int v_this_saved, .int v_this_refusal, .ref q_this_list, .ref q_this_at, .ref q_this_levels, .ref q_this_newer, .ref q_this_howMany, .ref q_this_vectors, .ref q_this_dims, .ref q_this_comes, .ref q_this_goes, .ref q_this_cameFrom, .ref q_this_halves, .int v_this_halfMany, .ref q_this_way, .ref q_this_used, .long v_this_hash])), (q_this_now, .inl (k_this_now, 187, .inl c_this_now)), (q_this_vectors, .inl (k_this_vectors, 64, .inl c_this_vectors_51))] H := hP
                  have hD : va_D A [(q_this, .inr (7, [.ref q_this_now, .ref q_this_past, .int v_this_saved, .int v_this_refusal, .ref q_this_list, .ref q_this_at, .ref q_this_levels, .ref q_this_newer, .ref q_this_howMany, .ref q_this_vectors, .ref q_this_dims, .ref q_this_comes, .ref q_this_goes, .ref q_this_cameFrom, .ref q_this_halves, .int v_this_halfMany, .ref q_this_way, .ref q_this_used, .long v_this_hash])), (q_this_now, .inl (k_this_now, 187, .inl c_this_now)), (q_this_vectors, .inl (k_this_vectors, 64, .inl c_this_vectors_51))] := hD
                  refine lv_icmp_ge (tgt := 137) hx hb dX7_findVectors_56 (by decide) (fun cd56 => ?_) (fun cd56 => ?_)
                  · replace hf := zite_t cd56 hf
                    obtain ⟨x5, ex5⟩ : ∃ y : Int32, y = i2_44 + 1 := ⟨_, rfl⟩
                    replace hf := zbd_of ex5 hf
                    refine lv_iinc (v := x5) (lv' := [(2, .int x5), (0, .ref q_this), (1, .int x2), (3, .int i3_51)]) hx hb dX7_findVectors_137 hl (k := 2) rfl (by rw [ex5]; rfl) (by decide) rfl (fun ls hl => ?_)
                    refine lv_goto (tgt := 44) hx hb dX7_findVectors_140 (by decide) ?_
                    exact ih44 x5 c_this_vectors_51 hf H locs ls hP hD hS (lv_sub hl [1, 2, 0] rfl)
                  · replace hf := zite_f cd56 hf
                    refine lv_iconst (v := 0) hx hb dX7_findVectors_59 (by decide) ?_
                    refine lv_istore (lv' := [(4, .int 0), (0, .ref q_this), (1, .int x2), (2, .int i2_44), (3, .int i3_51)]) hx hb dX7_findVectors_60 hl (by decide) rfl (fun ls hl => ?_)
                    refine lv_iconst (v := 0) hx hb dX7_findVectors_62 (by decide) ?_
                    refine lv_istore (lv' := [(5, .int 0), (4, .int 0), (0, .ref q_this), (1, .int x2), (2, .int i2_44), (3, .int i3_51)]) hx hb dX7_findVectors_63 hl (by decide) rfl (fun ls hl => ?_)
                    replace hf := zl2_some hf
                    obtain ⟨F65, eF65, hf⟩ := hf
                    have h65 : ∀ (n65 : Nat) (i4_65 : Int32) (i5_65 : Int32), zl2 F65 n65 i4_65 i5_65 = some res → ∀ (H : Heap) (locs : List Loc) (ls : Array Slot), va_P D vwCl [(q_this, .inr (7, [.ref q_this_now, .ref q_this_past, .int v_this_saved, .int v_this_refusal, .ref q_this_list, .ref q_this_at, .ref q_this_levels, .ref q_this_newer, .ref q_this_howMany, .ref q_this_vectors, .ref q_this_dims, .ref q_this_comes, .ref q_this_goes, .ref q_this_cameFrom, .ref q_this_halves, .int v_this_halfMany, .ref q_this_way, .ref q_this_used, .long v_this_hash])), (q_this_now, .inl (k_this_now, 187, .inl c_this_now)), (q_this_vectors, .inl (k_this_vectors, 64, .inl c_this_vectors_51))] H → va_D A [(q_this, .inr (7, [.ref q_this_now, .ref q_this_past, .int v_this_saved, .int v_this_refusal, .ref q_this_list, .ref q_this_at, .ref q_this_levels, .ref q_this_newer, .ref q_this_howMany, .ref q_this_vectors, .ref q_this_dims, .ref q_this_comes, .ref q_this_goes, .ref q_this_cameFrom, .ref q_this_halves, .int v_this_halfMany, .ref q_this_way, .ref q_this_used, .long v_this_hash])), (q_this_now, .inl (k_this_now, 187, .inl c_this_now)), (q_this_vectors, .inl (k_this_vectors, 64, .inl c_this_vectors_51))] → va_S A s.heap H locs → lv_has ls 6 [(0, .ref q_this), (1, .int x2), (2, .int i2_44), (3, .int i3_51), (4, .int i4_65), (5, .int i5_65)] → W p l e rm_X7_findVectors s m args below meth c H locs 0 0 Q (F0 m 65 ls []) := by
                      intro n65
                      induction n65 with
                      | zero => intro i4_65 i5_65 hf; exact (zl2_zero hf).elim
                      | succ n65 ih65 =>
                        intro i4_65 i5_65 hf H locs ls hP hD hS hl
                        replace hf := zl2_step eF65 hf
                        generalize zl2 F65 n65 = k65 at hf ih65
                        refine lv_iload hx hb dX7_findVectors_65 (lv_at hl 5 rfl) ?_
                        refine lv_iload_n hx hb dX7_findVectors_67 rfl (lv_at hl 1 rfl) ?_
                        refine lv_icmp_ge (tgt := 99) hx hb dX7_findVectors_68 (by decide) (fun cd68 => ?_) (fun cd68 => ?_)
                        · replace hf := zite_t cd68 hf
                          refine lv_aload_n hx hb dX7_findVectors_99 rfl (lv_at hl 0 rfl) ?_
                          refine va_get (D := D) (ci := 7) (v := .ref q_this_vectors) (C := RX7) (T := TX7) (N := 19) hx hb hts n_X7_findVectors_X7 hown hK hP 0 rfl rfl 9 (by decide) (hts (.fieldLink RX7 31 "FaultyCubeModel" "vectors" "[I") (by decide +kernel)) (fun _ h9 => h9) rfl dX7_findVectors_100 ?_
                          refine lv_iload_n hx hb dX7_findVectors_103 rfl (lv_at hl 3 rfl) ?_
                          refine lv_dup2_11 hx hb dX7_findVectors_104 rfl rfl ?_
                          replace hf := zgd_some hf
                          obtain ⟨g6, hf⟩ := hf
                          refine va_iald (D := D) hx hb hK hP 2 1 rfl rfl (inb_in g6) dX7_findVectors_105 ?_
                          refine lv_aload_n hx hb dX7_findVectors_106 rfl (lv_at hl 0 rfl) ?_
                          refine lv_iload_n hx hb dX7_findVectors_107 rfl (lv_at hl 3 rfl) ?_
                          replace hf := zob_some hf
                          obtain ⟨u7, hu7, hf⟩ := hf
                          refine kd_i (D := D) (v := u7) (av := [.ref q_this, .int i3_51]) (wc := [(q_this, .inr (7, [.ref q_this_now, .ref q_this_past, .int v_this_saved, .int v_this_refusal, .ref q_this_list, .ref q_this_at, .ref q_this_levels, .ref q_this_newer, .ref q_this_howMany, .ref q_this_vectors, .ref q_this_dims, .ref q_this_comes, .ref q_this_goes, .ref q_this_cameFrom, .ref q_this_halves, .int v_this_halfMany, .ref q_this_way, .ref q_this_used, .long v_this_hash])), (q_this_now, .inl (k_this_now, 187, .inl c_this_now))]) (w1 := [(q_this, .inr (7, [.ref q_this_now, .ref q_this_past, .int v_this_saved, .int v_this_refusal, .ref q_this_list, .ref q_this_at, .ref q_this_levels, .ref q_this_newer, .ref q_this_howMany, .ref q_this_vectors, .ref q_this_dims, .ref q_this_comes, .ref q_this_goes, .ref q_this_cameFrom, .ref q_this_halves, .int v_this_halfMany, .ref q_this_way, .ref q_this_used, .long v_this_hash])), (q_this_now, .inl (k_this_now, 187, .inl c_this_now))]) (ws2 := [(q_this, .inr (7, [.ref q_this_now, .ref q_this_past, .int v_this_saved, .int v_this_refusal, .ref q_this_list, .ref q_this_at, .ref q_this_levels, .ref q_this_newer, .ref q_this_howMany, .ref q_this_vectors, .ref q_this_dims, .ref q_this_comes, .ref q_this_goes, .ref q_this_cameFrom, .ref q_this_halves, .int v_this_halfMany, .ref q_this_way, .ref q_this_used, .long v_this_hash])), (q_this_now, .inl (k_this_now, 187, .inl c_this_now)), (q_this_vectors, .inl (k_this_vectors, 64, .inl c_this_vectors_51))]) hK hP hD hS hA hE [0, 1] [0] [2] [1, 2, 0] (fun hb1 hp1 => va_runV (As := [.int i3_51]) (rest := [.int (c_this_vectors_51 (i3_51 : Int32).toNatClampNeg), .int i3_51, .ref q_this_vectors]) ⟨hx, hb, hml, hown, hts⟩ (c_X7_lives l D H.size q_this q_this_now q_this_past q_this_list q_this_at q_this_levels q_this_newer q_this_howMany q_this_vectors q_this_dims q_this_comes q_this_goes q_this_cameFrom q_this_halves q_this_way q_this_used k_this_now v_this_saved v_this_refusal v_this_halfMany v_this_hash c_this_now i3_51 u7 hu7) (cwV 1 hts gX7_findVectors_X7_lives rfl rfl rfl (by decide +kernel) ⟨Nat.le_of_ble_eq_true rfl, Nat.le_of_ble_eq_true rfl⟩) ⟨hb1, va_recv hK hP (ci := 7) (q0 := 0) rfl rfl, hp1⟩ rfl rfl hl.1 rfl (lv_room (Nat.le_of_ble_eq_true rfl)) dX7_findVectors_108 ⟨Nat.le_of_ble_eq_true rfl, Nat.le_of_ble_eq_true rfl⟩) rfl rfl rfl rfl rfl rfl rfl rfl rfl rfl (fun H locs hP hD hS => ?_)
                          have hP : va_P D vwCl [(q_this, .inr (7, [.ref q_this_now, .ref q_this_past, .int v_this_saved, .int v_this_refusal, .ref q_this_list, .ref q_this_at, .ref q_this_levels, .ref q_this_newer, .ref q_this_howMany, .ref q_this_vectors, .ref q_this_dims, .ref q_this_comes, .ref q_this_goes, .ref q_this_cameFrom, .ref q_this_halves, .int v_this_halfMany, .ref q_this_way, .ref q_this_used, .long v_this_hash])), (q_this_now, .inl (k_this_now, 187, .inl c_this_now)), (q_this_vectors, .inl (k_this_vectors, 64, .inl c_this_vectors_51))] H := hP
                          have hD : va_D A [(q_this, .inr (7, [.ref q_this_now, .ref q_this_past, .int v_this_saved, .int v_this_refusal, .ref q_this_list, .ref q_this_at, .ref q_this_levels, .ref q_this_newer, .ref q_this_howMany, .ref q_this_vectors, .ref q_this_dims, .ref q_this_comes, .ref q_this_goes, .ref q_this_cameFrom, .ref q_this_halves, .int v_this_halfMany, .ref q_this_way, .ref q_this_used, .long v_this_hash])), (q_this_now, .inl (k_this_now, 187, .inl c_this_now)), (q_this_vectors, .inl (k_this_vectors, 64, .inl c_this_vectors_51))] := hD
                          replace hf := zjp_some hf
                          obtain ⟨K129, eK129, hf⟩ := hf
                          have j129 : ∀ (s1_129 : Int32) (s2_129 : Int32) (s3_129 : Int32), K129 s1_129 s2_129 s3_129 = some res → ∀ (H : Heap) (locs : List Loc) (ls : Array Slot), va_P D vwCl [(q_this, .inr (7, [.ref q_this_now, .ref q_this_past, .int v_this_saved, .int v_this_refusal, .ref q_this_list, .ref q_this_at, .ref q_this_levels, .ref q_this_newer, .ref q_this_howMany, .ref q_this_vectors, .ref q_this_dims, .ref q_this_comes, .ref q_this_goes, .ref q_this_cameFrom, .ref q_this_halves, .int v_this_halfMany, .ref q_this_way, .ref q_this_used, .long v_this_hash])), (q_this_now, .inl (k_this_now, 187, .inl c_this_now)), (q_this_vectors, .inl (k_this_vectors, 64, .inl c_this_vectors_51))] H → va_D A [(q_this, .inr (7, [.ref q_this_now, .ref q_this_past, .int v_this_saved, .int v_this_refusal, .ref q_this_list, .ref q_this_at, .ref q_this_levels, .ref q_this_newer, .ref q_this_howMany, .ref q_this_vectors, .ref q_this_dims, .ref q_this_comes, .ref q_this_goes, .ref q_this_cameFrom, .ref q_this_halves, .int v_this_halfMany, .ref q_this_way, .ref q_this_used, .long v_this_hash])), (q_this_now, .inl (k_this_now, 187, .inl c_this_now)), (q_this_vectors, .inl (k_this_vectors, 64, .inl c_this_vectors_51))] → va_S A s.heap H locs → lv_has ls 6 [(0, .ref q_this), (1, .int x2), (2, .int i2_44), (3, .int i3_51)] → W p l e rm_X7_findVectors s m args below meth c H locs 0 0 Q (F0 m 129 ls [.int s3_129, .int s2_129, .int s1_129, .ref q_this_vectors]) := by
                            intro s1_129 s2_129 s3_129 hf H locs ls hP hD hS hl
                            replace hf := zap3 eK129 hf
                            refine lv_ior hx hb dX7_findVectors_129 ?_
                            refine lv_topi (fun x8 ex8 => ?_)
                            replace hf := zbd_of ex8 hf
                            replace hf := zgd_some hf
                            obtain ⟨g9, hf⟩ := hf
                            refine va_iast (D := D) hx hb hK hP hD hS 2 1 rfl rfl (inb_in g9) dX7_findVectors_130 (fun H locs hP hD hS => ?_)
                            obtain ⟨y10, ey10⟩ : ∃ y : (Nat → Int32), y = upd c_this_vectors_51 (s1_129 : Int32).toNatClampNeg x8 := ⟨_, rfl⟩
                            replace hf := zbd_of ey10 hf
                            have hP : va_P D vwCl [(q_this, .inr (7, [.ref q_this_now, .ref q_this_past, .int v_this_saved, .int v_this_refusal, .ref q_this_list, .ref q_this_at, .ref q_this_levels, .ref q_this_newer, .ref q_this_howMany, .ref q_this_vectors, .ref q_this_dims, .ref q_this_comes, .ref q_this_goes, .ref q_this_cameFrom, .ref q_this_halves, .int v_this_halfMany, .ref q_this_way, .ref q_this_used, .long v_this_hash])), (q_this_now, .inl (k_this_now, 187, .inl c_this_now)), (q_this_vectors, .inl (k_this_vectors, 64, .inl y10))] H := by rw [ey10]; exact hP
                            have hD : va_D A [(q_this, .inr (7, [.ref q_this_now, .ref q_this_past, .int v_this_saved, .int v_this_refusal, .ref q_this_list, .ref q_this_at, .ref q_this_levels, .ref q_this_newer, .ref q_this_howMany, .ref q_this_vectors, .ref q_this_dims, .ref q_this_comes, .ref q_this_goes, .ref q_this_cameFrom, .ref q_this_halves, .int v_this_halfMany, .ref q_this_way, .ref q_this_used, .long v_this_hash])), (q_this_now, .inl (k_this_now, 187, .inl c_this_now)), (q_this_vectors, .inl (k_this_vectors, 64, .inl y10))] := by rw [ey10]; exact hD
                            obtain ⟨x11, ex11⟩ : ∃ y : Int32, y = i3_51 + 1 := ⟨_, rfl⟩
                            replace hf := zbd_of ex11 hf
                            refine lv_iinc (v := x11) (lv' := [(3, .int x11), (0, .ref q_this), (1, .int x2), (2, .int i2_44)]) hx hb dX7_findVectors_131 hl (k := 3) rfl (by rw [ex11]; rfl) (by decide) rfl (fun ls hl => ?_)
                            refine lv_goto (tgt := 51) hx hb dX7_findVectors_134 (by decide) ?_
                            exact ih51 x11 y10 hf H locs ls hP hD hS (lv_sub hl [1, 2, 3, 0] rfl)
                          replace hf := zjp_some hf
                          obtain ⟨K128, eK128, hf⟩ := hf
                          have j128 : ∀ (s1_128 : Int32) (s2_128 : Int32), K128 s1_128 s2_128 = some res → ∀ (H : Heap) (locs : List Loc) (ls : Array Slot), va_P D vwCl [(q_this, .inr (7, [.ref q_this_now, .ref q_this_past, .int v_this_saved, .int v_this_refusal, .ref q_this_list, .ref q_this_at, .ref q_this_levels, .ref q_this_newer, .ref q_this_howMany, .ref q_this_vectors, .ref q_this_dims, .ref q_this_comes, .ref q_this_goes, .ref q_this_cameFrom, .ref q_this_halves, .int v_this_halfMany, .ref q_this_way, .ref q_this_used, .long v_this_hash])), (q_this_now, .inl (k_this_now, 187, .inl c_this_now)), (q_this_vectors, .inl (k_this_vectors, 64, .inl c_this_vectors_51))] H → va_D A [(q_this, .inr (7, [.ref q_this_now, .ref q_this_past, .int v_this_saved, .int v_this_refusal, .ref q_this_list, .ref q_this_at, .ref q_this_levels, .ref q_this_newer, .ref q_this_howMany, .ref q_this_vectors, .ref q_this_dims, .ref q_this_comes, .ref q_this_goes, .ref q_this_cameFrom, .ref q_this_halves, .int v_this_halfMany, .ref q_this_way, .ref q_this_used, .long v_this_hash])), (q_this_now, .inl (k_this_now, 187, .inl c_this_now)), (q_this_vectors, .inl (k_this_vectors, 64, .inl c_this_vectors_51))] → va_S A s.heap H locs → lv_has ls 6 [(0, .ref q_this), (1, .int x2), (2, .int i2_44), (3, .int i3_51)] → W p l e rm_X7_findVectors s m args below meth c H locs 0 0 Q (F0 m 128 ls [.int s2_128, .int s1_128, .ref q_this_vectors]) := by
                            intro s1_128 s2_128 hf H locs ls hP hD hS hl
                            replace hf := zap2 eK128 hf
                            refine lv_iconst (v := 0) hx hb dX7_findVectors_128 (by decide) ?_
                            exact j129 s1_128 s2_128 0 hf H locs ls hP hD hS (lv_sub hl [0, 1, 2, 3] rfl)
                          refine lv_if_eq (tgt := 128) hx hb dX7_findVectors_111 (by decide) (fun cd111 => ?_) (fun cd111 => ?_)
                          · replace hf := zite_t cd111 hf
                            exact j128 i3_51 (c_this_vectors_51 (i3_51 : Int32).toNatClampNeg) hf H locs ls hP hD hS (lv_sub hl [0, 1, 2, 3] rfl)
                          · replace hf := zite_f cd111 hf
                            refine lv_iload hx hb dX7_findVectors_114 (lv_at hl 4 rfl) ?_
                            refine lv_iload_n hx hb dX7_findVectors_116 rfl (lv_at hl 1 rfl) ?_
                            refine lv_iload_n hx hb dX7_findVectors_117 rfl (lv_at hl 2 rfl) ?_
                            refine lv_isub hx hb dX7_findVectors_118 ?_
                            refine lv_icmp_le (tgt := 128) hx hb dX7_findVectors_119 (by decide) (fun cd119 => ?_) (fun cd119 => ?_)
                            · replace hf := zite_t cd119 hf
                              exact j128 i3_51 (c_this_vectors_51 (i3_51 : Int32).toNatClampNeg) hf H locs ls hP hD hS (lv_sub hl [0, 1, 2, 3] rfl)
                            · replace hf := zite_f cd119 hf
                              refine lv_iconst (v := 1) hx hb dX7_findVectors_122 (by decide) ?_
                              refine lv_iload_n hx hb dX7_findVectors_123 rfl (lv_at hl 2 rfl) ?_
                              refine lv_ishl hx hb dX7_findVectors_124 ?_
                              refine lv_goto (tgt := 129) hx hb dX7_findVectors_125 (by decide) ?_
                              exact j129 i3_51 (c_this_vectors_51 (i3_51 : Int32).toNatClampNeg) ((1 : Int32) <<< (i2_44 &&& 31)) hf H locs ls hP hD hS (lv_sub hl [0, 1, 2, 3] rfl)
                        · replace hf := zite_f cd68 hf
                          refine lv_iload hx hb dX7_findVectors_71 (lv_at hl 4 rfl) ?_
                          refine lv_aload_n hx hb dX7_findVectors_73 rfl (lv_at hl 0 rfl) ?_
                          refine va_get (D := D) (ci := 7) (v := .ref q_this_vectors) (C := RX7) (T := TX7) (N := 19) hx hb hts n_X7_findVectors_X7 hown hK hP 0 rfl rfl 9 (by decide) (hts (.fieldLink RX7 31 "FaultyCubeModel" "vectors" "[I") (by decide +kernel)) (fun _ h9 => h9) rfl dX7_findVectors_74 ?_
                          refine lv_iload_n hx hb dX7_findVectors_77 rfl (lv_at hl 3 rfl) ?_
                          refine lv_iconst (v := 1) hx hb dX7_findVectors_78 (by decide) ?_
                          refine lv_iload hx hb dX7_findVectors_79 (lv_at hl 5 rfl) ?_
                          refine lv_ishl hx hb dX7_findVectors_81 ?_
                          refine lv_ixor hx hb dX7_findVectors_82 ?_
                          replace hf := zgd_some hf
                          obtain ⟨g12, hf⟩ := hf
                          refine va_iald (D := D) hx hb hK hP 2 1 rfl rfl (inb_in g12) dX7_findVectors_83 ?_
                          refine lv_iload_n hx hb dX7_findVectors_84 rfl (lv_at hl 2 rfl) ?_
                          refine lv_iconst (v := 1) hx hb dX7_findVectors_85 (by decide) ?_
                          refine lv_isub hx hb dX7_findVectors_86 ?_
                          refine lv_ishr hx hb dX7_findVectors_87 ?_
                          refine lv_iconst (v := 1) hx hb dX7_findVectors_88 (by decide) ?_
                          refine lv_iand hx hb dX7_findVectors_89 ?_
                          refine lv_iadd hx hb dX7_findVectors_90 ?_
                          refine lv_topi (fun x13 ex13 => ?_)
                          replace hf := zbd_of ex13 hf
                          refine lv_istore (lv' := [(4, .int x13), (0, .ref q_this), (1, .int x2), (2, .int i2_44), (3, .int i3_51), (5, .int i5_65)]) hx hb dX7_findVectors_91 hl (by decide) rfl (fun ls hl => ?_)
                          obtain ⟨x14, ex14⟩ : ∃ y : Int32, y = i5_65 + 1 := ⟨_, rfl⟩
                          replace hf := zbd_of ex14 hf
                          refine lv_iinc (v := x14) (lv' := [(5, .int x14), (4, .int x13), (0, .ref q_this), (1, .int x2), (2, .int i2_44), (3, .int i3_51)]) hx hb dX7_findVectors_93 hl (k := 5) rfl (by rw [ex14]; rfl) (by decide) rfl (fun ls hl => ?_)
                          refine lv_goto (tgt := 65) hx hb dX7_findVectors_96 (by decide) ?_
                          exact ih65 x13 x14 hf H locs ls hP hD hS (lv_sub hl [2, 3, 4, 5, 1, 0] rfl)
                    exact h65 zfu 0 0 hf H locs ls hP hD hS (lv_sub hl [2, 3, 4, 5, 1, 0] rfl)
              exact h51 zfu 0 c_this_vectors_44 hf H locs ls hP hD hS (lv_sub hl [1, 2, 3, 0] rfl)
        exact h44 zfu 2 c_this_vectors_9 hf H locs ls hP hD hS (lv_sub hl [1, 2, 0] rfl)
      · replace hf := zite_f cd14 hf
        refine lv_aload_n hx hb dX7_findVectors_17 rfl (lv_at hl 0 rfl) ?_
        refine va_get (D := D) (ci := 7) (v := .ref q_this_vectors) (C := RX7) (T := TX7) (N := 19) hx hb hts n_X7_findVectors_X7 hown hK hP 0 rfl rfl 9 (by decide) (hts (.fieldLink RX7 31 "FaultyCubeModel" "vectors" "[I") (by decide +kernel)) (fun _ h9 => h9) rfl dX7_findVectors_18 ?_
        refine lv_iload_n hx hb dX7_findVectors_21 rfl (lv_at hl 2 rfl) ?_
        refine lv_aload_n hx hb dX7_findVectors_22 rfl (lv_at hl 0 rfl) ?_
        refine lv_iload_n hx hb dX7_findVectors_23 rfl (lv_at hl 2 rfl) ?_
        replace hf := zob_some hf
        obtain ⟨u15, hu15, hf⟩ := hf
        refine kd_i (D := D) (v := u15) (av := [.ref q_this, .int i2_9]) (wc := [(q_this, .inr (7, [.ref q_this_now, .ref q_this_past, .int v_this_saved, .int v_this_refusal, .ref q_this_list, .ref q_this_at, .ref q_this_levels, .ref q_this_newer, .ref q_this_howMany, .ref q_this_vectors, .ref q_this_dims, .ref q_this_comes, .ref q_this_goes, .ref q_this_cameFrom, .ref q_this_halves, .int v_this_halfMany, .ref q_this_way, .ref q_this_used, .long v_this_hash])), (q_this_now, .inl (k_this_now, 187, .inl c_this_now))]) (w1 := [(q_this, .inr (7, [.ref q_this_now, .ref q_this_past, .int v_this_saved, .int v_this_refusal, .ref q_this_list, .ref q_this_at, .ref q_this_levels, .ref q_this_newer, .ref q_this_howMany, .ref q_this_vectors, .ref q_this_dims, .ref q_this_comes, .ref q_this_goes, .ref q_this_cameFrom, .ref q_this_halves, .int v_this_halfMany, .ref q_this_way, .ref q_this_used, .long v_this_hash])), (q_this_now, .inl (k_this_now, 187, .inl c_this_now))]) (ws2 := [(q_this, .inr (7, [.ref q_this_now, .ref q_this_past, .int v_this_saved, .int v_this_refusal, .ref q_this_list, .ref q_this_at, .ref q_this_levels, .ref q_this_newer, .ref q_this_howMany, .ref q_this_vectors, .ref q_this_dims, .ref q_this_comes, .ref q_this_goes, .ref q_this_cameFrom, .ref q_this_halves, .int v_this_halfMany, .ref q_this_way, .ref q_this_used, .long v_this_hash])), (q_this_now, .inl (k_this_now, 187, .inl c_this_now)), (q_this_vectors, .inl (k_this_vectors, 64, .inl c_this_vectors_9))]) hK hP hD hS hA hE [0, 1] [0] [2] [1, 2, 0] (fun hb1 hp1 => va_runV (As := [.int i2_9]) (rest := [.int i2_9, .ref q_this_vectors]) ⟨hx, hb, hml, hown, hts⟩ (c_X7_lives l D H.size q_this q_this_now q_this_past q_this_list q_this_at q_this_levels q_this_newer q_this_howMany q_this_vectors q_this_dims q_this_comes q_this_goes q_this_cameFrom q_this_halves q_this_way q_this_used k_this_now v_this_saved v_this_refusal v_this_halfMany v_this_hash c_this_now i2_9 u15 hu15) (cwV 1 hts gX7_findVectors_X7_lives rfl rfl rfl (by decide +kernel) ⟨Nat.le_of_ble_eq_true rfl, Nat.le_of_ble_eq_true rfl⟩) ⟨hb1, va_recv hK hP (ci := 7) (q0 := 0) rfl rfl, hp1⟩ rfl rfl hl.1 rfl (lv_room (Nat.le_of_ble_eq_true rfl)) dX7_findVectors_24 ⟨Nat.le_of_ble_eq_true rfl, Nat.le_of_ble_eq_true rfl⟩) rfl rfl rfl rfl rfl rfl rfl rfl rfl rfl (fun H locs hP hD hS => ?_)
        have hP : va_P D vwCl [(q_this, .inr (7, [.ref q_this_now, .ref q_this_past, .int v_this_saved, .int v_this_refusal, .ref q_this_list, .ref q_this_at, .ref q_this_levels, .ref q_this_newer, .ref q_this_howMany, .ref q_this_vectors, .ref q_this_dims, .ref q_this_comes, .ref q_this_goes, .ref q_this_cameFrom, .ref q_this_halves, .int v_this_halfMany, .ref q_this_way, .ref q_this_used, .long v_this_hash])), (q_this_now, .inl (k_this_now, 187, .inl c_this_now)), (q_this_vectors, .inl (k_this_vectors, 64, .inl c_this_vectors_9))] H := hP
        have hD : va_D A [(q_this, .inr (7, [.ref q_this_now, .ref q_this_past, .int v_this_saved, .int v_this_refusal, .ref q_this_list, .ref q_this_at, .ref q_this_levels, .ref q_this_newer, .ref q_this_howMany, .ref q_this_vectors, .ref q_this_dims, .ref q_this_comes, .ref q_this_goes, .ref q_this_cameFrom, .ref q_this_halves, .int v_this_halfMany, .ref q_this_way, .ref q_this_used, .long v_this_hash])), (q_this_now, .inl (k_this_now, 187, .inl c_this_now)), (q_this_vectors, .inl (k_this_vectors, 64, .inl c_this_vectors_9))] := hD
        replace hf := zjp_some hf
        obtain ⟨K35, eK35, hf⟩ := hf
        have j35 : ∀ (s1_35 : Int32) (s2_35 : Int32), K35 s1_35 s2_35 = some res → ∀ (H : Heap) (locs : List Loc) (ls : Array Slot), va_P D vwCl [(q_this, .inr (7, [.ref q_this_now, .ref q_this_past, .int v_this_saved, .int v_this_refusal, .ref q_this_list, .ref q_this_at, .ref q_this_levels, .ref q_this_newer, .ref q_this_howMany, .ref q_this_vectors, .ref q_this_dims, .ref q_this_comes, .ref q_this_goes, .ref q_this_cameFrom, .ref q_this_halves, .int v_this_halfMany, .ref q_this_way, .ref q_this_used, .long v_this_hash])), (q_this_now, .inl (k_this_now, 187, .inl c_this_now)), (q_this_vectors, .inl (k_this_vectors, 64, .inl c_this_vectors_9))] H → va_D A [(q_this, .inr (7, [.ref q_this_now, .ref q_this_past, .int v_this_saved, .int v_this_refusal, .ref q_this_list, .ref q_this_at, .ref q_this_levels, .ref q_this_newer, .ref q_this_howMany, .ref q_this_vectors, .ref q_this_dims, .ref q_this_comes, .ref q_this_goes, .ref q_this_cameFrom, .ref q_this_halves, .int v_this_halfMany, .ref q_this_way, .ref q_this_used, .long v_this_hash])), (q_this_now, .inl (k_this_now, 187, .inl c_this_now)), (q_this_vectors, .inl (k_this_vectors, 64, .inl c_this_vectors_9))] → va_S A s.heap H locs → lv_has ls 6 [(0, .ref q_this), (1, .int x2), (2, .int i2_9)] → W p l e rm_X7_findVectors s m args below meth c H locs 0 0 Q (F0 m 35 ls [.int s2_35, .int s1_35, .ref q_this_vectors]) := by
          intro s1_35 s2_35 hf H locs ls hP hD hS hl
          replace hf := zap2 eK35 hf
          replace hf := zgd_some hf
          obtain ⟨g16, hf⟩ := hf
          refine va_iast (D := D) hx hb hK hP hD hS 2 1 rfl rfl (inb_in g16) dX7_findVectors_35 (fun H locs hP hD hS => ?_)
          obtain ⟨y17, ey17⟩ : ∃ y : (Nat → Int32), y = upd c_this_vectors_9 (s1_35 : Int32).toNatClampNeg s2_35 := ⟨_, rfl⟩
          replace hf := zbd_of ey17 hf
          have hP : va_P D vwCl [(q_this, .inr (7, [.ref q_this_now, .ref q_this_past, .int v_this_saved, .int v_this_refusal, .ref q_this_list, .ref q_this_at, .ref q_this_levels, .ref q_this_newer, .ref q_this_howMany, .ref q_this_vectors, .ref q_this_dims, .ref q_this_comes, .ref q_this_goes, .ref q_this_cameFrom, .ref q_this_halves, .int v_this_halfMany, .ref q_this_way, .ref q_this_used, .long v_this_hash])), (q_this_now, .inl (k_this_now, 187, .inl c_this_now)), (q_this_vectors, .inl (k_this_vectors, 64, .inl y17))] H := by rw [ey17]; exact hP
          have hD : va_D A [(q_this, .inr (7, [.ref q_this_now, .ref q_this_past, .int v_this_saved, .int v_this_refusal, .ref q_this_list, .ref q_this_at, .ref q_this_levels, .ref q_this_newer, .ref q_this_howMany, .ref q_this_vectors, .ref q_this_dims, .ref q_this_comes, .ref q_this_goes, .ref q_this_cameFrom, .ref q_this_halves, .int v_this_halfMany, .ref q_this_way, .ref q_this_used, .long v_this_hash])), (q_this_now, .inl (k_this_now, 187, .inl c_this_now)), (q_this_vectors, .inl (k_this_vectors, 64, .inl y17))] := by rw [ey17]; exact hD
          obtain ⟨x18, ex18⟩ : ∃ y : Int32, y = i2_9 + 1 := ⟨_, rfl⟩
          replace hf := zbd_of ex18 hf
          refine lv_iinc (v := x18) (lv' := [(2, .int x18), (0, .ref q_this), (1, .int x2)]) hx hb dX7_findVectors_36 hl (k := 2) rfl (by rw [ex18]; rfl) (by decide) rfl (fun ls hl => ?_)
          refine lv_goto (tgt := 9) hx hb dX7_findVectors_39 (by decide) ?_
          exact ih9 x18 y17 hf H locs ls hP hD hS (lv_sub hl [1, 2, 0] rfl)
        refine lv_if_eq (tgt := 34) hx hb dX7_findVectors_27 (by decide) (fun cd27 => ?_) (fun cd27 => ?_)
        · replace hf := zite_t cd27 hf
          refine lv_iconst (v := 0) hx hb dX7_findVectors_34 (by decide) ?_
          exact j35 i2_9 0 hf H locs ls hP hD hS (lv_sub hl [0, 1, 2] rfl)
        · replace hf := zite_f cd27 hf
          refine lv_iconst (v := 2) hx hb dX7_findVectors_30 (by decide) ?_
          refine lv_goto (tgt := 35) hx hb dX7_findVectors_31 (by decide) ?_
          exact j35 i2_9 2 hf H locs ls hP hD hS (lv_sub hl [0, 1, 2] rfl)
  exact h9 zfu 0 c_this_vectors hf s.heap [] ls hP hD hS (lv_sub hl [2, 1, 0] rfl)
theorem n_X7_vectorBit_X7 : ∀ w ∈ u_ws RX7 TX7 19, w ∈ wsX7_vectorBit := by decide +kernel
abbrev rm_X7_vectorBit : Room := { frames := 2, cells := 0, slots := 0, locals := 46 }
set_option maxHeartbeats 4000000 in
set_option maxRecDepth 100000 in
theorem c_X7_vectorBit (l : Launch) (D : va_G) (sz : Nat) (q_this : Nat) (q_this_now : Nat) (q_this_past : Nat) (q_this_list : Nat) (q_this_at : Nat) (q_this_levels : Nat) (q_this_newer : Nat) (q_this_howMany : Nat) (q_this_vectors : Nat) (q_this_dims : Nat) (q_this_comes : Nat) (q_this_goes : Nat) (q_this_cameFrom : Nat) (q_this_halves : Nat) (q_this_way : Nat) (q_this_used : Nat) (k_this_now : ClassId) (k_this_vectors : ClassId) (v_this_saved : Int32) (v_this_refusal : Int32) (v_this_halfMany : Int32) (v_this_hash : Int64) (c_this_now : (Nat → Int32)) (c_this_vectors : (Nat → Int32)) (a1 : Int32) (a2 : Int32) (res : rt_X7_vectorBit) (hf : f_X7_vectorBit a1 a2 v_this_refusal c_this_now c_this_vectors = some res) : Met l yX7_vectorBit wsX7_vectorBit rm_X7_vectorBit (kP D [.ref q_this, .int a1, .int a2] [(q_this, .inr (7, [.ref q_this_now, .ref q_this_past, .int v_this_saved, .int v_this_refusal, .ref q_this_list, .ref q_this_at, .ref q_this_levels, .ref q_this_newer, .ref q_this_howMany, .ref q_this_vectors, .ref q_this_dims, .ref q_this_comes, .ref q_this_goes, .ref q_this_cameFrom, .ref q_this_halves, .int v_this_halfMany, .ref q_this_way, .ref q_this_used, .long v_this_hash])), (q_this_now, .inl (k_this_now, 187, .inl c_this_now)), (q_this_vectors, .inl (k_this_vectors, 64, .inl c_this_vectors))] [(k_this_now, .int), (k_this_vectors, .int)] sz) (kQi D (va_A [(q_this, .inr (7, [.ref q_this_now, .ref q_this_past, .int v_this_saved, .int v_this_refusal, .ref q_this_list, .ref q_this_at, .ref q_this_levels, .ref q_this_newer, .ref q_this_howMany, .ref q_this_vectors, .ref q_this_dims, .ref q_this_comes, .ref q_this_goes, .ref q_this_cameFrom, .ref q_this_halves, .int v_this_halfMany, .ref q_this_way, .ref q_this_used, .long v_this_hash])), (q_this_now, .inl (k_this_now, 187, .inl c_this_now)), (q_this_vectors, .inl (k_this_vectors, 64, .inl c_this_vectors))] sz) [(k_this_now, .int), (k_this_vectors, .int)] res.1 [(q_this, .inr (7, [.ref q_this_now, .ref q_this_past, .int v_this_saved, .int res.2.1, .ref q_this_list, .ref q_this_at, .ref q_this_levels, .ref q_this_newer, .ref q_this_howMany, .ref q_this_vectors, .ref q_this_dims, .ref q_this_comes, .ref q_this_goes, .ref q_this_cameFrom, .ref q_this_halves, .int v_this_halfMany, .ref q_this_way, .ref q_this_used, .long v_this_hash])), (q_this_now, .inl (k_this_now, 187, .inl c_this_now)), (q_this_vectors, .inl (k_this_vectors, 64, .inl res.2.2))]) 0 0 (va_A [(q_this, .inr (7, [.ref q_this_now, .ref q_this_past, .int v_this_saved, .int v_this_refusal, .ref q_this_list, .ref q_this_at, .ref q_this_levels, .ref q_this_newer, .ref q_this_howMany, .ref q_this_vectors, .ref q_this_dims, .ref q_this_comes, .ref q_this_goes, .ref q_this_cameFrom, .ref q_this_halves, .int v_this_halfMany, .ref q_this_way, .ref q_this_used, .long v_this_hash])), (q_this_now, .inl (k_this_now, 187, .inl c_this_now)), (q_this_vectors, .inl (k_this_vectors, 64, .inl c_this_vectors))] sz) := by
  refine Met.ofW (cc := cX7_vectorBit) (maxL := 3) (ret := (some .int)) (by decide +kernel) rfl ?_
  intro p e s m args below meth c s₁ B hml hv
  obtain ⟨hargs, hsz, hP, hK, hD0, hE⟩ := hv
  have hx := B.exec
  have hb := B.bytes
  have hr := B.returns
  have hts := atoms_spec (ws := wsX7_vectorBit) B.pre
  have hown : s.vm.findClass RX7 = some m.cls := findClass_of_methodNamed B.named
  have hlocks := B.notSynchronized
  subst hsz
  have hD := hD0.self (sz := s.heap.size)
  generalize hAe : va_A [(q_this, .inr (7, [.ref q_this_now, .ref q_this_past, .int v_this_saved, .int v_this_refusal, .ref q_this_list, .ref q_this_at, .ref q_this_levels, .ref q_this_newer, .ref q_this_howMany, .ref q_this_vectors, .ref q_this_dims, .ref q_this_comes, .ref q_this_goes, .ref q_this_cameFrom, .ref q_this_halves, .int v_this_halfMany, .ref q_this_way, .ref q_this_used, .long v_this_hash])), (q_this_now, .inl (k_this_now, 187, .inl c_this_now)), (q_this_vectors, .inl (k_this_vectors, 64, .inl c_this_vectors))] s.heap.size = A at hD hE ⊢
  have hA : ∀ q : Nat, s.heap.size ≤ q → A q := fun q h => by rw [← hAe]; exact Or.inr h
  have hS : va_S A s.heap s.heap [] := va_S.rf
  refine kgen (fun Q eQ => ?_)
  refine kent (av := [.ref q_this, .int a1, .int a2]) hargs (Nat.le_of_ble_eq_true rfl) (fun ls hl => ?_)
  have hl : lv_has ls 3 [(0, .ref q_this), (1, .int a1), (2, .int a2)] := hl
  show W p l e rm_X7_vectorBit s m args below meth c s.heap [] 0 0 Q (F0 m 0 ls [])
  unfold f_X7_vectorBit at hf
  refine lv_aload_n hx hb dX7_vectorBit_0 rfl (lv_at hl 0 rfl) ?_
  refine lv_aload_n hx hb dX7_vectorBit_1 rfl (lv_at hl 0 rfl) ?_
  refine lv_iload_n hx hb dX7_vectorBit_2 rfl (lv_at hl 1 rfl) ?_
  replace hf := zob_some hf
  obtain ⟨u1, hu1, hf⟩ := hf
  refine kd_i (D := D) (v := u1) (av := [.ref q_this, .int a1]) (wc := [(q_this, .inr (7, [.ref q_this_now, .ref q_this_past, .int v_this_saved, .int v_this_refusal, .ref q_this_list, .ref q_this_at, .ref q_this_levels, .ref q_this_newer, .ref q_this_howMany, .ref q_this_vectors, .ref q_this_dims, .ref q_this_comes, .ref q_this_goes, .ref q_this_cameFrom, .ref q_this_halves, .int v_this_halfMany, .ref q_this_way, .ref q_this_used, .long v_this_hash])), (q_this_now, .inl (k_this_now, 187, .inl c_this_now))]) (w1 := [(q_this, .inr (7, [.ref q_this_now, .ref q_this_past, .int v_this_saved, .int v_this_refusal, .ref q_this_list, .ref q_this_at, .ref q_this_levels, .ref q_this_newer, .ref q_this_howMany, .ref q_this_vectors, .ref q_this_dims, .ref q_this_comes, .ref q_this_goes, .ref q_this_cameFrom, .ref q_this_halves, .int v_this_halfMany, .ref q_this_way, .ref q_this_used, .long v_this_hash])), (q_this_now, .inl (k_this_now, 187, .inl c_this_now))]) (ws2 := [(q_this, .inr (7, [.ref q_this_now, .ref q_this_past, .int v_this_saved, .int v_this_refusal, .ref q_this_list, .ref q_this_at, .ref q_this_levels, .ref q_this_newer, .ref q_this_howMany, .ref q_this_vectors, .ref q_this_dims, .ref q_this_comes, .ref q_this_goes, .ref q_this_cameFrom, .ref q_this_halves, .int v_this_halfMany, .ref q_this_way, .ref q_this_used, .long v_this_hash])), (q_this_now, .inl (k_this_now, 187, .inl c_this_now)), (q_this_vectors, .inl (k_this_vectors, 64, .inl c_this_vectors))]) hK hP hD hS hA hE [0, 1] [0] [2] [1, 2, 0] (fun hb1 hp1 => va_runV (As := [.int a1]) (rest := [.ref q_this]) ⟨hx, hb, hml, hown, hts⟩ (c_X7_isNode l D s.heap.size q_this q_this_now q_this_past q_this_list q_this_at q_this_levels q_this_newer q_this_howMany q_this_vectors q_this_dims q_this_comes q_this_goes q_this_cameFrom q_this_halves q_this_way q_this_used k_this_now v_this_saved v_this_refusal v_this_halfMany v_this_hash c_this_now a1 u1 hu1) (cwV 1 hts gX7_vectorBit_X7_isNode rfl rfl rfl (by decide +kernel) ⟨Nat.le_of_ble_eq_true rfl, Nat.le_of_ble_eq_true rfl⟩) ⟨hb1, va_recv hK hP (ci := 7) (q0 := 0) rfl rfl, hp1⟩ rfl rfl hl.1 rfl (lv_room (Nat.le_of_ble_eq_true rfl)) dX7_vectorBit_3 ⟨Nat.le_of_ble_eq_true rfl, Nat.le_of_ble_eq_true rfl⟩) rfl rfl rfl rfl rfl rfl rfl rfl rfl rfl (fun H locs hP hD hS => ?_)
  have hP : va_P D vwCl [(q_this, .inr (7, [.ref q_this_now, .ref q_this_past, .int v_this_saved, .int v_this_refusal, .ref q_this_list, .ref q_this_at, .ref q_this_levels, .ref q_this_newer, .ref q_this_howMany, .ref q_this_vectors, .ref q_this_dims, .ref q_this_comes, .ref q_this_goes, .ref q_this_cameFrom, .ref q_this_halves, .int v_this_halfMany, .ref q_this_way, .ref q_this_used, .long v_this_hash])), (q_this_now, .inl (k_this_now, 187, .inl c_this_now)), (q_this_vectors, .inl (k_this_vectors, 64, .inl c_this_vectors))] H := hP
  have hD : va_D A [(q_this, .inr (7, [.ref q_this_now, .ref q_this_past, .int v_this_saved, .int v_this_refusal, .ref q_this_list, .ref q_this_at, .ref q_this_levels, .ref q_this_newer, .ref q_this_howMany, .ref q_this_vectors, .ref q_this_dims, .ref q_this_comes, .ref q_this_goes, .ref q_this_cameFrom, .ref q_this_halves, .int v_this_halfMany, .ref q_this_way, .ref q_this_used, .long v_this_hash])), (q_this_now, .inl (k_this_now, 187, .inl c_this_now)), (q_this_vectors, .inl (k_this_vectors, 64, .inl c_this_vectors))] := hD
  replace hf := zjp_some hf
  obtain ⟨K28, eK28, hf⟩ := hf
  have j28 : ∀ (s1_28 : Int32), K28 s1_28 = some res → ∀ (H : Heap) (locs : List Loc) (ls : Array Slot), va_P D vwCl [(q_this, .inr (7, [.ref q_this_now, .ref q_this_past, .int v_this_saved, .int v_this_refusal, .ref q_this_list, .ref q_this_at, .ref q_this_levels, .ref q_this_newer, .ref q_this_howMany, .ref q_this_vectors, .ref q_this_dims, .ref q_this_comes, .ref q_this_goes, .ref q_this_cameFrom, .ref q_this_halves, .int v_this_halfMany, .ref q_this_way, .ref q_this_used, .long v_this_hash])), (q_this_now, .inl (k_this_now, 187, .inl c_this_now)), (q_this_vectors, .inl (k_this_vectors, 64, .inl c_this_vectors))] H → va_D A [(q_this, .inr (7, [.ref q_this_now, .ref q_this_past, .int v_this_saved, .int v_this_refusal, .ref q_this_list, .ref q_this_at, .ref q_this_levels, .ref q_this_newer, .ref q_this_howMany, .ref q_this_vectors, .ref q_this_dims, .ref q_this_comes, .ref q_this_goes, .ref q_this_cameFrom, .ref q_this_halves, .int v_this_halfMany, .ref q_this_way, .ref q_this_used, .long v_this_hash])), (q_this_now, .inl (k_this_now, 187, .inl c_this_now)), (q_this_vectors, .inl (k_this_vectors, 64, .inl c_this_vectors))] → va_S A s.heap H locs → lv_has ls 3 [(0, .ref q_this), (1, .int a1), (2, .int a2)] → W p l e rm_X7_vectorBit s m args below meth c H locs 0 0 Q (F0 m 28 ls [.int s1_28, .ref q_this]) := by
    intro s1_28 hf H locs ls hP hD hS hl
    replace hf := zap1 eK28 hf
    replace hf := zob_some hf
    obtain ⟨u2, hu2, hf⟩ := hf
    refine kd_i (D := D) (v := u2.1) (av := [.ref q_this, .int s1_28]) (wc := [(q_this, .inr (7, [.ref q_this_now, .ref q_this_past, .int v_this_saved, .int v_this_refusal, .ref q_this_list, .ref q_this_at, .ref q_this_levels, .ref q_this_newer, .ref q_this_howMany, .ref q_this_vectors, .ref q_this_dims, .ref q_this_comes, .ref q_this_goes, .ref q_this_cameFrom, .ref q_this_halves, .int v_this_halfMany, .ref q_this_way, .ref q_this_used, .long v_this_hash]))]) (w1 := [(q_this, .inr (7, [.ref q_this_now, .ref q_this_past, .int v_this_saved, .int u2.2, .ref q_this_list, .ref q_this_at, .ref q_this_levels, .ref q_this_newer, .ref q_this_howMany, .ref q_this_vectors, .ref q_this_dims, .ref q_this_comes, .ref q_this_goes, .ref q_this_cameFrom, .ref q_this_halves, .int v_this_halfMany, .ref q_this_way, .ref q_this_used, .long v_this_hash]))]) (ws2 := [(q_this, .inr (7, [.ref q_this_now, .ref q_this_past, .int v_this_saved, .int u2.2, .ref q_this_list, .ref q_this_at, .ref q_this_levels, .ref q_this_newer, .ref q_this_howMany, .ref q_this_vectors, .ref q_this_dims, .ref q_this_comes, .ref q_this_goes, .ref q_this_cameFrom, .ref q_this_halves, .int v_this_halfMany, .ref q_this_way, .ref q_this_used, .long v_this_hash])), (q_this_now, .inl (k_this_now, 187, .inl c_this_now)), (q_this_vectors, .inl (k_this_vectors, 64, .inl c_this_vectors))]) hK hP hD hS hA hE [0] [] [1, 2] [2, 0, 1] (fun hb1 hp1 => va_runV (As := [.int s1_28]) (rest := []) ⟨hx, hb, hml, hown, hts⟩ (c_X7_refused l D H.size q_this q_this_now q_this_past q_this_list q_this_at q_this_levels q_this_newer q_this_howMany q_this_vectors q_this_dims q_this_comes q_this_goes q_this_cameFrom q_this_halves q_this_way q_this_used v_this_saved v_this_refusal v_this_halfMany v_this_hash s1_28 u2 hu2) (cwV 1 hts gX7_vectorBit_X7_refused rfl rfl rfl (by decide +kernel) ⟨Nat.le_of_ble_eq_true rfl, Nat.le_of_ble_eq_true rfl⟩) ⟨hb1, va_recv hK hP (ci := 7) (q0 := 0) rfl rfl, hp1⟩ rfl rfl hl.1 rfl (lv_room (Nat.le_of_ble_eq_true rfl)) dX7_vectorBit_28 ⟨Nat.le_of_ble_eq_true rfl, Nat.le_of_ble_eq_true rfl⟩) rfl rfl rfl rfl rfl rfl rfl rfl rfl rfl (fun H locs hP hD hS => ?_)
    have hP : va_P D vwCl [(q_this, .inr (7, [.ref q_this_now, .ref q_this_past, .int v_this_saved, .int u2.2, .ref q_this_list, .ref q_this_at, .ref q_this_levels, .ref q_this_newer, .ref q_this_howMany, .ref q_this_vectors, .ref q_this_dims, .ref q_this_comes, .ref q_this_goes, .ref q_this_cameFrom, .ref q_this_halves, .int v_this_halfMany, .ref q_this_way, .ref q_this_used, .long v_this_hash])), (q_this_now, .inl (k_this_now, 187, .inl c_this_now)), (q_this_vectors, .inl (k_this_vectors, 64, .inl c_this_vectors))] H := hP
    have hD : va_D A [(q_this, .inr (7, [.ref q_this_now, .ref q_this_past, .int v_this_saved, .int u2.2, .ref q_this_list, .ref q_this_at, .ref q_this_levels, .ref q_this_newer, .ref q_this_howMany, .ref q_this_vectors, .ref q_this_dims, .ref q_this_comes, .ref q_this_goes, .ref q_this_cameFrom, .ref q_this_halves, .int v_this_halfMany, .ref q_this_way, .ref q_this_used, .long v_this_hash])), (q_this_now, .inl (k_this_now, 187, .inl c_this_now)), (q_this_vectors, .inl (k_this_vectors, 64, .inl c_this_vectors))] := hD
    refine lv_if_eq (tgt := 36) hx hb dX7_vectorBit_31 (by decide) (fun cd31 => ?_) (fun cd31 => ?_)
    · replace hf := zite_t cd31 hf
      refine lv_aload_n hx hb dX7_vectorBit_36 rfl (lv_at hl 0 rfl) ?_
      replace hf := zob_some hf
      obtain ⟨u3, hu3, hf⟩ := hf
      refine kd_v (D := D) (av := [.ref q_this]) (wc := [(q_this, .inr (7, [.ref q_this_now, .ref q_this_past, .int v_this_saved, .int u2.2, .ref q_this_list, .ref q_this_at, .ref q_this_levels, .ref q_this_newer, .ref q_this_howMany, .ref q_this_vectors, .ref q_this_dims, .ref q_this_comes, .ref q_this_goes, .ref q_this_cameFrom, .ref q_this_halves, .int v_this_halfMany, .ref q_this_way, .ref q_this_used, .long v_this_hash])), (q_this_now, .inl (k_this_now, 187, .inl c_this_now)), (q_this_vectors, .inl (k_this_vectors, 64, .inl c_this_vectors))]) (w1 := [(q_this, .inr (7, [.ref q_this_now, .ref q_this_past, .int v_this_saved, .int u2.2, .ref q_this_list, .ref q_this_at, .ref q_this_levels, .ref q_this_newer, .ref q_this_howMany, .ref q_this_vectors, .ref q_this_dims, .ref q_this_comes, .ref q_this_goes, .ref q_this_cameFrom, .ref q_this_halves, .int v_this_halfMany, .ref q_this_way, .ref q_this_used, .long v_this_hash])), (q_this_now, .inl (k_this_now, 187, .inl c_this_now)), (q_this_vectors, .inl (k_this_vectors, 64, .inl u3))]) (ws2 := [(q_this, .inr (7, [.ref q_this_now, .ref q_this_past, .int v_this_saved, .int u2.2, .ref q_this_list, .ref q_this_at, .ref q_this_levels, .ref q_this_newer, .ref q_this_howMany, .ref q_this_vectors, .ref q_this_dims, .ref q_this_comes, .ref q_this_goes, .ref q_this_cameFrom, .ref q_this_halves, .int v_this_halfMany, .ref q_this_way, .ref q_this_used, .long v_this_hash])), (q_this_now, .inl (k_this_now, 187, .inl c_this_now)), (q_this_vectors, .inl (k_this_vectors, 64, .inl u3))]) hK hP hD hS hA hE [0, 1, 2] [0, 1] [] [0, 1, 2] (fun hb1 hp1 => va_runV (As := []) (rest := []) ⟨hx, hb, hml, hown, hts⟩ (c_X7_findVectors l D H.size q_this q_this_now q_this_past q_this_list q_this_at q_this_levels q_this_newer q_this_howMany q_this_vectors q_this_dims q_this_comes q_this_goes q_this_cameFrom q_this_halves q_this_way q_this_used k_this_now k_this_vectors v_this_saved u2.2 v_this_halfMany v_this_hash c_this_now c_this_vectors u3 hu3) (cwV 0 hts gX7_vectorBit_X7_findVectors rfl rfl rfl (by decide +kernel) ⟨Nat.le_of_ble_eq_true rfl, Nat.le_of_ble_eq_true rfl⟩) ⟨hb1, va_recv hK hP (ci := 7) (q0 := 0) rfl rfl, hp1⟩ rfl rfl hl.1 rfl (lv_room (Nat.le_of_ble_eq_true rfl)) dX7_vectorBit_37 ⟨Nat.le_of_ble_eq_true rfl, Nat.le_of_ble_eq_true rfl⟩) rfl rfl rfl rfl rfl rfl rfl rfl rfl rfl (fun H locs hP hD hS => ?_)
      have hP : va_P D vwCl [(q_this, .inr (7, [.ref q_this_now, .ref q_this_past, .int v_this_saved, .int u2.2, .ref q_this_list, .ref q_this_at, .ref q_this_levels, .ref q_this_newer, .ref q_this_howMany, .ref q_this_vectors, .ref q_this_dims, .ref q_this_comes, .ref q_this_goes, .ref q_this_cameFrom, .ref q_this_halves, .int v_this_halfMany, .ref q_this_way, .ref q_this_used, .long v_this_hash])), (q_this_now, .inl (k_this_now, 187, .inl c_this_now)), (q_this_vectors, .inl (k_this_vectors, 64, .inl u3))] H := hP
      have hD : va_D A [(q_this, .inr (7, [.ref q_this_now, .ref q_this_past, .int v_this_saved, .int u2.2, .ref q_this_list, .ref q_this_at, .ref q_this_levels, .ref q_this_newer, .ref q_this_howMany, .ref q_this_vectors, .ref q_this_dims, .ref q_this_comes, .ref q_this_goes, .ref q_this_cameFrom, .ref q_this_halves, .int v_this_halfMany, .ref q_this_way, .ref q_this_used, .long v_this_hash])), (q_this_now, .inl (k_this_now, 187, .inl c_this_now)), (q_this_vectors, .inl (k_this_vectors, 64, .inl u3))] := hD
      refine lv_aload_n hx hb dX7_vectorBit_40 rfl (lv_at hl 0 rfl) ?_
      refine va_get (D := D) (ci := 7) (v := .ref q_this_vectors) (C := RX7) (T := TX7) (N := 19) hx hb hts n_X7_vectorBit_X7 hown hK hP 0 rfl rfl 9 (by decide) (hts (.fieldLink RX7 31 "FaultyCubeModel" "vectors" "[I") (by decide +kernel)) (fun _ h9 => h9) rfl dX7_vectorBit_41 ?_
      refine lv_iload_n hx hb dX7_vectorBit_44 rfl (lv_at hl 1 rfl) ?_
      replace hf := zgd_some hf
      obtain ⟨g4, hf⟩ := hf
      refine va_iald (D := D) hx hb hK hP 2 1 rfl rfl (inb_in g4) dX7_vectorBit_45 ?_
      refine lv_iload_n hx hb dX7_vectorBit_46 rfl (lv_at hl 2 rfl) ?_
      refine lv_ishr hx hb dX7_vectorBit_47 ?_
      refine lv_iconst (v := 1) hx hb dX7_vectorBit_48 (by decide) ?_
      refine lv_iand hx hb dX7_vectorBit_49 ?_
      obtain rfl := Option.some.inj hf
      subst eQ
      exact kr_i hx hb hr hlocks hK hP hD hS dX7_vectorBit_50
    · replace hf := zite_f cd31 hf
      refine lv_iconst (v := 0) hx hb dX7_vectorBit_34 (by decide) ?_
      obtain rfl := Option.some.inj hf
      subst eQ
      exact kr_i hx hb hr hlocks hK hP hD hS dX7_vectorBit_35
  replace hf := zjp_some hf
  obtain ⟨K27, eK27, hf⟩ := hf
  have j27 : K27 = some res → ∀ (H : Heap) (locs : List Loc) (ls : Array Slot), va_P D vwCl [(q_this, .inr (7, [.ref q_this_now, .ref q_this_past, .int v_this_saved, .int v_this_refusal, .ref q_this_list, .ref q_this_at, .ref q_this_levels, .ref q_this_newer, .ref q_this_howMany, .ref q_this_vectors, .ref q_this_dims, .ref q_this_comes, .ref q_this_goes, .ref q_this_cameFrom, .ref q_this_halves, .int v_this_halfMany, .ref q_this_way, .ref q_this_used, .long v_this_hash])), (q_this_now, .inl (k_this_now, 187, .inl c_this_now)), (q_this_vectors, .inl (k_this_vectors, 64, .inl c_this_vectors))] H → va_D A [(q_this, .inr (7, [.ref q_this_now, .ref q_this_past, .int v_this_saved, .int v_this_refusal, .ref q_this_list, .ref q_this_at, .ref q_this_levels, .ref q_this_newer, .ref q_this_howMany, .ref q_this_vectors, .ref q_this_dims, .ref q_this_comes, .ref q_this_goes, .ref q_this_cameFrom, .ref q_this_halves, .int v_this_halfMany, .ref q_this_way, .ref q_this_used, .long v_this_hash])), (q_this_now, .inl (k_this_now, 187, .inl c_this_now)), (q_this_vectors, .inl (k_this_vectors, 64, .inl c_this_vectors))] → va_S A s.heap H locs → lv_has ls 3 [(0, .ref q_this), (1, .int a1), (2, .int a2)] → W p l e rm_X7_vectorBit s m args below meth c H locs 0 0 Q (F0 m 27 ls [.ref q_this]) := by
    intro  hf H locs ls hP hD hS hl
    replace hf := zap0 eK27 hf
    refine lv_iconst (v := 1) hx hb dX7_vectorBit_27 (by decide) ?_
    exact j28 1 hf H locs ls hP hD hS (lv_sub hl [0, 1, 2] rfl)
  refine lv_if_eq (tgt := 27) hx hb dX7_vectorBit_6 (by decide) (fun cd6 => ?_) (fun cd6 => ?_)
  · replace hf := zite_t cd6 hf
    exact j27  hf H locs ls hP hD hS (lv_sub hl [0, 1, 2] rfl)
  · replace hf := zite_f cd6 hf
    refine lv_iload_n hx hb dX7_vectorBit_9 rfl (lv_at hl 2 rfl) ?_
    refine lv_iconst (v := 1) hx hb dX7_vectorBit_10 (by decide) ?_
    refine lv_aload_n hx hb dX7_vectorBit_11 rfl (lv_at hl 0 rfl) ?_
    refine va_get (D := D) (ci := 7) (v := .ref q_this_now) (C := RX7) (T := TX7) (N := 19) hx hb hts n_X7_vectorBit_X7 hown hK hP 0 rfl rfl 0 (by decide) (hts (.fieldLink RX7 7 "FaultyCubeModel" "now" "[I") (by decide +kernel)) (fun _ h9 => h9) rfl dX7_vectorBit_12 ?_
    refine lv_iconst (v := 0) hx hb dX7_vectorBit_15 (by decide) ?_
    replace hf := zgd_some hf
    obtain ⟨g5, hf⟩ := hf
    refine va_iald (D := D) hx hb hK hP 1 0 rfl rfl (inb_in g5) dX7_vectorBit_16 ?_
    replace hf := zob_some hf
    obtain ⟨u6, hu6, hf⟩ := hf
    refine kd_i (D := D) (v := u6) (av := [.int a2, .int 1, .int (c_this_now (0 : Int32).toNatClampNeg)]) (wc := []) (w1 := []) (ws2 := [(q_this, .inr (7, [.ref q_this_now, .ref q_this_past, .int v_this_saved, .int v_this_refusal, .ref q_this_list, .ref q_this_at, .ref q_this_levels, .ref q_this_newer, .ref q_this_howMany, .ref q_this_vectors, .ref q_this_dims, .ref q_this_comes, .ref q_this_goes, .ref q_this_cameFrom, .ref q_this_halves, .int v_this_halfMany, .ref q_this_way, .ref q_this_used, .long v_this_hash])), (q_this_now, .inl (k_this_now, 187, .inl c_this_now)), (q_this_vectors, .inl (k_this_vectors, 64, .inl c_this_vectors))]) hK hP hD hS hA hE [] [] [0, 1, 2] [0, 1, 2] (fun hb1 hp1 => va_runS (As := [.int a2, .int 1, .int (c_this_now (0 : Int32).toNatClampNeg)]) (rest := [.ref q_this]) ⟨hx, hb, hml, hown, hts⟩ (c_X7_within l D H.size a2 1 (c_this_now (0 : Int32).toNatClampNeg) u6 hu6) (va_cwS 3 hts gX7_vectorBit_X7_within rfl rfl rfl (by decide +kernel) ⟨Nat.le_of_ble_eq_true rfl, Nat.le_of_ble_eq_true rfl⟩) ⟨hb1, hp1⟩ rfl rfl hl.1 rfl (lv_room (Nat.le_of_ble_eq_true rfl)) dX7_vectorBit_17 ⟨Nat.le_of_ble_eq_true rfl, Nat.le_of_ble_eq_true rfl⟩) rfl rfl rfl rfl rfl rfl rfl rfl rfl rfl (fun H locs hP hD hS => ?_)
    have hP : va_P D vwCl [(q_this, .inr (7, [.ref q_this_now, .ref q_this_past, .int v_this_saved, .int v_this_refusal, .ref q_this_list, .ref q_this_at, .ref q_this_levels, .ref q_this_newer, .ref q_this_howMany, .ref q_this_vectors, .ref q_this_dims, .ref q_this_comes, .ref q_this_goes, .ref q_this_cameFrom, .ref q_this_halves, .int v_this_halfMany, .ref q_this_way, .ref q_this_used, .long v_this_hash])), (q_this_now, .inl (k_this_now, 187, .inl c_this_now)), (q_this_vectors, .inl (k_this_vectors, 64, .inl c_this_vectors))] H := hP
    have hD : va_D A [(q_this, .inr (7, [.ref q_this_now, .ref q_this_past, .int v_this_saved, .int v_this_refusal, .ref q_this_list, .ref q_this_at, .ref q_this_levels, .ref q_this_newer, .ref q_this_howMany, .ref q_this_vectors, .ref q_this_dims, .ref q_this_comes, .ref q_this_goes, .ref q_this_cameFrom, .ref q_this_halves, .int v_this_halfMany, .ref q_this_way, .ref q_this_used, .long v_this_hash])), (q_this_now, .inl (k_this_now, 187, .inl c_this_now)), (q_this_vectors, .inl (k_this_vectors, 64, .inl c_this_vectors))] := hD
    refine lv_if_eq (tgt := 27) hx hb dX7_vectorBit_20 (by decide) (fun cd20 => ?_) (fun cd20 => ?_)
    · replace hf := zite_t cd20 hf
      exact j27  hf H locs ls hP hD hS (lv_sub hl [0, 1, 2] rfl)
    · replace hf := zite_f cd20 hf
      refine lv_iconst (v := 0) hx hb dX7_vectorBit_23 (by decide) ?_
      refine lv_goto (tgt := 28) hx hb dX7_vectorBit_24 (by decide) ?_
      exact j28 0 hf H locs ls hP hD hS (lv_sub hl [0, 1, 2] rfl)
