abbrev rm_J7_fill_53178 : Room := { frames := 0, cells := 0, slots := 0, locals := 0 }
set_option maxHeartbeats 4000000 in
set_option maxRecDepth 100000 in
theorem c_J7_fill_53178 (l : Launch) (D : va_G) (sz : Nat) (q_p0 : Nat) (k_p0 : ClassId) (n_p0 : Nat) (c_p0 : (Nat → Int32)) (a1 : Int32) (res : rt_J7_fill_53178) (hf : f_J7_fill_53178 n_p0 a1 c_p0 = some res) : Met l yJ7_fill_53178 wsJ7_fill_53178 rm_J7_fill_53178 (kP D [.ref q_p0, .int a1] [(q_p0, .inl (k_p0, n_p0, .inl c_p0))] [(k_p0, .int)] sz) (kQv D (va_A [(q_p0, .inl (k_p0, n_p0, .inl c_p0))] sz) [(k_p0, .int)] [(q_p0, .inl (k_p0, n_p0, .inl res))]) 0 0 (va_A [(q_p0, .inl (k_p0, n_p0, .inl c_p0))] sz) := by
  refine Met.ofW (cc := cJ7_fill_53178) (maxL := 4) (ret := none) (by decide +kernel) rfl ?_
  intro p e s m args below meth c s₁ B hml hv
  obtain ⟨hargs, hsz, hP, hK, hD0, hE⟩ := hv
  have hx := B.exec
  have hb := B.bytes
  have hr := B.returns
  have hts := atoms_spec (ws := wsJ7_fill_53178) B.pre
  have hown : s.vm.findClass RJ7 = some m.cls := findClass_of_methodNamed B.named
  have hlocks := B.notSynchronized
  subst hsz
  have hD := hD0.self (sz := s.heap.size)
  generalize hAe : va_A [(q_p0, .inl (k_p0, n_p0, .inl c_p0))] s.heap.size = A at hD hE ⊢
  have hA : ∀ q : Nat, s.heap.size ≤ q → A q := fun q h => by rw [← hAe]; exact Or.inr h
  have hS : va_S A s.heap s.heap [] := va_S.rf
  refine kgen (fun Q eQ => ?_)
  refine kent (av := [.ref q_p0, .int a1]) hargs (Nat.le_of_ble_eq_true rfl) (fun ls hl => ?_)
  have hl : lv_has ls 4 [(0, .ref q_p0), (1, .int a1)] := hl
  show W p l e rm_J7_fill_53178 s m args below meth c s.heap [] 0 0 Q (F0 m 0 ls [])
  unfold f_J7_fill_53178 at hf
  refine lv_iconst (v := 0) hx hb dJ7_fill_53178_0 (by decide) ?_
  refine lv_istore_n (lv' := [(2, .int 0), (0, .ref q_p0), (1, .int a1)]) hx hb dJ7_fill_53178_1 rfl hl (by decide) rfl (fun ls hl => ?_)
  refine lv_aload_n hx hb dJ7_fill_53178_2 rfl (lv_at hl 1 rfl) ?_
  refine va_alen (D := D) (v := (Int32.ofNat n_p0)) hx hb hK hP 0 0 rfl rfl rfl dJ7_fill_53178_3 ?_
  refine lv_topi (fun x1 ex1 => ?_)
  replace hf := zbd_of ex1 hf
  refine lv_istore_n (lv' := [(3, .int x1), (2, .int 0), (0, .ref q_p0), (1, .int a1)]) hx hb dJ7_fill_53178_4 rfl hl (by decide) rfl (fun ls hl => ?_)
  replace hf := zl2_some hf
  obtain ⟨F5, eF5, hf⟩ := hf
  have h5 : ∀ (n5 : Nat) (i2_5 : Int32) (c_p0_5 : (Nat → Int32)), zl2 F5 n5 i2_5 c_p0_5 = some res → ∀ (H : Heap) (locs : List Loc) (ls : Array Slot), va_P D vwCl [(q_p0, .inl (k_p0, n_p0, .inl c_p0_5))] H → va_D A [(q_p0, .inl (k_p0, n_p0, .inl c_p0_5))] → va_S A s.heap H locs → lv_has ls 4 [(0, .ref q_p0), (1, .int a1), (2, .int i2_5), (3, .int x1)] → W p l e rm_J7_fill_53178 s m args below meth c H locs 0 0 Q (F0 m 5 ls []) := by
    intro n5
    induction n5 with
    | zero => intro i2_5 c_p0_5 hf; exact (zl2_zero hf).elim
    | succ n5 ih5 =>
      intro i2_5 c_p0_5 hf H locs ls hP hD hS hl
      replace hf := zl2_step eF5 hf
      generalize zl2 F5 n5 = k5 at hf ih5
      refine lv_iload_n hx hb dJ7_fill_53178_5 rfl (lv_at hl 2 rfl) ?_
      refine lv_iload_n hx hb dJ7_fill_53178_6 rfl (lv_at hl 3 rfl) ?_
      refine lv_icmp_ge (tgt := 20) hx hb dJ7_fill_53178_7 (by decide) (fun cd7 => ?_) (fun cd7 => ?_)
      · replace hf := zite_t cd7 hf
        obtain rfl := Option.some.inj hf
        subst eQ
        exact kr_v hx hb hr hlocks hK hP hD hS dJ7_fill_53178_20
      · replace hf := zite_f cd7 hf
        refine lv_aload_n hx hb dJ7_fill_53178_10 rfl (lv_at hl 0 rfl) ?_
        refine lv_iload_n hx hb dJ7_fill_53178_11 rfl (lv_at hl 2 rfl) ?_
        refine lv_iload_n hx hb dJ7_fill_53178_12 rfl (lv_at hl 1 rfl) ?_
        replace hf := zgd_some hf
        obtain ⟨g2, hf⟩ := hf
        refine va_iast (D := D) hx hb hK hP hD hS 0 0 rfl rfl (inb_in g2) dJ7_fill_53178_13 (fun H locs hP hD hS => ?_)
        obtain ⟨y3, ey3⟩ : ∃ y : (Nat → Int32), y = upd c_p0_5 (i2_5 : Int32).toNatClampNeg a1 := ⟨_, rfl⟩
        replace hf := zbd_of ey3 hf
        have hP : va_P D vwCl [(q_p0, .inl (k_p0, n_p0, .inl y3))] H := by rw [ey3]; exact hP
        have hD : va_D A [(q_p0, .inl (k_p0, n_p0, .inl y3))] := by rw [ey3]; exact hD
        obtain ⟨x4, ex4⟩ : ∃ y : Int32, y = i2_5 + 1 := ⟨_, rfl⟩
        replace hf := zbd_of ex4 hf
        refine lv_iinc (v := x4) (lv' := [(2, .int x4), (0, .ref q_p0), (1, .int a1), (3, .int x1)]) hx hb dJ7_fill_53178_14 hl (k := 2) rfl (by rw [ex4]; rfl) (by decide) rfl (fun ls hl => ?_)
        refine lv_goto (tgt := 5) hx hb dJ7_fill_53178_17 (by decide) ?_
        exact ih5 x4 y3 hf H locs ls hP hD hS (lv_sub hl [1, 2, 0, 3] rfl)
  exact h5 zfu 0 c_p0 hf s.heap [] ls hP hD hS (lv_sub hl [2, 3, 1, 0] rfl)
abbrev rm_X6_write : Room := { frames := 0, cells := 0, slots := 0, locals := 0 }
set_option maxHeartbeats 4000000 in
set_option maxRecDepth 100000 in
theorem c_X6_write (l : Launch) (D : va_G) (sz : Nat) (q_p0 : Nat) (k_p0 : ClassId) (n_p0 : Nat) (c_p0 : (Nat → Int32)) (a1 : Int32) (a2 : Int32) (res : rt_X6_write) (hf : f_X6_write n_p0 a1 a2 c_p0 = some res) : Met l yX6_write wsX6_write rm_X6_write (kP D [.ref q_p0, .int a1, .int a2] [(q_p0, .inl (k_p0, n_p0, .inl c_p0))] [(k_p0, .int)] sz) (kQv D (va_A [(q_p0, .inl (k_p0, n_p0, .inl c_p0))] sz) [(k_p0, .int)] [(q_p0, .inl (k_p0, n_p0, .inl res))]) 0 0 (va_A [(q_p0, .inl (k_p0, n_p0, .inl c_p0))] sz) := by
  refine Met.ofW (cc := cX6_write) (maxL := 3) (ret := none) (by decide +kernel) rfl ?_
  intro p e s m args below meth c s₁ B hml hv
  obtain ⟨hargs, hsz, hP, hK, hD0, hE⟩ := hv
  have hx := B.exec
  have hb := B.bytes
  have hr := B.returns
  have hts := atoms_spec (ws := wsX6_write) B.pre
  have hown : s.vm.findClass RX6 = some m.cls := findClass_of_methodNamed B.named
  have hlocks := B.notSynchronized
  subst hsz
  have hD := hD0.self (sz := s.heap.size)
  generalize hAe : va_A [(q_p0, .inl (k_p0, n_p0, .inl c_p0))] s.heap.size = A at hD hE ⊢
  have hA : ∀ q : Nat, s.heap.size ≤ q → A q := fun q h => by rw [← hAe]; exact Or.inr h
  have hS : va_S A s.heap s.heap [] := va_S.rf
  refine kgen (fun Q eQ => ?_)
  refine kent (av := [.ref q_p0, .int a1, .int a2]) hargs (Nat.le_of_ble_eq_true rfl) (fun ls hl => ?_)
  have hl : lv_has ls 3 [(0, .ref q_p0), (1, .int a1), (2, .int a2)] := hl
  show W p l e rm_X6_write s m args below meth c s.heap [] 0 0 Q (F0 m 0 ls [])
  unfold f_X6_write at hf
  refine lv_iload_n hx hb dX6_write_0 rfl (lv_at hl 1 rfl) ?_
  refine lv_if_lt (tgt := 14) hx hb dX6_write_1 (by decide) (fun cd1 => ?_) (fun cd1 => ?_)
  · replace hf := zite_t cd1 hf
    obtain rfl := Option.some.inj hf
    subst eQ
    exact kr_v hx hb hr hlocks hK hP hD hS dX6_write_14
  · replace hf := zite_f cd1 hf
    refine lv_iload_n hx hb dX6_write_4 rfl (lv_at hl 1 rfl) ?_
    refine lv_aload_n hx hb dX6_write_5 rfl (lv_at hl 0 rfl) ?_
    refine va_alen (D := D) (v := (Int32.ofNat n_p0)) hx hb hK hP 0 0 rfl rfl rfl dX6_write_6 ?_
    refine lv_icmp_ge (tgt := 14) hx hb dX6_write_7 (by decide) (fun cd7 => ?_) (fun cd7 => ?_)
    · replace hf := zite_t cd7 hf
      obtain rfl := Option.some.inj hf
      subst eQ
      exact kr_v hx hb hr hlocks hK hP hD hS dX6_write_14
    · replace hf := zite_f cd7 hf
      refine lv_aload_n hx hb dX6_write_10 rfl (lv_at hl 0 rfl) ?_
      refine lv_iload_n hx hb dX6_write_11 rfl (lv_at hl 1 rfl) ?_
      refine lv_iload_n hx hb dX6_write_12 rfl (lv_at hl 2 rfl) ?_
      replace hf := zgd_some hf
      obtain ⟨g1, hf⟩ := hf
      refine va_iast (D := D) hx hb hK hP hD hS 0 0 rfl rfl (inb_in g1) dX6_write_13 (fun H locs hP hD hS => ?_)
      obtain ⟨y2, ey2⟩ : ∃ y : (Nat → Int32), y = upd c_p0 (a1 : Int32).toNatClampNeg a2 := ⟨_, rfl⟩
      replace hf := zbd_of ey2 hf
      have hP : va_P D vwCl [(q_p0, .inl (k_p0, n_p0, .inl y2))] H := by rw [ey2]; exact hP
      have hD : va_D A [(q_p0, .inl (k_p0, n_p0, .inl y2))] := by rw [ey2]; exact hD
      obtain rfl := Option.some.inj hf
      subst eQ
      exact kr_v hx hb hr hlocks hK hP hD hS dX6_write_14
abbrev rm_X6_read : Room := { frames := 0, cells := 0, slots := 0, locals := 0 }
set_option maxHeartbeats 4000000 in
set_option maxRecDepth 100000 in
theorem c_X6_read (l : Launch) (D : va_G) (sz : Nat) (q_p0 : Nat) (k_p0 : ClassId) (n_p0 : Nat) (c_p0 : (Nat → Int32)) (a1 : Int32) (res : rt_X6_read) (hf : f_X6_read n_p0 a1 c_p0 = some res) : Met l yX6_read wsX6_read rm_X6_read (kP D [.ref q_p0, .int a1] [(q_p0, .inl (k_p0, n_p0, .inl c_p0))] [(k_p0, .int)] sz) (kQi D (va_A [(q_p0, .inl (k_p0, n_p0, .inl c_p0))] sz) [(k_p0, .int)] res [(q_p0, .inl (k_p0, n_p0, .inl c_p0))]) 0 0 (va_A [(q_p0, .inl (k_p0, n_p0, .inl c_p0))] sz) := by
  refine Met.ofW (cc := cX6_read) (maxL := 2) (ret := (some .int)) (by decide +kernel) rfl ?_
  intro p e s m args below meth c s₁ B hml hv
  obtain ⟨hargs, hsz, hP, hK, hD0, hE⟩ := hv
  have hx := B.exec
  have hb := B.bytes
  have hr := B.returns
  have hts := atoms_spec (ws := wsX6_read) B.pre
  have hown : s.vm.findClass RX6 = some m.cls := findClass_of_methodNamed B.named
  have hlocks := B.notSynchronized
  subst hsz
  have hD := hD0.self (sz := s.heap.size)
  generalize hAe : va_A [(q_p0, .inl (k_p0, n_p0, .inl c_p0))] s.heap.size = A at hD hE ⊢
  have hA : ∀ q : Nat, s.heap.size ≤ q → A q := fun q h => by rw [← hAe]; exact Or.inr h
  have hS : va_S A s.heap s.heap [] := va_S.rf
  refine kgen (fun Q eQ => ?_)
  refine kent (av := [.ref q_p0, .int a1]) hargs (Nat.le_of_ble_eq_true rfl) (fun ls hl => ?_)
  have hl : lv_has ls 2 [(0, .ref q_p0), (1, .int a1)] := hl
  show W p l e rm_X6_read s m args below meth c s.heap [] 0 0 Q (F0 m 0 ls [])
  unfold f_X6_read at hf
  refine lv_iload_n hx hb dX6_read_0 rfl (lv_at hl 1 rfl) ?_
  replace hf := zjp_some hf
  obtain ⟨K16, eK16, hf⟩ := hf
  have j16 : K16 = some res → ∀ (H : Heap) (locs : List Loc) (ls : Array Slot), va_P D vwCl [(q_p0, .inl (k_p0, n_p0, .inl c_p0))] H → va_D A [(q_p0, .inl (k_p0, n_p0, .inl c_p0))] → va_S A s.heap H locs → lv_has ls 2 [] → W p l e rm_X6_read s m args below meth c H locs 0 0 Q (F0 m 16 ls []) := by
    intro  hf H locs ls hP hD hS hl
    replace hf := zap0 eK16 hf
    refine lv_iconst (v := 0) hx hb dX6_read_16 (by decide) ?_
    obtain rfl := Option.some.inj hf
    subst eQ
    exact kr_i hx hb hr hlocks hK hP hD hS dX6_read_17
  refine lv_if_lt (tgt := 16) hx hb dX6_read_1 (by decide) (fun cd1 => ?_) (fun cd1 => ?_)
  · replace hf := zite_t cd1 hf
    exact j16  hf s.heap [] ls hP hD hS (lv_sub hl [] rfl)
  · replace hf := zite_f cd1 hf
    refine lv_iload_n hx hb dX6_read_4 rfl (lv_at hl 1 rfl) ?_
    refine lv_aload_n hx hb dX6_read_5 rfl (lv_at hl 0 rfl) ?_
    refine va_alen (D := D) (v := (Int32.ofNat n_p0)) hx hb hK hP 0 0 rfl rfl rfl dX6_read_6 ?_
    refine lv_icmp_ge (tgt := 16) hx hb dX6_read_7 (by decide) (fun cd7 => ?_) (fun cd7 => ?_)
    · replace hf := zite_t cd7 hf
      exact j16  hf s.heap [] ls hP hD hS (lv_sub hl [] rfl)
    · replace hf := zite_f cd7 hf
      refine lv_aload_n hx hb dX6_read_10 rfl (lv_at hl 0 rfl) ?_
      refine lv_iload_n hx hb dX6_read_11 rfl (lv_at hl 1 rfl) ?_
      replace hf := zgd_some hf
      obtain ⟨g1, hf⟩ := hf
      refine va_iald (D := D) hx hb hK hP 0 0 rfl rfl (inb_in g1) dX6_read_12 ?_
      refine lv_goto (tgt := 17) hx hb dX6_read_13 (by decide) ?_
      obtain rfl := Option.some.inj hf
      subst eQ
      exact kr_i hx hb hr hlocks hK hP hD hS dX6_read_17
abbrev rm_X6_hasBit : Room := { frames := 0, cells := 0, slots := 0, locals := 0 }
set_option maxHeartbeats 4000000 in
set_option maxRecDepth 100000 in
theorem c_X6_hasBit (l : Launch) (D : va_G) (sz : Nat) (a0 : Int32) (a1 : Int32) (res : rt_X6_hasBit) (hf : f_X6_hasBit a0 a1 = some res) : Met l yX6_hasBit wsX6_hasBit rm_X6_hasBit (kP D [.int a0, .int a1] [] [] sz) (kQi D (va_A [] sz) [] res []) 0 0 (va_A [] sz) := by
  refine Met.ofW (cc := cX6_hasBit) (maxL := 2) (ret := (some .boolean)) (by decide +kernel) rfl ?_
  intro p e s m args below meth c s₁ B hml hv
  obtain ⟨hargs, hsz, hP, hK, hD0, hE⟩ := hv
  have hx := B.exec
  have hb := B.bytes
  have hr := B.returns
  have hts := atoms_spec (ws := wsX6_hasBit) B.pre
  have hown : s.vm.findClass RX6 = some m.cls := findClass_of_methodNamed B.named
  have hlocks := B.notSynchronized
  subst hsz
  have hD := hD0.self (sz := s.heap.size)
  generalize hAe : va_A [] s.heap.size = A at hD hE ⊢
  have hA : ∀ q : Nat, s.heap.size ≤ q → A q := fun q h => by rw [← hAe]; exact Or.inr h
  have hS : va_S A s.heap s.heap [] := va_S.rf
  refine kgen (fun Q eQ => ?_)
  refine kent (av := [.int a0, .int a1]) hargs (Nat.le_of_ble_eq_true rfl) (fun ls hl => ?_)
  have hl : lv_has ls 2 [(0, .int a0), (1, .int a1)] := hl
  show W p l e rm_X6_hasBit s m args below meth c s.heap [] 0 0 Q (F0 m 0 ls [])
  unfold f_X6_hasBit at hf
  refine lv_iload_n hx hb dX6_hasBit_0 rfl (lv_at hl 0 rfl) ?_
  refine lv_iload_n hx hb dX6_hasBit_1 rfl (lv_at hl 1 rfl) ?_
  refine lv_iushr (v := j_iushr a0 a1) hx hb dX6_hasBit_2 rfl ?_
  refine lv_iconst (v := 1) hx hb dX6_hasBit_3 (by decide) ?_
  refine lv_iand hx hb dX6_hasBit_4 ?_
  refine lv_iconst (v := 1) hx hb dX6_hasBit_5 (by decide) ?_
  refine lv_icmp_ne (tgt := 13) hx hb dX6_hasBit_6 (by decide) (fun cd6 => ?_) (fun cd6 => ?_)
  · replace hf := zite_f cd6 hf
    refine lv_iconst (v := 0) hx hb dX6_hasBit_13 (by decide) ?_
    obtain rfl := Option.some.inj hf
    subst eQ
    exact kr_z hx hb hr nar_0 hlocks hK hP hD hS dX6_hasBit_14
  · replace hf := zite_t cd6 hf
    refine lv_iconst (v := 1) hx hb dX6_hasBit_9 (by decide) ?_
    refine lv_goto (tgt := 14) hx hb dX6_hasBit_10 (by decide) ?_
    obtain rfl := Option.some.inj hf
    subst eQ
    exact kr_z hx hb hr nar_1 hlocks hK hP hD hS dX6_hasBit_14
abbrev rm_X6_neighbour : Room := { frames := 0, cells := 0, slots := 0, locals := 0 }
set_option maxHeartbeats 4000000 in
set_option maxRecDepth 100000 in
theorem c_X6_neighbour (l : Launch) (D : va_G) (sz : Nat) (a0 : Int32) (a1 : Int32) (res : rt_X6_neighbour) (hf : f_X6_neighbour a0 a1 = some res) : Met l yX6_neighbour wsX6_neighbour rm_X6_neighbour (kP D [.int a0, .int a1] [] [] sz) (kQi D (va_A [] sz) [] res []) 0 0 (va_A [] sz) := by
  refine Met.ofW (cc := cX6_neighbour) (maxL := 2) (ret := (some .int)) (by decide +kernel) rfl ?_
  intro p e s m args below meth c s₁ B hml hv
  obtain ⟨hargs, hsz, hP, hK, hD0, hE⟩ := hv
  have hx := B.exec
  have hb := B.bytes
  have hr := B.returns
  have hts := atoms_spec (ws := wsX6_neighbour) B.pre
  have hown : s.vm.findClass RX6 = some m.cls := findClass_of_methodNamed B.named
  have hlocks := B.notSynchronized
  subst hsz
  have hD := hD0.self (sz := s.heap.size)
  generalize hAe : va_A [] s.heap.size = A at hD hE ⊢
  have hA : ∀ q : Nat, s.heap.size ≤ q → A q := fun q h => by rw [← hAe]; exact Or.inr h
  have hS : va_S A s.heap s.heap [] := va_S.rf
  refine kgen (fun Q eQ => ?_)
  refine kent (av := [.int a0, .int a1]) hargs (Nat.le_of_ble_eq_true rfl) (fun ls hl => ?_)
  have hl : lv_has ls 2 [(0, .int a0), (1, .int a1)] := hl
  show W p l e rm_X6_neighbour s m args below meth c s.heap [] 0 0 Q (F0 m 0 ls [])
  unfold f_X6_neighbour at hf
  refine lv_iload_n hx hb dX6_neighbour_0 rfl (lv_at hl 0 rfl) ?_
  refine lv_iconst (v := 1) hx hb dX6_neighbour_1 (by decide) ?_
  refine lv_iload_n hx hb dX6_neighbour_2 rfl (lv_at hl 1 rfl) ?_
  refine lv_ishl hx hb dX6_neighbour_3 ?_
  refine lv_ixor hx hb dX6_neighbour_4 ?_
  obtain rfl := Option.some.inj hf
  subst eQ
  exact kr_i hx hb hr hlocks hK hP hD hS dX6_neighbour_5
abbrev rm_X6_contains : Room := { frames := 0, cells := 0, slots := 0, locals := 0 }
set_option maxHeartbeats 4000000 in
set_option maxRecDepth 100000 in
theorem c_X6_contains (l : Launch) (D : va_G) (sz : Nat) (a0 : Int64) (a2 : Int32) (res : rt_X6_contains) (hf : f_X6_contains a0 a2 = some res) : Met l yX6_contains wsX6_contains rm_X6_contains (kP D [.long a0, .int a2] [] [] sz) (kQi D (va_A [] sz) [] res []) 0 0 (va_A [] sz) := by
  refine Met.ofW (cc := cX6_contains) (maxL := 3) (ret := (some .boolean)) (by decide +kernel) rfl ?_
  intro p e s m args below meth c s₁ B hml hv
  obtain ⟨hargs, hsz, hP, hK, hD0, hE⟩ := hv
  have hx := B.exec
  have hb := B.bytes
  have hr := B.returns
  have hts := atoms_spec (ws := wsX6_contains) B.pre
  have hown : s.vm.findClass RX6 = some m.cls := findClass_of_methodNamed B.named
  have hlocks := B.notSynchronized
  subst hsz
  have hD := hD0.self (sz := s.heap.size)
  generalize hAe : va_A [] s.heap.size = A at hD hE ⊢
  have hA : ∀ q : Nat, s.heap.size ≤ q → A q := fun q h => by rw [← hAe]; exact Or.inr h
  have hS : va_S A s.heap s.heap [] := va_S.rf
  refine kgen (fun Q eQ => ?_)
  refine kent (av := [.long a0, .int a2]) hargs (Nat.le_of_ble_eq_true rfl) (fun ls hl => ?_)
  have hl : lv_has ls 3 [(0, .long a0), (2, .int a2)] := hl
  show W p l e rm_X6_contains s m args below meth c s.heap [] 0 0 Q (F0 m 0 ls [])
  unfold f_X6_contains at hf
  refine lv_lload_n hx hb dX6_contains_0 rfl (lv_at hl 0 rfl) ?_
  refine lv_iload_n hx hb dX6_contains_1 rfl (lv_at hl 1 rfl) ?_
  refine lv_lushr (v := j_lushr a0 a2) hx hb dX6_contains_2 rfl ?_
  refine lv_lconst (v := 1) hx hb dX6_contains_3 (by decide) ?_
  refine lv_land hx hb dX6_contains_4 ?_
  refine lv_lconst (v := 1) hx hb dX6_contains_5 (by decide) ?_
  refine W.lcmp hx hb dX6_contains_6 ?_
  refine lv_if_ne (tgt := 14) hx hb dX6_contains_7 (by decide) (fun cd7 => ?_) (fun cd7 => ?_)
  · replace hf := zite_f cd7 hf
    refine lv_iconst (v := 0) hx hb dX6_contains_14 (by decide) ?_
    obtain rfl := Option.some.inj hf
    subst eQ
    exact kr_z hx hb hr nar_0 hlocks hK hP hD hS dX6_contains_15
  · replace hf := zite_t cd7 hf
    refine lv_iconst (v := 1) hx hb dX6_contains_10 (by decide) ?_
    refine lv_goto (tgt := 15) hx hb dX6_contains_11 (by decide) ?_
    obtain rfl := Option.some.inj hf
    subst eQ
    exact kr_z hx hb hr nar_1 hlocks hK hP hD hS dX6_contains_15
abbrev rm_J7_fill_d0a16 : Room := { frames := 0, cells := 0, slots := 0, locals := 0 }
set_option maxHeartbeats 4000000 in
set_option maxRecDepth 100000 in
theorem c_J7_fill_d0a16 (l : Launch) (D : va_G) (sz : Nat) (q_p0 : Nat) (k_p0 : ClassId) (n_p0 : Nat) (c_p0 : (Nat → Int64)) (a1 : Int64) (res : rt_J7_fill_d0a16) (hf : f_J7_fill_d0a16 n_p0 a1 c_p0 = some res) : Met l yJ7_fill_d0a16 wsJ7_fill_d0a16 rm_J7_fill_d0a16 (kP D [.ref q_p0, .long a1] [(q_p0, .inl (k_p0, n_p0, .inr (.inl c_p0)))] [(k_p0, .long)] sz) (kQv D (va_A [(q_p0, .inl (k_p0, n_p0, .inr (.inl c_p0)))] sz) [(k_p0, .long)] [(q_p0, .inl (k_p0, n_p0, .inr (.inl res)))]) 0 0 (va_A [(q_p0, .inl (k_p0, n_p0, .inr (.inl c_p0)))] sz) := by
  refine Met.ofW (cc := cJ7_fill_d0a16) (maxL := 5) (ret := none) (by decide +kernel) rfl ?_
  intro p e s m args below meth c s₁ B hml hv
  obtain ⟨hargs, hsz, hP, hK, hD0, hE⟩ := hv
  have hx := B.exec
  have hb := B.bytes
  have hr := B.returns
  have hts := atoms_spec (ws := wsJ7_fill_d0a16) B.pre
  have hown : s.vm.findClass RJ7 = some m.cls := findClass_of_methodNamed B.named
  have hlocks := B.notSynchronized
  subst hsz
  have hD := hD0.self (sz := s.heap.size)
  generalize hAe : va_A [(q_p0, .inl (k_p0, n_p0, .inr (.inl c_p0)))] s.heap.size = A at hD hE ⊢
  have hA : ∀ q : Nat, s.heap.size ≤ q → A q := fun q h => by rw [← hAe]; exact Or.inr h
  have hS : va_S A s.heap s.heap [] := va_S.rf
  refine kgen (fun Q eQ => ?_)
  refine kent (av := [.ref q_p0, .long a1]) hargs (Nat.le_of_ble_eq_true rfl) (fun ls hl => ?_)
  have hl : lv_has ls 5 [(0, .ref q_p0), (1, .long a1)] := hl
  show W p l e rm_J7_fill_d0a16 s m args below meth c s.heap [] 0 0 Q (F0 m 0 ls [])
  unfold f_J7_fill_d0a16 at hf
  refine lv_iconst (v := 0) hx hb dJ7_fill_d0a16_0 (by decide) ?_
  refine lv_istore_n (lv' := [(3, .int 0), (0, .ref q_p0), (1, .long a1)]) hx hb dJ7_fill_d0a16_1 rfl hl (by decide) rfl (fun ls hl => ?_)
  refine lv_aload_n hx hb dJ7_fill_d0a16_2 rfl (lv_at hl 1 rfl) ?_
  refine va_alen (D := D) (v := (Int32.ofNat n_p0)) hx hb hK hP 0 0 rfl rfl rfl dJ7_fill_d0a16_3 ?_
  refine lv_topi (fun x1 ex1 => ?_)
  replace hf := zbd_of ex1 hf
  refine lv_istore (lv' := [(4, .int x1), (3, .int 0), (0, .ref q_p0), (1, .long a1)]) hx hb dJ7_fill_d0a16_4 hl (by decide) rfl (fun ls hl => ?_)
  replace hf := zl2_some hf
  obtain ⟨F6, eF6, hf⟩ := hf
  have h6 : ∀ (n6 : Nat) (i3_6 : Int32) (c_p0_6 : (Nat → Int64)), zl2 F6 n6 i3_6 c_p0_6 = some res → ∀ (H : Heap) (locs : List Loc) (ls : Array Slot), va_P D vwCl [(q_p0, .inl (k_p0, n_p0, .inr (.inl c_p0_6)))] H → va_D A [(q_p0, .inl (k_p0, n_p0, .inr (.inl c_p0_6)))] → va_S A s.heap H locs → lv_has ls 5 [(0, .ref q_p0), (1, .long a1), (3, .int i3_6), (4, .int x1)] → W p l e rm_J7_fill_d0a16 s m args below meth c H locs 0 0 Q (F0 m 6 ls []) := by
    intro n6
    induction n6 with
    | zero => intro i3_6 c_p0_6 hf; exact (zl2_zero hf).elim
    | succ n6 ih6 =>
      intro i3_6 c_p0_6 hf H locs ls hP hD hS hl
      replace hf := zl2_step eF6 hf
      generalize zl2 F6 n6 = k6 at hf ih6
      refine lv_iload_n hx hb dJ7_fill_d0a16_6 rfl (lv_at hl 2 rfl) ?_
      refine lv_iload hx hb dJ7_fill_d0a16_7 (lv_at hl 3 rfl) ?_
      refine lv_icmp_ge (tgt := 22) hx hb dJ7_fill_d0a16_9 (by decide) (fun cd9 => ?_) (fun cd9 => ?_)
      · replace hf := zite_t cd9 hf
        obtain rfl := Option.some.inj hf
        subst eQ
        exact kr_v hx hb hr hlocks hK hP hD hS dJ7_fill_d0a16_22
      · replace hf := zite_f cd9 hf
        refine lv_aload_n hx hb dJ7_fill_d0a16_12 rfl (lv_at hl 0 rfl) ?_
        refine lv_iload_n hx hb dJ7_fill_d0a16_13 rfl (lv_at hl 2 rfl) ?_
        refine lv_lload_n hx hb dJ7_fill_d0a16_14 rfl (lv_at hl 1 rfl) ?_
        replace hf := zgd_some hf
        obtain ⟨g2, hf⟩ := hf
        refine va_last (D := D) hx hb hK hP hD hS 0 0 rfl rfl (inb_in g2) dJ7_fill_d0a16_15 (fun H locs hP hD hS => ?_)
        obtain ⟨y3, ey3⟩ : ∃ y : (Nat → Int64), y = vp_updL c_p0_6 (i3_6 : Int32).toNatClampNeg a1 := ⟨_, rfl⟩
        replace hf := zbd_of ey3 hf
        have hP : va_P D vwCl [(q_p0, .inl (k_p0, n_p0, .inr (.inl y3)))] H := by rw [ey3]; exact hP
        have hD : va_D A [(q_p0, .inl (k_p0, n_p0, .inr (.inl y3)))] := by rw [ey3]; exact hD
        obtain ⟨x4, ex4⟩ : ∃ y : Int32, y = i3_6 + 1 := ⟨_, rfl⟩
        replace hf := zbd_of ex4 hf
        refine lv_iinc (v := x4) (lv' := [(3, .int x4), (0, .ref q_p0), (1, .long a1), (4, .int x1)]) hx hb dJ7_fill_d0a16_16 hl (k := 2) rfl (by rw [ex4]; rfl) (by decide) rfl (fun ls hl => ?_)
        refine lv_goto (tgt := 6) hx hb dJ7_fill_d0a16_19 (by decide) ?_
        exact ih6 x4 y3 hf H locs ls hP hD hS (lv_sub hl [1, 2, 0, 3] rfl)
  exact h6 zfu 0 c_p0 hf s.heap [] ls hP hD hS (lv_sub hl [2, 3, 1, 0] rfl)
abbrev rm_J13_bitCount_95d88 : Room := { frames := 0, cells := 0, slots := 0, locals := 0 }
set_option maxHeartbeats 4000000 in
set_option maxRecDepth 100000 in
theorem c_J13_bitCount_95d88 (l : Launch) (D : va_G) (sz : Nat) (a0 : Int64) (res : rt_J13_bitCount_95d88) (hf : f_J13_bitCount_95d88 a0 = some res) : Met l yJ13_bitCount_95d88 wsJ13_bitCount_95d88 rm_J13_bitCount_95d88 (kP D [.long a0] [] [] sz) (kQi D (va_A [] sz) [] res []) 0 0 (va_A [] sz) := by
  refine Met.ofW (cc := cJ13_bitCount_95d88) (maxL := 2) (ret := (some .int)) (by decide +kernel) rfl ?_
  intro p e s m args below meth c s₁ B hml hv
  obtain ⟨hargs, hsz, hP, hK, hD0, hE⟩ := hv
  have hx := B.exec
  have hb := B.bytes
  have hr := B.returns
  have hts := atoms_spec (ws := wsJ13_bitCount_95d88) B.pre
  have hown : s.vm.findClass RJ13 = some m.cls := findClass_of_methodNamed B.named
  have hlocks := B.notSynchronized
  subst hsz
  have hD := hD0.self (sz := s.heap.size)
  generalize hAe : va_A [] s.heap.size = A at hD hE ⊢
  have hA : ∀ q : Nat, s.heap.size ≤ q → A q := fun q h => by rw [← hAe]; exact Or.inr h
  have hS : va_S A s.heap s.heap [] := va_S.rf
  refine kgen (fun Q eQ => ?_)
  refine kent (av := [.long a0]) hargs (Nat.le_of_ble_eq_true rfl) (fun ls hl => ?_)
  have hl : lv_has ls 2 [(0, .long a0)] := hl
  show W p l e rm_J13_bitCount_95d88 s m args below meth c s.heap [] 0 0 Q (F0 m 0 ls [])
  unfold f_J13_bitCount_95d88 at hf
  refine lv_lload_n hx hb dJ13_bitCount_95d88_0 rfl (lv_at hl 0 rfl) ?_
  refine lv_lload_n hx hb dJ13_bitCount_95d88_1 rfl (lv_at hl 0 rfl) ?_
  refine lv_iconst (v := 1) hx hb dJ13_bitCount_95d88_2 (by decide) ?_
  refine lv_lushr (v := j_lushr a0 1) hx hb dJ13_bitCount_95d88_3 rfl ?_
  refine lv_ldc2 (v := 6148914691236517205) hx hb hown (hts (.constantLong RJ13 314 6148914691236517205) (by decide +kernel)) dJ13_bitCount_95d88_4 ?_
  refine lv_land hx hb dJ13_bitCount_95d88_7 ?_
  refine lv_lsub hx hb dJ13_bitCount_95d88_8 ?_
  refine lv_topl (fun x1 ex1 => ?_)
  replace hf := zbd_of ex1 hf
  refine lv_lstore_n (lv' := [(0, .long x1)]) hx hb dJ13_bitCount_95d88_9 rfl hl (by decide) rfl (fun ls hl => ?_)
  refine lv_lload_n hx hb dJ13_bitCount_95d88_10 rfl (lv_at hl 0 rfl) ?_
  refine lv_ldc2 (v := 3689348814741910323) hx hb hown (hts (.constantLong RJ13 316 3689348814741910323) (by decide +kernel)) dJ13_bitCount_95d88_11 ?_
  refine lv_land hx hb dJ13_bitCount_95d88_14 ?_
  refine lv_lload_n hx hb dJ13_bitCount_95d88_15 rfl (lv_at hl 0 rfl) ?_
  refine lv_iconst (v := 2) hx hb dJ13_bitCount_95d88_16 (by decide) ?_
  refine lv_lushr (v := j_lushr x1 2) hx hb dJ13_bitCount_95d88_17 rfl ?_
  refine lv_ldc2 (v := 3689348814741910323) hx hb hown (hts (.constantLong RJ13 316 3689348814741910323) (by decide +kernel)) dJ13_bitCount_95d88_18 ?_
  refine lv_land hx hb dJ13_bitCount_95d88_21 ?_
  refine lv_ladd hx hb dJ13_bitCount_95d88_22 ?_
  refine lv_topl (fun x2 ex2 => ?_)
  replace hf := zbd_of ex2 hf
  refine lv_lstore_n (lv' := [(0, .long x2)]) hx hb dJ13_bitCount_95d88_23 rfl hl (by decide) rfl (fun ls hl => ?_)
  refine lv_lload_n hx hb dJ13_bitCount_95d88_24 rfl (lv_at hl 0 rfl) ?_
  refine lv_lload_n hx hb dJ13_bitCount_95d88_25 rfl (lv_at hl 0 rfl) ?_
  refine lv_iconst (v := 4) hx hb dJ13_bitCount_95d88_26 (by decide) ?_
  refine lv_lushr (v := j_lushr x2 4) hx hb dJ13_bitCount_95d88_27 rfl ?_
  refine lv_ladd hx hb dJ13_bitCount_95d88_28 ?_
  refine lv_ldc2 (v := 1085102592571150095) hx hb hown (hts (.constantLong RJ13 318 1085102592571150095) (by decide +kernel)) dJ13_bitCount_95d88_29 ?_
  refine lv_land hx hb dJ13_bitCount_95d88_32 ?_
  refine lv_topl (fun x3 ex3 => ?_)
  replace hf := zbd_of ex3 hf
  refine lv_lstore_n (lv' := [(0, .long x3)]) hx hb dJ13_bitCount_95d88_33 rfl hl (by decide) rfl (fun ls hl => ?_)
  refine lv_lload_n hx hb dJ13_bitCount_95d88_34 rfl (lv_at hl 0 rfl) ?_
  refine lv_lload_n hx hb dJ13_bitCount_95d88_35 rfl (lv_at hl 0 rfl) ?_
  refine lv_bipush (v := 8) hx hb dJ13_bitCount_95d88_36 (by decide) ?_
  refine lv_lushr (v := j_lushr x3 8) hx hb dJ13_bitCount_95d88_38 rfl ?_
  refine lv_ladd hx hb dJ13_bitCount_95d88_39 ?_
  refine lv_topl (fun x4 ex4 => ?_)
  replace hf := zbd_of ex4 hf
  refine lv_lstore_n (lv' := [(0, .long x4)]) hx hb dJ13_bitCount_95d88_40 rfl hl (by decide) rfl (fun ls hl => ?_)
  refine lv_lload_n hx hb dJ13_bitCount_95d88_41 rfl (lv_at hl 0 rfl) ?_
  refine lv_lload_n hx hb dJ13_bitCount_95d88_42 rfl (lv_at hl 0 rfl) ?_
  refine lv_bipush (v := 16) hx hb dJ13_bitCount_95d88_43 (by decide) ?_
  refine lv_lushr (v := j_lushr x4 16) hx hb dJ13_bitCount_95d88_45 rfl ?_
  refine lv_ladd hx hb dJ13_bitCount_95d88_46 ?_
  refine lv_topl (fun x5 ex5 => ?_)
  replace hf := zbd_of ex5 hf
  refine lv_lstore_n (lv' := [(0, .long x5)]) hx hb dJ13_bitCount_95d88_47 rfl hl (by decide) rfl (fun ls hl => ?_)
  refine lv_lload_n hx hb dJ13_bitCount_95d88_48 rfl (lv_at hl 0 rfl) ?_
  refine lv_lload_n hx hb dJ13_bitCount_95d88_49 rfl (lv_at hl 0 rfl) ?_
  refine lv_bipush (v := 32) hx hb dJ13_bitCount_95d88_50 (by decide) ?_
  refine lv_lushr (v := j_lushr x5 32) hx hb dJ13_bitCount_95d88_52 rfl ?_
  refine lv_ladd hx hb dJ13_bitCount_95d88_53 ?_
  refine lv_topl (fun x6 ex6 => ?_)
  replace hf := zbd_of ex6 hf
  refine lv_lstore_n (lv' := [(0, .long x6)]) hx hb dJ13_bitCount_95d88_54 rfl hl (by decide) rfl (fun ls hl => ?_)
  refine lv_lload_n hx hb dJ13_bitCount_95d88_55 rfl (lv_at hl 0 rfl) ?_
  refine lv_l2i (v := (x6 : Int64).toInt32) hx hb dJ13_bitCount_95d88_56 rfl ?_
  refine lv_bipush (v := 127) hx hb dJ13_bitCount_95d88_57 (by decide) ?_
  refine lv_iand hx hb dJ13_bitCount_95d88_59 ?_
  obtain rfl := Option.some.inj hf
  subst eQ
  exact kr_i hx hb hr hlocks hK hP hD hS dJ13_bitCount_95d88_60
abbrev rm_J6_bitCount_0f7a4 : Room := { frames := 0, cells := 0, slots := 0, locals := 0 }
set_option maxHeartbeats 4000000 in
set_option maxRecDepth 100000 in
theorem c_J6_bitCount_0f7a4 (l : Launch) (D : va_G) (sz : Nat) (a0 : Int32) (res : rt_J6_bitCount_0f7a4) (hf : f_J6_bitCount_0f7a4 a0 = some res) : Met l yJ6_bitCount_0f7a4 wsJ6_bitCount_0f7a4 rm_J6_bitCount_0f7a4 (kP D [.int a0] [] [] sz) (kQi D (va_A [] sz) [] res []) 0 0 (va_A [] sz) := by
  refine Met.ofW (cc := cJ6_bitCount_0f7a4) (maxL := 1) (ret := (some .int)) (by decide +kernel) rfl ?_
  intro p e s m args below meth c s₁ B hml hv
  obtain ⟨hargs, hsz, hP, hK, hD0, hE⟩ := hv
  have hx := B.exec
  have hb := B.bytes
  have hr := B.returns
  have hts := atoms_spec (ws := wsJ6_bitCount_0f7a4) B.pre
  have hown : s.vm.findClass RJ6 = some m.cls := findClass_of_methodNamed B.named
  have hlocks := B.notSynchronized
  subst hsz
  have hD := hD0.self (sz := s.heap.size)
  generalize hAe : va_A [] s.heap.size = A at hD hE ⊢
  have hA : ∀ q : Nat, s.heap.size ≤ q → A q := fun q h => by rw [← hAe]; exact Or.inr h
  have hS : va_S A s.heap s.heap [] := va_S.rf
  refine kgen (fun Q eQ => ?_)
  refine kent (av := [.int a0]) hargs (Nat.le_of_ble_eq_true rfl) (fun ls hl => ?_)
  have hl : lv_has ls 1 [(0, .int a0)] := hl
  show W p l e rm_J6_bitCount_0f7a4 s m args below meth c s.heap [] 0 0 Q (F0 m 0 ls [])
  unfold f_J6_bitCount_0f7a4 at hf
  refine lv_iload_n hx hb dJ6_bitCount_0f7a4_0 rfl (lv_at hl 0 rfl) ?_
  refine lv_iload_n hx hb dJ6_bitCount_0f7a4_1 rfl (lv_at hl 0 rfl) ?_
  refine lv_iconst (v := 1) hx hb dJ6_bitCount_0f7a4_2 (by decide) ?_
  refine lv_iushr (v := j_iushr a0 1) hx hb dJ6_bitCount_0f7a4_3 rfl ?_
  refine lv_ldcw (v := 1431655765) hx hb hown (hts (.constant RJ6 265 1431655765) (by decide +kernel)) dJ6_bitCount_0f7a4_4 ?_
  refine lv_iand hx hb dJ6_bitCount_0f7a4_7 ?_
  refine lv_isub hx hb dJ6_bitCount_0f7a4_8 ?_
  refine lv_topi (fun x1 ex1 => ?_)
  replace hf := zbd_of ex1 hf
  refine lv_istore_n (lv' := [(0, .int x1)]) hx hb dJ6_bitCount_0f7a4_9 rfl hl (by decide) rfl (fun ls hl => ?_)
  refine lv_iload_n hx hb dJ6_bitCount_0f7a4_10 rfl (lv_at hl 0 rfl) ?_
  refine lv_ldcw (v := 858993459) hx hb hown (hts (.constant RJ6 266 858993459) (by decide +kernel)) dJ6_bitCount_0f7a4_11 ?_
  refine lv_iand hx hb dJ6_bitCount_0f7a4_14 ?_
  refine lv_iload_n hx hb dJ6_bitCount_0f7a4_15 rfl (lv_at hl 0 rfl) ?_
  refine lv_iconst (v := 2) hx hb dJ6_bitCount_0f7a4_16 (by decide) ?_
  refine lv_iushr (v := j_iushr x1 2) hx hb dJ6_bitCount_0f7a4_17 rfl ?_
  refine lv_ldcw (v := 858993459) hx hb hown (hts (.constant RJ6 266 858993459) (by decide +kernel)) dJ6_bitCount_0f7a4_18 ?_
  refine lv_iand hx hb dJ6_bitCount_0f7a4_21 ?_
  refine lv_iadd hx hb dJ6_bitCount_0f7a4_22 ?_
  refine lv_topi (fun x2 ex2 => ?_)
  replace hf := zbd_of ex2 hf
  refine lv_istore_n (lv' := [(0, .int x2)]) hx hb dJ6_bitCount_0f7a4_23 rfl hl (by decide) rfl (fun ls hl => ?_)
  refine lv_iload_n hx hb dJ6_bitCount_0f7a4_24 rfl (lv_at hl 0 rfl) ?_
  refine lv_iload_n hx hb dJ6_bitCount_0f7a4_25 rfl (lv_at hl 0 rfl) ?_
  refine lv_iconst (v := 4) hx hb dJ6_bitCount_0f7a4_26 (by decide) ?_
  refine lv_iushr (v := j_iushr x2 4) hx hb dJ6_bitCount_0f7a4_27 rfl ?_
  refine lv_iadd hx hb dJ6_bitCount_0f7a4_28 ?_
  refine lv_ldcw (v := 252645135) hx hb hown (hts (.constant RJ6 267 252645135) (by decide +kernel)) dJ6_bitCount_0f7a4_29 ?_
  refine lv_iand hx hb dJ6_bitCount_0f7a4_32 ?_
  refine lv_topi (fun x3 ex3 => ?_)
  replace hf := zbd_of ex3 hf
  refine lv_istore_n (lv' := [(0, .int x3)]) hx hb dJ6_bitCount_0f7a4_33 rfl hl (by decide) rfl (fun ls hl => ?_)
  refine lv_iload_n hx hb dJ6_bitCount_0f7a4_34 rfl (lv_at hl 0 rfl) ?_
  refine lv_iload_n hx hb dJ6_bitCount_0f7a4_35 rfl (lv_at hl 0 rfl) ?_
  refine lv_bipush (v := 8) hx hb dJ6_bitCount_0f7a4_36 (by decide) ?_
  refine lv_iushr (v := j_iushr x3 8) hx hb dJ6_bitCount_0f7a4_38 rfl ?_
  refine lv_iadd hx hb dJ6_bitCount_0f7a4_39 ?_
  refine lv_topi (fun x4 ex4 => ?_)
  replace hf := zbd_of ex4 hf
  refine lv_istore_n (lv' := [(0, .int x4)]) hx hb dJ6_bitCount_0f7a4_40 rfl hl (by decide) rfl (fun ls hl => ?_)
  refine lv_iload_n hx hb dJ6_bitCount_0f7a4_41 rfl (lv_at hl 0 rfl) ?_
  refine lv_iload_n hx hb dJ6_bitCount_0f7a4_42 rfl (lv_at hl 0 rfl) ?_
  refine lv_bipush (v := 16) hx hb dJ6_bitCount_0f7a4_43 (by decide) ?_
  refine lv_iushr (v := j_iushr x4 16) hx hb dJ6_bitCount_0f7a4_45 rfl ?_
  refine lv_iadd hx hb dJ6_bitCount_0f7a4_46 ?_
  refine lv_topi (fun x5 ex5 => ?_)
  replace hf := zbd_of ex5 hf
  refine lv_istore_n (lv' := [(0, .int x5)]) hx hb dJ6_bitCount_0f7a4_47 rfl hl (by decide) rfl (fun ls hl => ?_)
  refine lv_iload_n hx hb dJ6_bitCount_0f7a4_48 rfl (lv_at hl 0 rfl) ?_
  refine lv_bipush (v := 63) hx hb dJ6_bitCount_0f7a4_49 (by decide) ?_
  refine lv_iand hx hb dJ6_bitCount_0f7a4_51 ?_
  obtain rfl := Option.some.inj hf
  subst eQ
  exact kr_i hx hb hr hlocks hK hP hD hS dJ6_bitCount_0f7a4_52
abbrev rm_X6_lowNodes : Room := { frames := 0, cells := 0, slots := 0, locals := 0 }
set_option maxHeartbeats 4000000 in
set_option maxRecDepth 100000 in
theorem c_X6_lowNodes (l : Launch) (D : va_G) (sz : Nat) (a0 : Int32) (res : rt_X6_lowNodes) (hf : f_X6_lowNodes a0 = some res) : Met l yX6_lowNodes wsX6_lowNodes rm_X6_lowNodes (kP D [.int a0] [] [] sz) (kQl D (va_A [] sz) [] res []) 0 0 (va_A [] sz) := by
  refine Met.ofW (cc := cX6_lowNodes) (maxL := 1) (ret := (some .long)) (by decide +kernel) rfl ?_
  intro p e s m args below meth c s₁ B hml hv
  obtain ⟨hargs, hsz, hP, hK, hD0, hE⟩ := hv
  have hx := B.exec
  have hb := B.bytes
  have hr := B.returns
  have hts := atoms_spec (ws := wsX6_lowNodes) B.pre
  have hown : s.vm.findClass RX6 = some m.cls := findClass_of_methodNamed B.named
  have hlocks := B.notSynchronized
  subst hsz
  have hD := hD0.self (sz := s.heap.size)
  generalize hAe : va_A [] s.heap.size = A at hD hE ⊢
  have hA : ∀ q : Nat, s.heap.size ≤ q → A q := fun q h => by rw [← hAe]; exact Or.inr h
  have hS : va_S A s.heap s.heap [] := va_S.rf
  obtain ⟨-, -, -, -, -, -, -, -, -, tS, hZ, hT⟩ := id hE
  refine kgen (fun Q eQ => ?_)
  refine kent (av := [.int a0]) hargs (Nat.le_of_ble_eq_true rfl) (fun ls hl => ?_)
  have hl : lv_has ls 1 [(0, .int a0)] := hl
  show W p l e rm_X6_lowNodes s m args below meth c s.heap [] 0 0 Q (F0 m 0 ls [])
  unfold f_X6_lowNodes at hf
  refine lv_iload_n hx hb dX6_lowNodes_0 rfl (lv_at hl 0 rfl) ?_
  replace hf := zjp_some hf
  obtain ⟨K20, eK20, hf⟩ := hf
  have j20 : K20 = some res → ∀ (H : Heap) (locs : List Loc) (ls : Array Slot), va_P D vwCl [] H → va_D A [] → va_S A s.heap H locs → lv_has ls 1 [] → W p l e rm_X6_lowNodes s m args below meth c H locs 0 0 Q (F0 m 20 ls []) := by
    intro  hf H locs ls hP hD hS hl
    replace hf := zap0 eK20 hf
    refine lv_lconst (v := 0) hx hb dX6_lowNodes_20 (by decide) ?_
    obtain rfl := Option.some.inj hf
    subst eQ
    exact kr_l hx hb hr hlocks hK hP hD hS dX6_lowNodes_21
  refine lv_if_lt (tgt := 20) hx hb dX6_lowNodes_1 (by decide) (fun cd1 => ?_) (fun cd1 => ?_)
  · replace hf := zite_t cd1 hf
    exact j20  hf s.heap [] ls hP hD hS (lv_sub hl [] rfl)
  · replace hf := zite_f cd1 hf
    refine lv_iload_n hx hb dX6_lowNodes_4 rfl (lv_at hl 0 rfl) ?_
    refine va_gets hx hb hZ hS hown (hts (.fieldLink RX6 270 "FaultyCube" "LOW_NODES" "[J") (by decide +kernel)) (fun _ h9 => h9) dX6_lowNodes_5 ?_
    refine va_tlen (v := 6) hx hb hT hS rfl dX6_lowNodes_8 ?_
    refine lv_icmp_ge (tgt := 20) hx hb dX6_lowNodes_9 (by decide) (fun cd9 => ?_) (fun cd9 => ?_)
    · replace hf := zite_t cd9 hf
      exact j20  hf s.heap [] ls hP hD hS (lv_sub hl [] rfl)
    · replace hf := zite_f cd9 hf
      refine va_gets hx hb hZ hS hown (hts (.fieldLink RX6 270 "FaultyCube" "LOW_NODES" "[J") (by decide +kernel)) (fun _ h9 => h9) dX6_lowNodes_12 ?_
      refine lv_iload_n hx hb dX6_lowNodes_15 rfl (lv_at hl 0 rfl) ?_
      replace hf := zgd_some hf
      obtain ⟨g1, hf⟩ := hf
      refine va_tl (v := .long (lowN (a0 : Int32).toNatClampNeg)) hx hb hT hS (inb_in g1) rfl dX6_lowNodes_16 ?_
      refine lv_goto (tgt := 21) hx hb dX6_lowNodes_17 (by decide) ?_
      obtain rfl := Option.some.inj hf
      subst eQ
      exact kr_l hx hb hr hlocks hK hP hD hS dX6_lowNodes_21
abbrev rm_X6_neighboursOfSet : Room := { frames := 1, cells := 0, slots := 0, locals := 20 }
set_option maxHeartbeats 4000000 in
set_option maxRecDepth 100000 in
theorem c_X6_neighboursOfSet (l : Launch) (D : va_G) (sz : Nat) (a0 : Int64) (a2 : Int32) (res : rt_X6_neighboursOfSet) (hf : f_X6_neighboursOfSet a0 a2 = some res) : Met l yX6_neighboursOfSet wsX6_neighboursOfSet rm_X6_neighboursOfSet (kP D [.long a0, .int a2] [] [] sz) (kQl D (va_A [] sz) [] res []) 0 0 (va_A [] sz) := by
  refine Met.ofW (cc := cX6_neighboursOfSet) (maxL := 8) (ret := (some .long)) (by decide +kernel) rfl ?_
  intro p e s m args below meth c s₁ B hml hv
  obtain ⟨hargs, hsz, hP, hK, hD0, hE⟩ := hv
  have hx := B.exec
  have hb := B.bytes
  have hr := B.returns
  have hts := atoms_spec (ws := wsX6_neighboursOfSet) B.pre
  have hown : s.vm.findClass RX6 = some m.cls := findClass_of_methodNamed B.named
  have hlocks := B.notSynchronized
  subst hsz
  have hD := hD0.self (sz := s.heap.size)
  generalize hAe : va_A [] s.heap.size = A at hD hE ⊢
  have hA : ∀ q : Nat, s.heap.size ≤ q → A q := fun q h => by rw [← hAe]; exact Or.inr h
  have hS : va_S A s.heap s.heap [] := va_S.rf
  refine kgen (fun Q eQ => ?_)
  refine kent (av := [.long a0, .int a2]) hargs (Nat.le_of_ble_eq_true rfl) (fun ls hl => ?_)
  have hl : lv_has ls 8 [(0, .long a0), (2, .int a2)] := hl
  show W p l e rm_X6_neighboursOfSet s m args below meth c s.heap [] 0 0 Q (F0 m 0 ls [])
  unfold f_X6_neighboursOfSet at hf
  refine lv_lconst (v := 0) hx hb dX6_neighboursOfSet_0 (by decide) ?_
  refine lv_lstore_n (lv' := [(3, .long 0), (0, .long a0), (2, .int a2)]) hx hb dX6_neighboursOfSet_1 rfl hl (by decide) rfl (fun ls hl => ?_)
  refine lv_iconst (v := 0) hx hb dX6_neighboursOfSet_2 (by decide) ?_
  refine lv_istore (lv' := [(5, .int 0), (3, .long 0), (0, .long a0), (2, .int a2)]) hx hb dX6_neighboursOfSet_3 hl (by decide) rfl (fun ls hl => ?_)
  replace hf := zl2_some hf
  obtain ⟨F5, eF5, hf⟩ := hf
  have h5 : ∀ (n5 : Nat) (i3_5 : Int64) (i5_5 : Int32), zl2 F5 n5 i3_5 i5_5 = some res → ∀ (H : Heap) (locs : List Loc) (ls : Array Slot), va_P D vwCl [] H → va_D A [] → va_S A s.heap H locs → lv_has ls 8 [(0, .long a0), (2, .int a2), (3, .long i3_5), (5, .int i5_5)] → W p l e rm_X6_neighboursOfSet s m args below meth c H locs 0 0 Q (F0 m 5 ls []) := by
    intro n5
    induction n5 with
    | zero => intro i3_5 i5_5 hf; exact (zl2_zero hf).elim
    | succ n5 ih5 =>
      intro i3_5 i5_5 hf H locs ls hP hD hS hl
      replace hf := zl2_step eF5 hf
      generalize zl2 F5 n5 = k5 at hf ih5
      refine lv_iload hx hb dX6_neighboursOfSet_5 (lv_at hl 3 rfl) ?_
      refine lv_iload_n hx hb dX6_neighboursOfSet_7 rfl (lv_at hl 1 rfl) ?_
      refine lv_icmp_ge (tgt := 48) hx hb dX6_neighboursOfSet_8 (by decide) (fun cd8 => ?_) (fun cd8 => ?_)
      · replace hf := zite_t cd8 hf
        refine lv_lload_n hx hb dX6_neighboursOfSet_48 rfl (lv_at hl 2 rfl) ?_
        obtain rfl := Option.some.inj hf
        subst eQ
        exact kr_l hx hb hr hlocks hK hP hD hS dX6_neighboursOfSet_49
      · replace hf := zite_f cd8 hf
        refine lv_iload hx hb dX6_neighboursOfSet_11 (lv_at hl 3 rfl) ?_
        replace hf := zob_some hf
        obtain ⟨u1, hu1, hf⟩ := hf
        refine kd_l (D := D) (v := u1) (av := [.int i5_5]) (wc := []) (w1 := []) (ws2 := []) hK hP hD hS hA hE [] [] [] [] (fun hb1 hp1 => va_runS (As := [.int i5_5]) (rest := []) ⟨hx, hb, hml, hown, hts⟩ (c_X6_lowNodes l D H.size i5_5 u1 hu1) (va_cwS 1 hts gX6_neighboursOfSet_X6_lowNodes rfl rfl rfl (by decide +kernel) ⟨Nat.le_of_ble_eq_true rfl, Nat.le_of_ble_eq_true rfl⟩) ⟨hb1, hp1⟩ rfl rfl hl.1 rfl (lv_room (Nat.le_of_ble_eq_true rfl)) dX6_neighboursOfSet_13 ⟨Nat.le_of_ble_eq_true rfl, Nat.le_of_ble_eq_true rfl⟩) rfl rfl rfl rfl rfl rfl rfl rfl rfl rfl (fun H locs hP hD hS => ?_)
        have hP : va_P D vwCl [] H := hP
        have hD : va_D A [] := hD
        refine lv_lstore (lv' := [(6, .long u1), (0, .long a0), (2, .int a2), (3, .long i3_5), (5, .int i5_5)]) hx hb dX6_neighboursOfSet_16 hl (by decide) rfl (fun ls hl => ?_)
        refine lv_lload_n hx hb dX6_neighboursOfSet_18 rfl (lv_at hl 3 rfl) ?_
        refine lv_lload_n hx hb dX6_neighboursOfSet_19 rfl (lv_at hl 1 rfl) ?_
        refine lv_lload hx hb dX6_neighboursOfSet_20 (lv_at hl 0 rfl) ?_
        refine lv_land hx hb dX6_neighboursOfSet_22 ?_
        refine lv_iconst (v := 1) hx hb dX6_neighboursOfSet_23 (by decide) ?_
        refine lv_iload hx hb dX6_neighboursOfSet_24 (lv_at hl 4 rfl) ?_
        refine lv_ishl hx hb dX6_neighboursOfSet_26 ?_
        refine lv_lshl (v := j_lshl (a0 &&& u1) ((1 : Int32) <<< (i5_5 &&& 31))) hx hb dX6_neighboursOfSet_27 rfl ?_
        refine lv_lor hx hb dX6_neighboursOfSet_28 ?_
        refine lv_topl (fun x2 ex2 => ?_)
        replace hf := zbd_of ex2 hf
        refine lv_lstore_n (lv' := [(3, .long x2), (6, .long u1), (0, .long a0), (2, .int a2), (5, .int i5_5)]) hx hb dX6_neighboursOfSet_29 rfl hl (by decide) rfl (fun ls hl => ?_)
        refine lv_lload_n hx hb dX6_neighboursOfSet_30 rfl (lv_at hl 0 rfl) ?_
        refine lv_lload_n hx hb dX6_neighboursOfSet_31 rfl (lv_at hl 2 rfl) ?_
        refine lv_iconst (v := 1) hx hb dX6_neighboursOfSet_32 (by decide) ?_
        refine lv_iload hx hb dX6_neighboursOfSet_33 (lv_at hl 4 rfl) ?_
        refine lv_ishl hx hb dX6_neighboursOfSet_35 ?_
        refine lv_lushr (v := j_lushr a0 ((1 : Int32) <<< (i5_5 &&& 31))) hx hb dX6_neighboursOfSet_36 rfl ?_
        refine lv_lload hx hb dX6_neighboursOfSet_37 (lv_at hl 1 rfl) ?_
        refine lv_land hx hb dX6_neighboursOfSet_39 ?_
        refine lv_lor hx hb dX6_neighboursOfSet_40 ?_
        refine lv_topl (fun x3 ex3 => ?_)
        replace hf := zbd_of ex3 hf
        refine lv_lstore_n (lv' := [(3, .long x3), (6, .long u1), (0, .long a0), (2, .int a2), (5, .int i5_5)]) hx hb dX6_neighboursOfSet_41 rfl hl (by decide) rfl (fun ls hl => ?_)
        obtain ⟨x4, ex4⟩ : ∃ y : Int32, y = i5_5 + 1 := ⟨_, rfl⟩
        replace hf := zbd_of ex4 hf
        refine lv_iinc (v := x4) (lv' := [(5, .int x4), (3, .long x3), (6, .long u1), (0, .long a0), (2, .int a2)]) hx hb dX6_neighboursOfSet_42 hl (k := 4) rfl (by rw [ex4]; rfl) (by decide) rfl (fun ls hl => ?_)
        refine lv_goto (tgt := 5) hx hb dX6_neighboursOfSet_45 (by decide) ?_
        exact ih5 x3 x4 hf H locs ls hP hD hS (lv_sub hl [3, 4, 1, 0] rfl)
  exact h5 zfu 0 0 hf s.heap [] ls hP hD hS (lv_sub hl [2, 3, 1, 0] rfl)
abbrev rm_X6_leastNode : Room := { frames := 1, cells := 0, slots := 0, locals := 21 }
set_option maxHeartbeats 4000000 in
set_option maxRecDepth 100000 in
theorem c_X6_leastNode (l : Launch) (D : va_G) (sz : Nat) (a0 : Int64) (res : rt_X6_leastNode) (hf : f_X6_leastNode a0 = some res) : Met l yX6_leastNode wsX6_leastNode rm_X6_leastNode (kP D [.long a0] [] [] sz) (kQi D (va_A [] sz) [] res []) 0 0 (va_A [] sz) := by
  refine Met.ofW (cc := cX6_leastNode) (maxL := 2) (ret := (some .int)) (by decide +kernel) rfl ?_
  intro p e s m args below meth c s₁ B hml hv
  obtain ⟨hargs, hsz, hP, hK, hD0, hE⟩ := hv
  have hx := B.exec
  have hb := B.bytes
  have hr := B.returns
  have hts := atoms_spec (ws := wsX6_leastNode) B.pre
  have hown : s.vm.findClass RX6 = some m.cls := findClass_of_methodNamed B.named
  have hlocks := B.notSynchronized
  subst hsz
  have hD := hD0.self (sz := s.heap.size)
  generalize hAe : va_A [] s.heap.size = A at hD hE ⊢
  have hA : ∀ q : Nat, s.heap.size ≤ q → A q := fun q h => by rw [← hAe]; exact Or.inr h
  have hS : va_S A s.heap s.heap [] := va_S.rf
  refine kgen (fun Q eQ => ?_)
  refine kent (av := [.long a0]) hargs (Nat.le_of_ble_eq_true rfl) (fun ls hl => ?_)
  have hl : lv_has ls 2 [(0, .long a0)] := hl
  show W p l e rm_X6_leastNode s m args below meth c s.heap [] 0 0 Q (F0 m 0 ls [])
  unfold f_X6_leastNode at hf
  refine lv_lload_n hx hb dX6_leastNode_0 rfl (lv_at hl 0 rfl) ?_
  refine lv_lload_n hx hb dX6_leastNode_1 rfl (lv_at hl 0 rfl) ?_
  refine lv_lneg hx hb dX6_leastNode_2 ?_
  refine lv_land hx hb dX6_leastNode_3 ?_
  refine lv_lconst (v := 1) hx hb dX6_leastNode_4 (by decide) ?_
  refine lv_lsub hx hb dX6_leastNode_5 ?_
  replace hf := zob_some hf
  obtain ⟨u1, hu1, hf⟩ := hf
  refine kd_i (D := D) (v := u1) (av := [.long ((a0 &&& (-a0)) - (1 : Int64))]) (wc := []) (w1 := []) (ws2 := []) hK hP hD hS hA hE [] [] [] [] (fun hb1 hp1 => va_runS (As := [.long ((a0 &&& (-a0)) - (1 : Int64))]) (rest := []) ⟨hx, hb, hml, hown, hts⟩ (c_J13_bitCount_95d88 l D s.heap.size ((a0 &&& (-a0)) - (1 : Int64)) u1 hu1) (va_cwS 1 hts gX6_leastNode_J13_bitCount_95d88 rfl rfl rfl (by decide +kernel) ⟨Nat.le_of_ble_eq_true rfl, Nat.le_of_ble_eq_true rfl⟩) ⟨hb1, hp1⟩ rfl rfl hl.1 rfl (lv_room (Nat.le_of_ble_eq_true rfl)) dX6_leastNode_6 ⟨Nat.le_of_ble_eq_true rfl, Nat.le_of_ble_eq_true rfl⟩) rfl rfl rfl rfl rfl rfl rfl rfl rfl rfl (fun H locs hP hD hS => ?_)
  have hP : va_P D vwCl [] H := hP
  have hD : va_D A [] := hD
  obtain rfl := Option.some.inj hf
  subst eQ
  exact kr_i hx hb hr hlocks hK hP hD hS dX6_leastNode_9
abbrev rm_L_cell : Room := { frames := 0, cells := 0, slots := 0, locals := 0 }
set_option maxHeartbeats 4000000 in
set_option maxRecDepth 100000 in
theorem c_L_cell (l : Launch) (D : va_G) (sz : Nat) (q_p0 : Nat) (k_p0 : ClassId) (n_p0 : Nat) (c_p0 : (Nat → Int32)) (a1 : Int32) (res : rt_L_cell) (hf : f_L_cell n_p0 a1 c_p0 = some res) : Met l yL_cell wsL_cell rm_L_cell (kP D [.ref q_p0, .int a1] [(q_p0, .inl (k_p0, n_p0, .inl c_p0))] [(k_p0, .int)] sz) (kQi D (va_A [(q_p0, .inl (k_p0, n_p0, .inl c_p0))] sz) [(k_p0, .int)] res [(q_p0, .inl (k_p0, n_p0, .inl c_p0))]) 0 0 (va_A [(q_p0, .inl (k_p0, n_p0, .inl c_p0))] sz) := by
  refine Met.ofW (cc := cL_cell) (maxL := 2) (ret := (some .int)) (by decide +kernel) rfl ?_
  intro p e s m args below meth c s₁ B hml hv
  obtain ⟨hargs, hsz, hP, hK, hD0, hE⟩ := hv
  have hx := B.exec
  have hb := B.bytes
  have hr := B.returns
  have hts := atoms_spec (ws := wsL_cell) B.pre
  have hown : s.vm.findClass RL = some m.cls := findClass_of_methodNamed B.named
  have hlocks := B.notSynchronized
  subst hsz
  have hD := hD0.self (sz := s.heap.size)
  generalize hAe : va_A [(q_p0, .inl (k_p0, n_p0, .inl c_p0))] s.heap.size = A at hD hE ⊢
  have hA : ∀ q : Nat, s.heap.size ≤ q → A q := fun q h => by rw [← hAe]; exact Or.inr h
  have hS : va_S A s.heap s.heap [] := va_S.rf
  refine kgen (fun Q eQ => ?_)
  refine kent (av := [.ref q_p0, .int a1]) hargs (Nat.le_of_ble_eq_true rfl) (fun ls hl => ?_)
  have hl : lv_has ls 2 [(0, .ref q_p0), (1, .int a1)] := hl
  show W p l e rm_L_cell s m args below meth c s.heap [] 0 0 Q (F0 m 0 ls [])
  unfold f_L_cell at hf
  refine lv_iload_n hx hb dL_cell_0 rfl (lv_at hl 1 rfl) ?_
  refine lv_aload_n hx hb dL_cell_1 rfl (lv_at hl 0 rfl) ?_
  refine va_alen (D := D) (v := (Int32.ofNat n_p0)) hx hb hK hP 0 0 rfl rfl rfl dL_cell_2 ?_
  refine lv_icmp_ge (tgt := 12) hx hb dL_cell_3 (by decide) (fun cd3 => ?_) (fun cd3 => ?_)
  · replace hf := zite_t cd3 hf
    refine lv_ldc (v := 916318735) hx hb hown (hts (.constant RL 7 916318735) (by decide +kernel)) dL_cell_12 ?_
    refine lv_iload_n hx hb dL_cell_14 rfl (lv_at hl 1 rfl) ?_
    refine lv_iconst (v := 1) hx hb dL_cell_15 (by decide) ?_
    refine lv_iadd hx hb dL_cell_16 ?_
    refine lv_imul hx hb dL_cell_17 ?_
    obtain rfl := Option.some.inj hf
    subst eQ
    exact kr_i hx hb hr hlocks hK hP hD hS dL_cell_18
  · replace hf := zite_f cd3 hf
    refine lv_aload_n hx hb dL_cell_6 rfl (lv_at hl 0 rfl) ?_
    refine lv_iload_n hx hb dL_cell_7 rfl (lv_at hl 1 rfl) ?_
    replace hf := zgd_some hf
    obtain ⟨g1, hf⟩ := hf
    refine va_iald (D := D) hx hb hK hP 0 0 rfl rfl (inb_in g1) dL_cell_8 ?_
    refine lv_goto (tgt := 18) hx hb dL_cell_9 (by decide) ?_
    obtain rfl := Option.some.inj hf
    subst eQ
    exact kr_i hx hb hr hlocks hK hP hD hS dL_cell_18
abbrev rm_L_low : Room := { frames := 0, cells := 0, slots := 0, locals := 0 }
set_option maxHeartbeats 4000000 in
set_option maxRecDepth 100000 in
theorem c_L_low (l : Launch) (D : va_G) (sz : Nat) (a0 : Int32) (a1 : Int32) (res : rt_L_low) (hf : f_L_low a0 a1 = some res) : Met l yL_low wsL_low rm_L_low (kP D [.int a0, .int a1] [] [] sz) (kQi D (va_A [] sz) [] res []) 0 0 (va_A [] sz) := by
  refine Met.ofW (cc := cL_low) (maxL := 2) (ret := (some .int)) (by decide +kernel) rfl ?_
  intro p e s m args below meth c s₁ B hml hv
  obtain ⟨hargs, hsz, hP, hK, hD0, hE⟩ := hv
  have hx := B.exec
  have hb := B.bytes
  have hr := B.returns
  have hts := atoms_spec (ws := wsL_low) B.pre
  have hown : s.vm.findClass RL = some m.cls := findClass_of_methodNamed B.named
  have hlocks := B.notSynchronized
  subst hsz
  have hD := hD0.self (sz := s.heap.size)
  generalize hAe : va_A [] s.heap.size = A at hD hE ⊢
  have hA : ∀ q : Nat, s.heap.size ≤ q → A q := fun q h => by rw [← hAe]; exact Or.inr h
  have hS : va_S A s.heap s.heap [] := va_S.rf
  refine kgen (fun Q eQ => ?_)
  refine kent (av := [.int a0, .int a1]) hargs (Nat.le_of_ble_eq_true rfl) (fun ls hl => ?_)
  have hl : lv_has ls 2 [(0, .int a0), (1, .int a1)] := hl
  show W p l e rm_L_low s m args below meth c s.heap [] 0 0 Q (F0 m 0 ls [])
  unfold f_L_low at hf
  refine lv_iload_n hx hb dL_low_0 rfl (lv_at hl 0 rfl) ?_
  refine lv_ldc (v := 2147483647) hx hb hown (hts (.constant RL 8 2147483647) (by decide +kernel)) dL_low_1 ?_
  refine lv_iand hx hb dL_low_3 ?_
  refine lv_iload_n hx hb dL_low_4 rfl (lv_at hl 1 rfl) ?_
  replace hf := zgd_some hf
  obtain ⟨g1, hf⟩ := hf
  refine lv_irem hx hb dL_low_5 (of_decide_eq_true g1) ?_
  obtain rfl := Option.some.inj hf
  subst eQ
  exact kr_i hx hb hr hlocks hK hP hD hS dL_low_6
abbrev rm_L_ones : Room := { frames := 0, cells := 0, slots := 0, locals := 0 }
set_option maxHeartbeats 4000000 in
set_option maxRecDepth 100000 in
theorem c_L_ones (l : Launch) (D : va_G) (sz : Nat) (a0 : Int32) (res : rt_L_ones) (hf : f_L_ones a0 = some res) : Met l yL_ones wsL_ones rm_L_ones (kP D [.int a0] [] [] sz) (kQi D (va_A [] sz) [] res []) 0 0 (va_A [] sz) := by
  refine Met.ofW (cc := cL_ones) (maxL := 3) (ret := (some .int)) (by decide +kernel) rfl ?_
  intro p e s m args below meth c s₁ B hml hv
  obtain ⟨hargs, hsz, hP, hK, hD0, hE⟩ := hv
  have hx := B.exec
  have hb := B.bytes
  have hr := B.returns
  have hts := atoms_spec (ws := wsL_ones) B.pre
  have hown : s.vm.findClass RL = some m.cls := findClass_of_methodNamed B.named
  have hlocks := B.notSynchronized
  subst hsz
  have hD := hD0.self (sz := s.heap.size)
  generalize hAe : va_A [] s.heap.size = A at hD hE ⊢
  have hA : ∀ q : Nat, s.heap.size ≤ q → A q := fun q h => by rw [← hAe]; exact Or.inr h
  have hS : va_S A s.heap s.heap [] := va_S.rf
  refine kgen (fun Q eQ => ?_)
  refine kent (av := [.int a0]) hargs (Nat.le_of_ble_eq_true rfl) (fun ls hl => ?_)
  have hl : lv_has ls 3 [(0, .int a0)] := hl
  show W p l e rm_L_ones s m args below meth c s.heap [] 0 0 Q (F0 m 0 ls [])
  unfold f_L_ones at hf
  refine lv_iconst (v := 0) hx hb dL_ones_0 (by decide) ?_
  refine lv_istore_n (lv' := [(1, .int 0), (0, .int a0)]) hx hb dL_ones_1 rfl hl (by decide) rfl (fun ls hl => ?_)
  refine lv_iload_n hx hb dL_ones_2 rfl (lv_at hl 1 rfl) ?_
  refine lv_istore_n (lv' := [(2, .int a0), (1, .int 0), (0, .int a0)]) hx hb dL_ones_3 rfl hl (by decide) rfl (fun ls hl => ?_)
  replace hf := zl2_some hf
  obtain ⟨F4, eF4, hf⟩ := hf
  have h4 : ∀ (n4 : Nat) (i1_4 : Int32) (i2_4 : Int32), zl2 F4 n4 i1_4 i2_4 = some res → ∀ (H : Heap) (locs : List Loc) (ls : Array Slot), va_P D vwCl [] H → va_D A [] → va_S A s.heap H locs → lv_has ls 3 [(1, .int i1_4), (2, .int i2_4)] → W p l e rm_L_ones s m args below meth c H locs 0 0 Q (F0 m 4 ls []) := by
    intro n4
    induction n4 with
    | zero => intro i1_4 i2_4 hf; exact (zl2_zero hf).elim
    | succ n4 ih4 =>
      intro i1_4 i2_4 hf H locs ls hP hD hS hl
      replace hf := zl2_step eF4 hf
      generalize zl2 F4 n4 = k4 at hf ih4
      refine lv_iload_n hx hb dL_ones_4 rfl (lv_at hl 1 rfl) ?_
      refine lv_if_eq (tgt := 20) hx hb dL_ones_5 (by decide) (fun cd5 => ?_) (fun cd5 => ?_)
      · replace hf := zite_t cd5 hf
        refine lv_iload_n hx hb dL_ones_20 rfl (lv_at hl 0 rfl) ?_
        obtain rfl := Option.some.inj hf
        subst eQ
        exact kr_i hx hb hr hlocks hK hP hD hS dL_ones_21
      · replace hf := zite_f cd5 hf
        obtain ⟨x1, ex1⟩ : ∃ y : Int32, y = i1_4 + 1 := ⟨_, rfl⟩
        replace hf := zbd_of ex1 hf
        refine lv_iinc (v := x1) (lv' := [(1, .int x1), (2, .int i2_4)]) hx hb dL_ones_8 hl (k := 0) rfl (by rw [ex1]; rfl) (by decide) rfl (fun ls hl => ?_)
        refine lv_iload_n hx hb dL_ones_11 rfl (lv_at hl 1 rfl) ?_
        refine lv_iload_n hx hb dL_ones_12 rfl (lv_at hl 1 rfl) ?_
        refine lv_iconst (v := 1) hx hb dL_ones_13 (by decide) ?_
        refine lv_isub hx hb dL_ones_14 ?_
        refine lv_iand hx hb dL_ones_15 ?_
        refine lv_topi (fun x2 ex2 => ?_)
        replace hf := zbd_of ex2 hf
        refine lv_istore_n (lv' := [(2, .int x2), (1, .int x1)]) hx hb dL_ones_16 rfl hl (by decide) rfl (fun ls hl => ?_)
        refine lv_goto (tgt := 4) hx hb dL_ones_17 (by decide) ?_
        exact ih4 x1 x2 hf H locs ls hP hD hS (lv_sub hl [1, 0] rfl)
  exact h4 zfu 0 a0 hf s.heap [] ls hP hD hS (lv_sub hl [1, 0] rfl)
