/-! what the law's own calls want beside: cell with the script, the switch -/
def kPx (b L : Nat) (xs : Nat → Int32) (av : List Value) (sz : Nat) : Array Value → State → Prop := va_Pc av (fun U => U.heap.size = sz ∧ va_X b L xs U U.heap ∧ b < U.heap.size)
theorem kPx_blind {b L : Nat} {xs : Nat → Int32} {av : List Value} {sz : Nat} : FrameBlind (kPx b L xs av sz) := fun a U g mk q => by
  obtain ⟨q0, q1, qX, qb⟩ := q
  exact ⟨q0, q1, va_X.moved (u := U) (U := U.calling g mk a) (Vm.Alike.refl U.vm) qX, qb⟩
abbrev kQx (A : Nat → Prop) (v : Int32) : Array Value → State → Outcome → State → Prop := va_Qi (fun (r : Int32) (_ : Unit) => r = v) (fun _ _ => True) A
theorem cx_cell (l : Launch) (b L : Nat) (xs : Nat → Int32) (sz : Nat) (a1 : Int32) (res : rt_L_cell) (hf : f_L_cell L a1 xs = some res) : Met l yL_cell wsL_cell rm_L_cell (kPx b L xs [.ref b, .int a1] sz) (kQx (fun q : Nat => sz ≤ q) res) 0 0 (fun q : Nat => sz ≤ q) := by
  refine Met.ofW (cc := cL_cell) (maxL := 2) (ret := (some .int)) (by decide +kernel) rfl ?_
  intro p e s m args below meth c s₁ B hml hv
  obtain ⟨hargs, hsz, hX, hbl⟩ := hv
  have hx := B.exec
  have hb := B.bytes
  have hr := B.returns
  have hts := atoms_spec (ws := wsL_cell) B.pre
  have hown : s.vm.findClass RL = some m.cls := findClass_of_methodNamed B.named
  have hlocks := B.notSynchronized
  subst hsz
  have hS : va_S (fun q : Nat => s.heap.size ≤ q) s.heap s.heap [] := va_S.rf
  have hbA : ¬ (fun q : Nat => s.heap.size ≤ q) b := Nat.not_le.mpr hbl
  refine kgen (fun Q eQ => ?_)
  refine kent (av := [.ref b, .int a1]) hargs (Nat.le_of_ble_eq_true rfl) (fun ls hl => ?_)
  have hl : lv_has ls 2 [(0, .ref b), (1, .int a1)] := hl
  show W p l e rm_L_cell s m args below meth c s.heap [] 0 0 Q (F0 m 0 ls [])
  unfold f_L_cell at hf
  refine lv_iload_n hx hb dL_cell_0 rfl (lv_at hl 1 rfl) ?_
  refine lv_aload_n hx hb dL_cell_1 rfl (lv_at hl 0 rfl) ?_
  refine va_slen hx hb hX hbl hbA hS dL_cell_2 ?_
  refine lv_icmp_ge (tgt := 12) hx hb dL_cell_3 (by decide) (fun cd3 => ?_) (fun cd3 => ?_)
  · replace hf := zite_t cd3 hf
    refine lv_ldc (v := 916318735) hx hb hown (hts (.constant RL 7 916318735) (by decide +kernel)) dL_cell_12 ?_
    refine lv_iload_n hx hb dL_cell_14 rfl (lv_at hl 1 rfl) ?_
    refine lv_iconst (v := 1) hx hb dL_cell_15 (by decide) ?_
    refine lv_iadd hx hb dL_cell_16 ?_
    refine lv_imul hx hb dL_cell_17 ?_
    obtain rfl := Option.some.inj hf
    subst eQ
    exact W.iret hx hb hr (fun t ht hW => ⟨⟨_, (), rfl, rfl, trivial⟩, hS.F ht⟩) hS.2.2 dL_cell_18 hlocks
  · replace hf := zite_f cd3 hf
    refine lv_aload_n hx hb dL_cell_6 rfl (lv_at hl 0 rfl) ?_
    refine lv_iload_n hx hb dL_cell_7 rfl (lv_at hl 1 rfl) ?_
    replace hf := zgd_some hf
    obtain ⟨g1, hf⟩ := hf
    refine va_sld hx hb hX hbl hbA hS (inb_in g1) dL_cell_8 ?_
    refine lv_goto (tgt := 18) hx hb dL_cell_9 (by decide) ?_
    obtain rfl := Option.some.inj hf
    subst eQ
    exact W.iret hx hb hr (fun t ht hW => ⟨⟨_, (), rfl, rfl, trivial⟩, hS.F ht⟩) hS.2.2 dL_cell_18 hlocks
section KXC
variable {p : Program} {l : Launch} {e : Env} {R : Room} {s : State} {m : MethodId} {args : Array Value} {below : List Frame} {meth : Method} {c : Code} {H : Heap} {locs : List Loc} {cells slots mc ms : Nat} {Q : State → Prop}
variable {D : va_G} {A : Nat → Prop} {w : va_W} {pc : Nat} {ls : Array Slot} {st0 rest : List Value} {av : List Value} {a : Array Value} {b L : Nat} {xs : Nat → Int32}
theorem kx_cell {v : Int32} (hX : va_X b L xs s s.heap) (hbl : b < s.heap.size) (hbA : ¬ A b) (hP : va_P D vwCl w H) (hD : va_D A w) (hS : va_S A s.heap H locs) (hA : ∀ q, s.heap.size ≤ q → A q)
    (hrun : FrameBlind (kPx b L xs av H.size) → (∀ U : State, U.heap = H → s.WarmedH U.vm → kPx b L xs av H.size av.toArray U) → va_Run p l e R s m args below meth c H locs cells slots mc ms (F0 m pc ls st0) rest (kQx (fun q : Nat => H.size ≤ q) v a) (fun q : Nat => H.size ≤ q))
    (kk : ∀ (H1 : Heap) (locs1 : List Loc), va_P D vwCl w H1 → va_D A w → va_S A s.heap H1 locs1 → W p l e R s m args below meth c H1 locs1 (cells + mc) (slots + ms) Q (F0 m (pc + 3) ls (.int v :: rest))) : W p l e R s m args below meth c H locs cells slots Q (F0 m pc ls st0) := by
  have hF : ∀ q : Nat, H.size ≤ q → A q := fun q h => hA q (Nat.le_trans hS.1 h)
  have hbH : H[b]? = s.heap[b]? := hS.2.1 b hbl hbA
  refine va_calli (hrun kPx_blind (fun U hU hW => ⟨rfl, by rw [hU], by rw [hU]; exact (hX.kept hbH).moved hW.alike, by rw [hU]; exact Nat.lt_of_lt_of_le hbl hS.1⟩)) hS (fun q _ h => hF q h) hF (fun r u t H1 locs1 ht hvm hw hB hz hk hS => ?_)
  subst hw
  exact kk H1 locs1 (fun k q hq => (hP k q hq).kept (hk q.1 (hP k q hq).lt (fun h => absurd (hP k q hq).lt (Nat.not_lt.mpr h)))) hD hS
end KXC
theorem tb_out4 {x : Int32} (h0 : ¬ x = 0) (h1 : ¬ x = 1) (h2 : ¬ x = 2) (h3 : ¬ x = 3) (h4 : ¬ x = 4) : x.toInt < 0 ∨ 4 < x.toInt := by
  have e : ∀ k : Int32, ¬ x = k → ¬ x.toInt = k.toInt := fun k h q => h (Int32.toInt_inj.mp q)
  have e0 := e 0 h0
  have e1 := e 1 h1
  have e2 := e 2 h2
  have e3 := e 3 h3
  have e4 := e 4 h4
  rw [show (0 : Int32).toInt = 0 from rfl] at e0
  rw [show (1 : Int32).toInt = 1 from rfl] at e1
  rw [show (2 : Int32).toInt = 2 from rfl] at e2
  rw [show (3 : Int32).toInt = 3 from rfl] at e3
  rw [show (4 : Int32).toInt = 4 from rfl] at e4
  omega
