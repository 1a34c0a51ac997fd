/-! what every contract takes as given, at the law's entry -/
theorem ev_m1 : ∀ q ∈ nwM, Cond.methodLinkNest q.1 q.2.1 q.2.2.1 q.2.2.2 ∈ lw_tbl := by decide +kernel
theorem ev_m2 : ∀ q ∈ nwF, Cond.fieldLinkNest q.1 q.2.1 q.2.2.1 q.2.2.2.1 q.2.2.2.2.1 q.2.2.2.2.2 ∈ lw_tbl := by decide +kernel
theorem ev_m3 : ∀ q ∈ stA, Cond.stringRef q.1 q.2.1 q.2.2 ∈ lw_tbl := by decide +kernel
theorem ev_m4 : ∀ q ∈ exA, Cond.castable q q ∈ lw_tbl := by decide +kernel
theorem ev_m5 : ∀ q ∈ dcA, Cond.declares q ∈ lw_tbl := by decide +kernel
theorem ev_m6 : Cond.arrayOver (.object RX3) ∈ lw_tbl ∧ Cond.laysStatic Bundle.tN "UNASSIGNED_STACK" Bundle.steD ∈ lw_tbl ∧ Cond.laysStatic Bundle.tN "SUPPRESSED_SENTINEL" Bundle.listD ∈ lw_tbl ∧ Cond.initialized Bundle.tN ∈ lw_tbl ∧ Cond.laysStatic RX6 "LOW_NODES" "[J" ∈ lw_tbl ∧ Cond.initialized RX6 ∈ lw_tbl := by decide +kernel
theorem ev_n1 : ∀ q ∈ stA, Cond.exactly (.string q.1 q.2.1) "java/lang/String" ∈ flatC (Jvm.Cond.and given_1 narrow_1) := by decide +kernel
theorem ev_n2 : Cond.isRef (.static Bundle.tN "UNASSIGNED_STACK" Bundle.steD) ∈ flatC (Jvm.Cond.and given_1 narrow_1) ∧ Cond.isRef (.static Bundle.tN "SUPPRESSED_SENTINEL" Bundle.listD) ∈ flatC (Jvm.Cond.and given_1 narrow_1) ∧ Cond.not (.castable "java/lang/IllegalStateException" "java/lang/IllegalArgumentException") ∈ flatC (Jvm.Cond.and given_1 narrow_1) ∧ Cond.arrayOf (.static RX6 "LOW_NODES" "[J") .long ∈ flatC (Jvm.Cond.and given_1 narrow_1) ∧ Cond.eq (.length (.static RX6 "LOW_NODES" "[J")) (.int 6) ∈ flatC (Jvm.Cond.and given_1 narrow_1) := by decide +kernel
theorem ev_n3 : ∀ j, j < 6 → Cond.eq (.elem (.static RX6 "LOW_NODES" "[J") (.int (Int32.ofNat j))) (.long (lowN j)) ∈ flatC (Jvm.Cond.and given_1 narrow_1) := by decide +kernel
theorem ev_start {s : State} {b : Nat} (hts : ∀ w ∈ lw_tbl, w.before #[Value.ref b] s = true) (hgv : (Jvm.Cond.and given_1 narrow_1).before #[Value.ref b] s = true) : ev_ok (fun q : Nat => s.heap.size ≤ q) s := by
  have hs := flat_of_before _ hgv
  have hA : ∀ a : Nat, a < s.heap.size → ¬ (fun q : Nat => s.heap.size ≤ q) a := fun a h => Nat.not_le.mpr h
  obtain ⟨m1, m2, m3, m4, m5, m6⟩ := ev_m6
  obtain ⟨n1, n2, n3, n4, n5⟩ := ev_n2
  obtain ⟨t, ht1, ht2⟩ := va_Tof (N := 6) (f := fun j => .long (lowN j)) (A := fun q : Nat => s.heap.size ≤ q) (by decide) (hs _ n4) (va_eqt (hs _ n5)) (fun j hj => va_eqtl (hs _ (ev_n3 j hj))) hA
  refine ⟨fun q hq => va_Nw.of rfl (hts _ (ev_m1 q hq)), fun q hq => va_Nw.of rfl (hts _ (ev_m2 q hq)), fun q hq => ?_, vx_Zqof (hts _ m2) (hts _ m4) (hs _ n1) hA, vx_Zqof (hts _ m3) (hts _ m4) (hs _ n2) hA, fun q hq => va_Nw.of rfl (hts _ (ev_m4 q hq)), fun q hq => va_Nw.of rfl (hts _ (ev_m5 q hq)), va_AO.of (hts _ m1), va_Nc.of (hs _ n3), t, va_Zof (hts _ m5) (hts _ m6) ht1 hA, ht2⟩
  obtain ⟨a, _, _, _, ha, _⟩ := Cond.exactly_spec (hs _ (ev_n1 q hq))
  exact ⟨a, vk_R.of (hts _ (ev_m3 q hq)) ha⟩
theorem ev_flags {l : Launch} (h : l.flags = flags0) : l.stackTraces = false := by
  rw [Launch.stackTraces, h]; decide +kernel
