/-! a world by places; a call over it: what the callee takes changes, the rest stays -/
def n64 : List Nat := [0, 1, 2, 3, 4, 5, 6, 7, 8, 9, 10, 11, 12, 13, 14, 15, 16, 17, 18, 19, 20, 21, 22, 23, 24, 25, 26, 27, 28, 29, 30, 31, 32, 33, 34, 35, 36, 37, 38, 39, 40, 41, 42, 43, 44, 45, 46, 47, 48, 49, 50, 51, 52, 53, 54, 55, 56, 57, 58, 59, 60, 61, 62, 63]
theorem n64_get : ∀ i, i < 64 → n64[i]? = some i := by decide
def wf (qa : Nat → Nat) (E : Nat → va_E) : va_W := n64.map (fun i => (qa i, E i))
theorem wf_get {qa : Nat → Nat} {E : Nat → va_E} {i : Nat} (h : i < 64) : (wf qa E)[i]? = some (qa i, E i) := by
  rw [wf, List.getElem?_map, n64_get i h]; rfl
theorem wf_of {qa : Nat → Nat} {E : Nat → va_E} {k : Nat} {q : Nat × va_E} (h : (wf qa E)[k]? = some q) : k < 64 ∧ q = (qa k, E k) := by
  have hk : k < 64 := by
    have h2 := (List.getElem?_eq_some_iff.mp h).1
    rw [wf, List.length_map] at h2; exact h2
  exact ⟨hk, (Option.some.inj ((wf_get hk).symm.trans h)).symm⟩
theorem wf_map {qa : Nat → Nat} {E : Nat → va_E} (is : List Nat) (h : ∀ i ∈ is, i < 64) : is.map (fun i => (wf qa E)[i]?) = (is.map (fun i => (qa i, E i))).map some := by
  rw [List.map_map]; exact List.map_congr_left (fun i hi => wf_get (h i hi))
theorem fm_of_map {α β : Type} {f : α → Option β} : ∀ {l : List α} {w : List β}, l.map f = w.map some → l.filterMap f = w
  | [], w, h => by
    cases w with
    | nil => rfl
    | cons b w => cases h
  | a :: l, w, h => by
    cases w with
    | nil => cases h
    | cons b w =>
      rw [List.map_cons, List.map_cons, List.cons.injEq] at h
      rw [List.filterMap_cons, h.1]
      exact congrArg (b :: ·) (fm_of_map h.2)
def okI (isC isR : List Nat) : Bool := isC.all (fun i => decide (i < 64)) && isR.all (fun i => decide (i < 64)) && n64.all (fun i => isC.contains i || isR.contains i) && va_nd isC && va_nd isR && isR.all (fun i => !isC.contains i)
theorem okI_spec {isC isR : List Nat} (h : okI isC isR = true) : (∀ i ∈ isC, i < 64) ∧ (∀ i ∈ isR, i < 64) ∧ (∀ i, i < 64 → i ∈ isC ∨ i ∈ isR) ∧ va_nd isC = true ∧ va_nd isR = true ∧ ∀ i ∈ isR, i ∉ isC := by
  simp only [okI, Bool.and_eq_true, List.all_eq_true, decide_eq_true_eq, Bool.or_eq_true, List.contains_iff_mem, Bool.not_eq_true', List.contains_eq_mem, decide_eq_false_iff_not] at h
  obtain ⟨⟨⟨⟨⟨h1, h2⟩, h3⟩, h4⟩, h5⟩, h6⟩ := h
  exact ⟨h1, h2, fun i hi => h3 i (List.mem_of_getElem? (n64_get i hi)), h4, h5, h6⟩
section KG
variable {p : Program} {l : Launch} {e : Env} {R : Room} {s : State} {m : MethodId} {args : Array Value} {below : List Frame} {meth : Method} {c : Code} {H : Heap} {locs : List Loc} {cells slots mc ms : Nat} {Q : State → Prop}
variable {D : va_G} {A : Nat → Prop} {wc w1 : va_W} {tys tyc : List (ClassId × FieldType)} {pc : Nat} {ls : Array Slot} {st0 rest : List Value} {av : List Value} {a : Array Value} {qa : Nat → Nat} {E E' : Nat → va_E}
theorem kg_back {H1 : Heap} {t : State} (hP : va_P D vwCl (wf qa E) H) (hD : va_D A (wf qa E)) (hS : va_S A s.heap H locs) (hA : ∀ q, s.heap.size ≤ q → A q) (isC isR : List Nat) (hok : okI isC isR = true) (hwc : isC.map (fun i => (qa i, E i)) = wc) (hw1 : isC.map (fun i => (qa i, E' i)) = w1) (hE' : ∀ i ∈ isR, E' i = E i)
    (ht : t.heap = H1) (hk : ∀ q : Nat, q < H.size → ¬ va_A wc H.size q → H1[q]? = H[q]?) (hB : kB D (va_A wc H.size) tyc w1 t) : va_P D vwCl (wf qa E') H1 ∧ va_D A (wf qa E') := by
  obtain ⟨hP1, -, hD1⟩ := hB
  rw [ht] at hP1
  obtain ⟨o1, o2, o3, -, o5, o6⟩ := okI_spec hok
  have hC := wf_map (qa := qa) (E := E) isC o1
  rw [hwc] at hC
  have hR := wf_map (qa := qa) (E := E) isR o2
  obtain ⟨hPj, -⟩ := va_join hP hD isC isR hC hR o5 o6 hk (va_free hD hS hA isC hC) hP1 hD1
  refine ⟨fun k q hq => ?_, fun i j x y hi hj he => ?_, fun k q hq => ?_⟩
  · obtain ⟨hk64, rfl⟩ := wf_of hq
    have hmem : (qa k, E' k) ∈ isR.map (fun i => (qa i, E i)) ++ w1 := by
      rcases o3 k hk64 with h | h
      · rw [← hw1]; exact List.mem_append_right _ (List.mem_map_of_mem (f := fun i => (qa i, E' i)) h)
      · rw [hE' k h]; exact List.mem_append_left _ (List.mem_map_of_mem (f := fun i => (qa i, E i)) h)
    obtain ⟨i, hi⟩ := List.mem_iff_getElem?.mp hmem
    exact hPj i _ hi
  · obtain ⟨h1, rfl⟩ := wf_of hi
    obtain ⟨h2, rfl⟩ := wf_of hj
    exact hD.1 i j _ _ (wf_get h1) (wf_get h2) he
  · obtain ⟨h1, rfl⟩ := wf_of hq
    exact hD.2 k (qa k, E k) (wf_get h1)
theorem kg_i {v : Int32} (hK : va_K D vwCl tys s) (hP : va_P D vwCl (wf qa E) H) (hD : va_D A (wf qa E)) (hS : va_S A s.heap H locs) (hA : ∀ q, s.heap.size ≤ q → A q) (hE : ev_ok A s) (isC isT isR : List Nat)
    (hrun : FrameBlind (kP D av wc tyc H.size) → (∀ U : State, U.heap = H → s.WarmedH U.vm → kP D av wc tyc H.size av.toArray U) → va_Run p l e R s m args below meth c H locs cells slots mc ms (F0 m pc ls st0) rest (kQi D (va_A wc H.size) tyc v w1 a) (va_A wc H.size))
    (hok : okI isC isR = true) (hwc : isC.map (fun i => (qa i, E i)) = wc) (hT : isT.filterMap (fun i => tys[i]?) = tyc) (hw1 : isC.map (fun i => (qa i, E' i)) = w1) (hE' : ∀ i ∈ isR, E' i = E i)
    (kk : ∀ (H1 : Heap) (locs1 : List Loc), va_P D vwCl (wf qa E') H1 → va_D A (wf qa E') → va_S A s.heap H1 locs1 → W p l e R s m args below meth c H1 locs1 (cells + mc) (slots + ms) Q (F0 m (pc + 3) ls (.int v :: rest))) : W p l e R s m args below meth c H locs cells slots Q (F0 m pc ls st0) := by
  obtain ⟨o1, -, -, o4, -, -⟩ := okI_spec hok
  have hC := wf_map (qa := qa) (E := E) isC o1
  rw [hwc] at hC
  have hF := va_free hD hS hA isC hC
  refine va_calli (hrun kP_blind (kd_pre hK hP hD hS hA hE isC isT hC (fm_of_map hC) o4 hT)) hS (fun q _ h => hF q h) hF (fun r u t H1 locs1 ht hvm hw hB hz hk hS => ?_)
  obtain ⟨hP, hD⟩ := kg_back hP hD (by assumption) hA isC isR hok hwc hw1 hE' ht hk hB
  subst hw
  exact kk H1 locs1 hP hD hS
theorem kg_l {v : Int64} (hK : va_K D vwCl tys s) (hP : va_P D vwCl (wf qa E) H) (hD : va_D A (wf qa E)) (hS : va_S A s.heap H locs) (hA : ∀ q, s.heap.size ≤ q → A q) (hE : ev_ok A s) (isC isT isR : List Nat)
    (hrun : FrameBlind (kP D av wc tyc H.size) → (∀ U : State, U.heap = H → s.WarmedH U.vm → kP D av wc tyc H.size av.toArray U) → va_Run p l e R s m args below meth c H locs cells slots mc ms (F0 m pc ls st0) rest (kQl D (va_A wc H.size) tyc v w1 a) (va_A wc H.size))
    (hok : okI isC isR = true) (hwc : isC.map (fun i => (qa i, E i)) = wc) (hT : isT.filterMap (fun i => tys[i]?) = tyc) (hw1 : isC.map (fun i => (qa i, E' i)) = w1) (hE' : ∀ i ∈ isR, E' i = E i)
    (kk : ∀ (H1 : Heap) (locs1 : List Loc), va_P D vwCl (wf qa E') H1 → va_D A (wf qa E') → va_S A s.heap H1 locs1 → W p l e R s m args below meth c H1 locs1 (cells + mc) (slots + ms) Q (F0 m (pc + 3) ls (.long v :: rest))) : W p l e R s m args below meth c H locs cells slots Q (F0 m pc ls st0) := by
  obtain ⟨o1, -, -, o4, -, -⟩ := okI_spec hok
  have hC := wf_map (qa := qa) (E := E) isC o1
  rw [hwc] at hC
  have hF := va_free hD hS hA isC hC
  refine va_calll (hrun kP_blind (kd_pre hK hP hD hS hA hE isC isT hC (fm_of_map hC) o4 hT)) hS (fun q _ h => hF q h) hF (fun r u t H1 locs1 ht hvm hw hB hz hk hS => ?_)
  obtain ⟨hP, hD⟩ := kg_back hP hD (by assumption) hA isC isR hok hwc hw1 hE' ht hk hB
  subst hw
  exact kk H1 locs1 hP hD hS
end KG
theorem wcc {qa : Nat → Nat} {E : Nat → va_E} {i a : Nat} {b : va_E} {is : List Nat} {w : va_W} (h1 : qa i = a) (h2 : E i = b) (h : is.map (fun i => (qa i, E i)) = w) : (i :: is).map (fun i => (qa i, E i)) = (a, b) :: w := by
  rw [List.map_cons, h1, h2, h]
theorem wtt {tys : List (ClassId × FieldType)} {i : Nat} {a : ClassId × FieldType} {is : List Nat} {w : List (ClassId × FieldType)} (h1 : tys[i]? = some a) (h : is.filterMap (fun i => tys[i]?) = w) : (i :: is).filterMap (fun i => tys[i]?) = a :: w := by
  rw [List.filterMap_cons, h1, h]
theorem wee {E E' : Nat → va_E} {i : Nat} {is : List Nat} {b : va_E} (h1 : E' i = b) (h2 : E i = b) (h : ∀ i ∈ is, E' i = E i) : ∀ j ∈ i :: is, E' j = E j := fun j hj => (List.mem_cons.mp hj).elim (fun e => by rw [e]; exact h1.trans h2.symm) (h j)
theorem we0 {E E' : Nat → va_E} : ∀ j ∈ ([] : List Nat), E' j = E j := fun _ h => absurd h List.not_mem_nil
