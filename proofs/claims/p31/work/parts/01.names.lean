-- ===== PART A: goes FIRST, ahead of the names: the tables' words, and 'selects' of the private methods out of them =====
/-- a private method of a class that the tables say can be made, by its rows of tables_1 -/
def lw_okq (q : MethodName × Nat) : Prop := (q.1.cls ≠ "java/lang/invoke/MethodHandle" ∧ q.1.cls ≠ "java/lang/invoke/VarHandle") ∧ Cond.instantiable q.1.cls q.2 ∈ tables_1 ∧ Cond.privateMethod q.1 ∈ tables_1 ∧ Cond.instanceMethod q.1 ∈ tables_1
theorem lw_p0 : lw_okq (⟨"FaultyCube", "refreshSafety", "()V"⟩, 6) := ⟨⟨by decide +kernel, by decide +kernel⟩, List.mem_of_getElem? (i := 19) (by decide +kernel), List.mem_of_getElem? (i := 185) (by decide +kernel), List.mem_of_getElem? (i := 186) (by decide +kernel)⟩
theorem lw_p1 : lw_okq (⟨"FaultyCube$Safety", "startLevels", "(J)V"⟩, 5) := ⟨⟨by decide +kernel, by decide +kernel⟩, List.mem_of_getElem? (i := 95) (by decide +kernel), List.mem_of_getElem? (i := 193) (by decide +kernel), List.mem_of_getElem? (i := 194) (by decide +kernel)⟩
theorem lw_p2 : lw_okq (⟨"FaultyCube$Safety", "roundChanges", "(J)Z"⟩, 5) := ⟨⟨by decide +kernel, by decide +kernel⟩, List.mem_of_getElem? (i := 95) (by decide +kernel), List.mem_of_getElem? (i := 203) (by decide +kernel), List.mem_of_getElem? (i := 204) (by decide +kernel)⟩
theorem lw_p3 : lw_okq (⟨"FaultyCube$Safety", "levelAfterRound", "(I)I"⟩, 5) := ⟨⟨by decide +kernel, by decide +kernel⟩, List.mem_of_getElem? (i := 95) (by decide +kernel), List.mem_of_getElem? (i := 210) (by decide +kernel), List.mem_of_getElem? (i := 211) (by decide +kernel)⟩
theorem lw_p4 : lw_okq (⟨"FaultyCube$Safety", "neighboursBelow", "(II)I"⟩, 5) := ⟨⟨by decide +kernel, by decide +kernel⟩, List.mem_of_getElem? (i := 95) (by decide +kernel), List.mem_of_getElem? (i := 214) (by decide +kernel), List.mem_of_getElem? (i := 215) (by decide +kernel)⟩
theorem lw_p5 : lw_okq (⟨"FaultyCube$Safety", "findVectors", "(J)V"⟩, 5) := ⟨⟨by decide +kernel, by decide +kernel⟩, List.mem_of_getElem? (i := 95) (by decide +kernel), List.mem_of_getElem? (i := 224) (by decide +kernel), List.mem_of_getElem? (i := 225) (by decide +kernel)⟩
theorem lw_p6 : lw_okq (⟨"FaultyCube$Safety", "withNeighboursAbove", "(JI)J"⟩, 5) := ⟨⟨by decide +kernel, by decide +kernel⟩, List.mem_of_getElem? (i := 95) (by decide +kernel), List.mem_of_getElem? (i := 231) (by decide +kernel), List.mem_of_getElem? (i := 232) (by decide +kernel)⟩
theorem lw_p7 : lw_okq (⟨"java/lang/Throwable", "fillInStackTrace", "(I)Ljava/lang/Throwable;"⟩, 6) := ⟨⟨by decide +kernel, by decide +kernel⟩, List.mem_of_getElem? (i := 310) (by decide +kernel), List.mem_of_getElem? (i := 308) (by decide +kernel), List.mem_of_getElem? (i := 309) (by decide +kernel)⟩
theorem lw_p8 : lw_okq (⟨"FaultyCube$UndoStack", "slotAt", "(I)LFaultyCube$Situation;"⟩, 3) := ⟨⟨by decide +kernel, by decide +kernel⟩, List.mem_of_getElem? (i := 75) (by decide +kernel), List.mem_of_getElem? (i := 344) (by decide +kernel), List.mem_of_getElem? (i := 345) (by decide +kernel)⟩
theorem lw_p9 : lw_okq (⟨"FaultyCube", "requireNode", "(I)V"⟩, 6) := ⟨⟨by decide +kernel, by decide +kernel⟩, List.mem_of_getElem? (i := 19) (by decide +kernel), List.mem_of_getElem? (i := 364) (by decide +kernel), List.mem_of_getElem? (i := 365) (by decide +kernel)⟩
theorem lw_p10 : lw_okq (⟨"FaultyCube", "nodeCount", "()I"⟩, 6) := ⟨⟨by decide +kernel, by decide +kernel⟩, List.mem_of_getElem? (i := 19) (by decide +kernel), List.mem_of_getElem? (i := 368) (by decide +kernel), List.mem_of_getElem? (i := 369) (by decide +kernel)⟩
theorem lw_p11 : lw_okq (⟨"FaultyCube", "requireAlive", "(I)V"⟩, 6) := ⟨⟨by decide +kernel, by decide +kernel⟩, List.mem_of_getElem? (i := 19) (by decide +kernel), List.mem_of_getElem? (i := 373) (by decide +kernel), List.mem_of_getElem? (i := 374) (by decide +kernel)⟩
theorem lw_p12 : lw_okq (⟨"FaultyCube", "requireLivingPair", "(II)V"⟩, 6) := ⟨⟨by decide +kernel, by decide +kernel⟩, List.mem_of_getElem? (i := 19) (by decide +kernel), List.mem_of_getElem? (i := 429) (by decide +kernel), List.mem_of_getElem? (i := 430) (by decide +kernel)⟩
theorem lw_p13 : lw_okq (⟨"FaultyCube$Traffic", "moved", "(ILFaultyCube$Situation;LFaultyCube$Safety;)Z"⟩, 1) := ⟨⟨by decide +kernel, by decide +kernel⟩, List.mem_of_getElem? (i := 170) (by decide +kernel), List.mem_of_getElem? (i := 454) (by decide +kernel), List.mem_of_getElem? (i := 455) (by decide +kernel)⟩
theorem lw_p14 : lw_okq (⟨"FaultyCube$Traffic", "move", "(IIZLFaultyCube$Situation;)V"⟩, 1) := ⟨⟨by decide +kernel, by decide +kernel⟩, List.mem_of_getElem? (i := 170) (by decide +kernel), List.mem_of_getElem? (i := 481) (by decide +kernel), List.mem_of_getElem? (i := 482) (by decide +kernel)⟩
theorem lw_p15 : lw_okq (⟨"FaultyCube", "requireMessage", "(I)V"⟩, 6) := ⟨⟨by decide +kernel, by decide +kernel⟩, List.mem_of_getElem? (i := 19) (by decide +kernel), List.mem_of_getElem? (i := 492) (by decide +kernel), List.mem_of_getElem? (i := 493) (by decide +kernel)⟩
def lw_privs_1 : List (MethodName × Nat) := [(⟨"FaultyCube", "refreshSafety", "()V"⟩, 6), (⟨"FaultyCube$Safety", "startLevels", "(J)V"⟩, 5), (⟨"FaultyCube$Safety", "roundChanges", "(J)Z"⟩, 5), (⟨"FaultyCube$Safety", "levelAfterRound", "(I)I"⟩, 5), (⟨"FaultyCube$Safety", "neighboursBelow", "(II)I"⟩, 5), (⟨"FaultyCube$Safety", "findVectors", "(J)V"⟩, 5), (⟨"FaultyCube$Safety", "withNeighboursAbove", "(JI)J"⟩, 5), (⟨"java/lang/Throwable", "fillInStackTrace", "(I)Ljava/lang/Throwable;"⟩, 6), (⟨"FaultyCube$UndoStack", "slotAt", "(I)LFaultyCube$Situation;"⟩, 3), (⟨"FaultyCube", "requireNode", "(I)V"⟩, 6), (⟨"FaultyCube", "nodeCount", "()I"⟩, 6), (⟨"FaultyCube", "requireAlive", "(I)V"⟩, 6), (⟨"FaultyCube", "requireLivingPair", "(II)V"⟩, 6), (⟨"FaultyCube$Traffic", "moved", "(ILFaultyCube$Situation;LFaultyCube$Safety;)Z"⟩, 1), (⟨"FaultyCube$Traffic", "move", "(IIZLFaultyCube$Situation;)V"⟩, 1), (⟨"FaultyCube", "requireMessage", "(I)V"⟩, 6)]
theorem lw_r1 : ∀ q ∈ lw_privs_1, lw_okq q := List.forall_mem_cons.mpr ⟨lw_p0, List.forall_mem_cons.mpr ⟨lw_p1, List.forall_mem_cons.mpr ⟨lw_p2, List.forall_mem_cons.mpr ⟨lw_p3, List.forall_mem_cons.mpr ⟨lw_p4, List.forall_mem_cons.mpr ⟨lw_p5, List.forall_mem_cons.mpr ⟨lw_p6, List.forall_mem_cons.mpr ⟨lw_p7, List.forall_mem_cons.mpr ⟨lw_p8, List.forall_mem_cons.mpr ⟨lw_p9, List.forall_mem_cons.mpr ⟨lw_p10, List.forall_mem_cons.mpr ⟨lw_p11, List.forall_mem_cons.mpr ⟨lw_p12, List.forall_mem_cons.mpr ⟨lw_p13, List.forall_mem_cons.mpr ⟨lw_p14, List.forall_mem_cons.mpr ⟨lw_p15, fun _ h => absurd h List.not_mem_nil⟩⟩⟩⟩⟩⟩⟩⟩⟩⟩⟩⟩⟩⟩⟩⟩
theorem lw_p16 : lw_okq (⟨"FaultyCube", "decision", "(II)I"⟩, 6) := ⟨⟨by decide +kernel, by decide +kernel⟩, List.mem_of_getElem? (i := 19) (by decide +kernel), List.mem_of_getElem? (i := 601) (by decide +kernel), List.mem_of_getElem? (i := 602) (by decide +kernel)⟩
theorem lw_p17 : lw_okq (⟨"FaultyCube", "lengthOfRoute", "(II)I"⟩, 6) := ⟨⟨by decide +kernel, by decide +kernel⟩, List.mem_of_getElem? (i := 19) (by decide +kernel), List.mem_of_getElem? (i := 614) (by decide +kernel), List.mem_of_getElem? (i := 615) (by decide +kernel)⟩
theorem lw_p18 : lw_okq (⟨"FaultyCube", "nodeOfRoute", "(III)I"⟩, 6) := ⟨⟨by decide +kernel, by decide +kernel⟩, List.mem_of_getElem? (i := 19) (by decide +kernel), List.mem_of_getElem? (i := 626) (by decide +kernel), List.mem_of_getElem? (i := 627) (by decide +kernel)⟩
theorem lw_p19 : lw_okq (⟨"FaultyCube$Broadcast", "receive", "(III)V"⟩, 4) := ⟨⟨by decide +kernel, by decide +kernel⟩, List.mem_of_getElem? (i := 119) (by decide +kernel), List.mem_of_getElem? (i := 651) (by decide +kernel), List.mem_of_getElem? (i := 652) (by decide +kernel)⟩
theorem lw_p20 : lw_okq (⟨"FaultyCube$Broadcast", "passOn", "(IJLFaultyCube$Safety;)V"⟩, 4) := ⟨⟨by decide +kernel, by decide +kernel⟩, List.mem_of_getElem? (i := 119) (by decide +kernel), List.mem_of_getElem? (i := 657) (by decide +kernel), List.mem_of_getElem? (i := 658) (by decide +kernel)⟩
theorem lw_p21 : lw_okq (⟨"FaultyCube$PathPacking", "findsPath", "()Z"⟩, 8) := ⟨⟨by decide +kernel, by decide +kernel⟩, List.mem_of_getElem? (i := 139) (by decide +kernel), List.mem_of_getElem? (i := 700) (by decide +kernel), List.mem_of_getElem? (i := 701) (by decide +kernel)⟩
theorem lw_p22 : lw_okq (⟨"FaultyCube$PathPacking", "discover", "(II)V"⟩, 8) := ⟨⟨by decide +kernel, by decide +kernel⟩, List.mem_of_getElem? (i := 139) (by decide +kernel), List.mem_of_getElem? (i := 707) (by decide +kernel), List.mem_of_getElem? (i := 708) (by decide +kernel)⟩
theorem lw_p23 : lw_okq (⟨"FaultyCube$PathPacking", "searchFromEntry", "(I)V"⟩, 8) := ⟨⟨by decide +kernel, by decide +kernel⟩, List.mem_of_getElem? (i := 139) (by decide +kernel), List.mem_of_getElem? (i := 716) (by decide +kernel), List.mem_of_getElem? (i := 717) (by decide +kernel)⟩
theorem lw_p24 : lw_okq (⟨"FaultyCube$PathPacking", "searchFromExit", "(I)V"⟩, 8) := ⟨⟨by decide +kernel, by decide +kernel⟩, List.mem_of_getElem? (i := 139) (by decide +kernel), List.mem_of_getElem? (i := 722) (by decide +kernel), List.mem_of_getElem? (i := 723) (by decide +kernel)⟩
theorem lw_p25 : lw_okq (⟨"FaultyCube$PathPacking", "addPath", "()V"⟩, 8) := ⟨⟨by decide +kernel, by decide +kernel⟩, List.mem_of_getElem? (i := 139) (by decide +kernel), List.mem_of_getElem? (i := 727) (by decide +kernel), List.mem_of_getElem? (i := 728) (by decide +kernel)⟩
theorem lw_p26 : lw_okq (⟨"FaultyCube", "freeBases", "(I)J"⟩, 6) := ⟨⟨by decide +kernel, by decide +kernel⟩, List.mem_of_getElem? (i := 19) (by decide +kernel), List.mem_of_getElem? (i := 738) (by decide +kernel), List.mem_of_getElem? (i := 739) (by decide +kernel)⟩
def lw_privs_2 : List (MethodName × Nat) := [(⟨"FaultyCube", "decision", "(II)I"⟩, 6), (⟨"FaultyCube", "lengthOfRoute", "(II)I"⟩, 6), (⟨"FaultyCube", "nodeOfRoute", "(III)I"⟩, 6), (⟨"FaultyCube$Broadcast", "receive", "(III)V"⟩, 4), (⟨"FaultyCube$Broadcast", "passOn", "(IJLFaultyCube$Safety;)V"⟩, 4), (⟨"FaultyCube$PathPacking", "findsPath", "()Z"⟩, 8), (⟨"FaultyCube$PathPacking", "discover", "(II)V"⟩, 8), (⟨"FaultyCube$PathPacking", "searchFromEntry", "(I)V"⟩, 8), (⟨"FaultyCube$PathPacking", "searchFromExit", "(I)V"⟩, 8), (⟨"FaultyCube$PathPacking", "addPath", "()V"⟩, 8), (⟨"FaultyCube", "freeBases", "(I)J"⟩, 6)]
theorem lw_r2 : ∀ q ∈ lw_privs_2, lw_okq q := List.forall_mem_cons.mpr ⟨lw_p16, List.forall_mem_cons.mpr ⟨lw_p17, List.forall_mem_cons.mpr ⟨lw_p18, List.forall_mem_cons.mpr ⟨lw_p19, List.forall_mem_cons.mpr ⟨lw_p20, List.forall_mem_cons.mpr ⟨lw_p21, List.forall_mem_cons.mpr ⟨lw_p22, List.forall_mem_cons.mpr ⟨lw_p23, List.forall_mem_cons.mpr ⟨lw_p24, List.forall_mem_cons.mpr ⟨lw_p25, List.forall_mem_cons.mpr ⟨lw_p26, fun _ h => absurd h List.not_mem_nil⟩⟩⟩⟩⟩⟩⟩⟩⟩⟩⟩
def lw_privs : List (MethodName × Nat) := lw_privs_1 ++ (lw_privs_2)
def lw_tbl : List Cond := k2_sels lw_privs ++ tables_1
theorem lw_privs_ok : ∀ q ∈ lw_privs, lw_okq q := by
  show ∀ q ∈ lw_privs_1 ++ (lw_privs_2), lw_okq q
  exact List.forall_mem_append.mpr ⟨lw_r1, lw_r2⟩
-- ===== end of PART A; then your names; then what follows =====
/-! ===== BEGIN words of one list among another's, by their places ===== -/
theorem goodIn_r {big : List Cond} (ws : List Cond) (ps : List Nat) (hp : ws = ps.filterMap (fun i => big[i]?)) (h : ws.all goodWord = true) : GoodIn big ws := by
  intro w hw
  have h1 := List.all_eq_true.mp h w hw
  rw [hp] at hw
  obtain ⟨i, -, hi⟩ := List.mem_filterMap.mp hw
  have hm : w ∈ big := by first | exact List.mem_of_getElem? hi | exact List.getElem?_mem hi
  exact ⟨hm, good_of_word h1⟩
theorem goodIn_app {big a b : List Cond} (ha : GoodIn big a) (hb : GoodIn big b) : GoodIn big (a ++ b) := fun w h => (List.mem_append.mp h).elim (ha w) (hb w)
theorem goodIn_ca {big a b : List Cond} {c : Cond} (ha : GoodIn big (c :: a)) (hb : GoodIn big b) : GoodIn big (c :: (a ++ b)) := fun w h => (List.mem_cons.mp h).elim (fun e => ha w (List.mem_cons.mpr (Or.inl e))) (fun h => (List.mem_append.mp h).elim (fun h => ha w (List.mem_cons.mpr (Or.inr h))) (hb w))
theorem goodIn_sub {big ws : List Cond} (hm : ∀ w ∈ ws, w ∈ big) (h : ws.all goodWord = true) : GoodIn big ws := fun w hw => ⟨hm w hw, good_of_word (List.all_eq_true.mp h w hw)⟩
/-! ===== END ===== -/

/-! ===== BEGIN exceptions that leave a method, and their catching by the caller (launches without stack traces) ===== -/
section VXA
/-! The laws vx_back, vx_callV, vx_callS, vx_callSW, vx_throw0, vx_throwS follow proofs of the library, with one case more: JvmDerived/Free/Laws.lean (Back.of_free), Shelf42/LK1.lean (callV, callS), Shelf/KitTraced.lean (throwNew0V, throwNewS). -/
/-- where a method has thrown q: the class by its name, the cell, what was written, the world -/
def vx_T (XC : String → State → State → Prop) (st : State) (q : Addr) (t : State) (mc ms : Nat) (free : Addr → Prop) : Prop :=
  ∃ (E : String) (ce : Cell) (L : List Loc), XC E st t ∧ t.heap[q]? = some ce ∧ ce.vm = .none ∧ st.vm.findClass E = some ce.cls ∧ st.WarmedH t.vm ∧ st.sameButNew ({ t with vm := st.vm } : State) L mc ms ∧ ∀ z ∈ L, free z.base
def vx_Q (Qc : Array Value → State → Outcome → State → Prop) (XC : String → State → State → Prop) (mc ms : Nat) (free : Addr → Prop) : Array Value → State → Outcome → State → Prop := fun a st o t =>
  (Qc a st o t ∧ ∃ L, FrameEnd st o t L mc ms ∧ ∀ q ∈ L, free q.base) ∨ ∃ q, o = .threw q ∧ vx_T XC st q t mc ms free
/-- a callee that returns or throws -/
def vx_Met (l : Launch) (y : MethodName) (ws : List Cond) (rm : Room) (Pc : Array Value → State → Prop) (Qc : Array Value → State → Outcome → State → Prop) (XC : String → State → State → Prop) (mc ms : Nat) (free : Addr → Prop) : Prop :=
  MetFree l y (headSpec ws rm) Pc (fun _ _ _ _ _ => True) (vx_Q Qc XC mc ms free)
def vx_Post (XC : String → State → State → Prop) (mc ms : Nat) (free : Addr → Prop) : Pt → Array Value → Addr → Pt → Prop := fun A a q B =>
  ∃ (g : JFrame) (mk : MethodId) (t : State) (L : List Loc) (E : String) (ce : Cell), B.U.heap = t.heap ∧ B.U.vm = t.vm ∧ XC E (A.U.calling g mk a) t ∧ t.heap[q]? = some ce ∧ ce.vm = .none ∧ A.U.vm.findClass E = some ce.cls ∧ B.locs = A.locs ++ L ∧ (∀ z ∈ L, free z.base) ∧ B.cells = A.cells + mc ∧ B.slots = A.slots + ms
def vx_Back (l : Launch) (R : Room) (p : Program) (e : Env) (below : List Frame) (s : State) (sargs : Array Value) (y : MethodName) (len W9 : Nat)
    (Pre : Pt → Array Value → Prop) (Post : Pt → Array Value → Option Value → Pt → Prop) (PostX : Pt → Array Value → Addr → Pt → Prop) : Prop :=
  ∀ (m : MethodId) (meth : Method) (c : Code) (A : Pt) (g : JFrame) (ig : Instr) (mk : MethodId) (a : Array Value),
    Stand p l e R s m sargs below meth c A.U A.locs A.cells A.slots → g.method = m → g.locals.size = c.maxLocals → decode c.code g.pc = .ok (ig, len) →
    2 * g.monitorRoom + (g.stack.map fun v => v.category).sum ≤ W9 → A.U.methodNamed? y = some mk → Pre A a →
    (∃ (v : Option Value) (B : Pt), Stand p l e R s m sargs below meth c B.U B.locs B.cells B.slots ∧ Post A a v B ∧
      Steps p.tables e below (doInvoke e (A.U.setTop g) [] mk a).1 (B.U.setTop { g with pc := g.pc + len, stack := v.toList ++ g.stack })) ∨
    (∃ (q : Addr) (B : Pt), Stand p l e R s m sargs below meth c B.U B.locs B.cells B.slots ∧ PostX A a q B ∧
      Steps p.tables e below (doInvoke e (A.U.setTop g) [] mk a).1 ((B.U.setTop g).pushFrame (.throwing q)))
section Payer
variable {l : Launch} {R : Room} {p : Program} {e : Env} {below : List Frame} {s : State} {sargs : Array Value} {y : MethodName} {len W9 : Nat}
theorem vx_back {ws : List Cond} {rm : Room} {Pc : Array Value → State → Prop} {Qc : Array Value → State → Outcome → State → Prop} {XC : String → State → State → Prop} {mc ms : Nat} {free : Addr → Prop} {bytes : ByteArray} {maxL : Nat} {ret : Option FieldType}
    (hM : vx_Met l y ws rm Pc Qc XC mc ms free) (hblind : FrameBlind Pc) (hrc : rm.cells = mc) (hrs : rm.slots = ms)
    (hframes : rm.frames + 1 ≤ R.frames) (hlocals : W9 + (maxL + 11) + rm.locals ≤ R.locals)
    (hws : ∀ w ∈ ws, ∀ a' U, s.WarmedH U.vm → w.before a' U = true) (hcode : Cond.code y bytes maxL ret ∈ ws) (hinit : ∀ a' U, s.WarmedH U.vm → (Cond.initialized y.cls).before a' U = true) :
    vx_Back l R p e below s sargs y len W9 (PreOf R mc ms Pc) (PostOf Qc mc ms free) (vx_Post XC mc ms free) := by
  intro m meth c A g ig mk a X hg hsize hdg hW hn hp
  have h1 : (headSpec ws rm).pre.before a A.U = true := atoms_intro fun w hw => hws w hw _ _ X.warmed
  have h2 : (Cond.code y bytes maxL ret).before a A.U = true := hws _ hcode _ _ X.warmed
  have h3 : (Cond.initialized y.cls).before a A.U = true := hinit _ _ X.warmed
  have h4 : A.cells + (headSpec ws rm).room.cells ≤ R.cells := by rw [show (headSpec ws rm).room.cells = mc from hrc]; exact hp.1
  have h5 : A.slots + (headSpec ws rm).room.slots ≤ R.slots := by rw [show (headSpec ws rm).room.slots = ms from hrs]; exact hp.2.1
  have hPc : Pc a (A.U.calling g mk a) := hblind _ _ _ _ hp.2.2
  obtain ⟨U, Ls, c0, s0⟩ := A
  dsimp only [Pt.U, Pt.locs, Pt.cells, Pt.slots] at h1 h2 h3 h4 h5 X hn hPc ⊢
  obtain ⟨methY, cY, hmY, hcY, -, hlY, -, -, -, -⟩ := Cond.code_spec hn h2
  obtain ⟨kY, hkY, -⟩ := className_of_methodNamed hn
  have hinitY : kY.init = .initialized := Cond.initialized_spec (findClass_of_methodNamed hn) hkY h3
  have h : At U g.method c below := by rw [hg]; exact X.here
  have hlocals9 : W9 + (maxL + 11) + (headSpec ws rm).room.locals ≤ R.locals := hlocals
  have happ : (headSpec ws rm).appliesLoose y e.platform (U.calling g mk a) = true :=
    Spec.appliesLoose_calling (g := g) h hdg hn hkY hinitY
      (X.room_calling (g := g) (R' := (headSpec ws rm).room) hsize hmY hcY hframes (by rw [hlY]; omega) h4 h5) h1
  obtain ⟨mid, hmid⟩ := h.above
  have hfr : (U.setTop g).frames = (.java g :: mid) ++ below := by rw [State.frames_setTop' g h.top, hmid]; rfl
  obtain ⟨o, s₂, hsteps, -, hend, hq⟩ := Steps.callFree hM p X.admits X.cas X.clock (acts := []) hfr happ hPc trivial
  have hq' : vx_Q Qc XC mc ms free a (U.calling g mk a) o s₂ := hq
  rw [State.frames_setTop' g h.top] at hend
  obtain ⟨g₀, hg0⟩ := Option.isSome_iff_exists.mp h.top
  obtain ⟨r, hr⟩ := State.topJava?_eq_some.mp hg0
  have hr' : (({ U with heap := s₂.heap, slotsUsed := s₂.slotsUsed } : State).setVm s₂.vm).frames = .java g₀ :: r := hr
  rcases hq' with ⟨hqc, L, hfe, hL⟩ | ⟨q, rfl, E, ce, L, hx, hce, hcv, hcl, hW₂, hsm, hL⟩
  · obtain ⟨⟨v, rfl⟩, hW₂, e2, q2, q3, q4, q5, q6⟩ := id hfe
    have e3 : s₂ = ({ (U.calling g mk a).setFrames s₂.frames with heap := s₂.heap, slotsUsed := s₂.slotsUsed } : State).setVm s₂.vm := by
      have : s₂ = ({ s₂ with vm := (U.calling g mk a).vm } : State).setVm s₂.vm := rfl
      rw [e2] at this
      exact this
    obtain ⟨c₂, i₂, len₂, hc₂, hd₂, hf₂⟩ := hend
    have hW' : U.WarmedH s₂.vm := hW₂
    have hcc : c₂ = c := by
      have h1 : s₂.code? g.method = U.code? g.method := by
        rw [State.code?_eq, State.code?_eq, hW'.alike.method?]
      exact Option.some.inj (hc₂.symm.trans (h1.trans h.code))
    subst hcc
    have hlen : len₂ = len := by rw [hdg] at hd₂; cases hd₂; rfl
    subst hlen
    have hs₂ : s₂ = (({ U with heap := s₂.heap, slotsUsed := s₂.slotsUsed } : State).setVm s₂.vm).setTop { g with pc := g.pc + len₂, stack := v.toList ++ g.stack } := by
      refine e3.trans ?_
      rw [hf₂, State.calling_eq h.top, State.setFrames_setFrames, State.setTop_of_frames _ hr', hr]
      rfl
    have hsame : U.sameButNew ({ U with heap := s₂.heap, slotsUsed := s₂.slotsUsed } : State) L mc ms := by
      refine ⟨?_, q2, q3, q4, q5, q6⟩
      obtain ⟨t, ht, -⟩ := State.frames_cons hr
      show ({ U with heap := s₂.heap, slotsUsed := s₂.slotsUsed } : State) = { U.setFrames U.frames with heap := s₂.heap, slotsUsed := s₂.slotsUsed }
      rw [State.setFrames_self ht]
    subst hg
    refine Or.inl ⟨v, ⟨(({ U with heap := s₂.heap, slotsUsed := s₂.slotsUsed } : State).setVm s₂.vm), Ls ++ L, c0 + mc, s0 + ms⟩,
      ⟨X.admits, X.cas, X.clock, X.frames, X.room, X.hears, X.method, X.code, (X.here.setHeapUsed s₂.heap s₂.slotsUsed).setVm hW'.alike, X.tail, State.WarmedH.trans X.warmed hW', X.limits, X.bytes, X.same.trans (hsame.setVm s.vm)⟩,
      ⟨g, mk, s₂, L, rfl, rfl, hqc, rfl, hL, rfl, rfl⟩, ?_⟩
    show Steps p.tables e below _ ((({ U with heap := s₂.heap, slotsUsed := s₂.slotsUsed } : State).setVm s₂.vm).setTop { g with pc := g.pc + len₂, stack := v.toList ++ g.stack })
    rw [← hs₂]
    exact hsteps
  · obtain ⟨e2, q2, q3, q4, q5, q6⟩ := id hsm
    have e3 : s₂ = ({ (U.calling g mk a).setFrames s₂.frames with heap := s₂.heap, slotsUsed := s₂.slotsUsed } : State).setVm s₂.vm := by
      have : s₂ = ({ s₂ with vm := (U.calling g mk a).vm } : State).setVm s₂.vm := rfl
      rw [e2] at this
      exact this
    have hf₂ : s₂.frames = .throwing q :: .java g :: U.frames.tail := hend
    have hW' : U.WarmedH s₂.vm := hW₂
    have hs₂ : s₂ = ((({ U with heap := s₂.heap, slotsUsed := s₂.slotsUsed } : State).setVm s₂.vm).setTop g).pushFrame (.throwing q) := by
      refine e3.trans ?_
      rw [hf₂, State.calling_eq h.top, State.setFrames_setFrames, State.pushFrame, State.frames_setTop _ hr', State.setTop_of_frames _ hr', State.setFrames_setFrames, hr]
      rfl
    have hsame : U.sameButNew ({ U with heap := s₂.heap, slotsUsed := s₂.slotsUsed } : State) L mc ms := by
      refine ⟨?_, q2, q3, q4, q5, q6⟩
      obtain ⟨t, ht, -⟩ := State.frames_cons hr
      show ({ U with heap := s₂.heap, slotsUsed := s₂.slotsUsed } : State) = { U.setFrames U.frames with heap := s₂.heap, slotsUsed := s₂.slotsUsed }
      rw [State.setFrames_self ht]
    subst hg
    refine Or.inr ⟨q, ⟨(({ U with heap := s₂.heap, slotsUsed := s₂.slotsUsed } : State).setVm s₂.vm), Ls ++ L, c0 + mc, s0 + ms⟩,
      ⟨X.admits, X.cas, X.clock, X.frames, X.room, X.hears, X.method, X.code, (X.here.setHeapUsed s₂.heap s₂.slotsUsed).setVm hW'.alike, X.tail, State.WarmedH.trans X.warmed hW', X.limits, X.bytes, X.same.trans (hsame.setVm s.vm)⟩,
      ⟨g, mk, s₂, L, E, ce, rfl, rfl, hx, hce, hcv, hcl, rfl, hL, rfl, rfl⟩, ?_⟩
    show Steps p.tables e below _ (((({ U with heap := s₂.heap, slotsUsed := s₂.slotsUsed } : State).setVm s₂.vm).setTop g).pushFrame (.throwing q))
    rw [← hs₂]
    exact hsteps
end Payer
section Calls
variable {p : Program} {l : Launch} {e : Env} {R : Room} {s : State} {m : MethodId} {args : Array Value} {below : List Frame} {meth : Method} {c : Code} {T : State} {locs : List Loc} {cells slots : Nat}
theorem vx_callV (X : Stand p l e R s m args below meth c T locs cells slots) (hexec : p.tables.exec = Jvm.exec) {own C : String} {index : Nat} {y : MethodName} {bytes : ByteArray} {maxL : Nat} {ret : Option FieldType}
    (hown : s.vm.findClass own = some m.cls) (hlink : (Cond.methodLink own index y).before args s = true) (hinst : (Cond.instanceMethod y).before args s = true) (hsel : (Cond.selects C y y).before args s = true)
    (hcode : (Cond.code y bytes maxL ret).before args s = true) (hy : y.cls ≠ "java/lang/invoke/MethodHandle" ∧ y.cls ≠ "java/lang/invoke/VarHandle")
    {W9 : Nat} {Pre : Pt → Array Value → Prop} {Post : Pt → Array Value → Option Value → Pt → Prop} {PostX : Pt → Array Value → Addr → Pt → Prop} (hK : vx_Back l R p e below s args y 3 W9 Pre Post PostX)
    {b : Addr} {cellB : Cell} (hcell : T.heap[b]? = some cellB) (hobj : cellB.vm.isStatics = false) (hcls : s.vm.findClass C = some cellB.cls)
    {g : JFrame} (hg : g.method = m) (hsize : g.locals.size = c.maxLocals) {argsL rest : List Value} (hlen : ∀ sig, parseMethodDescriptor y.desc = some sig → argsL.length = sig.parameters.length)
    (hstack : g.stack = argsL.reverse ++ .ref b :: rest) (hW : 2 * g.monitorRoom + (rest.map fun v => v.category).sum ≤ W9) (hdg : decode c.code g.pc = .ok (.invokevirtual index, 3))
    (hpre : ∀ vm₁, s.WarmedH vm₁ → Pre ⟨T.setVm vm₁, locs, cells, slots⟩ (Value.ref b :: argsL).toArray) :
    (∃ (v : Option Value) (vm₁ : Vm) (B : Pt), s.WarmedH vm₁ ∧ Stand p l e R s m args below meth c B.U B.locs B.cells B.slots ∧ Post ⟨T.setVm vm₁, locs, cells, slots⟩ (Value.ref b :: argsL).toArray v B ∧
      ∀ target, Steps p.tables e below (B.U.setTop { g with pc := g.pc + 3, stack := v.toList ++ rest }) target → Steps p.tables e below (T.setTop g) target) ∨
    (∃ (q : Addr) (vm₁ : Vm) (B : Pt), s.WarmedH vm₁ ∧ Stand p l e R s m args below meth c B.U B.locs B.cells B.slots ∧ PostX ⟨T.setVm vm₁, locs, cells, slots⟩ (Value.ref b :: argsL).toArray q B ∧
      Steps p.tables e below (T.setTop g) ((B.U.setTop { g with stack := rest }).pushFrame (.throwing q))) := by
  obtain ⟨mk, methM, hnamed, hmethM, hstM, habM⟩ := Cond.instanceMethod_spec hinst
  obtain ⟨methM', cM, hmethM', -, -, -, -, -, -, hsigM⟩ := Cond.code_spec hnamed hcode
  cases hmethM.symm.trans hmethM'
  obtain ⟨c2, r2, m2, q1, q2, q3, q4, kP, hkP, hkPi⟩ := Cond.selects_spec hsel
  cases hcls.symm.trans q1
  cases (State.methodFound?_of_named hnamed hy).symm.trans q2
  cases hnamed.symm.trans q3
  have hselP : selectMethod e.platform s.vm cellB.cls mk = .method mk := by rw [Launch.admits_selectMethod X.admits]; exact q4
  obtain ⟨vm₁, X₁, hstep₁⟩ := X.invokevirtual hexec hown hlink hnamed hmethM hstM hkP hkPi hy (a := b) (cell := cellB) hcell
    (fun z h => by rw [h] at hobj; cases hobj) hselP hmethM habM hkP hkPi (g := g) hg (argsL := argsL) (rest := rest) (hlen _ hsigM) hstack hdg
  rcases hK m meth c ⟨T.setVm vm₁, locs, cells, slots⟩ { g with stack := rest } (.invokevirtual index) mk (Value.ref b :: argsL).toArray X₁ hg hsize hdg hW (X₁.named hnamed) (hpre vm₁ X₁.warmed) with ⟨v, B, X', hpost, hsteps⟩ | ⟨q, B, X', hpost, hsteps⟩
  · exact Or.inl ⟨v, vm₁, B, X₁.warmed, X', hpost, fun target h => hstep₁ _ fun acts => by rw [doInvoke_state]; exact hsteps.trans h⟩
  · exact Or.inr ⟨q, vm₁, B, X₁.warmed, X', hpost, hstep₁ _ fun acts => by rw [doInvoke_state]; exact hsteps⟩
theorem vx_callS (X : Stand p l e R s m args below meth c T locs cells slots) (hexec : p.tables.exec = Jvm.exec) {own : String} {index : Nat} {y : MethodName} {bytes : ByteArray} {maxL : Nat} {ret : Option FieldType}
    (hown : s.vm.findClass own = some m.cls) (hlink : (Cond.methodLink own index y).before args s = true) (hstat : (Cond.static y).before args s = true) (hinit : (Cond.initialized y.cls).before args s = true)
    (hcode : (Cond.code y bytes maxL ret).before args s = true) (hy : y.cls ≠ "java/lang/invoke/MethodHandle" ∧ y.cls ≠ "java/lang/invoke/VarHandle")
    {W9 : Nat} {Pre : Pt → Array Value → Prop} {Post : Pt → Array Value → Option Value → Pt → Prop} {PostX : Pt → Array Value → Addr → Pt → Prop} (hK : vx_Back l R p e below s args y 3 W9 Pre Post PostX)
    {g : JFrame} (hg : g.method = m) (hsize : g.locals.size = c.maxLocals) {argsL rest : List Value} (hlen : ∀ sig, parseMethodDescriptor y.desc = some sig → argsL.length = sig.parameters.length)
    (hstack : g.stack = argsL.reverse ++ rest) (hW : 2 * g.monitorRoom + (rest.map fun v => v.category).sum ≤ W9) (hdg : decode c.code g.pc = .ok (.invokestatic index, 3))
    (hpre : ∀ vm₁, s.WarmedH vm₁ → Pre ⟨T.setVm vm₁, locs, cells, slots⟩ argsL.toArray) :
    (∃ (v : Option Value) (vm₁ : Vm) (B : Pt), s.WarmedH vm₁ ∧ Stand p l e R s m args below meth c B.U B.locs B.cells B.slots ∧ Post ⟨T.setVm vm₁, locs, cells, slots⟩ argsL.toArray v B ∧
      ∀ target, Steps p.tables e below (B.U.setTop { g with pc := g.pc + 3, stack := v.toList ++ rest }) target → Steps p.tables e below (T.setTop g) target) ∨
    (∃ (q : Addr) (vm₁ : Vm) (B : Pt), s.WarmedH vm₁ ∧ Stand p l e R s m args below meth c B.U B.locs B.cells B.slots ∧ PostX ⟨T.setVm vm₁, locs, cells, slots⟩ argsL.toArray q B ∧
      Steps p.tables e below (T.setTop g) ((B.U.setTop { g with stack := rest }).pushFrame (.throwing q))) := by
  obtain ⟨mk, hnamed⟩ := Cond.code_named hcode
  obtain ⟨methM, cM, hmethM, -, -, -, -, -, -, hsigM⟩ := Cond.code_spec hnamed hcode
  have hstatic : methM.isStatic = true := Cond.static_spec hnamed hmethM hstat
  obtain ⟨kP, hkP, -⟩ := className_of_methodNamed hnamed
  have hinitP : kP.init = .initialized := Cond.initialized_spec (findClass_of_methodNamed hnamed) hkP hinit
  obtain ⟨vm₁, X₁, hstep₁⟩ := X.invokestatic hexec hown hlink hnamed hmethM hstatic hkP hinitP hy (g := g) hg (argsL := argsL) (rest := rest) (hlen _ hsigM) hstack hdg
  rcases hK m meth c ⟨T.setVm vm₁, locs, cells, slots⟩ { g with stack := rest } (.invokestatic index) mk argsL.toArray X₁ hg hsize hdg hW (X₁.named hnamed) (hpre vm₁ X₁.warmed) with ⟨v, B, X', hpost, hsteps⟩ | ⟨q, B, X', hpost, hsteps⟩
  · exact Or.inl ⟨v, vm₁, B, X₁.warmed, X', hpost, fun target h => hstep₁ _ fun acts => by rw [doInvoke_state]; exact hsteps.trans h⟩
  · exact Or.inr ⟨q, vm₁, B, X₁.warmed, X', hpost, hstep₁ _ fun acts => by rw [doInvoke_state]; exact hsteps⟩
end Calls
theorem vx_cls {s : State} {T : State} {vm₁ : Vm} {E : String} {k : ClassId} (hW : s.WarmedH vm₁) (h : (T.setVm vm₁).vm.findClass E = some k) : s.vm.findClass E = some k := by
  have h1 : vm₁.findClass E = some k := h
  rw [hW.alike.findClass] at h1
  exact h1
/-- the method's frame g, with q thrown over it -/
def vx_W (p : Program) (l : Launch) (e : Env) (R : Room) (s : State) (m : MethodId) (args : Array Value) (below : List Frame) (meth : Method) (c : Code) (H : Heap) (locs : List Loc) (cells slots : Nat) (Q : State → Prop) (g : JFrame) (q : Addr) : Prop :=
  ∀ T : State, T.heap = H → Stand p l e R s m args below meth c T locs cells slots → ∃ t, Steps p.tables e below ((T.setTop g).pushFrame (.throwing q)) t ∧ Q t
def vx_Run (p : Program) (l : Launch) (e : Env) (R : Room) (s : State) (m : MethodId) (args : Array Value) (below : List Frame) (meth : Method) (c : Code) (H : Heap) (locs : List Loc) (cells slots mc ms : Nat) (g : JFrame) (rest : List Value) (Qa : State → Outcome → State → Prop) (XC : String → State → State → Prop) (free : Addr → Prop) : Prop :=
  ∀ T : State, T.heap = H → Stand p l e R s m args below meth c T locs cells slots →
    (∃ (v : Option Value) (st₀ t T' : State) (L : List Loc), st₀.heap = H ∧ Stand p l e R s m args below meth c T' (locs ++ L) (cells + mc) (slots + ms) ∧ (∀ q ∈ L, free q.base) ∧ T'.heap = t.heap ∧ T'.vm = t.vm ∧ Qa st₀ (.returned v) t ∧
      Goes p e below T g T' { g with pc := g.pc + 3, stack := v.toList ++ rest }) ∨
    (∃ (q : Addr) (st₀ t T' : State) (L : List Loc) (E : String) (ce : Cell), st₀.heap = H ∧ Stand p l e R s m args below meth c T' (locs ++ L) (cells + mc) (slots + ms) ∧ (∀ z ∈ L, free z.base) ∧ T'.heap = t.heap ∧ T'.vm = t.vm ∧ XC E st₀ t ∧ t.heap[q]? = some ce ∧ ce.vm = .none ∧ s.vm.findClass E = some ce.cls ∧
      Steps p.tables e below (T.setTop g) ((T'.setTop { g with stack := rest }).pushFrame (.throwing q)))
def vx_X {S : Type} (px : S → Prop) (B : String → S → State → Prop) (A : Nat → Prop) : String → State → State → Prop := fun E st t => ∃ u : S, px u ∧ B E u t ∧ va_F A st t
section Runs
variable {p : Program} {l : Launch} {e : Env} {R : Room} {s : State} {m : MethodId} {args : Array Value} {below : List Frame} {meth : Method} {c : Code} {H : Heap} {locs : List Loc} {cells slots : Nat}
variable {y : MethodName} {bytes cc : ByteArray} {maxL nL mc ms n index : Nat} {ret : Option FieldType} {ws : List Cond} {rm : Room} {Pc : Array Value → State → Prop} {Qc : Array Value → State → Outcome → State → Prop} {XC : String → State → State → Prop} {free : Addr → Prop} {Ts : List Cond} {own C : String} {b : Addr} {As rest : List Value} {g : JFrame}
theorem vx_callBack (cb : CallB R s args own index y bytes maxL ret ws rm mc ms n) (hM : vx_Met l y ws rm Pc Qc XC mc ms free) (hbl : FrameBlind Pc) : vx_Back l R p e below s args y 3 8 (PreOf R mc ms Pc) (PostOf Qc mc ms free) (vx_Post XC mc ms free) := by
  obtain ⟨hrc, hrs, hfr, hlo, hws, hcw, -, hini, -⟩ := cb
  exact vx_back (bytes := bytes) (maxL := maxL) (ret := ret) hM hbl hrc hrs hfr hlo hws hcw (fun a' U hW => word_at hW (Or.inl (by first | rfl | simp [Cond.onTables, Cond.keeps, Cond.steady])) hini)
theorem vx_runV (S : CallFix p m c cc nL s args Ts own) (hM : vx_Met l y ws rm Pc Qc XC mc ms free) (cw : CallW R s args own C index y bytes maxL ret ws rm mc ms n) (hp : PreV s H C b Pc As)
    (hg : g.method = m) (hn : As.length = n) (hsize : g.locals.size = nL) (hstack : g.stack = As.reverse ++ .ref b :: rest) (hW : 2 * g.monitorRoom + (rest.map fun v => v.category).sum ≤ 8) (hdg : decode cc g.pc = .ok (.invokevirtual index, 3)) (hf : cells + mc ≤ R.cells ∧ slots + ms ≤ R.slots) :
    vx_Run p l e R s m args below meth c H locs cells slots mc ms g rest (Qc (Value.ref b :: As).toArray) XC free := by
  have hK : vx_Back l R p e below s args y 3 8 (PreOf R mc ms Pc) (PostOf Qc mc ms free) (vx_Post XC mc ms free) := vx_callBack cw.1 hM hp.1
  obtain ⟨⟨-, -, -, -, -, -, hcode, -, hy, hlen, hl⟩, hin, hse⟩ := cw
  obtain ⟨hx, hb, hml, ho, -⟩ := S
  obtain ⟨-, ⟨cellB, hcB, hoB, hclB⟩, hPc⟩ := hp
  intro T hT X
  rcases vx_callV X hx (C := C) (bytes := bytes) (maxL := maxL) (ret := ret) ho hl hin hse hcode hy hK (by rw [hT]; exact hcB) hoB hclB hg (hsize.trans hml.symm) (argsL := As) (rest := rest) (fun sig h => hn.trans (hlen sig h)) hstack hW (by rw [hb]; exact hdg)
    (fun vm₁ hW₁ => ⟨hf.1, hf.2, hPc (T.setVm vm₁) hT hW₁⟩) with ⟨v, vm₁, ⟨U', l2, c2, s2⟩, hW₁, X', ⟨g', mk, t, L, e1, e2, hq, h1, hL, h2, h3⟩, st⟩ | ⟨q, vm₁, ⟨U', l2, c2, s2⟩, hW₁, X', ⟨g', mk, t, L, E, ce, e1, e2, hq, hce, hcv, hcl, h1, hL, h2, h3⟩, st⟩
  · dsimp only [Pt.U, Pt.locs, Pt.cells, Pt.slots] at X' e1 e2 h1 h2 h3 st
    subst h1; subst h2; subst h3
    exact Or.inl ⟨v, (T.setVm vm₁).calling g' mk (Value.ref b :: As).toArray, t, U', L, hT, X', hL, e1, e2, hq, st⟩
  · dsimp only [Pt.U, Pt.locs, Pt.cells, Pt.slots] at X' e1 e2 h1 h2 h3 st hcl
    subst h1; subst h2; subst h3
    exact Or.inr ⟨q, (T.setVm vm₁).calling g' mk (Value.ref b :: As).toArray, t, U', L, E, ce, hT, X', hL, e1, e2, hq, hce, hcv, vx_cls hW₁ hcl, st⟩
theorem vx_runS (S : CallFix p m c cc nL s args Ts own) (hM : vx_Met l y ws rm Pc Qc XC mc ms free) (cw : CallB R s args own index y bytes maxL ret ws rm mc ms n ∧ (Cond.static y).before args s = true) (hp : PreS s H Pc As)
    (hg : g.method = m) (hn : As.length = n) (hsize : g.locals.size = nL) (hstack : g.stack = As.reverse ++ rest) (hW : 2 * g.monitorRoom + (rest.map fun v => v.category).sum ≤ 8) (hdg : decode cc g.pc = .ok (.invokestatic index, 3)) (hf : cells + mc ≤ R.cells ∧ slots + ms ≤ R.slots) :
    vx_Run p l e R s m args below meth c H locs cells slots mc ms g rest (Qc As.toArray) XC free := by
  have hK : vx_Back l R p e below s args y 3 8 (PreOf R mc ms Pc) (PostOf Qc mc ms free) (vx_Post XC mc ms free) := vx_callBack cw.1 hM hp.1
  obtain ⟨⟨-, -, -, -, -, -, hcode, hini, hy, hlen, hl⟩, hstt⟩ := cw
  obtain ⟨hx, hb, hml, ho, -⟩ := S
  intro T hT X
  rcases vx_callS X hx (bytes := bytes) (maxL := maxL) (ret := ret) ho hl hstt hini hcode hy hK hg (hsize.trans hml.symm) (argsL := As) (rest := rest) (fun sig h => hn.trans (hlen sig h)) hstack hW (by rw [hb]; exact hdg)
    (fun vm₁ hW₁ => ⟨hf.1, hf.2, hp.2 (T.setVm vm₁) hT hW₁⟩) with ⟨v, vm₁, ⟨U', l2, c2, s2⟩, hW₁, X', ⟨g', mk, t, L, e1, e2, hq, h1, hL, h2, h3⟩, st⟩ | ⟨q, vm₁, ⟨U', l2, c2, s2⟩, hW₁, X', ⟨g', mk, t, L, E, ce, e1, e2, hq, hce, hcv, hcl, h1, hL, h2, h3⟩, st⟩
  · dsimp only [Pt.U, Pt.locs, Pt.cells, Pt.slots] at X' e1 e2 h1 h2 h3 st
    subst h1; subst h2; subst h3
    exact Or.inl ⟨v, (T.setVm vm₁).calling g' mk As.toArray, t, U', L, hT, X', hL, e1, e2, hq, st⟩
  · dsimp only [Pt.U, Pt.locs, Pt.cells, Pt.slots] at X' e1 e2 h1 h2 h3 st hcl
    subst h1; subst h2; subst h3
    exact Or.inr ⟨q, (T.setVm vm₁).calling g' mk As.toArray, t, U', L, E, ce, hT, X', hL, e1, e2, hq, hce, hcv, vx_cls hW₁ hcl, st⟩
end Runs
section Rows
variable {p : Program} {l : Launch} {e : Env} {R : Room} {s : State} {m : MethodId} {args : Array Value} {below : List Frame} {meth : Method} {c : Code} {H : Heap} {locs : List Loc} {cells slots : Nat} {Q : State → Prop}
variable {mc ms : Nat} {free : Addr → Prop} {A0 A1 : Nat → Prop} {H0 : Heap} {a : Array Value} {pc : Nat} {ls : Array Slot} {st0 rest : List Value}
theorem vx_keep {st₀ t T' : State} {L : List Loc} (h0 : st₀.heap = H) (e1 : T'.heap = t.heap) (hS : va_S A0 H0 H locs) (hA : ∀ q, q < H.size → A1 q → A0 q) (hf : ∀ q, free q → A0 q) (hL : ∀ q ∈ L, free q.base) (hF : va_F A1 st₀ t) :
    H.size ≤ T'.heap.size ∧ (∀ q : Nat, q < H.size → ¬ A1 q → T'.heap[q]? = H[q]?) ∧ va_S A0 H0 T'.heap (locs ++ L) := by
  obtain ⟨hz, hk⟩ := hF
  rw [h0] at hz hk
  exact ⟨by rw [e1]; exact hz, fun q h1 h2 => by rw [e1]; exact hk q h1 h2,
    ⟨Nat.le_trans hS.1 (by rw [e1]; exact hz), fun q h1 h2 => by rw [e1, hk q (Nat.lt_of_lt_of_le h1 hS.1) (fun z => h2 (hA q (Nat.lt_of_lt_of_le h1 hS.1) z))]; exact hS.2.1 q h1 h2, fun q hq => by
      rcases List.mem_append.mp hq with h | h
      · exact hS.2.2 q h
      · exact hf _ (hL q h)⟩⟩
theorem vx_calli {S SX : Type} {post : Int32 → S → Prop} {px : SX → Prop} {B : S → State → Prop} {BX : String → SX → State → Prop} {AX : Nat → Prop} (hr : vx_Run p l e R s m args below meth c H locs cells slots mc ms (F0 m pc ls st0) rest (va_Qi post B A1 a) (vx_X px BX AX) free) (hS : va_S A0 H0 H locs) (hA : ∀ q, q < H.size → A1 q → A0 q) (hf : ∀ q, free q → A0 q) (hAX : ∀ q, q < H.size → AX q → A0 q)
    (kx : ∀ (E : String) (ce : Cell) (q9 : Addr) (u : SX) (t : State) (H1 : Heap) (locs1 : List Loc), t.heap = H1 → s.vm.Alike t.vm → px u → BX E u t → H.size ≤ H1.size → (∀ q : Nat, q < H.size → ¬ AX q → H1[q]? = H[q]?) → va_S A0 H0 H1 locs1 → H1[q9]? = some ce → ce.vm = .none → s.vm.findClass E = some ce.cls → vx_W p l e R s m args below meth c H1 locs1 (cells + mc) (slots + ms) Q (F0 m pc ls rest) q9)
    (kk : ∀ (r : Int32) (u : S) (t : State) (H1 : Heap) (locs1 : List Loc), t.heap = H1 → s.vm.Alike t.vm → post r u → B u t → H.size ≤ H1.size → (∀ q : Nat, q < H.size → ¬ A1 q → H1[q]? = H[q]?) → va_S A0 H0 H1 locs1 → W p l e R s m args below meth c H1 locs1 (cells + mc) (slots + ms) Q (F0 m (pc + 3) ls (.int r :: rest))) : W p l e R s m args below meth c H locs cells slots Q (F0 m pc ls st0) := by
  intro T hT X
  rcases hr T hT X with ⟨v, st₀, t, T', L, h0, X', hL, e1, e2, ⟨⟨r, u, hv, hp, hb⟩, hF⟩, st⟩ | ⟨q, st₀, t, T', L, E, ce, h0, X', hL, e1, e2, ⟨u, hp, hb, hF⟩, hce, hcv, hcl, st⟩
  · cases hv
    obtain ⟨k1, k2, k3⟩ := vx_keep h0 e1 hS hA hf hL hF
    obtain ⟨t2, a1, b1⟩ := kk r u t T'.heap (locs ++ L) e1.symm (by rw [← e2]; exact X'.warmed.alike) hp hb k1 k2 k3 T' rfl X'
    exact ⟨t2, st t2 a1, b1⟩
  · obtain ⟨k1, k2, k3⟩ := vx_keep h0 e1 hS hAX hf hL hF
    obtain ⟨t2, a1, b1⟩ := kx E ce q u t T'.heap (locs ++ L) e1.symm (by rw [← e2]; exact X'.warmed.alike) hp hb k1 k2 k3 (by rw [e1]; exact hce) hcv hcl T' rfl X'
    exact ⟨t2, st.trans a1, b1⟩
theorem vx_calll {S SX : Type} {post : Int64 → S → Prop} {px : SX → Prop} {B : S → State → Prop} {BX : String → SX → State → Prop} {AX : Nat → Prop} (hr : vx_Run p l e R s m args below meth c H locs cells slots mc ms (F0 m pc ls st0) rest (va_Ql post B A1 a) (vx_X px BX AX) free) (hS : va_S A0 H0 H locs) (hA : ∀ q, q < H.size → A1 q → A0 q) (hf : ∀ q, free q → A0 q) (hAX : ∀ q, q < H.size → AX q → A0 q)
    (kx : ∀ (E : String) (ce : Cell) (q9 : Addr) (u : SX) (t : State) (H1 : Heap) (locs1 : List Loc), t.heap = H1 → s.vm.Alike t.vm → px u → BX E u t → H.size ≤ H1.size → (∀ q : Nat, q < H.size → ¬ AX q → H1[q]? = H[q]?) → va_S A0 H0 H1 locs1 → H1[q9]? = some ce → ce.vm = .none → s.vm.findClass E = some ce.cls → vx_W p l e R s m args below meth c H1 locs1 (cells + mc) (slots + ms) Q (F0 m pc ls rest) q9)
    (kk : ∀ (r : Int64) (u : S) (t : State) (H1 : Heap) (locs1 : List Loc), t.heap = H1 → s.vm.Alike t.vm → post r u → B u t → H.size ≤ H1.size → (∀ q : Nat, q < H.size → ¬ A1 q → H1[q]? = H[q]?) → va_S A0 H0 H1 locs1 → W p l e R s m args below meth c H1 locs1 (cells + mc) (slots + ms) Q (F0 m (pc + 3) ls (.long r :: rest))) : W p l e R s m args below meth c H locs cells slots Q (F0 m pc ls st0) := by
  intro T hT X
  rcases hr T hT X with ⟨v, st₀, t, T', L, h0, X', hL, e1, e2, ⟨⟨r, u, hv, hp, hb⟩, hF⟩, st⟩ | ⟨q, st₀, t, T', L, E, ce, h0, X', hL, e1, e2, ⟨u, hp, hb, hF⟩, hce, hcv, hcl, st⟩
  · cases hv
    obtain ⟨k1, k2, k3⟩ := vx_keep h0 e1 hS hA hf hL hF
    obtain ⟨t2, a1, b1⟩ := kk r u t T'.heap (locs ++ L) e1.symm (by rw [← e2]; exact X'.warmed.alike) hp hb k1 k2 k3 T' rfl X'
    exact ⟨t2, st t2 a1, b1⟩
  · obtain ⟨k1, k2, k3⟩ := vx_keep h0 e1 hS hAX hf hL hF
    obtain ⟨t2, a1, b1⟩ := kx E ce q u t T'.heap (locs ++ L) e1.symm (by rw [← e2]; exact X'.warmed.alike) hp hb k1 k2 k3 (by rw [e1]; exact hce) hcv hcl T' rfl X'
    exact ⟨t2, st.trans a1, b1⟩
theorem vx_callf {S SX : Type} {post : UInt32 → S → Prop} {px : SX → Prop} {B : S → State → Prop} {BX : String → SX → State → Prop} {AX : Nat → Prop} (hr : vx_Run p l e R s m args below meth c H locs cells slots mc ms (F0 m pc ls st0) rest (va_Qf post B A1 a) (vx_X px BX AX) free) (hS : va_S A0 H0 H locs) (hA : ∀ q, q < H.size → A1 q → A0 q) (hf : ∀ q, free q → A0 q) (hAX : ∀ q, q < H.size → AX q → A0 q)
    (kx : ∀ (E : String) (ce : Cell) (q9 : Addr) (u : SX) (t : State) (H1 : Heap) (locs1 : List Loc), t.heap = H1 → s.vm.Alike t.vm → px u → BX E u t → H.size ≤ H1.size → (∀ q : Nat, q < H.size → ¬ AX q → H1[q]? = H[q]?) → va_S A0 H0 H1 locs1 → H1[q9]? = some ce → ce.vm = .none → s.vm.findClass E = some ce.cls → vx_W p l e R s m args below meth c H1 locs1 (cells + mc) (slots + ms) Q (F0 m pc ls rest) q9)
    (kk : ∀ (r : UInt32) (u : S) (t : State) (H1 : Heap) (locs1 : List Loc), t.heap = H1 → s.vm.Alike t.vm → post r u → B u t → H.size ≤ H1.size → (∀ q : Nat, q < H.size → ¬ A1 q → H1[q]? = H[q]?) → va_S A0 H0 H1 locs1 → W p l e R s m args below meth c H1 locs1 (cells + mc) (slots + ms) Q (F0 m (pc + 3) ls (.float r :: rest))) : W p l e R s m args below meth c H locs cells slots Q (F0 m pc ls st0) := by
  intro T hT X
  rcases hr T hT X with ⟨v, st₀, t, T', L, h0, X', hL, e1, e2, ⟨⟨r, u, hv, hp, hb⟩, hF⟩, st⟩ | ⟨q, st₀, t, T', L, E, ce, h0, X', hL, e1, e2, ⟨u, hp, hb, hF⟩, hce, hcv, hcl, st⟩
  · cases hv
    obtain ⟨k1, k2, k3⟩ := vx_keep h0 e1 hS hA hf hL hF
    obtain ⟨t2, a1, b1⟩ := kk r u t T'.heap (locs ++ L) e1.symm (by rw [← e2]; exact X'.warmed.alike) hp hb k1 k2 k3 T' rfl X'
    exact ⟨t2, st t2 a1, b1⟩
  · obtain ⟨k1, k2, k3⟩ := vx_keep h0 e1 hS hAX hf hL hF
    obtain ⟨t2, a1, b1⟩ := kx E ce q u t T'.heap (locs ++ L) e1.symm (by rw [← e2]; exact X'.warmed.alike) hp hb k1 k2 k3 (by rw [e1]; exact hce) hcv hcl T' rfl X'
    exact ⟨t2, st.trans a1, b1⟩
theorem vx_calld {S SX : Type} {post : UInt64 → S → Prop} {px : SX → Prop} {B : S → State → Prop} {BX : String → SX → State → Prop} {AX : Nat → Prop} (hr : vx_Run p l e R s m args below meth c H locs cells slots mc ms (F0 m pc ls st0) rest (va_Qd post B A1 a) (vx_X px BX AX) free) (hS : va_S A0 H0 H locs) (hA : ∀ q, q < H.size → A1 q → A0 q) (hf : ∀ q, free q → A0 q) (hAX : ∀ q, q < H.size → AX q → A0 q)
    (kx : ∀ (E : String) (ce : Cell) (q9 : Addr) (u : SX) (t : State) (H1 : Heap) (locs1 : List Loc), t.heap = H1 → s.vm.Alike t.vm → px u → BX E u t → H.size ≤ H1.size → (∀ q : Nat, q < H.size → ¬ AX q → H1[q]? = H[q]?) → va_S A0 H0 H1 locs1 → H1[q9]? = some ce → ce.vm = .none → s.vm.findClass E = some ce.cls → vx_W p l e R s m args below meth c H1 locs1 (cells + mc) (slots + ms) Q (F0 m pc ls rest) q9)
    (kk : ∀ (r : UInt64) (u : S) (t : State) (H1 : Heap) (locs1 : List Loc), t.heap = H1 → s.vm.Alike t.vm → post r u → B u t → H.size ≤ H1.size → (∀ q : Nat, q < H.size → ¬ A1 q → H1[q]? = H[q]?) → va_S A0 H0 H1 locs1 → W p l e R s m args below meth c H1 locs1 (cells + mc) (slots + ms) Q (F0 m (pc + 3) ls (.double r :: rest))) : W p l e R s m args below meth c H locs cells slots Q (F0 m pc ls st0) := by
  intro T hT X
  rcases hr T hT X with ⟨v, st₀, t, T', L, h0, X', hL, e1, e2, ⟨⟨r, u, hv, hp, hb⟩, hF⟩, st⟩ | ⟨q, st₀, t, T', L, E, ce, h0, X', hL, e1, e2, ⟨u, hp, hb, hF⟩, hce, hcv, hcl, st⟩
  · cases hv
    obtain ⟨k1, k2, k3⟩ := vx_keep h0 e1 hS hA hf hL hF
    obtain ⟨t2, a1, b1⟩ := kk r u t T'.heap (locs ++ L) e1.symm (by rw [← e2]; exact X'.warmed.alike) hp hb k1 k2 k3 T' rfl X'
    exact ⟨t2, st t2 a1, b1⟩
  · obtain ⟨k1, k2, k3⟩ := vx_keep h0 e1 hS hAX hf hL hF
    obtain ⟨t2, a1, b1⟩ := kx E ce q u t T'.heap (locs ++ L) e1.symm (by rw [← e2]; exact X'.warmed.alike) hp hb k1 k2 k3 (by rw [e1]; exact hce) hcv hcl T' rfl X'
    exact ⟨t2, st.trans a1, b1⟩
theorem vx_callv {S SX : Type} {post : S → Prop} {px : SX → Prop} {B : S → State → Prop} {BX : String → SX → State → Prop} {AX : Nat → Prop} (hr : vx_Run p l e R s m args below meth c H locs cells slots mc ms (F0 m pc ls st0) rest (va_Qv post B A1 a) (vx_X px BX AX) free) (hS : va_S A0 H0 H locs) (hA : ∀ q, q < H.size → A1 q → A0 q) (hf : ∀ q, free q → A0 q) (hAX : ∀ q, q < H.size → AX q → A0 q)
    (kx : ∀ (E : String) (ce : Cell) (q9 : Addr) (u : SX) (t : State) (H1 : Heap) (locs1 : List Loc), t.heap = H1 → s.vm.Alike t.vm → px u → BX E u t → H.size ≤ H1.size → (∀ q : Nat, q < H.size → ¬ AX q → H1[q]? = H[q]?) → va_S A0 H0 H1 locs1 → H1[q9]? = some ce → ce.vm = .none → s.vm.findClass E = some ce.cls → vx_W p l e R s m args below meth c H1 locs1 (cells + mc) (slots + ms) Q (F0 m pc ls rest) q9)
    (kk : ∀ (u : S) (t : State) (H1 : Heap) (locs1 : List Loc), t.heap = H1 → s.vm.Alike t.vm → post u → B u t → H.size ≤ H1.size → (∀ q : Nat, q < H.size → ¬ A1 q → H1[q]? = H[q]?) → va_S A0 H0 H1 locs1 → W p l e R s m args below meth c H1 locs1 (cells + mc) (slots + ms) Q (F0 m (pc + 3) ls (rest))) : W p l e R s m args below meth c H locs cells slots Q (F0 m pc ls st0) := by
  intro T hT X
  rcases hr T hT X with ⟨v, st₀, t, T', L, h0, X', hL, e1, e2, ⟨⟨u, hv, hp, hb⟩, hF⟩, st⟩ | ⟨q, st₀, t, T', L, E, ce, h0, X', hL, e1, e2, ⟨u, hp, hb, hF⟩, hce, hcv, hcl, st⟩
  · cases hv
    obtain ⟨k1, k2, k3⟩ := vx_keep h0 e1 hS hA hf hL hF
    obtain ⟨t2, a1, b1⟩ := kk u t T'.heap (locs ++ L) e1.symm (by rw [← e2]; exact X'.warmed.alike) hp hb k1 k2 k3 T' rfl X'
    exact ⟨t2, st t2 a1, b1⟩
  · obtain ⟨k1, k2, k3⟩ := vx_keep h0 e1 hS hAX hf hL hF
    obtain ⟨t2, a1, b1⟩ := kx E ce q u t T'.heap (locs ++ L) e1.symm (by rw [← e2]; exact X'.warmed.alike) hp hb k1 k2 k3 (by rw [e1]; exact hce) hcv hcl T' rfl X'
    exact ⟨t2, st.trans a1, b1⟩
/-- caught by the row x of this method's table; the rows ahead don't take it -/
theorem vx_catch {own name : String} {E : String} {ce : Cell} {q : Addr} (hown : s.vm.findClass own = some m.cls) (pre : List ExceptionTableEntry) (x : ExceptionTableEntry) (suf : List ExceptionTableEntry) (hsplit : c.exceptionTable.toList = pre ++ x :: suf)
    (hpass : ∀ z ∈ pre, covers z pc = false ∨ (z.catchType ≠ 0 ∧ ∃ nm : String, (Cond.classLink own z.catchType nm).before args s = true ∧ va_Nc E nm s)) (hx : covers x pc = true) (h0 : x.catchType ≠ 0)
    (hlink : (Cond.classLink own x.catchType name).before args s = true) (hcast : (Cond.castable E name).before args s = true) (hcell : H[q]? = some ce) (hv : ce.vm = .none) (hcl : s.vm.findClass E = some ce.cls)
    (kk : W p l e R s m args below meth c H locs cells slots Q (F0 m x.handlerPc ls [.ref q])) : vx_W p l e R s m args below meth c H locs cells slots Q (F0 m pc ls rest) q := by
  intro T hT X
  have hpl : e.platform.magicAccessors = ({} : Platform).magicAccessors := by rw [X.admits.platform]
  obtain ⟨c3, c4, hc3, hc4, hasg⟩ := Cond.castable_spec hcast
  cases Option.some.inj (hc3.symm.trans hcl)
  obtain ⟨c5, hc5, hcl5⟩ := Cond.classLink_spec hown hlink e.platform hpl
  cases Option.some.inj (hc4.symm.trans hc5)
  obtain ⟨vm', X', st⟩ := X.thenCaughtThrough q (g := F0 m pc ls rest) rfl (Steps.refl _) (by rw [hT]; exact hcell) (by rw [hv]; rfl) (by obtain ⟨k9, h9, -⟩ := Vm.findClass_spec hcl; exact ⟨k9, h9⟩) pre x suf hsplit
    (fun z hz => by
      rcases hpass z hz with h | ⟨hz0, nm, hl1, hn1⟩
      · exact Or.inl h
      · obtain ⟨c6, hc6, hcl6⟩ := Cond.classLink_spec hown hl1 e.platform hpl
        obtain ⟨a8, b8, h1, h2, h3⟩ := hn1
        cases Option.some.inj (h1.symm.trans hcl)
        cases Option.some.inj (h2.symm.trans hc6)
        exact Or.inr ⟨hz0, _, hcl6, h3⟩) hx (Or.inr ⟨h0, c4, hcl5, hasg⟩)
  obtain ⟨t, a1, b1⟩ := kk (T.setVm vm') hT X'
  exact ⟨t, st.trans a1, b1⟩
end Rows
section Ends
variable {p : Program} {l : Launch} {e : Env} {R : Room} {s : State} {m : MethodId} {args : Array Value} {below : List Frame} {meth : Method} {c : Code} {H : Heap} {locs : List Loc} {cells slots : Nat} {Q : State → Prop}
variable {mc ms : Nat} {free : Addr → Prop} {A0 A1 : Nat → Prop} {H0 : Heap} {a : Array Value} {ls : Array Slot} {st0 rest : List Value}
variable {Qc : Array Value → State → Outcome → State → Prop} {XC : String → State → State → Prop}
/-- what a body that may throw owes at its end -/
def vx_MQ (below : List Frame) (Qc : Array Value → State → Outcome → State → Prop) (XC : String → State → State → Prop) (a : Array Value) (s : State) (mc ms : Nat) (free : Addr → Prop) : State → Prop := fun t =>
  ∃ o, t.status = .running ∧ Ended t below o ∧ vx_Q Qc XC mc ms free a s o t
theorem vx_ret {g : JFrame} {mc ms : Nat} (k : W p l e R s m args below meth c H locs cells slots (MQ below Qc args s mc ms free) g) : W p l e R s m args below meth c H locs cells slots (vx_MQ below Qc XC args s mc ms free) g := by
  intro T hT X
  obtain ⟨t, a1, o, b1, b2, b3, b4⟩ := k T hT X
  exact ⟨t, a1, o, b1, b2, Or.inl ⟨b3, b4⟩⟩
/-- not caught here: it goes on to the caller -/
theorem vx_widen {g : JFrame} {q : Addr} {k n : Nat} (h1 : cells ≤ k) (h2 : slots ≤ n) (kk : vx_W p l e R s m args below meth c H locs k n Q g q) : vx_W p l e R s m args below meth c H locs cells slots Q g q := fun T hT X => kk T hT (stand_widen X h1 h2)
theorem vx_out {pc : Nat} {E : String} {ce : Cell} {q : Addr} {mc ms : Nat} (hout : ∀ x ∈ c.exceptionTable.toList, covers x pc = false) (hlocks : meth.locks = false) (hcell : H[q]? = some ce) (hv : ce.vm = .none) (hcl : s.vm.findClass E = some ce.cls)
    (hx : ∀ t : State, t.heap = H → s.vm.Alike t.vm → XC E s t) (hf : ∀ z ∈ locs, free z.base) (hc : cells ≤ mc) (hs : slots ≤ ms) :
    vx_W p l e R s m args below meth c H locs cells slots (vx_MQ below Qc XC args s mc ms free) (F0 m pc ls rest) q := by
  intro T hT X
  obtain ⟨st1, hrun, hend, hW, hsm⟩ := X.leaveThrown q (g := F0 m pc ls rest) rfl rfl rfl hout hlocks
  have hcell9 : (T.setFrames (.throwing q :: below)).heap[q]? = some ce := by
    show T.heap[q]? = some ce
    rw [hT]; exact hcell
  exact ⟨_, st1, .threw q, hrun, hend, Or.inr ⟨q, rfl, E, ce, locs, hx _ hT hW.alike, hcell9, hv, hcl, hW, hsm.mono hc hs, hf⟩⟩
theorem vx_frame {U : State} {k n : Nat} (h : s.sameButNew ({ U with vm := s.vm } : State) locs k n) : s.heap.size ≤ U.heap.size ∧ ∀ q : Nat, q < s.heap.size → (∀ z ∈ locs, z.base ≠ q) → U.heap[q]? = s.heap[q]? := by
  obtain ⟨-, h2, -, -, -, h6⟩ := h
  refine ⟨h2, fun q hq hz => ?_⟩
  obtain ⟨c9, e1, e2, e3, e4⟩ := h6 q _ (Array.getElem?_eq_getElem hq)
  have hs : c9.slots = (s.heap[q]).slots := Array.ext_getElem? fun i => e4 i fun hm => hz _ hm rfl
  have h9 : c9 = s.heap[q] := by
    rw [hs] at e2
    exact e2
  have e5 : U.heap[q]? = some c9 := e1
  rw [e5, h9, Array.getElem?_eq_getElem hq]
/-- the words of a throw but the four that speak of the heap -/
def vx_no (w : Cond) : Bool := decide (w ≠ .isRef (.static Bundle.tN "UNASSIGNED_STACK" Bundle.steD)) && decide (w ≠ .isRef (.static Bundle.tN "SUPPRESSED_SENTINEL" Bundle.listD)) && decide (w ≠ .laysStatic Bundle.tN "UNASSIGNED_STACK" Bundle.steD) && decide (w ≠ .laysStatic Bundle.tN "SUPPRESSED_SENTINEL" Bundle.listD)
def vx_at0 (own : String) (ic : Nat) (X : String) (names : List String) : List Cond := (Bundle.ownAtoms0 own ic X names).filter vx_no
def vx_atS (own : String) (ic : Nat) (X : String) (names : List String) : List Cond := (Bundle.ownAtoms own ic X names).filter vx_no
/-- a word that the tables alone decide, or a good one -/
def vx_ot (w : Cond) : Bool := w.onTables || goodWord w
theorem vx_ot_at {args a' : Array Value} {s U : State} {w : Cond} (hW : s.WarmedH U.vm) (hvm : s.vm = U.vm) (hg : vx_ot w = true) (h : w.before args s = true) : w.before a' U = true := by
  simp only [vx_ot, Bool.or_eq_true] at hg
  rcases hg with hg | hg
  · exact va_tabs hg hvm h
  · exact word_at hW (good_of_word hg) h
/-- a list's words: the good ones out of the method's own list, the others by premises of their own -/
theorem vx_hat {args : Array Value} {s : State} {L B : List Cond} (h1 : ∀ w ∈ L.filter goodWord, w.before args s = true) (h2 : ∀ w ∈ L.filter (fun w => !goodWord w), w ∈ B) (h3 : ∀ w ∈ B, w.before args s = true) : ∀ w ∈ L, w.before args s = true := by
  intro w hw
  by_cases g : goodWord w = true
  · exact h1 w (List.mem_filter.mpr ⟨hw, g⟩)
  · refine h3 w (h2 w (List.mem_filter.mpr ⟨hw, ?_⟩))
    show (!goodWord w) = true
    cases hgw : goodWord w
    · rfl
    · exact absurd hgw g
theorem vx_c {args : Array Value} {s : State} {w : Cond} {B : List Cond} (h : w.before args s = true) (t : ∀ w ∈ B, w.before args s = true) : ∀ w' ∈ w :: B, w'.before args s = true := fun w' h' => (List.mem_cons.mp h').elim (fun e => by rw [e]; exact h) (t w')
theorem vx_n {args : Array Value} {s : State} : ∀ w ∈ ([] : List Cond), w.before args s = true := fun _ h => nomatch h
theorem vx_own {args : Array Value} {s : State} {L : List Cond} (h1 : ∀ w ∈ L.filter vx_no, w.before args s = true)
    (hU : (Cond.isRef (.static Bundle.tN "UNASSIGNED_STACK" Bundle.steD)).before args s = true) (hN : (Cond.isRef (.static Bundle.tN "SUPPRESSED_SENTINEL" Bundle.listD)).before args s = true)
    (lU : (Cond.laysStatic Bundle.tN "UNASSIGNED_STACK" Bundle.steD).before args s = true) (lN : (Cond.laysStatic Bundle.tN "SUPPRESSED_SENTINEL" Bundle.listD).before args s = true) : ∀ w ∈ L, w.before args s = true := by
  intro w hw
  by_cases e1 : w = .isRef (.static Bundle.tN "UNASSIGNED_STACK" Bundle.steD)
  · rw [e1]; exact hU
  · by_cases e2 : w = .isRef (.static Bundle.tN "SUPPRESSED_SENTINEL" Bundle.listD)
    · rw [e2]; exact hN
    · by_cases e3 : w = .laysStatic Bundle.tN "UNASSIGNED_STACK" Bundle.steD
      · rw [e3]; exact lU
      · by_cases e4 : w = .laysStatic Bundle.tN "SUPPRESSED_SENTINEL" Bundle.listD
        · rw [e4]; exact lN
        · exact h1 w (List.mem_filter.mpr ⟨hw, by unfold vx_no; rw [decide_eq_true e1, decide_eq_true e2, decide_eq_true e3, decide_eq_true e4]; rfl⟩)
/-- where a static field lies, its class's statics cell in H -/
def vx_L (C n d : String) (A : Nat → Prop) (U : State) (H : Heap) : Prop := ∃ (c : ClassId) (k : Class) (i : Nat) (f : Field) (a : Nat) (cell : Cell), U.vm.findClass C = some c ∧ U.fieldFound? C n d = some (c, k, i, f) ∧ f.isStatic = true ∧ k.statics = some a ∧ H[a]? = some cell ∧ cell.vm.isStatics = true ∧ cell.cls = c ∧ f.slot < cell.slots.size ∧ k.staticTypes[f.slot]? = some f.type ∧ ¬ A a
theorem vx_L.moved {C n d : String} {A : Nat → Prop} {u U : State} {H : Heap} (hvm : u.vm.Alike U.vm) (h : vx_L C n d A u H) : vx_L C n d A U H := by
  obtain ⟨c, k, i, f, a, cell, h1, h2, h3, h4, h5, h6, h7, h8, h9, h10⟩ := h
  obtain ⟨k', hi', he⟩ := State.fieldFound?_setVm hvm h2
  exact ⟨c, k', i, f, a, cell, by rw [hvm.findClass]; exact h1, hi', h3, by rw [he]; exact h4, h5, h6, h7, h8, by rw [he]; exact h9, h10⟩
theorem vx_L.kept {C n d : String} {A : Nat → Prop} {U : State} {H H1 : Heap} (h : vx_L C n d A U H) (hq : ∀ a : Nat, a < H.size → ¬ A a → H1[a]? = H[a]?) : vx_L C n d A U H1 := by
  obtain ⟨c, k, i, f, a, cell, h1, h2, h3, h4, h5, h6, h7, h8, h9, h10⟩ := h
  exact ⟨c, k, i, f, a, cell, h1, h2, h3, h4, by rw [hq a (Array.getElem?_eq_some_iff.mp h5).1 h10]; exact h5, h6, h7, h8, h9, h10⟩
theorem vx_L.narrow {C n d : String} {A B : Nat → Prop} {U : State} {H : Heap} (h : vx_L C n d A U H) (hAB : ∀ q, B q → A q) : vx_L C n d B U H := by
  obtain ⟨c, k, i, f, a, cell, h1, h2, h3, h4, h5, h6, h7, h8, h9, h10⟩ := h
  exact ⟨c, k, i, f, a, cell, h1, h2, h3, h4, h5, h6, h7, h8, h9, fun z => h10 (hAB _ z)⟩
theorem vx_L.word {C n d : String} {A : Nat → Prop} {s : State} {args : Array Value} (h : vx_L C n d A s s.heap) : (Cond.laysStatic C n d).before args s = true := by
  obtain ⟨c, k, i, f, a, cell, h1, h2, h3, h4, h5, h6, h7, h8, h9, -⟩ := h
  show (Cond.laysStatic C n d).holds args s none s [] = true
  exact Cond.laysStatic_of h1 h2 h3 h4 h5 h6 h7 h8 h9
/-- .. and what it holds: null or some reference -/
def vx_Zq (C n d : String) (A : Nat → Prop) (U : State) (H : Heap) : Prop := va_Zq C n d A U H ∧ vx_L C n d A U H
theorem vx_Zq.moved {C n d : String} {A : Nat → Prop} {u U : State} {H : Heap} (hvm : u.vm.Alike U.vm) (h : vx_Zq C n d A u H) : vx_Zq C n d A U H := ⟨va_Zq.moved hvm h.1, vx_L.moved hvm h.2⟩
theorem vx_Zq.kept {C n d : String} {A : Nat → Prop} {U : State} {H H1 : Heap} (h : vx_Zq C n d A U H) (hq : ∀ a : Nat, a < H.size → ¬ A a → H1[a]? = H[a]?) : vx_Zq C n d A U H1 := ⟨va_Zq.kept h.1 hq, vx_L.kept h.2 hq⟩
theorem vx_Zq.narrow {C n d : String} {A B : Nat → Prop} {U : State} {H : Heap} (h : vx_Zq C n d A U H) (hAB : ∀ q, B q → A q) : vx_Zq C n d B U H := ⟨va_Zq.narrow h.1 hAB, vx_L.narrow h.2 hAB⟩
theorem vx_Zqof {args : Array Value} {s : State} {C n d : String} {A : Nat → Prop} (hl : (Cond.laysStatic C n d).before args s = true) (hini : (Cond.initialized C).before args s = true) (h : (Cond.isRef (.static C n d)).before args s = true) (hA : ∀ a : Nat, a < s.heap.size → ¬ A a) : vx_Zq C n d A s s.heap := by
  refine ⟨va_Zqof hl hini h hA, ?_⟩
  obtain ⟨c, k, i, f, a, cell, h1, h2, h3, h4, h5, h6, h7, h8, h9⟩ := Cond.laysStatic_spec hl
  exact ⟨c, k, i, f, a, cell, h1, h2, h3, h4, h5, h6, h7, h8, h9, hA a (Array.getElem?_eq_some_iff.mp h5).1⟩
theorem vx_isRef {C n d : String} {v : Value} {A : Nat → Prop} {s : State} {args : Array Value} (h : va_Z C n d v A s s.heap) (hv : v.isRef = true) : (Cond.isRef (.static C n d)).before args s = true := by
  obtain ⟨cf, kf, fi, f, a, cell, h1, h2, h3, h4, h5, h6, h7, -⟩ := h
  have he : (Term.static C n d).eval args s none [] s = some v := by
    simp [Term.eval, State.fieldNamed?, h1, h2, h4, h5, h6, h7]
  simp only [Cond.before, Cond.holds, Cond.value, he]
  cases v <;> simp_all [Value.isRef]
theorem vx_isRefq {C n d : String} {A : Nat → Prop} {s : State} {args : Array Value} (h : va_Zq C n d A s s.heap) : (Cond.isRef (.static C n d)).before args s = true := by
  rcases h with h | ⟨t, h⟩
  · exact vx_isRef h rfl
  · exact vx_isRef h rfl
/-- the same frame, seen from here: as if the method were called anew in this heap -/
theorem vx_rebase {T : State} (X : Stand p l e R s m args below meth c T locs cells slots) {R' : Room} (hf : R'.frames ≤ R.frames) (hl : R'.locals ≤ R.locals) (hc : cells + R'.cells ≤ R.cells) (hs : slots + R'.slots ≤ R.slots) :
    Stand p l e R' ((T.setVm s.vm).setFrames (.invoking m args :: below)) m args below meth c T [] 0 0 := by
  have htop : (T.setVm s.vm).topJava?.isSome := X.here.top
  have hF : ((T.setVm s.vm).setFrames (.invoking m args :: below)).frames = .invoking m args :: below := State.frames_setFrames _ (State.cur_lt_of_top htop)
  obtain ⟨g₀, hg0⟩ := Option.isSome_iff_exists.mp htop
  obtain ⟨r, hr⟩ := State.topJava?_eq_some.mp hg0
  have hl9 : e.platform.stackLimits (T.setVm s.vm).me = e.platform.stackLimits s.me := X.limits
  have hb9 : (T.setVm s.vm).me.stackBytes = s.me.stackBytes := X.bytes
  refine ⟨X.admits, X.cas, X.clock, hF, ?_, X.hears, X.method, X.code, X.here, X.tail, X.warmed, ?_, ?_, ?_⟩
  · have h := X.room
    have hU : ((T.setVm s.vm).setFrames (.invoking m args :: below)).localsInUse = s.localsInUse := by
      rw [State.localsInUse_invoking hF (meth := meth) (c := c) X.method X.code, State.localsInUse_invoking X.frames X.method X.code]
    simp only [State.hasRoom, Bool.and_eq_true, decide_eq_true_eq] at h ⊢
    obtain ⟨⟨⟨⟨h1, h2, h3, h4, h5, h6⟩, h7⟩, h8⟩, h9⟩ := h
    rw [X.frames, List.length_cons] at h2 h3
    have q1 := X.heapSize
    have q2 := X.used
    simp only [hF, hU, List.length_cons, State.stackLimits_setFrames, State.stackBytes_setFrames, hl9, hb9]
    refine ⟨⟨⟨⟨by omega, by omega, by omega, by omega, by omega, h6⟩, ?_⟩, ?_⟩, X.book⟩
    · show T.heap.size + R'.cells ≤ e.platform.maxCells
      omega
    · show T.slotsUsed + R'.slots ≤ e.platform.maxSlots
      omega
  · rw [State.stackLimits_setFrames]; rfl
  · rw [State.stackBytes_setFrames]; rfl
  · refine ⟨?_, Nat.le_refl _, Nat.le_refl _, ?_, ?_, fun a c9 h9 => ⟨c9, h9, rfl, rfl, fun _ _ => rfl⟩⟩
    · obtain ⟨t, ht, -⟩ := State.frames_cons hr
      show T.setVm s.vm = { ((T.setVm s.vm).setFrames (.invoking m args :: below)).setFrames (T.setVm s.vm).frames with heap := T.heap, slotsUsed := T.slotsUsed }
      rw [State.setFrames_setFrames, State.setFrames_self ht]
      rfl
    · show T.slotsUsed = T.slotsUsed + ((T.heap.toList.drop T.heap.size).map (·.slots.size)).sum
      rw [List.drop_eq_nil_of_le (Nat.le_of_eq Array.length_toList)]
      rfl
    · show ((T.heap.toList.drop T.heap.size).map (·.slots.size)).sum ≤ 0
      rw [List.drop_eq_nil_of_le (Nat.le_of_eq Array.length_toList)]
      exact Nat.le_refl _
/-- 'throw new E()': new; dup; invokespecial; athrow -/
theorem vx_throw0 {cc : ByteArray} {pc : Nat} (hexec : p.tables.exec = Jvm.exec) (hb : c.code = cc) (hl : l.stackTraces = false) {own cls : String} {names : List String} {ik ic mc ms : Nat} {A : Nat → Prop}
    (hown : s.vm.findClass own = some m.cls) (hcls : Bundle.fit cls = true) (hnames : ∀ n ∈ names, Bundle.fit n = true)
    (hk : (Cond.classLink own ik cls).before args s = true) (hini : (Cond.initialized cls).before args s = true) (hat : ∀ w ∈ vx_at0 own ic cls names, w.before args s = true)
    (hgood : ∀ w ∈ Cond.classLink own ik cls :: Cond.initialized cls :: vx_at0 own ic cls names, vx_ot w = true)
    (hU : vx_Zq Bundle.tN "UNASSIGNED_STACK" Bundle.steD A s s.heap) (hN : vx_Zq Bundle.tN "SUPPRESSED_SENTINEL" Bundle.listD A s s.heap) (hS : va_S A s.heap H locs) (hsize : ls.size = c.maxLocals)
    (d0 : decode cc pc = .ok (.new ik, 3)) (d3 : decode cc (pc + 3) = .ok (.dup, 1)) (d4 : decode cc (pc + 4) = .ok (.invokespecial ic, 3)) (d7 : decode cc (pc + 7) = .ok (.athrow, 1))
    (hout : ∀ x ∈ c.exceptionTable.toList, covers x (pc + 7) = false)
    (hRframes : names.length + 3 < R.frames) (hRlocals : (rest.map fun v => v.category).sum + (13 * (names.length + 1) + 42) ≤ R.locals) (hRcells : cells + 1 ≤ R.cells) (hRslots : slots + 6 ≤ R.slots) (hlocks : meth.locks = false)
    (hx : ∀ t : State, s.vm.Alike t.vm → H.size ≤ t.heap.size → (∀ q : Nat, q < H.size → t.heap[q]? = H[q]?) → XC cls s t)
    (hf : ∀ z ∈ locs, free z.base) (hc : cells + 1 ≤ mc) (hs : slots + 6 ≤ ms) :
    W p l e R s m args below meth c H locs cells slots (vx_MQ below Qc XC args s mc ms free) (F0 m pc ls rest) := by
  intro T hT X
  have htr : e.platform.stackTraces = false := (show e.platform.stackTraces = l.stackTraces by rw [X.admits.platform]).trans hl
  have Y := vx_rebase X (R' := { frames := R.frames, locals := R.locals, cells := 1, slots := 6 }) (Nat.le_refl _) (Nat.le_refl _) hRcells hRslots
  obtain ⟨s', hA⟩ : ∃ z, z = (T.setVm s.vm).setFrames (.invoking m args :: below) := ⟨_, rfl⟩
  rw [← hA] at Y
  have hvm : s'.vm = s.vm := by rw [hA]; rfl
  have hhp : s'.heap = H := by rw [hA]; exact hT
  have hW0 : s.WarmedH s'.vm := by rw [hvm]; exact State.WarmedH.refl s
  have hat' : ∀ w ∈ vx_at0 own ic cls names, w.before args s' = true := fun w hw => vx_ot_at hW0 hvm.symm (hgood w (List.mem_cons_of_mem _ (List.mem_cons_of_mem _ hw))) (hat w hw)
  have hk' : (Cond.classLink own ik cls).before args s' = true := vx_ot_at hW0 hvm.symm (hgood _ List.mem_cons_self) hk
  have hini' : (Cond.initialized cls).before args s' = true := vx_ot_at hW0 hvm.symm (hgood _ (List.mem_cons_of_mem _ List.mem_cons_self)) hini
  have hU' : vx_Zq Bundle.tN "UNASSIGNED_STACK" Bundle.steD A s' s'.heap := by rw [hhp]; exact vx_Zq.moved hW0.alike (hU.kept hS.2.1)
  have hN' : vx_Zq Bundle.tN "SUPPRESSED_SENTINEL" Bundle.listD A s' s'.heap := by rw [hhp]; exact vx_Zq.moved hW0.alike (hN.kept hS.2.1)
  have h : ∀ w ∈ Bundle.ownAtoms0 own ic cls names, w.before args s' = true := vx_own hat' (vx_isRefq hU'.1) (vx_isRefq hN'.1) hU'.2.word hN'.2.word
  have hown' : s'.vm.findClass own = some m.cls := by rw [hvm]; exact hown
  have hins : (Cond.instantiable cls 6).before args s' = true := h _ (by simp [Bundle.ownAtoms0])
  obtain ⟨vm₁, cX, kX, hfX, hkX, -, -, X₁, st1⟩ := Y.newCold hexec (own := own) (C := cls) (index := ik) (n := 6) hown' hk' hins hini'
    (g := F0 m pc ls rest) rfl (by rw [hb]; exact d0) (Nat.le_refl _) (Nat.le_refl _)
  generalize hT1 : (T.setVm vm₁).pushCell { cls := cX, slots := kX.instanceTypes.map defaultValue, vm := .none } = T1 at X₁ st1
  have hcat : (Value.ref T.heap.size).category = 1 := rfl
  have hcellA : T1.heap[T.heap.size]? = some (freshCell cX kX) := by rw [← hT1]; exact State.heap_pushCell_size _ _
  have d3' : decode c.code (pc + 3) = .ok (.dup, 1) := by rw [hb]; exact d3
  obtain ⟨U, hsteps, hrun, hend, hW, hsame, ce, hce, hO⟩ := X₁.ctorThrow0 hexec htr (own := own) (cls := cls) (names := names) (ic := ic) hown' hcls hnames h (fun x hx => nomatch hx) hfX hkX hcellA (by rw [hhp, hT]; exact Nat.le_refl _)
    (g := { method := m, pc := pc + 4, locals := ls, stack := .ref T.heap.size :: .ref T.heap.size :: rest, locked := none }) rfl hsize rfl rfl (rest := rest) rfl
    (by rw [hb]; exact d4) (by rw [hb]; exact d7) hout hRframes (by simp only [List.map_cons, List.sum_cons, hcat]; omega) hlocks
  obtain ⟨f1, f2⟩ := vx_frame hsame
  rw [hhp] at f1 f2
  have hWs : s.WarmedH U.vm := State.WarmedH.trans hW0 hW
  have hcl : s.vm.findClass cls = some ce.cls := by
    have h9 := hO.cls
    rw [hvm] at h9
    exact h9
  have hall : s.sameButNew ({ U with vm := s.vm } : State) locs mc ms := by
    subst hA
    obtain ⟨e1, e2⟩ := hsame
    rw [State.setFrames_setFrames] at e1
    have h2 : (T.setVm s.vm).sameButNew ({ U with vm := s.vm } : State) [] (0 + 1) (0 + 6) := ⟨e1, e2⟩
    have h3 := X.same.trans h2
    rw [List.append_nil] at h3
    exact h3.mono hc hs
  refine ⟨U, ?_, .threw T.heap.size, hrun, hend, Or.inr ⟨T.heap.size, rfl, cls, ce, locs, hx U hWs.alike f1 (fun q hq => f2 q hq (fun z hz => nomatch hz)), hce, hO.vm, hcl, hWs, hall, hf⟩⟩
  refine st1 _ ?_
  show Steps p.tables e below (T1.setTop { method := m, pc := pc + 3, locals := ls, stack := .ref T.heap.size :: rest, locked := none }) _
  jvm_step X₁.here [X₁.here.top, hexec, d3', Value.category]
  exact hsteps
/-- 'throw new E("text")': new; dup; ldc; invokespecial; athrow -/
theorem vx_throwS {cc : ByteArray} {pc : Nat} (hexec : p.tables.exec = Jvm.exec) (hb : c.code = cc) (hl : l.stackTraces = false) {own cls text : String} {names : List String} {ik is ic mc ms sa : Nat} {A : Nat → Prop}
    (hown : s.vm.findClass own = some m.cls) (hcls : Bundle.fit cls = true) (hnames : ∀ n ∈ names, Bundle.fit n = true)
    (hk : (Cond.classLink own ik cls).before args s = true) (hini : (Cond.initialized cls).before args s = true) (hstr : vk_R own is text sa s) (hat : ∀ w ∈ vx_atS own ic cls names, w.before args s = true)
    (hgood : ∀ w ∈ Cond.classLink own ik cls :: Cond.initialized cls :: vx_atS own ic cls names, vx_ot w = true)
    (hU : vx_Zq Bundle.tN "UNASSIGNED_STACK" Bundle.steD A s s.heap) (hN : vx_Zq Bundle.tN "SUPPRESSED_SENTINEL" Bundle.listD A s s.heap) (hS : va_S A s.heap H locs) (hsize : ls.size = c.maxLocals)
    (d0 : decode cc pc = .ok (.new ik, 3)) (d3 : decode cc (pc + 3) = .ok (.dup, 1)) (d4 : decode cc (pc + 4) = .ok (.ldc is, 2)) (d6 : decode cc (pc + 6) = .ok (.invokespecial ic, 3)) (d9 : decode cc (pc + 9) = .ok (.athrow, 1))
    (hout : ∀ x ∈ c.exceptionTable.toList, covers x (pc + 9) = false)
    (hRframes : names.length + 3 < R.frames) (hRlocals : (rest.map fun v => v.category).sum + (13 * (names.length + 1) + 43) ≤ R.locals) (hRcells : cells + 1 ≤ R.cells) (hRslots : slots + 6 ≤ R.slots) (hlocks : meth.locks = false)
    (hx : ∀ t : State, s.vm.Alike t.vm → H.size ≤ t.heap.size → (∀ q : Nat, q < H.size → t.heap[q]? = H[q]?) → XC cls s t)
    (hf : ∀ z ∈ locs, free z.base) (hc : cells + 1 ≤ mc) (hs : slots + 6 ≤ ms) :
    W p l e R s m args below meth c H locs cells slots (vx_MQ below Qc XC args s mc ms free) (F0 m pc ls rest) := by
  intro T hT X
  have htr : e.platform.stackTraces = false := (show e.platform.stackTraces = l.stackTraces by rw [X.admits.platform]).trans hl
  have Y := vx_rebase X (R' := { frames := R.frames, locals := R.locals, cells := 1, slots := 6 }) (Nat.le_refl _) (Nat.le_refl _) hRcells hRslots
  obtain ⟨s', hA⟩ : ∃ z, z = (T.setVm s.vm).setFrames (.invoking m args :: below) := ⟨_, rfl⟩
  rw [← hA] at Y
  have hvm : s'.vm = s.vm := by rw [hA]; rfl
  have hhp : s'.heap = H := by rw [hA]; exact hT
  have hW0 : s.WarmedH s'.vm := by rw [hvm]; exact State.WarmedH.refl s
  have hat' : ∀ w ∈ vx_atS own ic cls names, w.before args s' = true := fun w hw => vx_ot_at hW0 hvm.symm (hgood w (List.mem_cons_of_mem _ (List.mem_cons_of_mem _ hw))) (hat w hw)
  have hk' : (Cond.classLink own ik cls).before args s' = true := vx_ot_at hW0 hvm.symm (hgood _ List.mem_cons_self) hk
  have hini' : (Cond.initialized cls).before args s' = true := vx_ot_at hW0 hvm.symm (hgood _ (List.mem_cons_of_mem _ List.mem_cons_self)) hini
  have hU' : vx_Zq Bundle.tN "UNASSIGNED_STACK" Bundle.steD A s' s'.heap := by rw [hhp]; exact vx_Zq.moved hW0.alike (hU.kept hS.2.1)
  have hN' : vx_Zq Bundle.tN "SUPPRESSED_SENTINEL" Bundle.listD A s' s'.heap := by rw [hhp]; exact vx_Zq.moved hW0.alike (hN.kept hS.2.1)
  have h : ∀ w ∈ Bundle.ownAtoms own ic cls names, w.before args s' = true := vx_own hat' (vx_isRefq hU'.1) (vx_isRefq hN'.1) hU'.2.word hN'.2.word
  have hown' : s'.vm.findClass own = some m.cls := by rw [hvm]; exact hown
  have hins : (Cond.instantiable cls 6).before args s' = true := h _ (by simp [Bundle.ownAtoms])
  obtain ⟨vm₁, cX, kX, hfX, hkX, -, -, X₁, st1⟩ := Y.newCold hexec (own := own) (C := cls) (index := ik) (n := 6) hown' hk' hins hini'
    (g := F0 m pc ls rest) rfl (by rw [hb]; exact d0) (Nat.le_refl _) (Nat.le_refl _)
  generalize hT1 : (T.setVm vm₁).pushCell { cls := cX, slots := kX.instanceTypes.map defaultValue, vm := .none } = T1 at X₁ st1
  have hcat : (Value.ref T.heap.size).category = 1 := rfl
  have hcellA : T1.heap[T.heap.size]? = some (freshCell cX kX) := by rw [← hT1]; exact State.heap_pushCell_size _ _
  have d3' : decode c.code (pc + 3) = .ok (.dup, 1) := by rw [hb]; exact d3
  have d4' : decode c.code (pc + 4) = .ok (.ldc is, 2) := by rw [hb]; exact d4
  have hstr' : vk_R own is text sa s' := vk_R.warm hW0 hstr
  obtain ⟨U, hsteps, hrun, hend, hW, hsame, ce, hce, hO⟩ := X₁.ctorThrowS hexec htr (own := own) (cls := cls) (names := names) (ic := ic) hown' hcls hnames h (fun x hx => nomatch hx) hfX hkX hcellA (by rw [hhp, hT]; exact Nat.le_refl _) (msg := .ref sa) rfl
    (g := { method := m, pc := pc + 6, locals := ls, stack := .ref sa :: .ref T.heap.size :: .ref T.heap.size :: rest, locked := none }) rfl hsize rfl rfl (rest := rest) rfl
    (by rw [hb]; exact d6) (by rw [hb]; exact d9) hout hRframes (by simp only [List.map_cons, List.sum_cons, hcat]; omega) hlocks
  obtain ⟨f1, f2⟩ := vx_frame hsame
  rw [hhp] at f1 f2
  have hWs : s.WarmedH U.vm := State.WarmedH.trans hW0 hW
  have hcl : s.vm.findClass cls = some ce.cls := by
    have h9 := hO.cls
    rw [hvm] at h9
    exact h9
  have hall : s.sameButNew ({ U with vm := s.vm } : State) locs mc ms := by
    subst hA
    obtain ⟨e1, e2⟩ := hsame
    rw [State.setFrames_setFrames] at e1
    have h2 : (T.setVm s.vm).sameButNew ({ U with vm := s.vm } : State) [] (0 + 1) (0 + 6) := ⟨e1, e2⟩
    have h3 := X.same.trans h2
    rw [List.append_nil] at h3
    exact h3.mono hc hs
  refine ⟨U, ?_, .threw T.heap.size, hrun, hend, Or.inr ⟨T.heap.size, rfl, cls, ce, locs, hx U hWs.alike f1 (fun q hq => f2 q hq (fun z hz => nomatch hz)), hce, hO.vm, hcl, hWs, hall, hf⟩⟩
  refine st1 _ ?_
  show Steps p.tables e below (T1.setTop { method := m, pc := pc + 3, locals := ls, stack := .ref T.heap.size :: rest, locked := none }) _
  jvm_step X₁.here [X₁.here.top, hexec, d3', Value.category]
  exact X₁.ldcString hexec (own := own) (text := text) (index := is) (a := sa) hown' hstr'.1 hstr'.2
    (g := { method := m, pc := pc + 4, locals := ls, stack := .ref T.heap.size :: .ref T.heap.size :: rest, locked := none }) rfl d4' _ hsteps
/-- 'throw new E("text")', the text by a wide index -/
theorem vx_throwSW {cc : ByteArray} {pc : Nat} (hexec : p.tables.exec = Jvm.exec) (hb : c.code = cc) (hl : l.stackTraces = false) {own cls text : String} {names : List String} {ik is ic mc ms sa : Nat} {A : Nat → Prop}
    (hown : s.vm.findClass own = some m.cls) (hcls : Bundle.fit cls = true) (hnames : ∀ n ∈ names, Bundle.fit n = true)
    (hk : (Cond.classLink own ik cls).before args s = true) (hini : (Cond.initialized cls).before args s = true) (hstr : vk_R own is text sa s) (hat : ∀ w ∈ vx_atS own ic cls names, w.before args s = true)
    (hgood : ∀ w ∈ Cond.classLink own ik cls :: Cond.initialized cls :: vx_atS own ic cls names, vx_ot w = true)
    (hU : vx_Zq Bundle.tN "UNASSIGNED_STACK" Bundle.steD A s s.heap) (hN : vx_Zq Bundle.tN "SUPPRESSED_SENTINEL" Bundle.listD A s s.heap) (hS : va_S A s.heap H locs) (hsize : ls.size = c.maxLocals)
    (d0 : decode cc pc = .ok (.new ik, 3)) (d3 : decode cc (pc + 3) = .ok (.dup, 1)) (d4 : decode cc (pc + 4) = .ok (.ldc_w is, 3)) (d7 : decode cc (pc + 7) = .ok (.invokespecial ic, 3)) (d10 : decode cc (pc + 10) = .ok (.athrow, 1))
    (hout : ∀ x ∈ c.exceptionTable.toList, covers x (pc + 10) = false)
    (hRframes : names.length + 3 < R.frames) (hRlocals : (rest.map fun v => v.category).sum + (13 * (names.length + 1) + 43) ≤ R.locals) (hRcells : cells + 1 ≤ R.cells) (hRslots : slots + 6 ≤ R.slots) (hlocks : meth.locks = false)
    (hx : ∀ t : State, s.vm.Alike t.vm → H.size ≤ t.heap.size → (∀ q : Nat, q < H.size → t.heap[q]? = H[q]?) → XC cls s t)
    (hf : ∀ z ∈ locs, free z.base) (hc : cells + 1 ≤ mc) (hs : slots + 6 ≤ ms) :
    W p l e R s m args below meth c H locs cells slots (vx_MQ below Qc XC args s mc ms free) (F0 m pc ls rest) := by
  intro T hT X
  have htr : e.platform.stackTraces = false := (show e.platform.stackTraces = l.stackTraces by rw [X.admits.platform]).trans hl
  have Y := vx_rebase X (R' := { frames := R.frames, locals := R.locals, cells := 1, slots := 6 }) (Nat.le_refl _) (Nat.le_refl _) hRcells hRslots
  obtain ⟨s', hA⟩ : ∃ z, z = (T.setVm s.vm).setFrames (.invoking m args :: below) := ⟨_, rfl⟩
  rw [← hA] at Y
  have hvm : s'.vm = s.vm := by rw [hA]; rfl
  have hhp : s'.heap = H := by rw [hA]; exact hT
  have hW0 : s.WarmedH s'.vm := by rw [hvm]; exact State.WarmedH.refl s
  have hat' : ∀ w ∈ vx_atS own ic cls names, w.before args s' = true := fun w hw => vx_ot_at hW0 hvm.symm (hgood w (List.mem_cons_of_mem _ (List.mem_cons_of_mem _ hw))) (hat w hw)
  have hk' : (Cond.classLink own ik cls).before args s' = true := vx_ot_at hW0 hvm.symm (hgood _ List.mem_cons_self) hk
  have hini' : (Cond.initialized cls).before args s' = true := vx_ot_at hW0 hvm.symm (hgood _ (List.mem_cons_of_mem _ List.mem_cons_self)) hini
  have hU' : vx_Zq Bundle.tN "UNASSIGNED_STACK" Bundle.steD A s' s'.heap := by rw [hhp]; exact vx_Zq.moved hW0.alike (hU.kept hS.2.1)
  have hN' : vx_Zq Bundle.tN "SUPPRESSED_SENTINEL" Bundle.listD A s' s'.heap := by rw [hhp]; exact vx_Zq.moved hW0.alike (hN.kept hS.2.1)
  have h : ∀ w ∈ Bundle.ownAtoms own ic cls names, w.before args s' = true := vx_own hat' (vx_isRefq hU'.1) (vx_isRefq hN'.1) hU'.2.word hN'.2.word
  have hown' : s'.vm.findClass own = some m.cls := by rw [hvm]; exact hown
  have hins : (Cond.instantiable cls 6).before args s' = true := h _ (by simp [Bundle.ownAtoms])
  obtain ⟨vm₁, cX, kX, hfX, hkX, -, -, X₁, st1⟩ := Y.newCold hexec (own := own) (C := cls) (index := ik) (n := 6) hown' hk' hins hini'
    (g := F0 m pc ls rest) rfl (by rw [hb]; exact d0) (Nat.le_refl _) (Nat.le_refl _)
  generalize hT1 : (T.setVm vm₁).pushCell { cls := cX, slots := kX.instanceTypes.map defaultValue, vm := .none } = T1 at X₁ st1
  have hcat : (Value.ref T.heap.size).category = 1 := rfl
  have hcellA : T1.heap[T.heap.size]? = some (freshCell cX kX) := by rw [← hT1]; exact State.heap_pushCell_size _ _
  have d3' : decode c.code (pc + 3) = .ok (.dup, 1) := by rw [hb]; exact d3
  have d4' : decode c.code (pc + 4) = .ok (.ldc_w is, 3) := by rw [hb]; exact d4
  have hstr' : vk_R own is text sa s' := vk_R.warm hW0 hstr
  obtain ⟨U, hsteps, hrun, hend, hW, hsame, ce, hce, hO⟩ := X₁.ctorThrowS hexec htr (own := own) (cls := cls) (names := names) (ic := ic) hown' hcls hnames h (fun x hx => nomatch hx) hfX hkX hcellA (by rw [hhp, hT]; exact Nat.le_refl _) (msg := .ref sa) rfl
    (g := { method := m, pc := pc + 7, locals := ls, stack := .ref sa :: .ref T.heap.size :: .ref T.heap.size :: rest, locked := none }) rfl hsize rfl rfl (rest := rest) rfl
    (by rw [hb]; exact d7) (by rw [hb]; exact d10) hout hRframes (by simp only [List.map_cons, List.sum_cons, hcat]; omega) hlocks
  obtain ⟨f1, f2⟩ := vx_frame hsame
  rw [hhp] at f1 f2
  have hWs : s.WarmedH U.vm := State.WarmedH.trans hW0 hW
  have hcl : s.vm.findClass cls = some ce.cls := by
    have h9 := hO.cls
    rw [hvm] at h9
    exact h9
  have hall : s.sameButNew ({ U with vm := s.vm } : State) locs mc ms := by
    subst hA
    obtain ⟨e1, e2⟩ := hsame
    rw [State.setFrames_setFrames] at e1
    have h2 : (T.setVm s.vm).sameButNew ({ U with vm := s.vm } : State) [] (0 + 1) (0 + 6) := ⟨e1, e2⟩
    have h3 := X.same.trans h2
    rw [List.append_nil] at h3
    exact h3.mono hc hs
  refine ⟨U, ?_, .threw T.heap.size, hrun, hend, Or.inr ⟨T.heap.size, rfl, cls, ce, locs, hx U hWs.alike f1 (fun q hq => f2 q hq (fun z hz => nomatch hz)), hce, hO.vm, hcl, hWs, hall, hf⟩⟩
  refine st1 _ ?_
  show Steps p.tables e below (T1.setTop { method := m, pc := pc + 3, locals := ls, stack := .ref T.heap.size :: rest, locked := none }) _
  jvm_step X₁.here [X₁.here.top, hexec, d3', Value.category]
  exact X₁.ldcStringW hexec (own := own) (text := text) (index := is) (a := sa) hown' hstr'.1 hstr'.2
    (g := { method := m, pc := pc + 4, locals := ls, stack := .ref T.heap.size :: .ref T.heap.size :: rest, locked := none }) rfl d4' _ hsteps
end Ends
section Bodies
variable {l : Launch}
theorem vx_ofW {y : MethodName} {ws ws' : List Cond} {rm : Room} {Pc : Array Value → State → Prop} {Qc : Array Value → State → Outcome → State → Prop} {XC : String → State → State → Prop} {mc ms : Nat} {free : Addr → Prop} {cc : ByteArray} {maxL : Nat} {ret : Option FieldType}
    (hy : plainName y.cls = true) (hw : ws = Cond.code y cc maxL ret :: ws')
    (body : ∀ p e s m args below meth c s₁, BodyLoose p l y (headSpec ws rm) cc maxL ret e s m args below meth c s₁ → c.maxLocals = maxL → (∀ x ∈ c.exceptionTable.toList, False) → Pc args s →
      W p l e (headSpec ws rm).room s m args below meth c s.heap [] 0 0 (vx_MQ below Qc XC args s mc ms free) (entryFrame m args maxL)) : vx_Met l y ws rm Pc Qc XC mc ms free := by
  refine MetFree.of_bodyS (code := cc) (maxLocals := maxL) (ret := ret) hy ?_ ?_
  · intro args s m h hn
    obtain ⟨meth, c, h1, h2, h3, h4, h5, h6, -, -⟩ := Cond.code_spec hn (atoms_spec (ws := ws) h _ (by rw [hw]; exact List.mem_cons_self))
    exact ⟨meth, c, h1, h2, h3, h4, h5, h6⟩
  · intro p e s m args below meth c s₁ B hml hP _
    have hh0 : s₁.heap = s.heap := by rw [B.state]; rfl
    have ht : ∀ x ∈ c.exceptionTable.toList, False := by
      obtain ⟨meth9, c9, h1, h2, -, -, -, -, h7, -⟩ := Cond.code_spec B.named (atoms_spec (ws := ws) B.pre _ (by rw [hw]; exact List.mem_cons_self))
      cases Option.some.inj (h1.symm.trans B.method)
      cases Option.some.inj (h2.symm.trans (Stand.of_body B).code)
      intro x hx
      rw [Array.isEmpty_iff.mp h7] at hx
      cases hx
    obtain ⟨t, a1, o, b1, b2, b3⟩ := body p e s m args below meth c s₁ B hml ht hP s₁ hh0 (Stand.of_body B)
    exact ⟨t, o, a1, b1, b2, b3⟩
/-- the table of a body with handlers -/
theorem vx_table {p : Program} {x y : MethodName} {S : Spec} {cc bytes : ByteArray} {maxL maxL' : Nat} {ret ret' : Option FieldType} {e : Env} {s s₁ : State} {m : MethodId} {args : Array Value} {below : List Frame} {meth : Method} {c : Code} {hh : List (Nat × Nat × Nat × Nat)}
    (B : BodyLoose p l y S cc maxL ret e s m args below meth c s₁) (h : (Cond.codeWith y bytes maxL' ret' hh).before args s = true) : c.exceptionTable.toList = tableOf hh := by
  obtain ⟨m9, meth9, c9, hn9, h1, h2, -, -, h6, -⟩ := Cond.codeWith_spec h
  cases Option.some.inj (hn9.symm.trans B.named)
  cases Option.some.inj (h1.symm.trans B.method)
  cases Option.some.inj (h2.symm.trans (Stand.of_body B).code)
  rw [← h6, table_eq]
end Bodies
end VXA
/-! ===== END ===== -/
/-! ===== BEGIN a static call of a method with an exception table ===== -/
section VXS
variable {p : Program} {l : Launch} {e : Env} {R : Room} {s : State} {m : MethodId} {args : Array Value} {below : List Frame} {meth : Method} {c : Code} {T : State} {H : Heap} {locs : List Loc} {cells slots : Nat}
abbrev vx_CSW (R : Room) (s : State) (args : Array Value) (own : String) (index : Nat) (y : MethodName) (bytes : ByteArray) (maxL : Nat) (ret : Option FieldType) (hh : List (Nat × Nat × Nat × Nat)) (ws : List Cond) (rm : Room) (mc ms n : Nat) : Prop :=
  (rm.cells = mc ∧ rm.slots = ms ∧ rm.frames + 1 ≤ R.frames ∧ 8 + (maxL + 11) + rm.locals ≤ R.locals ∧ (∀ w ∈ ws, ∀ (a' : Array Value) (U : State), s.WarmedH U.vm → w.before a' U = true) ∧ Cond.codeWith y bytes maxL ret hh ∈ ws) ∧
  (Cond.codeWith y bytes maxL ret hh).before args s = true ∧ (Cond.initialized y.cls).before args s = true ∧ (y.cls ≠ "java/lang/invoke/MethodHandle" ∧ y.cls ≠ "java/lang/invoke/VarHandle") ∧
  (∀ sig, parseMethodDescriptor y.desc = some sig → n = sig.parameters.length) ∧ (Cond.methodLink own index y).before args s = true ∧ (Cond.static y).before args s = true
theorem vx_cwSW {own : String} {index maxL mc ms : Nat} {y : MethodName} {bytes : ByteArray} {ret : Option FieldType} {hh : List (Nat × Nat × Nat × Nat)} {Ts ws ws' : List Cond} {rm : Room} (n : Nat) (ht : ∀ w ∈ Ts, w.before args s = true) (hT : GoodIn Ts (va_wsS own index y ws)) (hw : ws = Cond.codeWith y bytes maxL ret hh :: ws') (hrc : rm.cells = mc) (hrs : rm.slots = ms)
    (hd : y.cls ≠ "java/lang/invoke/MethodHandle" ∧ y.cls ≠ "java/lang/invoke/VarHandle" ∧ (parseMethodDescriptor y.desc).map (fun d => d.parameters.length) = some n) (hR : rm.frames + 1 ≤ R.frames ∧ 8 + (maxL + 11) + rm.locals ≤ R.locals) :
    vx_CSW R s args own index y bytes maxL ret hh ws rm mc ms n := by
  have ok : ∀ w ∈ va_wsS own index y ws, w.before args s = true := fun w h => ht w (hT w h).1
  have hG : GoodIn Ts ws := fun w h => hT w (by unfold va_wsS; exact List.mem_append_right _ h)
  have hc : Cond.codeWith y bytes maxL ret hh ∈ ws := by rw [hw]; exact List.mem_cons_self
  refine ⟨⟨hrc, hrs, hR.1, hR.2, pay_in ht hG, hc⟩, ht _ (hG _ hc).1, ok _ (by simp [va_wsS]), ⟨hd.1, hd.2.1⟩, fun sig h => ?_, ok _ (by simp [va_wsS]), ok _ (by simp [va_wsS])⟩
  have h2 := hd.2.2
  rw [h] at h2
  exact (Option.some.inj h2).symm
theorem vx_callSW (X : Stand p l e R s m args below meth c T locs cells slots) (hexec : p.tables.exec = Jvm.exec) {own : String} {index : Nat} {y : MethodName} {bytes : ByteArray} {maxL : Nat} {ret : Option FieldType} {hh : List (Nat × Nat × Nat × Nat)}
    (hown : s.vm.findClass own = some m.cls) (hlink : (Cond.methodLink own index y).before args s = true) (hstat : (Cond.static y).before args s = true) (hinit : (Cond.initialized y.cls).before args s = true)
    (hcode : (Cond.codeWith y bytes maxL ret hh).before args s = true) (hy : y.cls ≠ "java/lang/invoke/MethodHandle" ∧ y.cls ≠ "java/lang/invoke/VarHandle")
    {W9 : Nat} {Pre : Pt → Array Value → Prop} {Post : Pt → Array Value → Option Value → Pt → Prop} (hK : Back l R p e below s args y 3 W9 Pre Post)
    {g : JFrame} (hg : g.method = m) (hsize : g.locals.size = c.maxLocals) {argsL rest : List Value} (hlen : ∀ sig, parseMethodDescriptor y.desc = some sig → argsL.length = sig.parameters.length)
    (hstack : g.stack = argsL.reverse ++ rest) (hW : 2 * g.monitorRoom + (rest.map fun v => v.category).sum ≤ W9) (hdg : decode c.code g.pc = .ok (.invokestatic index, 3))
    (hpre : ∀ vm₁, s.WarmedH vm₁ → Pre ⟨T.setVm vm₁, locs, cells, slots⟩ argsL.toArray) :
    ∃ (v : Option Value) (vm₁ : Vm) (B : Pt), s.WarmedH vm₁ ∧ Stand p l e R s m args below meth c B.U B.locs B.cells B.slots ∧ Post ⟨T.setVm vm₁, locs, cells, slots⟩ argsL.toArray v B ∧
      ∀ target, Steps p.tables e below (B.U.setTop { g with pc := g.pc + 3, stack := v.toList ++ rest }) target → Steps p.tables e below (T.setTop g) target := by
  obtain ⟨mk, methM, cM, hnamed, hmethM, -, -, -, -, -, -, hsigM⟩ := Cond.codeWith_spec hcode
  have hstatic : methM.isStatic = true := Cond.static_spec hnamed hmethM hstat
  obtain ⟨kP, hkP, -⟩ := className_of_methodNamed hnamed
  have hinitP : kP.init = .initialized := Cond.initialized_spec (findClass_of_methodNamed hnamed) hkP hinit
  obtain ⟨vm₁, X₁, hstep₁⟩ := X.invokestatic hexec hown hlink hnamed hmethM hstatic hkP hinitP hy (g := g) hg (argsL := argsL) (rest := rest) (hlen _ hsigM) hstack hdg
  obtain ⟨v, B, X', hpost, hsteps⟩ := hK m meth c ⟨T.setVm vm₁, locs, cells, slots⟩ { g with stack := rest } (.invokestatic index) mk argsL.toArray X₁ hg hsize hdg hW (X₁.named hnamed) (hpre vm₁ X₁.warmed)
  exact ⟨v, vm₁, B, X₁.warmed, X', hpost, fun target h => hstep₁ _ fun acts => by rw [doInvoke_state]; exact hsteps.trans h⟩
theorem vx_runSW {y : MethodName} {bytes cc : ByteArray} {maxL nL mc ms n index : Nat} {ret : Option FieldType} {hh : List (Nat × Nat × Nat × Nat)} {ws : List Cond} {rm : Room} {Pc : Array Value → State → Prop} {Qc : Array Value → State → Outcome → State → Prop} {free : Addr → Prop} {Ts : List Cond} {own : String} {As rest : List Value} {g : JFrame}
    (S : CallFix p m c cc nL s args Ts own) (hM : Met l y ws rm Pc Qc mc ms free) (cw : vx_CSW R s args own index y bytes maxL ret hh ws rm mc ms n) (hp : PreS s H Pc As)
    (hg : g.method = m) (hn : As.length = n) (hsize : g.locals.size = nL) (hstack : g.stack = As.reverse ++ rest) (hW : 2 * g.monitorRoom + (rest.map fun v => v.category).sum ≤ 8) (hdg : decode cc g.pc = .ok (.invokestatic index, 3)) (hf : cells + mc ≤ R.cells ∧ slots + ms ≤ R.slots) :
    va_Run p l e R s m args below meth c H locs cells slots mc ms g rest (Qc As.toArray) (free) := by
  obtain ⟨⟨hrc, hrs, hfr, hlo, hws, hcw⟩, hcode, hini, hy, hlen, hl, hstt⟩ := cw
  have hK : Back l R p e below s args y 3 8 (PreOf R mc ms Pc) (PostOf Qc mc ms free) := va_backW (hh := hh) (bytes := bytes) (maxL := maxL) (ret := ret) hM hp.1 hrc hrs hfr hlo hws hcw (fun a' U hW => word_at hW (Or.inl (by first | rfl | simp [Cond.onTables, Cond.keeps, Cond.steady])) hini)
  obtain ⟨hx, hb, hml, ho, -⟩ := S
  intro T hT X
  obtain ⟨v, vm₁, ⟨U', l2, c2, s2⟩, hW₁, X', ⟨g', mk, t, L, e1, e2, hq, h1, hL, h2, h3⟩, st⟩ := vx_callSW X hx (hh := hh) (bytes := bytes) (maxL := maxL) (ret := ret) ho hl hstt hini hcode hy hK hg (hsize.trans hml.symm) (argsL := As) (rest := rest) (fun sig h => hn.trans (hlen sig h)) hstack hW (by rw [hb]; exact hdg)
    (fun vm₁ hW₁ => ⟨hf.1, hf.2, hp.2 (T.setVm vm₁) hT hW₁⟩)
  dsimp only [Pt.U, Pt.locs, Pt.cells, Pt.slots] at X' e1 e2 h1 h2 h3 st
  subst h1; subst h2; subst h3
  exact ⟨v, (T.setVm vm₁).calling g' mk As.toArray, t, U', L, hT, X', hL, e1, e2, hq, st⟩
/-- not caught here, past rows that name other classes: it goes on to the caller -/
theorem vx_outP {p : Program} {l : Launch} {e : Env} {R : Room} {s : State} {m : MethodId} {args : Array Value} {below : List Frame} {meth : Method} {c : Code} {H : Heap} {locs : List Loc} {cells slots : Nat} {free : Addr → Prop} {ls : Array Slot} {rest : List Value} {Qc : Array Value → State → Outcome → State → Prop} {XC : String → State → State → Prop}
    {pc : Nat} {own E : String} {ce : Cell} {q : Addr} {mc ms : Nat} (hown : s.vm.findClass own = some m.cls) (hlocks : meth.locks = false)
    (hpass : ∀ z ∈ c.exceptionTable.toList, covers z pc = false ∨ (z.catchType ≠ 0 ∧ ∃ nm : String, (Cond.classLink own z.catchType nm).before args s = true ∧ va_Nc E nm s)) (hcell : H[q]? = some ce) (hv : ce.vm = .none) (hcl : s.vm.findClass E = some ce.cls)
    (hx : ∀ t : State, t.heap = H → s.vm.Alike t.vm → XC E s t) (hf : ∀ z ∈ locs, free z.base) (hc : cells ≤ mc) (hs : slots ≤ ms) :
    vx_W p l e R s m args below meth c H locs cells slots (vx_MQ below Qc XC args s mc ms free) (F0 m pc ls rest) q := by
  intro T hT X
  have hpl : e.platform.magicAccessors = ({} : Platform).magicAccessors := by rw [X.admits.platform]
  obtain ⟨vm', hW', X', st⟩ := X.outThrough hlocks q (g := F0 m pc ls rest) rfl rfl rfl (cell := ce) (by rw [hT]; exact hcell) (by rw [hv]; rfl)
    (by obtain ⟨k9, h9, -⟩ := Vm.findClass_spec hcl; exact ⟨k9, h9⟩) (fun z hz => by
      rcases hpass z hz with h | ⟨hz0, nm, hl1, hn1⟩
      · exact Or.inl h
      · obtain ⟨c6, hc6, hcl6⟩ := Cond.classLink_spec hown hl1 e.platform hpl
        obtain ⟨a8, b8, h1, h2, h3⟩ := hn1
        cases Option.some.inj (h1.symm.trans hcl)
        cases Option.some.inj (h2.symm.trans hc6)
        exact Or.inr ⟨hz0, _, hcl6, h3⟩)
  obtain ⟨g₀, hfr⟩ := X'.frames_eq
  have hcell9 : ((T.setVm vm').setFrames (.throwing q :: below)).heap[q]? = some ce := by
    show T.heap[q]? = some ce
    rw [hT]; exact hcell
  have hend : Ended ((T.setVm vm').setFrames (.throwing q :: below)) below (.threw q) := State.frames_setFrames _ (State.cur_lt_of_frames hfr)
  refine ⟨(T.setVm vm').setFrames (.throwing q :: below), ?_, .threw q, X'.here.running, hend, Or.inr ⟨q, rfl, E, ce, locs, hx _ hT (X'.ends _).1.alike, hcell9, hv, hcl, (X'.ends _).1, (X'.ends _).2.mono hc hs, hf⟩⟩
  rw [X.pushThrowing_eq]
  exact st
/-- a thing of a world lies in the heap -/
theorem vx_lt {D : va_G} {cl : List vw_C} {ws : va_W} {H1 : Heap} (h : va_P D cl ws H1) {k : Nat} {q : Nat × va_E} (hk : ws[k]? = some q) : q.1 < H1.size := (h k q hk).lt
end VXS
/-! ===== END ===== -/
/-! ===== BEGIN methods with a table of their own: called by a name, returning or throwing ===== -/
section VXH
/-! vx_backW, vx_callVX, vx_callSX, vx_callVW, vx_runVW, vx_runVX, vx_runSX, vx_ofWH follow the same proofs as their sisters above (Free/Laws.lean, Shelf42/LK1.lean); vx_outP calls Shelf42/NT130.lean (outThrough). -/
section
variable {l : Launch} {R : Room} {p : Program} {e : Env} {below : List Frame} {s : State} {sargs : Array Value} {y : MethodName} {len W9 : Nat}
theorem vx_backW {ws : List Cond} {rm : Room} {Pc : Array Value → State → Prop} {Qc : Array Value → State → Outcome → State → Prop} {XC : String → State → State → Prop} {mc ms : Nat} {free : Addr → Prop} {bytes : ByteArray} {maxL : Nat} {ret : Option FieldType} {hh : List (Nat × Nat × Nat × Nat)}
    (hM : vx_Met l y ws rm Pc Qc XC mc ms free) (hblind : FrameBlind Pc) (hrc : rm.cells = mc) (hrs : rm.slots = ms)
    (hframes : rm.frames + 1 ≤ R.frames) (hlocals : W9 + (maxL + 11) + rm.locals ≤ R.locals)
    (hws : ∀ w ∈ ws, ∀ a' U, s.WarmedH U.vm → w.before a' U = true) (hcode : Cond.codeWith y bytes maxL ret hh ∈ ws) (hinit : ∀ a' U, s.WarmedH U.vm → (Cond.initialized y.cls).before a' U = true) :
    vx_Back l R p e below s sargs y len W9 (PreOf R mc ms Pc) (PostOf Qc mc ms free) (vx_Post XC mc ms free) := by
  intro m meth c A g ig mk a X hg hsize hdg hW hn hp
  have h1 : (headSpec ws rm).pre.before a A.U = true := atoms_intro fun w hw => hws w hw _ _ X.warmed
  have h2 : (Cond.codeWith y bytes maxL ret hh).before a A.U = true := hws _ hcode _ _ X.warmed
  have h3 : (Cond.initialized y.cls).before a A.U = true := hinit _ _ X.warmed
  have h4 : A.cells + (headSpec ws rm).room.cells ≤ R.cells := by rw [show (headSpec ws rm).room.cells = mc from hrc]; exact hp.1
  have h5 : A.slots + (headSpec ws rm).room.slots ≤ R.slots := by rw [show (headSpec ws rm).room.slots = ms from hrs]; exact hp.2.1
  have hPc : Pc a (A.U.calling g mk a) := hblind _ _ _ _ hp.2.2
  obtain ⟨U, Ls, c0, s0⟩ := A
  dsimp only [Pt.U, Pt.locs, Pt.cells, Pt.slots] at h1 h2 h3 h4 h5 X hn hPc ⊢
  obtain ⟨m9, methY, cY, hn9, hmY, hcY, -, hlY, -⟩ := Cond.codeWith_spec h2
  cases Option.some.inj (hn9.symm.trans hn)
  obtain ⟨kY, hkY, -⟩ := className_of_methodNamed hn
  have hinitY : kY.init = .initialized := Cond.initialized_spec (findClass_of_methodNamed hn) hkY h3
  have h : At U g.method c below := by rw [hg]; exact X.here
  have hlocals9 : W9 + (maxL + 11) + (headSpec ws rm).room.locals ≤ R.locals := hlocals
  have happ : (headSpec ws rm).appliesLoose y e.platform (U.calling g mk a) = true :=
    Spec.appliesLoose_calling (g := g) h hdg hn hkY hinitY
      (X.room_calling (g := g) (R' := (headSpec ws rm).room) hsize hmY hcY hframes (by rw [hlY]; omega) h4 h5) h1
  obtain ⟨mid, hmid⟩ := h.above
  have hfr : (U.setTop g).frames = (.java g :: mid) ++ below := by rw [State.frames_setTop' g h.top, hmid]; rfl
  obtain ⟨o, s₂, hsteps, -, hend, hq⟩ := Steps.callFree hM p X.admits X.cas X.clock (acts := []) hfr happ hPc trivial
  have hq' : vx_Q Qc XC mc ms free a (U.calling g mk a) o s₂ := hq
  rw [State.frames_setTop' g h.top] at hend
  obtain ⟨g₀, hg0⟩ := Option.isSome_iff_exists.mp h.top
  obtain ⟨r, hr⟩ := State.topJava?_eq_some.mp hg0
  have hr' : (({ U with heap := s₂.heap, slotsUsed := s₂.slotsUsed } : State).setVm s₂.vm).frames = .java g₀ :: r := hr
  rcases hq' with ⟨hqc, L, hfe, hL⟩ | ⟨q, rfl, E, ce, L, hx, hce, hcv, hcl, hW₂, hsm, hL⟩
  · obtain ⟨⟨v, rfl⟩, hW₂, e2, q2, q3, q4, q5, q6⟩ := id hfe
    have e3 : s₂ = ({ (U.calling g mk a).setFrames s₂.frames with heap := s₂.heap, slotsUsed := s₂.slotsUsed } : State).setVm s₂.vm := by
      have : s₂ = ({ s₂ with vm := (U.calling g mk a).vm } : State).setVm s₂.vm := rfl
      rw [e2] at this
      exact this
    obtain ⟨c₂, i₂, len₂, hc₂, hd₂, hf₂⟩ := hend
    have hW' : U.WarmedH s₂.vm := hW₂
    have hcc : c₂ = c := by
      have h1 : s₂.code? g.method = U.code? g.method := by
        rw [State.code?_eq, State.code?_eq, hW'.alike.method?]
      exact Option.some.inj (hc₂.symm.trans (h1.trans h.code))
    subst hcc
    have hlen : len₂ = len := by rw [hdg] at hd₂; cases hd₂; rfl
    subst hlen
    have hs₂ : s₂ = (({ U with heap := s₂.heap, slotsUsed := s₂.slotsUsed } : State).setVm s₂.vm).setTop { g with pc := g.pc + len₂, stack := v.toList ++ g.stack } := by
      refine e3.trans ?_
      rw [hf₂, State.calling_eq h.top, State.setFrames_setFrames, State.setTop_of_frames _ hr', hr]
      rfl
    have hsame : U.sameButNew ({ U with heap := s₂.heap, slotsUsed := s₂.slotsUsed } : State) L mc ms := by
      refine ⟨?_, q2, q3, q4, q5, q6⟩
      obtain ⟨t, ht, -⟩ := State.frames_cons hr
      show ({ U with heap := s₂.heap, slotsUsed := s₂.slotsUsed } : State) = { U.setFrames U.frames with heap := s₂.heap, slotsUsed := s₂.slotsUsed }
      rw [State.setFrames_self ht]
    subst hg
    refine Or.inl ⟨v, ⟨(({ U with heap := s₂.heap, slotsUsed := s₂.slotsUsed } : State).setVm s₂.vm), Ls ++ L, c0 + mc, s0 + ms⟩,
      ⟨X.admits, X.cas, X.clock, X.frames, X.room, X.hears, X.method, X.code, (X.here.setHeapUsed s₂.heap s₂.slotsUsed).setVm hW'.alike, X.tail, State.WarmedH.trans X.warmed hW', X.limits, X.bytes, X.same.trans (hsame.setVm s.vm)⟩,
      ⟨g, mk, s₂, L, rfl, rfl, hqc, rfl, hL, rfl, rfl⟩, ?_⟩
    show Steps p.tables e below _ ((({ U with heap := s₂.heap, slotsUsed := s₂.slotsUsed } : State).setVm s₂.vm).setTop { g with pc := g.pc + len₂, stack := v.toList ++ g.stack })
    rw [← hs₂]
    exact hsteps
  · obtain ⟨e2, q2, q3, q4, q5, q6⟩ := id hsm
    have e3 : s₂ = ({ (U.calling g mk a).setFrames s₂.frames with heap := s₂.heap, slotsUsed := s₂.slotsUsed } : State).setVm s₂.vm := by
      have : s₂ = ({ s₂ with vm := (U.calling g mk a).vm } : State).setVm s₂.vm := rfl
      rw [e2] at this
      exact this
    have hf₂ : s₂.frames = .throwing q :: .java g :: U.frames.tail := hend
    have hW' : U.WarmedH s₂.vm := hW₂
    have hs₂ : s₂ = ((({ U with heap := s₂.heap, slotsUsed := s₂.slotsUsed } : State).setVm s₂.vm).setTop g).pushFrame (.throwing q) := by
      refine e3.trans ?_
      rw [hf₂, State.calling_eq h.top, State.setFrames_setFrames, State.pushFrame, State.frames_setTop _ hr', State.setTop_of_frames _ hr', State.setFrames_setFrames, hr]
      rfl
    have hsame : U.sameButNew ({ U with heap := s₂.heap, slotsUsed := s₂.slotsUsed } : State) L mc ms := by
      refine ⟨?_, q2, q3, q4, q5, q6⟩
      obtain ⟨t, ht, -⟩ := State.frames_cons hr
      show ({ U with heap := s₂.heap, slotsUsed := s₂.slotsUsed } : State) = { U.setFrames U.frames with heap := s₂.heap, slotsUsed := s₂.slotsUsed }
      rw [State.setFrames_self ht]
    subst hg
    refine Or.inr ⟨q, ⟨(({ U with heap := s₂.heap, slotsUsed := s₂.slotsUsed } : State).setVm s₂.vm), Ls ++ L, c0 + mc, s0 + ms⟩,
      ⟨X.admits, X.cas, X.clock, X.frames, X.room, X.hears, X.method, X.code, (X.here.setHeapUsed s₂.heap s₂.slotsUsed).setVm hW'.alike, X.tail, State.WarmedH.trans X.warmed hW', X.limits, X.bytes, X.same.trans (hsame.setVm s.vm)⟩,
      ⟨g, mk, s₂, L, E, ce, rfl, rfl, hx, hce, hcv, hcl, rfl, hL, rfl, rfl⟩, ?_⟩
    show Steps p.tables e below _ (((({ U with heap := s₂.heap, slotsUsed := s₂.slotsUsed } : State).setVm s₂.vm).setTop g).pushFrame (.throwing q))
    rw [← hs₂]
    exact hsteps
end
variable {p : Program} {l : Launch} {e : Env} {R : Room} {s : State} {m : MethodId} {args : Array Value} {below : List Frame} {meth : Method} {c : Code} {T : State} {H : Heap} {locs : List Loc} {cells slots : Nat}
theorem vx_callVX (X : Stand p l e R s m args below meth c T locs cells slots) (hexec : p.tables.exec = Jvm.exec) {own C : String} {index : Nat} {y : MethodName} {bytes : ByteArray} {maxL : Nat} {ret : Option FieldType} {hh : List (Nat × Nat × Nat × Nat)}
    (hown : s.vm.findClass own = some m.cls) (hlink : (Cond.methodLink own index y).before args s = true) (hinst : (Cond.instanceMethod y).before args s = true) (hsel : (Cond.selects C y y).before args s = true)
    (hcode : (Cond.codeWith y bytes maxL ret hh).before args s = true) (hy : y.cls ≠ "java/lang/invoke/MethodHandle" ∧ y.cls ≠ "java/lang/invoke/VarHandle")
    {W9 : Nat} {Pre : Pt → Array Value → Prop} {Post : Pt → Array Value → Option Value → Pt → Prop} {PostX : Pt → Array Value → Addr → Pt → Prop} (hK : vx_Back l R p e below s args y 3 W9 Pre Post PostX)
    {b : Addr} {cellB : Cell} (hcell : T.heap[b]? = some cellB) (hobj : cellB.vm.isStatics = false) (hcls : s.vm.findClass C = some cellB.cls)
    {g : JFrame} (hg : g.method = m) (hsize : g.locals.size = c.maxLocals) {argsL rest : List Value} (hlen : ∀ sig, parseMethodDescriptor y.desc = some sig → argsL.length = sig.parameters.length)
    (hstack : g.stack = argsL.reverse ++ .ref b :: rest) (hW : 2 * g.monitorRoom + (rest.map fun v => v.category).sum ≤ W9) (hdg : decode c.code g.pc = .ok (.invokevirtual index, 3))
    (hpre : ∀ vm₁, s.WarmedH vm₁ → Pre ⟨T.setVm vm₁, locs, cells, slots⟩ (Value.ref b :: argsL).toArray) :
    (∃ (v : Option Value) (vm₁ : Vm) (B : Pt), s.WarmedH vm₁ ∧ Stand p l e R s m args below meth c B.U B.locs B.cells B.slots ∧ Post ⟨T.setVm vm₁, locs, cells, slots⟩ (Value.ref b :: argsL).toArray v B ∧
      ∀ target, Steps p.tables e below (B.U.setTop { g with pc := g.pc + 3, stack := v.toList ++ rest }) target → Steps p.tables e below (T.setTop g) target) ∨
    (∃ (q : Addr) (vm₁ : Vm) (B : Pt), s.WarmedH vm₁ ∧ Stand p l e R s m args below meth c B.U B.locs B.cells B.slots ∧ PostX ⟨T.setVm vm₁, locs, cells, slots⟩ (Value.ref b :: argsL).toArray q B ∧
      Steps p.tables e below (T.setTop g) ((B.U.setTop { g with stack := rest }).pushFrame (.throwing q))) := by
  obtain ⟨mk, methM, hnamed, hmethM, hstM, habM⟩ := Cond.instanceMethod_spec hinst
  obtain ⟨m8, methM', cM, hn8, hmethM', -, -, -, -, -, -, hsigM⟩ := Cond.codeWith_spec hcode
  cases Option.some.inj (hn8.symm.trans hnamed)
  cases hmethM.symm.trans hmethM'
  obtain ⟨c2, r2, m2, q1, q2, q3, q4, kP, hkP, hkPi⟩ := Cond.selects_spec hsel
  cases hcls.symm.trans q1
  cases (State.methodFound?_of_named hnamed hy).symm.trans q2
  cases hnamed.symm.trans q3
  have hselP : selectMethod e.platform s.vm cellB.cls mk = .method mk := by rw [Launch.admits_selectMethod X.admits]; exact q4
  obtain ⟨vm₁, X₁, hstep₁⟩ := X.invokevirtual hexec hown hlink hnamed hmethM hstM hkP hkPi hy (a := b) (cell := cellB) hcell
    (fun z h => by rw [h] at hobj; cases hobj) hselP hmethM habM hkP hkPi (g := g) hg (argsL := argsL) (rest := rest) (hlen _ hsigM) hstack hdg
  rcases hK m meth c ⟨T.setVm vm₁, locs, cells, slots⟩ { g with stack := rest } (.invokevirtual index) mk (Value.ref b :: argsL).toArray X₁ hg hsize hdg hW (X₁.named hnamed) (hpre vm₁ X₁.warmed) with ⟨v, B, X', hpost, hsteps⟩ | ⟨q, B, X', hpost, hsteps⟩
  · exact Or.inl ⟨v, vm₁, B, X₁.warmed, X', hpost, fun target h => hstep₁ _ fun acts => by rw [doInvoke_state]; exact hsteps.trans h⟩
  · exact Or.inr ⟨q, vm₁, B, X₁.warmed, X', hpost, hstep₁ _ fun acts => by rw [doInvoke_state]; exact hsteps⟩
theorem vx_callSX (X : Stand p l e R s m args below meth c T locs cells slots) (hexec : p.tables.exec = Jvm.exec) {own : String} {index : Nat} {y : MethodName} {bytes : ByteArray} {maxL : Nat} {ret : Option FieldType} {hh : List (Nat × Nat × Nat × Nat)}
    (hown : s.vm.findClass own = some m.cls) (hlink : (Cond.methodLink own index y).before args s = true) (hstat : (Cond.static y).before args s = true) (hinit : (Cond.initialized y.cls).before args s = true)
    (hcode : (Cond.codeWith y bytes maxL ret hh).before args s = true) (hy : y.cls ≠ "java/lang/invoke/MethodHandle" ∧ y.cls ≠ "java/lang/invoke/VarHandle")
    {W9 : Nat} {Pre : Pt → Array Value → Prop} {Post : Pt → Array Value → Option Value → Pt → Prop} {PostX : Pt → Array Value → Addr → Pt → Prop} (hK : vx_Back l R p e below s args y 3 W9 Pre Post PostX)
    {g : JFrame} (hg : g.method = m) (hsize : g.locals.size = c.maxLocals) {argsL rest : List Value} (hlen : ∀ sig, parseMethodDescriptor y.desc = some sig → argsL.length = sig.parameters.length)
    (hstack : g.stack = argsL.reverse ++ rest) (hW : 2 * g.monitorRoom + (rest.map fun v => v.category).sum ≤ W9) (hdg : decode c.code g.pc = .ok (.invokestatic index, 3))
    (hpre : ∀ vm₁, s.WarmedH vm₁ → Pre ⟨T.setVm vm₁, locs, cells, slots⟩ argsL.toArray) :
    (∃ (v : Option Value) (vm₁ : Vm) (B : Pt), s.WarmedH vm₁ ∧ Stand p l e R s m args below meth c B.U B.locs B.cells B.slots ∧ Post ⟨T.setVm vm₁, locs, cells, slots⟩ argsL.toArray v B ∧
      ∀ target, Steps p.tables e below (B.U.setTop { g with pc := g.pc + 3, stack := v.toList ++ rest }) target → Steps p.tables e below (T.setTop g) target) ∨
    (∃ (q : Addr) (vm₁ : Vm) (B : Pt), s.WarmedH vm₁ ∧ Stand p l e R s m args below meth c B.U B.locs B.cells B.slots ∧ PostX ⟨T.setVm vm₁, locs, cells, slots⟩ argsL.toArray q B ∧
      Steps p.tables e below (T.setTop g) ((B.U.setTop { g with stack := rest }).pushFrame (.throwing q))) := by
  obtain ⟨mk, methM, cM, hnamed, hmethM, -, -, -, -, -, -, hsigM⟩ := Cond.codeWith_spec hcode
  have hstatic : methM.isStatic = true := Cond.static_spec hnamed hmethM hstat
  obtain ⟨kP, hkP, -⟩ := className_of_methodNamed hnamed
  have hinitP : kP.init = .initialized := Cond.initialized_spec (findClass_of_methodNamed hnamed) hkP hinit
  obtain ⟨vm₁, X₁, hstep₁⟩ := X.invokestatic hexec hown hlink hnamed hmethM hstatic hkP hinitP hy (g := g) hg (argsL := argsL) (rest := rest) (hlen _ hsigM) hstack hdg
  rcases hK m meth c ⟨T.setVm vm₁, locs, cells, slots⟩ { g with stack := rest } (.invokestatic index) mk argsL.toArray X₁ hg hsize hdg hW (X₁.named hnamed) (hpre vm₁ X₁.warmed) with ⟨v, B, X', hpost, hsteps⟩ | ⟨q, B, X', hpost, hsteps⟩
  · exact Or.inl ⟨v, vm₁, B, X₁.warmed, X', hpost, fun target h => hstep₁ _ fun acts => by rw [doInvoke_state]; exact hsteps.trans h⟩
  · exact Or.inr ⟨q, vm₁, B, X₁.warmed, X', hpost, hstep₁ _ fun acts => by rw [doInvoke_state]; exact hsteps⟩
theorem vx_callVW (X : Stand p l e R s m args below meth c T locs cells slots) (hexec : p.tables.exec = Jvm.exec) {own C : String} {index : Nat} {y : MethodName} {bytes : ByteArray} {maxL : Nat} {ret : Option FieldType} {hh : List (Nat × Nat × Nat × Nat)}
    (hown : s.vm.findClass own = some m.cls) (hlink : (Cond.methodLink own index y).before args s = true) (hinst : (Cond.instanceMethod y).before args s = true) (hsel : (Cond.selects C y y).before args s = true)
    (hcode : (Cond.codeWith y bytes maxL ret hh).before args s = true) (hy : y.cls ≠ "java/lang/invoke/MethodHandle" ∧ y.cls ≠ "java/lang/invoke/VarHandle")
    {W9 : Nat} {Pre : Pt → Array Value → Prop} {Post : Pt → Array Value → Option Value → Pt → Prop} (hK : Back l R p e below s args y 3 W9 Pre Post)
    {b : Addr} {cellB : Cell} (hcell : T.heap[b]? = some cellB) (hobj : cellB.vm.isStatics = false) (hcls : s.vm.findClass C = some cellB.cls)
    {g : JFrame} (hg : g.method = m) (hsize : g.locals.size = c.maxLocals) {argsL rest : List Value} (hlen : ∀ sig, parseMethodDescriptor y.desc = some sig → argsL.length = sig.parameters.length)
    (hstack : g.stack = argsL.reverse ++ .ref b :: rest) (hW : 2 * g.monitorRoom + (rest.map fun v => v.category).sum ≤ W9) (hdg : decode c.code g.pc = .ok (.invokevirtual index, 3))
    (hpre : ∀ vm₁, s.WarmedH vm₁ → Pre ⟨T.setVm vm₁, locs, cells, slots⟩ (Value.ref b :: argsL).toArray) :
    ∃ (v : Option Value) (vm₁ : Vm) (B : Pt), s.WarmedH vm₁ ∧ Stand p l e R s m args below meth c B.U B.locs B.cells B.slots ∧ Post ⟨T.setVm vm₁, locs, cells, slots⟩ (Value.ref b :: argsL).toArray v B ∧
      ∀ target, Steps p.tables e below (B.U.setTop { g with pc := g.pc + 3, stack := v.toList ++ rest }) target → Steps p.tables e below (T.setTop g) target := by
  obtain ⟨mk, methM, hnamed, hmethM, hstM, habM⟩ := Cond.instanceMethod_spec hinst
  obtain ⟨m8, methM', cM, hn8, hmethM', -, -, -, -, -, -, hsigM⟩ := Cond.codeWith_spec hcode
  cases Option.some.inj (hn8.symm.trans hnamed)
  cases hmethM.symm.trans hmethM'
  obtain ⟨c2, r2, m2, q1, q2, q3, q4, kP, hkP, hkPi⟩ := Cond.selects_spec hsel
  cases hcls.symm.trans q1
  cases (State.methodFound?_of_named hnamed hy).symm.trans q2
  cases hnamed.symm.trans q3
  have hselP : selectMethod e.platform s.vm cellB.cls mk = .method mk := by rw [Launch.admits_selectMethod X.admits]; exact q4
  obtain ⟨vm₁, X₁, hstep₁⟩ := X.invokevirtual hexec hown hlink hnamed hmethM hstM hkP hkPi hy (a := b) (cell := cellB) hcell
    (fun z h => by rw [h] at hobj; cases hobj) hselP hmethM habM hkP hkPi (g := g) hg (argsL := argsL) (rest := rest) (hlen _ hsigM) hstack hdg
  obtain ⟨v, B, X', hpost, hsteps⟩ := hK m meth c ⟨T.setVm vm₁, locs, cells, slots⟩ { g with stack := rest } (.invokevirtual index) mk (Value.ref b :: argsL).toArray X₁ hg hsize hdg hW (X₁.named hnamed) (hpre vm₁ X₁.warmed)
  exact ⟨v, vm₁, B, X₁.warmed, X', hpost, fun target h => hstep₁ _ fun acts => by rw [doInvoke_state]; exact hsteps.trans h⟩
abbrev vx_CVW (R : Room) (s : State) (args : Array Value) (own C : String) (index : Nat) (y : MethodName) (bytes : ByteArray) (maxL : Nat) (ret : Option FieldType) (hh : List (Nat × Nat × Nat × Nat)) (ws : List Cond) (rm : Room) (mc ms n : Nat) : Prop :=
  (rm.cells = mc ∧ rm.slots = ms ∧ rm.frames + 1 ≤ R.frames ∧ 8 + (maxL + 11) + rm.locals ≤ R.locals ∧ (∀ w ∈ ws, ∀ (a' : Array Value) (U : State), s.WarmedH U.vm → w.before a' U = true) ∧ Cond.codeWith y bytes maxL ret hh ∈ ws) ∧
  (Cond.codeWith y bytes maxL ret hh).before args s = true ∧ (Cond.initialized y.cls).before args s = true ∧ (y.cls ≠ "java/lang/invoke/MethodHandle" ∧ y.cls ≠ "java/lang/invoke/VarHandle") ∧
  (∀ sig, parseMethodDescriptor y.desc = some sig → n = sig.parameters.length) ∧ (Cond.methodLink own index y).before args s = true ∧ (Cond.instanceMethod y).before args s = true ∧ (Cond.selects C y y).before args s = true
theorem vx_cwVW {own C : String} {index maxL mc ms : Nat} {y : MethodName} {bytes : ByteArray} {ret : Option FieldType} {hh : List (Nat × Nat × Nat × Nat)} {Ts ws ws' : List Cond} {rm : Room} (n : Nat) (ht : ∀ w ∈ Ts, w.before args s = true) (hT : GoodIn Ts (wsV own index C y ws)) (hw : ws = Cond.codeWith y bytes maxL ret hh :: ws') (hrc : rm.cells = mc) (hrs : rm.slots = ms)
    (hd : y.cls = C ∧ y.cls ≠ "java/lang/invoke/MethodHandle" ∧ y.cls ≠ "java/lang/invoke/VarHandle" ∧ (parseMethodDescriptor y.desc).map (fun d => d.parameters.length) = some n) (hR : rm.frames + 1 ≤ R.frames ∧ 8 + (maxL + 11) + rm.locals ≤ R.locals) :
    vx_CVW R s args own C index y bytes maxL ret hh ws rm mc ms n := by
  obtain ⟨hC, hd⟩ := hd
  subst hC
  have ok : ∀ w ∈ wsV own index y.cls y ws, w.before args s = true := fun w h => ht w (hT w h).1
  have hG : GoodIn Ts ws := fun w h => hT w (by unfold wsV; exact List.mem_append_right _ h)
  have hc : Cond.codeWith y bytes maxL ret hh ∈ ws := by rw [hw]; exact List.mem_cons_self
  refine ⟨⟨hrc, hrs, hR.1, hR.2, pay_in ht hG, hc⟩, ht _ (hG _ hc).1, ok _ (by simp [wsV]), ⟨hd.1, hd.2.1⟩, fun sig h => ?_, ok _ (by simp [wsV]), ok _ (by simp [wsV]), ok _ (by simp [wsV])⟩
  have h2 := hd.2.2
  rw [h] at h2
  exact (Option.some.inj h2).symm
theorem vx_runVW {y : MethodName} {bytes cc : ByteArray} {maxL nL mc ms n index : Nat} {ret : Option FieldType} {hh : List (Nat × Nat × Nat × Nat)} {ws : List Cond} {rm : Room} {Pc : Array Value → State → Prop} {Qc : Array Value → State → Outcome → State → Prop} {free : Addr → Prop} {Ts : List Cond} {own C : String} {b : Addr} {As rest : List Value} {g : JFrame}
    (S : CallFix p m c cc nL s args Ts own) (hM : Met l y ws rm Pc Qc mc ms free) (cw : vx_CVW R s args own C index y bytes maxL ret hh ws rm mc ms n) (hp : PreV s H C b Pc As)
    (hg : g.method = m) (hn : As.length = n) (hsize : g.locals.size = nL) (hstack : g.stack = As.reverse ++ .ref b :: rest) (hW : 2 * g.monitorRoom + (rest.map fun v => v.category).sum ≤ 8) (hdg : decode cc g.pc = .ok (.invokevirtual index, 3)) (hf : cells + mc ≤ R.cells ∧ slots + ms ≤ R.slots) :
    va_Run p l e R s m args below meth c H locs cells slots mc ms g rest (Qc (Value.ref b :: As).toArray) free := by
  obtain ⟨⟨hrc, hrs, hfr, hlo, hws, hcw⟩, hcode, hini, hy, hlen, hl, hin, hse⟩ := cw
  have hK : Back l R p e below s args y 3 8 (PreOf R mc ms Pc) (PostOf Qc mc ms free) := va_backW (hh := hh) (bytes := bytes) (maxL := maxL) (ret := ret) hM hp.1 hrc hrs hfr hlo hws hcw (fun a' U hW => word_at hW (Or.inl (by first | rfl | simp [Cond.onTables, Cond.keeps, Cond.steady])) hini)
  obtain ⟨hx, hb, hml, ho, -⟩ := S
  obtain ⟨-, ⟨cellB, hcB, hoB, hclB⟩, hPc⟩ := hp
  intro T hT X
  obtain ⟨v, vm₁, ⟨U', l2, c2, s2⟩, hW₁, X', ⟨g', mk, t, L, e1, e2, hq, h1, hL, h2, h3⟩, st⟩ := vx_callVW X hx (C := C) (hh := hh) (bytes := bytes) (maxL := maxL) (ret := ret) ho hl hin hse hcode hy hK (by rw [hT]; exact hcB) hoB hclB hg (hsize.trans hml.symm) (argsL := As) (rest := rest) (fun sig h => hn.trans (hlen sig h)) hstack hW (by rw [hb]; exact hdg)
    (fun vm₁ hW₁ => ⟨hf.1, hf.2, hPc (T.setVm vm₁) hT hW₁⟩)
  dsimp only [Pt.U, Pt.locs, Pt.cells, Pt.slots] at X' e1 e2 h1 h2 h3 st
  subst h1; subst h2; subst h3
  exact ⟨v, (T.setVm vm₁).calling g' mk (Value.ref b :: As).toArray, t, U', L, hT, X', hL, e1, e2, hq, st⟩
section
variable {y : MethodName} {bytes cc : ByteArray} {maxL nL mc ms n index : Nat} {ret : Option FieldType} {ws : List Cond} {rm : Room} {Pc : Array Value → State → Prop} {Qc : Array Value → State → Outcome → State → Prop} {XC : String → State → State → Prop} {free : Addr → Prop} {Ts : List Cond} {own C : String} {b : Addr} {As rest : List Value} {g : JFrame}
theorem vx_runVX {hh : List (Nat × Nat × Nat × Nat)} (S : CallFix p m c cc nL s args Ts own) (hM : vx_Met l y ws rm Pc Qc XC mc ms free) (cw : vx_CVW R s args own C index y bytes maxL ret hh ws rm mc ms n) (hp : PreV s H C b Pc As)
    (hg : g.method = m) (hn : As.length = n) (hsize : g.locals.size = nL) (hstack : g.stack = As.reverse ++ .ref b :: rest) (hW : 2 * g.monitorRoom + (rest.map fun v => v.category).sum ≤ 8) (hdg : decode cc g.pc = .ok (.invokevirtual index, 3)) (hf : cells + mc ≤ R.cells ∧ slots + ms ≤ R.slots) :
    vx_Run p l e R s m args below meth c H locs cells slots mc ms g rest (Qc (Value.ref b :: As).toArray) XC free := by
  obtain ⟨⟨hrc, hrs, hfr, hlo, hws, hcw⟩, hcode, hini, hy, hlen, hl, hin, hse⟩ := cw
  have hK : vx_Back l R p e below s args y 3 8 (PreOf R mc ms Pc) (PostOf Qc mc ms free) (vx_Post XC mc ms free) := vx_backW (hh := hh) (bytes := bytes) (maxL := maxL) (ret := ret) hM hp.1 hrc hrs hfr hlo hws hcw (fun a' U hW => word_at hW (Or.inl (by first | rfl | simp [Cond.onTables, Cond.keeps, Cond.steady])) hini)
  obtain ⟨hx, hb, hml, ho, -⟩ := S
  obtain ⟨-, ⟨cellB, hcB, hoB, hclB⟩, hPc⟩ := hp
  intro T hT X
  rcases vx_callVX X hx (C := C) (hh := hh) (bytes := bytes) (maxL := maxL) (ret := ret) ho hl hin hse hcode hy hK (by rw [hT]; exact hcB) hoB hclB hg (hsize.trans hml.symm) (argsL := As) (rest := rest) (fun sig h => hn.trans (hlen sig h)) hstack hW (by rw [hb]; exact hdg)
    (fun vm₁ hW₁ => ⟨hf.1, hf.2, hPc (T.setVm vm₁) hT hW₁⟩) with ⟨v, vm₁, ⟨U', l2, c2, s2⟩, hW₁, X', ⟨g', mk, t, L, e1, e2, hq, h1, hL, h2, h3⟩, st⟩ | ⟨q, vm₁, ⟨U', l2, c2, s2⟩, hW₁, X', ⟨g', mk, t, L, E, ce, e1, e2, hq, hce, hcv, hcl, h1, hL, h2, h3⟩, st⟩
  · dsimp only [Pt.U, Pt.locs, Pt.cells, Pt.slots] at X' e1 e2 h1 h2 h3 st
    subst h1; subst h2; subst h3
    exact Or.inl ⟨v, (T.setVm vm₁).calling g' mk (Value.ref b :: As).toArray, t, U', L, hT, X', hL, e1, e2, hq, st⟩
  · dsimp only [Pt.U, Pt.locs, Pt.cells, Pt.slots] at X' e1 e2 h1 h2 h3 st hcl
    subst h1; subst h2; subst h3
    exact Or.inr ⟨q, (T.setVm vm₁).calling g' mk (Value.ref b :: As).toArray, t, U', L, E, ce, hT, X', hL, e1, e2, hq, hce, hcv, vx_cls hW₁ hcl, st⟩
theorem vx_runSX {hh : List (Nat × Nat × Nat × Nat)} (S : CallFix p m c cc nL s args Ts own) (hM : vx_Met l y ws rm Pc Qc XC mc ms free) (cw : vx_CSW R s args own index y bytes maxL ret hh ws rm mc ms n) (hp : PreS s H Pc As)
    (hg : g.method = m) (hn : As.length = n) (hsize : g.locals.size = nL) (hstack : g.stack = As.reverse ++ rest) (hW : 2 * g.monitorRoom + (rest.map fun v => v.category).sum ≤ 8) (hdg : decode cc g.pc = .ok (.invokestatic index, 3)) (hf : cells + mc ≤ R.cells ∧ slots + ms ≤ R.slots) :
    vx_Run p l e R s m args below meth c H locs cells slots mc ms g rest (Qc As.toArray) XC free := by
  obtain ⟨⟨hrc, hrs, hfr, hlo, hws, hcw⟩, hcode, hini, hy, hlen, hl, hstt⟩ := cw
  have hK : vx_Back l R p e below s args y 3 8 (PreOf R mc ms Pc) (PostOf Qc mc ms free) (vx_Post XC mc ms free) := vx_backW (hh := hh) (bytes := bytes) (maxL := maxL) (ret := ret) hM hp.1 hrc hrs hfr hlo hws hcw (fun a' U hW => word_at hW (Or.inl (by first | rfl | simp [Cond.onTables, Cond.keeps, Cond.steady])) hini)
  obtain ⟨hx, hb, hml, ho, -⟩ := S
  intro T hT X
  rcases vx_callSX X hx (hh := hh) (bytes := bytes) (maxL := maxL) (ret := ret) ho hl hstt hini hcode hy hK hg (hsize.trans hml.symm) (argsL := As) (rest := rest) (fun sig h => hn.trans (hlen sig h)) hstack hW (by rw [hb]; exact hdg)
    (fun vm₁ hW₁ => ⟨hf.1, hf.2, hp.2 (T.setVm vm₁) hT hW₁⟩) with ⟨v, vm₁, ⟨U', l2, c2, s2⟩, hW₁, X', ⟨g', mk, t, L, e1, e2, hq, h1, hL, h2, h3⟩, st⟩ | ⟨q, vm₁, ⟨U', l2, c2, s2⟩, hW₁, X', ⟨g', mk, t, L, E, ce, e1, e2, hq, hce, hcv, hcl, h1, hL, h2, h3⟩, st⟩
  · dsimp only [Pt.U, Pt.locs, Pt.cells, Pt.slots] at X' e1 e2 h1 h2 h3 st
    subst h1; subst h2; subst h3
    exact Or.inl ⟨v, (T.setVm vm₁).calling g' mk As.toArray, t, U', L, hT, X', hL, e1, e2, hq, st⟩
  · dsimp only [Pt.U, Pt.locs, Pt.cells, Pt.slots] at X' e1 e2 h1 h2 h3 st hcl
    subst h1; subst h2; subst h3
    exact Or.inr ⟨q, (T.setVm vm₁).calling g' mk As.toArray, t, U', L, E, ce, hT, X', hL, e1, e2, hq, hce, hcv, vx_cls hW₁ hcl, st⟩
end
end VXH
theorem vx_ofWH {l : Launch} {y : MethodName} {ws ws' : List Cond} {rm : Room} {Pc : Array Value → State → Prop} {Qc : Array Value → State → Outcome → State → Prop} {XC : String → State → State → Prop} {mc ms : Nat} {free : Addr → Prop} {cc : ByteArray} {maxL : Nat} {ret : Option FieldType} {hh : List (Nat × Nat × Nat × Nat)}
    (hy : plainName y.cls = true) (hw : ws = Cond.codeWith y cc maxL ret hh :: ws')
    (body : ∀ p e s m args below meth c s₁, BodyLoose p l y (headSpec ws rm) cc maxL ret e s m args below meth c s₁ → c.maxLocals = maxL → Pc args s →
      W p l e (headSpec ws rm).room s m args below meth c s.heap [] 0 0 (vx_MQ below Qc XC args s mc ms free) (entryFrame m args maxL)) : vx_Met l y ws rm Pc Qc XC mc ms free := by
  refine MetFree.of_bodyS (code := cc) (maxLocals := maxL) (ret := ret) hy ?_ ?_
  · intro args s m h hn
    obtain ⟨m9, meth, c, hn9, h1, h2, h3, h4, -, h5, h6, -⟩ := Cond.codeWith_spec (atoms_spec (ws := ws) h _ (by rw [hw]; exact List.mem_cons_self))
    cases hn.symm.trans hn9
    exact ⟨meth, c, h1, h2, h3, h4, h5, h6⟩
  · intro p e s m args below meth c s₁ B hml hP _
    have hh0 : s₁.heap = s.heap := by rw [B.state]; rfl
    obtain ⟨t, a1, o, b1, b2, b3⟩ := body p e s m args below meth c s₁ B hml hP s₁ hh0 (Stand.of_body B)
    exact ⟨t, o, a1, b1, b2, b3⟩
/-! ===== END ===== -/

/-! ===== BEGIN printed: names, fields, word lists, decode rows ===== -/
def RX0 : String := "FaultyCube$Broadcast"
def TX0 : u_T := fun k => match k with
  | 0 => ("FaultyCube$Broadcast", "times", "[I", true)
  | 1 => ("FaultyCube$Broadcast", "lists", "[I", true)
  | 2 => ("FaultyCube$Broadcast", "queue", "[I", true)
  | _ => ("FaultyCube$Broadcast", "receivers", "I", false)
def tyX0 : Nat → FieldType := fun k => match k with
  | 0 => .array .int
  | 1 => .array .int
  | 2 => .array .int
  | _ => .int
abbrev wsX00 : List Cond := u_ws RX0 TX0 4
theorem nmX0 : ∀ a, a < 4 → ∀ b, b < 4 → a ≠ b → (TX0 a).2.1 ≠ (TX0 b).2.1 := by decide +kernel
theorem tyX0_ok : ∀ k, k < 4 → parseFieldDescriptor (TX0 k).2.2.1 = some (tyX0 k) := by decide +kernel
abbrev cX0_init : ByteArray := prog_2_method_1_code
def yX0_init : MethodName := ⟨RX0, "<init>", "()V"⟩
abbrev cX0_run : ByteArray := prog_2_method_2_code
def yX0_run : MethodName := ⟨RX0, "run", "(IJLFaultyCube$Safety;)V"⟩
abbrev cX0_timeOf : ByteArray := prog_2_method_3_code
def yX0_timeOf : MethodName := ⟨RX0, "timeOf", "(I)I"⟩
abbrev cX0_passOn : ByteArray := prog_2_method_4_code
def yX0_passOn : MethodName := ⟨RX0, "passOn", "(IJLFaultyCube$Safety;)V"⟩
abbrev cX0_receive : ByteArray := prog_2_method_5_code
def yX0_receive : MethodName := ⟨RX0, "receive", "(III)V"⟩
def RX1 : String := "FaultyCube$PathPacking"
def TX1 : u_T := fun k => match k with
  | 0 => ("FaultyCube$PathPacking", "leaving", "[I", true)
  | 1 => ("FaultyCube$PathPacking", "cameFrom", "[I", true)
  | 2 => ("FaultyCube$PathPacking", "queue", "[I", true)
  | 3 => ("FaultyCube$PathPacking", "found", "I", false)
  | 4 => ("FaultyCube$PathPacking", "source", "I", false)
  | 5 => ("FaultyCube$PathPacking", "goal", "I", false)
  | 6 => ("FaultyCube$PathPacking", "dimension", "I", false)
  | _ => ("FaultyCube$PathPacking", "alive", "J", false)
def tyX1 : Nat → FieldType := fun k => match k with
  | 0 => .array .int
  | 1 => .array .int
  | 2 => .array .int
  | 3 => .int
  | 4 => .int
  | 5 => .int
  | 6 => .int
  | _ => .long
abbrev wsX10 : List Cond := u_ws RX1 TX1 8
theorem nmX1 : ∀ a, a < 8 → ∀ b, b < 8 → a ≠ b → (TX1 a).2.1 ≠ (TX1 b).2.1 := by decide +kernel
theorem tyX1_ok : ∀ k, k < 8 → parseFieldDescriptor (TX1 k).2.2.1 = some (tyX1 k) := by decide +kernel
abbrev cX1_init : ByteArray := prog_3_method_1_code
def yX1_init : MethodName := ⟨RX1, "<init>", "()V"⟩
abbrev cX1_largest : ByteArray := prog_3_method_2_code
def yX1_largest : MethodName := ⟨RX1, "largest", "(IIIJ)I"⟩
abbrev cX1_findsPath : ByteArray := prog_3_method_3_code
def yX1_findsPath : MethodName := ⟨RX1, "findsPath", "()Z"⟩
abbrev cX1_searchFromExit : ByteArray := prog_3_method_4_code
def yX1_searchFromExit : MethodName := ⟨RX1, "searchFromExit", "(I)V"⟩
abbrev cX1_searchFromEntry : ByteArray := prog_3_method_5_code
def yX1_searchFromEntry : MethodName := ⟨RX1, "searchFromEntry", "(I)V"⟩
abbrev cX1_discover : ByteArray := prog_3_method_6_code
def yX1_discover : MethodName := ⟨RX1, "discover", "(II)V"⟩
abbrev cX1_addPath : ByteArray := prog_3_method_7_code
def yX1_addPath : MethodName := ⟨RX1, "addPath", "()V"⟩
abbrev cX1_entry : ByteArray := prog_3_method_8_code
def yX1_entry : MethodName := ⟨RX1, "entry", "(I)I"⟩
abbrev cX1_exit : ByteArray := prog_3_method_9_code
def yX1_exit : MethodName := ⟨RX1, "exit", "(I)I"⟩
def RX2 : String := "FaultyCube$Safety"
def TX2 : u_T := fun k => match k with
  | 0 => ("FaultyCube$Safety", "dimension", "I", false)
  | 1 => ("FaultyCube$Safety", "changingRounds", "I", false)
  | 2 => ("FaultyCube$Safety", "levels", "[I", true)
  | 3 => ("FaultyCube$Safety", "levelsBefore", "[I", true)
  | _ => ("FaultyCube$Safety", "vectorSets", "[J", true)
def tyX2 : Nat → FieldType := fun k => match k with
  | 0 => .int
  | 1 => .int
  | 2 => .array .int
  | 3 => .array .int
  | _ => .array .long
abbrev wsX20 : List Cond := u_ws RX2 TX2 5
theorem nmX2 : ∀ a, a < 5 → ∀ b, b < 5 → a ≠ b → (TX2 a).2.1 ≠ (TX2 b).2.1 := by decide +kernel
theorem tyX2_ok : ∀ k, k < 5 → parseFieldDescriptor (TX2 k).2.2.1 = some (tyX2 k) := by decide +kernel
abbrev cX2_init : ByteArray := prog_4_method_1_code
def yX2_init : MethodName := ⟨RX2, "<init>", "()V"⟩
abbrev cX2_find : ByteArray := prog_4_method_2_code
def yX2_find : MethodName := ⟨RX2, "find", "(IJ)V"⟩
abbrev cX2_startLevels : ByteArray := prog_4_method_3_code
def yX2_startLevels : MethodName := ⟨RX2, "startLevels", "(J)V"⟩
abbrev cX2_roundChanges : ByteArray := prog_4_method_4_code
def yX2_roundChanges : MethodName := ⟨RX2, "roundChanges", "(J)Z"⟩
abbrev cX2_levelAfterRound : ByteArray := prog_4_method_5_code
def yX2_levelAfterRound : MethodName := ⟨RX2, "levelAfterRound", "(I)I"⟩
abbrev cX2_neighboursBelow : ByteArray := prog_4_method_6_code
def yX2_neighboursBelow : MethodName := ⟨RX2, "neighboursBelow", "(II)I"⟩
abbrev cX2_findVectors : ByteArray := prog_4_method_7_code
def yX2_findVectors : MethodName := ⟨RX2, "findVectors", "(J)V"⟩
abbrev cX2_withNeighboursAbove : ByteArray := prog_4_method_8_code
def yX2_withNeighboursAbove : MethodName := ⟨RX2, "withNeighboursAbove", "(JI)J"⟩
abbrev cX2_levelOf : ByteArray := prog_4_method_9_code
def yX2_levelOf : MethodName := ⟨RX2, "levelOf", "(I)I"⟩
abbrev cX2_bitOf : ByteArray := prog_4_method_10_code
def yX2_bitOf : MethodName := ⟨RX2, "bitOf", "(II)I"⟩
abbrev cX2_spareOf : ByteArray := prog_4_method_11_code
def yX2_spareOf : MethodName := ⟨RX2, "spareOf", "(I)I"⟩
abbrev cX2_bestDimension : ByteArray := prog_4_method_12_code
def yX2_bestDimension : MethodName := ⟨RX2, "bestDimension", "(II)I"⟩
abbrev cX2_bestLevel : ByteArray := prog_4_method_13_code
def yX2_bestLevel : MethodName := ⟨RX2, "bestLevel", "(II)I"⟩
def RX3 : String := "FaultyCube$Situation"
def TX3 : u_T := fun k => match k with
  | 0 => ("FaultyCube$Situation", "dimension", "I", false)
  | 1 => ("FaultyCube$Situation", "alive", "J", false)
  | 2 => ("FaultyCube$Situation", "steps", "I", false)
  | 3 => ("FaultyCube$Situation", "messages", "I", false)
  | 4 => ("FaultyCube$Situation", "states", "[I", true)
  | 5 => ("FaultyCube$Situation", "positions", "[I", true)
  | 6 => ("FaultyCube$Situation", "goals", "[I", true)
  | 7 => ("FaultyCube$Situation", "moveCounts", "[I", true)
  | _ => ("FaultyCube$Situation", "detourCounts", "[I", true)
def tyX3 : Nat → FieldType := fun k => match k with
  | 0 => .int
  | 1 => .long
  | 2 => .int
  | 3 => .int
  | 4 => .array .int
  | 5 => .array .int
  | 6 => .array .int
  | 7 => .array .int
  | _ => .array .int
abbrev wsX30 : List Cond := u_ws RX3 TX3 9
theorem nmX3 : ∀ a, a < 9 → ∀ b, b < 9 → a ≠ b → (TX3 a).2.1 ≠ (TX3 b).2.1 := by decide +kernel
theorem tyX3_ok : ∀ k, k < 9 → parseFieldDescriptor (TX3 k).2.2.1 = some (tyX3 k) := by decide +kernel
abbrev cX3_init : ByteArray := prog_5_method_1_code
def yX3_init : MethodName := ⟨RX3, "<init>", "()V"⟩
abbrev cX3_restart : ByteArray := prog_5_method_2_code
def yX3_restart : MethodName := ⟨RX3, "restart", "(I)V"⟩
abbrev cX3_copyFrom : ByteArray := prog_5_method_3_code
def yX3_copyFrom : MethodName := ⟨RX3, "copyFrom", "(LFaultyCube$Situation;)V"⟩
abbrev cX3_addMessage : ByteArray := prog_5_method_4_code
def yX3_addMessage : MethodName := ⟨RX3, "addMessage", "(II)I"⟩
abbrev cX3_letDie : ByteArray := prog_5_method_5_code
def yX3_letDie : MethodName := ⟨RX3, "letDie", "(J)I"⟩
def RX4 : String := "FaultyCube$Traffic"
def TX4 : u_T := fun k => match k with
  | _ => ("FaultyCube$Traffic", "usedWays", "[I", true)
def tyX4 : Nat → FieldType := fun k => match k with
  | _ => .array .int
abbrev wsX40 : List Cond := u_ws RX4 TX4 1
theorem nmX4 : ∀ a, a < 1 → ∀ b, b < 1 → a ≠ b → (TX4 a).2.1 ≠ (TX4 b).2.1 := by decide +kernel
theorem tyX4_ok : ∀ k, k < 1 → parseFieldDescriptor (TX4 k).2.2.1 = some (tyX4 k) := by decide +kernel
abbrev cX4_init : ByteArray := prog_6_method_1_code
def yX4_init : MethodName := ⟨RX4, "<init>", "()V"⟩
abbrev cX4_oneStep : ByteArray := prog_6_method_2_code
def yX4_oneStep : MethodName := ⟨RX4, "oneStep", "(LFaultyCube$Situation;LFaultyCube$Safety;)I"⟩
abbrev cX4_moved : ByteArray := prog_6_method_3_code
def yX4_moved : MethodName := ⟨RX4, "moved", "(ILFaultyCube$Situation;LFaultyCube$Safety;)Z"⟩
abbrev cX4_move : ByteArray := prog_6_method_4_code
def yX4_move : MethodName := ⟨RX4, "move", "(IIZLFaultyCube$Situation;)V"⟩
def RX5 : String := "FaultyCube$UndoStack"
def TX5 : u_T := fun k => match k with
  | 0 => ("FaultyCube$UndoStack", "ring", "[LFaultyCube$Situation;", true)
  | 1 => ("FaultyCube$UndoStack", "next", "I", false)
  | _ => ("FaultyCube$UndoStack", "size", "I", false)
def tyX5 : Nat → FieldType := fun k => match k with
  | 0 => .array (.object "FaultyCube$Situation")
  | 1 => .int
  | _ => .int
abbrev wsX50 : List Cond := u_ws RX5 TX5 3
theorem nmX5 : ∀ a, a < 3 → ∀ b, b < 3 → a ≠ b → (TX5 a).2.1 ≠ (TX5 b).2.1 := by decide +kernel
theorem tyX5_ok : ∀ k, k < 3 → parseFieldDescriptor (TX5 k).2.2.1 = some (tyX5 k) := by decide +kernel
abbrev cX5_init : ByteArray := prog_7_method_1_code
def yX5_init : MethodName := ⟨RX5, "<init>", "()V"⟩
abbrev cX5_save : ByteArray := prog_7_method_2_code
def yX5_save : MethodName := ⟨RX5, "save", "(LFaultyCube$Situation;)V"⟩
abbrev cX5_restoreInto : ByteArray := prog_7_method_3_code
def yX5_restoreInto : MethodName := ⟨RX5, "restoreInto", "(LFaultyCube$Situation;)V"⟩
abbrev cX5_slotAt : ByteArray := prog_7_method_4_code
def yX5_slotAt : MethodName := ⟨RX5, "slotAt", "(I)LFaultyCube$Situation;"⟩
def RX6 : String := "FaultyCube"
def TX6 : u_T := fun k => match k with
  | 0 => ("FaultyCube", "now", "LFaultyCube$Situation;", true)
  | 1 => ("FaultyCube", "past", "LFaultyCube$UndoStack;", true)
  | 2 => ("FaultyCube", "safety", "LFaultyCube$Safety;", true)
  | 3 => ("FaultyCube", "broadcast", "LFaultyCube$Broadcast;", true)
  | 4 => ("FaultyCube", "packing", "LFaultyCube$PathPacking;", true)
  | _ => ("FaultyCube", "traffic", "LFaultyCube$Traffic;", true)
def tyX6 : Nat → FieldType := fun k => match k with
  | 0 => .object "FaultyCube$Situation"
  | 1 => .object "FaultyCube$UndoStack"
  | 2 => .object "FaultyCube$Safety"
  | 3 => .object "FaultyCube$Broadcast"
  | 4 => .object "FaultyCube$PathPacking"
  | _ => .object "FaultyCube$Traffic"
abbrev wsX60 : List Cond := u_ws RX6 TX6 6
theorem nmX6 : ∀ a, a < 6 → ∀ b, b < 6 → a ≠ b → (TX6 a).2.1 ≠ (TX6 b).2.1 := by decide +kernel
theorem tyX6_ok : ∀ k, k < 6 → parseFieldDescriptor (TX6 k).2.2.1 = some (tyX6 k) := by decide +kernel
abbrev cX6_init : ByteArray := prog_1_method_1_code
def yX6_init : MethodName := ⟨RX6, "<init>", "()V"⟩
abbrev cX6_setDimension : ByteArray := prog_1_method_2_code
def yX6_setDimension : MethodName := ⟨RX6, "setDimension", "(I)I"⟩
abbrev cX6_kill : ByteArray := prog_1_method_3_code
def yX6_kill : MethodName := ⟨RX6, "kill", "(I)I"⟩
abbrev cX6_revive : ByteArray := prog_1_method_4_code
def yX6_revive : MethodName := ⟨RX6, "revive", "(I)I"⟩
abbrev cX6_isAlive : ByteArray := prog_1_method_6_code
def yX6_isAlive : MethodName := ⟨RX6, "isAlive", "(I)Z"⟩
abbrev cX6_distance : ByteArray := prog_1_method_7_code
def yX6_distance : MethodName := ⟨RX6, "distance", "(II)I"⟩
abbrev cX6_shortest : ByteArray := prog_1_method_8_code
def yX6_shortest : MethodName := ⟨RX6, "shortest", "(II)I"⟩
abbrev cX6_level : ByteArray := prog_1_method_9_code
def yX6_level : MethodName := ⟨RX6, "level", "(I)I"⟩
abbrev cX6_rounds : ByteArray := prog_1_method_10_code
def yX6_rounds : MethodName := ⟨RX6, "rounds", "()I"⟩
abbrev cX6_safeNodes : ByteArray := prog_1_method_11_code
def yX6_safeNodes : MethodName := ⟨RX6, "safeNodes", "()I"⟩
abbrev cX6_vectorBit : ByteArray := prog_1_method_12_code
def yX6_vectorBit : MethodName := ⟨RX6, "vectorBit", "(II)I"⟩
abbrev cX6_decide : ByteArray := prog_1_method_13_code
def yX6_decide : MethodName := ⟨RX6, "decide", "(II)I"⟩
abbrev cX6_routeLength : ByteArray := prog_1_method_14_code
def yX6_routeLength : MethodName := ⟨RX6, "routeLength", "(II)I"⟩
abbrev cX6_routeNode : ByteArray := prog_1_method_15_code
def yX6_routeNode : MethodName := ⟨RX6, "routeNode", "(III)I"⟩
abbrev cX6_reach : ByteArray := prog_1_method_16_code
def yX6_reach : MethodName := ⟨RX6, "reach", "(II)I"⟩
abbrev cX6_broadcastTime : ByteArray := prog_1_method_17_code
def yX6_broadcastTime : MethodName := ⟨RX6, "broadcastTime", "(II)I"⟩
abbrev cX6_broadcastSize : ByteArray := prog_1_method_18_code
def yX6_broadcastSize : MethodName := ⟨RX6, "broadcastSize", "(I)I"⟩
abbrev cX6_freeSubcubes : ByteArray := prog_1_method_19_code
def yX6_freeSubcubes : MethodName := ⟨RX6, "freeSubcubes", "(I)I"⟩
abbrev cX6_largestSubcube : ByteArray := prog_1_method_20_code
def yX6_largestSubcube : MethodName := ⟨RX6, "largestSubcube", "()I"⟩
abbrev cX6_disjointPaths : ByteArray := prog_1_method_21_code
def yX6_disjointPaths : MethodName := ⟨RX6, "disjointPaths", "(II)I"⟩
abbrev cX6_send : ByteArray := prog_1_method_22_code
def yX6_send : MethodName := ⟨RX6, "send", "(II)I"⟩
abbrev cX6_step : ByteArray := prog_1_method_23_code
def yX6_step : MethodName := ⟨RX6, "step", "(I)I"⟩
abbrev cX6_state : ByteArray := prog_1_method_24_code
def yX6_state : MethodName := ⟨RX6, "state", "(I)I"⟩
abbrev cX6_position : ByteArray := prog_1_method_25_code
def yX6_position : MethodName := ⟨RX6, "position", "(I)I"⟩
abbrev cX6_moves : ByteArray := prog_1_method_26_code
def yX6_moves : MethodName := ⟨RX6, "moves", "(I)I"⟩
abbrev cX6_count : ByteArray := prog_1_method_27_code
def yX6_count : MethodName := ⟨RX6, "count", "(I)I"⟩
abbrev cX6_undo : ByteArray := prog_1_method_28_code
def yX6_undo : MethodName := ⟨RX6, "undo", "()I"⟩
abbrev cX6_refreshSafety : ByteArray := prog_1_method_32_code
def yX6_refreshSafety : MethodName := ⟨RX6, "refreshSafety", "()V"⟩
abbrev cX6_nodeCount : ByteArray := prog_1_method_33_code
def yX6_nodeCount : MethodName := ⟨RX6, "nodeCount", "()I"⟩
abbrev cX6_requireNode : ByteArray := prog_1_method_34_code
def yX6_requireNode : MethodName := ⟨RX6, "requireNode", "(I)V"⟩
abbrev cX6_requireAlive : ByteArray := prog_1_method_35_code
def yX6_requireAlive : MethodName := ⟨RX6, "requireAlive", "(I)V"⟩
abbrev cX6_requireLivingPair : ByteArray := prog_1_method_36_code
def yX6_requireLivingPair : MethodName := ⟨RX6, "requireLivingPair", "(II)V"⟩
abbrev cX6_requireMessage : ByteArray := prog_1_method_37_code
def yX6_requireMessage : MethodName := ⟨RX6, "requireMessage", "(I)V"⟩
abbrev cX6_decision : ByteArray := prog_1_method_38_code
def yX6_decision : MethodName := ⟨RX6, "decision", "(II)I"⟩
abbrev cX6_lengthOfRoute : ByteArray := prog_1_method_39_code
def yX6_lengthOfRoute : MethodName := ⟨RX6, "lengthOfRoute", "(II)I"⟩
abbrev cX6_nodeOfRoute : ByteArray := prog_1_method_40_code
def yX6_nodeOfRoute : MethodName := ⟨RX6, "nodeOfRoute", "(III)I"⟩
abbrev cX6_freeBases : ByteArray := prog_1_method_41_code
def yX6_freeBases : MethodName := ⟨RX6, "freeBases", "(I)J"⟩
abbrev cX6_hasBit : ByteArray := prog_1_method_42_code
def yX6_hasBit : MethodName := ⟨RX6, "hasBit", "(II)Z"⟩
abbrev cX6_contains : ByteArray := prog_1_method_43_code
def yX6_contains : MethodName := ⟨RX6, "contains", "(JI)Z"⟩
abbrev cX6_neighbour : ByteArray := prog_1_method_44_code
def yX6_neighbour : MethodName := ⟨RX6, "neighbour", "(II)I"⟩
abbrev cX6_lowNodes : ByteArray := prog_1_method_45_code
def yX6_lowNodes : MethodName := ⟨RX6, "lowNodes", "(I)J"⟩
abbrev cX6_leastNode : ByteArray := prog_1_method_46_code
def yX6_leastNode : MethodName := ⟨RX6, "leastNode", "(J)I"⟩
abbrev cX6_neighboursOfSet : ByteArray := prog_1_method_47_code
def yX6_neighboursOfSet : MethodName := ⟨RX6, "neighboursOfSet", "(JI)J"⟩
abbrev cX6_read : ByteArray := prog_1_method_48_code
def yX6_read : MethodName := ⟨RX6, "read", "([II)I"⟩
abbrev cX6_write : ByteArray := prog_1_method_49_code
def yX6_write : MethodName := ⟨RX6, "write", "([III)V"⟩
def RX7 : String := "FaultyCubeModel"
def TX7 : u_T := fun k => match k with
  | _ => ("", "", "", false)
def tyX7 : Nat → FieldType := fun k => match k with
  | _ => .int
abbrev wsX70 : List Cond := u_ws RX7 TX7 0
theorem nmX7 : ∀ a, a < 0 → ∀ b, b < 0 → a ≠ b → (TX7 a).2.1 ≠ (TX7 b).2.1 := by decide +kernel
theorem tyX7_ok : ∀ k, k < 0 → parseFieldDescriptor (TX7 k).2.2.1 = some (tyX7 k) := by decide +kernel
def RJx145de : String := "java/io/Serializable"
def TJx145de : u_T := fun k => match k with
  | _ => ("", "", "", false)
def tyJx145de : Nat → FieldType := fun k => match k with
  | _ => .int
abbrev wsJx145de0 : List Cond := u_ws RJx145de TJx145de 0
theorem nmJx145de : ∀ a, a < 0 → ∀ b, b < 0 → a ≠ b → (TJx145de a).2.1 ≠ (TJx145de b).2.1 := by decide +kernel
theorem tyJx145de_ok : ∀ k, k < 0 → parseFieldDescriptor (TJx145de k).2.2.1 = some (tyJx145de k) := by decide +kernel
def RJ6 : String := "java/lang/Integer"
def TJ6 : u_T := fun k => match k with
  | _ => ("", "", "", false)
def tyJ6 : Nat → FieldType := fun k => match k with
  | _ => .int
abbrev wsJ60 : List Cond := u_ws RJ6 TJ6 0
theorem nmJ6 : ∀ a, a < 0 → ∀ b, b < 0 → a ≠ b → (TJ6 a).2.1 ≠ (TJ6 b).2.1 := by decide +kernel
theorem tyJ6_ok : ∀ k, k < 0 → parseFieldDescriptor (TJ6 k).2.2.1 = some (tyJ6 k) := by decide +kernel
abbrev cJ6_bitCount_0f7a4 : ByteArray := prog_13_method_49_code
def yJ6_bitCount_0f7a4 : MethodName := ⟨RJ6, "bitCount", "(I)I"⟩
def RJ13 : String := "java/lang/Long"
def TJ13 : u_T := fun k => match k with
  | _ => ("", "", "", false)
def tyJ13 : Nat → FieldType := fun k => match k with
  | _ => .int
abbrev wsJ130 : List Cond := u_ws RJ13 TJ13 0
theorem nmJ13 : ∀ a, a < 0 → ∀ b, b < 0 → a ≠ b → (TJ13 a).2.1 ≠ (TJ13 b).2.1 := by decide +kernel
theorem tyJ13_ok : ∀ k, k < 0 → parseFieldDescriptor (TJ13 k).2.2.1 = some (tyJ13 k) := by decide +kernel
abbrev cJ13_bitCount_95d88 : ByteArray := prog_14_method_50_code
def yJ13_bitCount_95d88 : MethodName := ⟨RJ13, "bitCount", "(J)I"⟩
def RJ9 : String := "java/lang/Math"
def TJ9 : u_T := fun k => match k with
  | _ => ("", "", "", false)
def tyJ9 : Nat → FieldType := fun k => match k with
  | _ => .int
abbrev wsJ90 : List Cond := u_ws RJ9 TJ9 0
theorem nmJ9 : ∀ a, a < 0 → ∀ b, b < 0 → a ≠ b → (TJ9 a).2.1 ≠ (TJ9 b).2.1 := by decide +kernel
theorem tyJ9_ok : ∀ k, k < 0 → parseFieldDescriptor (TJ9 k).2.2.1 = some (tyJ9 k) := by decide +kernel
abbrev cJ9_min_7cf53 : ByteArray := prog_15_method_69_code
def yJ9_min_7cf53 : MethodName := ⟨RJ9, "min", "(II)I"⟩
def RJ0 : String := "java/lang/String"
def TJ0 : u_T := fun k => match k with
  | _ => ("", "", "", false)
def tyJ0 : Nat → FieldType := fun k => match k with
  | _ => .int
abbrev wsJ00 : List Cond := u_ws RJ0 TJ0 0
theorem nmJ0 : ∀ a, a < 0 → ∀ b, b < 0 → a ≠ b → (TJ0 a).2.1 ≠ (TJ0 b).2.1 := by decide +kernel
theorem tyJ0_ok : ∀ k, k < 0 → parseFieldDescriptor (TJ0 k).2.2.1 = some (tyJ0 k) := by decide +kernel
def RJ10 : String := "java/lang/System"
def TJ10 : u_T := fun k => match k with
  | _ => ("", "", "", false)
def tyJ10 : Nat → FieldType := fun k => match k with
  | _ => .int
abbrev wsJ100 : List Cond := u_ws RJ10 TJ10 0
theorem nmJ10 : ∀ a, a < 0 → ∀ b, b < 0 → a ≠ b → (TJ10 a).2.1 ≠ (TJ10 b).2.1 := by decide +kernel
theorem tyJ10_ok : ∀ k, k < 0 → parseFieldDescriptor (TJ10 k).2.2.1 = some (tyJ10 k) := by decide +kernel
def RJ7 : String := "java/util/Arrays"
def TJ7 : u_T := fun k => match k with
  | _ => ("", "", "", false)
def tyJ7 : Nat → FieldType := fun k => match k with
  | _ => .int
abbrev wsJ70 : List Cond := u_ws RJ7 TJ7 0
theorem nmJ7 : ∀ a, a < 0 → ∀ b, b < 0 → a ≠ b → (TJ7 a).2.1 ≠ (TJ7 b).2.1 := by decide +kernel
theorem tyJ7_ok : ∀ k, k < 0 → parseFieldDescriptor (TJ7 k).2.2.1 = some (tyJ7 k) := by decide +kernel
abbrev cJ7_fill_d0a16 : ByteArray := prog_20_method_101_code
def yJ7_fill_d0a16 : MethodName := ⟨RJ7, "fill", "([JJ)V"⟩
abbrev cJ7_fill_53178 : ByteArray := prog_20_method_103_code
def yJ7_fill_53178 : MethodName := ⟨RJ7, "fill", "([II)V"⟩
def RL : String := "FaultyCubeLaw"
abbrev cL_cell : ByteArray := method_2_code
def yL_cell : MethodName := ⟨RL, "cell", "([II)I"⟩
abbrev cL_low : ByteArray := method_3_code
def yL_low : MethodName := ⟨RL, "low", "(II)I"⟩
abbrev cL_ones : ByteArray := method_4_code
def yL_ones : MethodName := ⟨RL, "ones", "(I)I"⟩
abbrev cL_setDimension : ByteArray := method_5_code
def yL_setDimension : MethodName := ⟨RL, "setDimension", "(LFaultyCube;I)I"⟩
abbrev cL_kill : ByteArray := method_6_code
def yL_kill : MethodName := ⟨RL, "kill", "(LFaultyCube;I)I"⟩
abbrev cL_revive : ByteArray := method_7_code
def yL_revive : MethodName := ⟨RL, "revive", "(LFaultyCube;I)I"⟩
abbrev cL_isAlive : ByteArray := method_8_code
def yL_isAlive : MethodName := ⟨RL, "isAlive", "(LFaultyCube;I)I"⟩
abbrev cL_distance : ByteArray := method_9_code
def yL_distance : MethodName := ⟨RL, "distance", "(LFaultyCube;II)I"⟩
abbrev cL_shortest : ByteArray := method_10_code
def yL_shortest : MethodName := ⟨RL, "shortest", "(LFaultyCube;II)I"⟩
abbrev cL_level : ByteArray := method_11_code
def yL_level : MethodName := ⟨RL, "level", "(LFaultyCube;I)I"⟩
abbrev cL_vectorBit : ByteArray := method_12_code
def yL_vectorBit : MethodName := ⟨RL, "vectorBit", "(LFaultyCube;II)I"⟩
abbrev cL_decide : ByteArray := method_13_code
def yL_decide : MethodName := ⟨RL, "decide", "(LFaultyCube;II)I"⟩
abbrev cL_routeLength : ByteArray := method_14_code
def yL_routeLength : MethodName := ⟨RL, "routeLength", "(LFaultyCube;II)I"⟩
abbrev cL_routeNode : ByteArray := method_15_code
def yL_routeNode : MethodName := ⟨RL, "routeNode", "(LFaultyCube;III)I"⟩
abbrev cL_reach : ByteArray := method_16_code
def yL_reach : MethodName := ⟨RL, "reach", "(LFaultyCube;II)I"⟩
abbrev cL_broadcastTime : ByteArray := method_17_code
def yL_broadcastTime : MethodName := ⟨RL, "broadcastTime", "(LFaultyCube;II)I"⟩
abbrev cL_broadcastSize : ByteArray := method_18_code
def yL_broadcastSize : MethodName := ⟨RL, "broadcastSize", "(LFaultyCube;I)I"⟩
abbrev cL_freeSubcubes : ByteArray := method_19_code
def yL_freeSubcubes : MethodName := ⟨RL, "freeSubcubes", "(LFaultyCube;I)I"⟩
abbrev cL_disjointPaths : ByteArray := method_20_code
def yL_disjointPaths : MethodName := ⟨RL, "disjointPaths", "(LFaultyCube;II)I"⟩
abbrev cL_send : ByteArray := method_21_code
def yL_send : MethodName := ⟨RL, "send", "(LFaultyCube;II)I"⟩
abbrev cL_step : ByteArray := method_22_code
def yL_step : MethodName := ⟨RL, "step", "(LFaultyCube;I)I"⟩
abbrev cL_state : ByteArray := method_23_code
def yL_state : MethodName := ⟨RL, "state", "(LFaultyCube;I)I"⟩
abbrev cL_position : ByteArray := method_24_code
def yL_position : MethodName := ⟨RL, "position", "(LFaultyCube;I)I"⟩
abbrev cL_moves : ByteArray := method_25_code
def yL_moves : MethodName := ⟨RL, "moves", "(LFaultyCube;I)I"⟩
abbrev cL_count : ByteArray := method_26_code
def yL_count : MethodName := ⟨RL, "count", "(LFaultyCube;I)I"⟩
abbrev cL_undo : ByteArray := method_27_code
def yL_undo : MethodName := ⟨RL, "undo", "(LFaultyCube;)I"⟩
abbrev cL_areLevels : ByteArray := method_28_code
def yL_areLevels : MethodName := ⟨RL, "areLevels", "(LFaultyCube;I)Z"⟩
abbrev cL_isRoute : ByteArray := method_29_code
def yL_isRoute : MethodName := ⟨RL, "isRoute", "(LFaultyCube;II)Z"⟩
abbrev cL_alive : ByteArray := method_30_code
def yL_alive : MethodName := ⟨RL, "alive", "(LFaultyCube;I)I"⟩
abbrev cL_isBroadcast : ByteArray := method_31_code
def yL_isBroadcast : MethodName := ⟨RL, "isBroadcast", "(LFaultyCube;II)Z"⟩
abbrev cL_arePaths : ByteArray := method_32_code
def yL_arePaths : MethodName := ⟨RL, "arePaths", "(LFaultyCube;III)Z"⟩
abbrev cL_areSubcubes : ByteArray := method_33_code
def yL_areSubcubes : MethodName := ⟨RL, "areSubcubes", "(LFaultyCube;I)Z"⟩
abbrev cL_print : ByteArray := method_34_code
def yL_print : MethodName := ⟨RL, "print", "(LFaultyCube;I)J"⟩
abbrev cL_refused : ByteArray := method_35_code
def yL_refused : MethodName := ⟨RL, "refused", "(LFaultyCube;I)Z"⟩
abbrev cL_law : ByteArray := code
def yL_law : MethodName := ⟨RL, "law", "([I)Z"⟩
def wsX0_init : List Cond := .code yX0_init cX0_init 1 none :: ([.methodLink RX0 3 objectInit, .instanceMethod objectInit, .code objectInit ⟨#[0xb1]⟩ 1 none, .arrayClass .int, .fieldLink RX0 9 "FaultyCube$Broadcast" "times" "[I", .fieldLink RX0 15 "FaultyCube$Broadcast" "lists" "[I", .fieldLink RX0 18 "FaultyCube$Broadcast" "queue" "[I"] ++ wsX00)
def wsJ7_fill_53178 : List Cond := .code yJ7_fill_53178 cJ7_fill_53178 4 none :: ([])
def wsX2_spareOf : List Cond := .code yX2_spareOf cX2_spareOf 2 (some .int) :: ([.fieldLink RX2 22 "FaultyCube$Safety" "dimension" "I"] ++ wsX20)
def wsX6_write : List Cond := .code yX6_write cX6_write 3 none :: ([])
def wsX0_receive : List Cond := .code yX0_receive cX0_receive 4 none :: ([.fieldLink RX0 9 "FaultyCube$Broadcast" "times" "[I", .fieldLink RX0 15 "FaultyCube$Broadcast" "lists" "[I", .fieldLink RX0 18 "FaultyCube$Broadcast" "queue" "[I", .fieldLink RX0 27 "FaultyCube$Broadcast" "receivers" "I", .static yX6_write, .initialized RX6, .code yX6_write cX6_write 3 none] ++ wsX00)
def wsX6_read : List Cond := .code yX6_read cX6_read 2 (some .int) :: ([])
def wsX6_hasBit : List Cond := .code yX6_hasBit cX6_hasBit 2 (some .boolean) :: ([])
def wsX6_neighbour : List Cond := .code yX6_neighbour cX6_neighbour 2 (some .int) :: ([])
def wsX2_levelOf : List Cond := .code yX2_levelOf cX2_levelOf 2 (some .int) :: ([.fieldLink RX2 9 "FaultyCube$Safety" "levels" "[I", .static yX6_read, .initialized RX6, .code yX6_read cX6_read 2 (some .int)] ++ wsX20)
def wsX2_bestDimension : List Cond := .code yX2_bestDimension cX2_bestDimension 6 (some .int) :: ([.fieldLink RX2 22 "FaultyCube$Safety" "dimension" "I", .static yX6_hasBit, .initialized RX6, .code yX6_hasBit cX6_hasBit 2 (some .boolean), .static yX6_neighbour, .code yX6_neighbour cX6_neighbour 2 (some .int), .methodLink RX2 83 yX2_levelOf, .instanceMethod yX2_levelOf, .selects RX2 yX2_levelOf yX2_levelOf, .initialized RX2, .code yX2_levelOf cX2_levelOf 2 (some .int), .fieldLink RX2 9 "FaultyCube$Safety" "levels" "[I", .static yX6_read, .code yX6_read cX6_read 2 (some .int)] ++ wsX20)
def wsX6_contains : List Cond := .code yX6_contains cX6_contains 3 (some .boolean) :: ([])
def wsX0_timeOf : List Cond := .code yX0_timeOf cX0_timeOf 2 (some .int) :: ([.fieldLink RX0 9 "FaultyCube$Broadcast" "times" "[I", .static yX6_read, .initialized RX6, .code yX6_read cX6_read 2 (some .int)] ++ wsX00)
def wsX0_passOn_r1 : List Cond := [Cond.fieldLink RX0 15 "FaultyCube$Broadcast" "lists" "[I", Cond.static yX6_read, Cond.initialized RX6, Cond.code yX6_read cX6_read 2 (some .int), Cond.methodLink RX0 49 yX2_bestDimension, Cond.instanceMethod yX2_bestDimension, Cond.selects RX2 yX2_bestDimension yX2_bestDimension, Cond.initialized RX2, Cond.code yX2_bestDimension cX2_bestDimension 6 (some .int), Cond.fieldLink RX2 22 "FaultyCube$Safety" "dimension" "I", Cond.static yX6_hasBit, Cond.code yX6_hasBit cX6_hasBit 2 (some .boolean), Cond.static yX6_neighbour, Cond.code yX6_neighbour cX6_neighbour 2 (some .int), Cond.methodLink RX2 83 yX2_levelOf, Cond.instanceMethod yX2_levelOf, Cond.selects RX2 yX2_levelOf yX2_levelOf, Cond.code yX2_levelOf cX2_levelOf 2 (some .int), Cond.fieldLink RX2 9 "FaultyCube$Safety" "levels" "[I", Cond.static yX6_contains, Cond.code yX6_contains cX6_contains 3 (some .boolean), Cond.methodLink RX0 60 yX0_timeOf, Cond.instanceMethod yX0_timeOf, Cond.selects RX0 yX0_timeOf yX0_timeOf]
def wsX0_passOn_r2 : List Cond := [Cond.initialized RX0, Cond.code yX0_timeOf cX0_timeOf 2 (some .int), Cond.fieldLink RX0 9 "FaultyCube$Broadcast" "times" "[I", Cond.methodLink RX0 37 yX0_receive, Cond.instanceMethod yX0_receive, Cond.selects RX0 yX0_receive yX0_receive, Cond.code yX0_receive cX0_receive 4 none, Cond.fieldLink RX0 18 "FaultyCube$Broadcast" "queue" "[I", Cond.fieldLink RX0 27 "FaultyCube$Broadcast" "receivers" "I", Cond.static yX6_write, Cond.code yX6_write cX6_write 3 none]
def wsX0_passOn : List Cond := .code yX0_passOn cX0_passOn 9 none :: ((wsX0_passOn_r1 ++ wsX0_passOn_r2) ++ wsX00 ++ wsX20)
def wsX0_run_r1 : List Cond := [Cond.fieldLink RX0 9 "FaultyCube$Broadcast" "times" "[I", Cond.fieldLink RX0 27 "FaultyCube$Broadcast" "receivers" "I", Cond.fieldLink RX0 18 "FaultyCube$Broadcast" "queue" "[I", Cond.methodLink RX0 21 yJ7_fill_53178, Cond.static yJ7_fill_53178, Cond.initialized RJ7, Cond.code yJ7_fill_53178 cJ7_fill_53178 4 none, Cond.methodLink RX0 31 yX2_spareOf, Cond.instanceMethod yX2_spareOf, Cond.selects RX2 yX2_spareOf yX2_spareOf, Cond.initialized RX2, Cond.code yX2_spareOf cX2_spareOf 2 (some .int), Cond.fieldLink RX2 22 "FaultyCube$Safety" "dimension" "I", Cond.methodLink RX0 37 yX0_receive, Cond.instanceMethod yX0_receive, Cond.selects RX0 yX0_receive yX0_receive, Cond.initialized RX0, Cond.code yX0_receive cX0_receive 4 none, Cond.fieldLink RX0 15 "FaultyCube$Broadcast" "lists" "[I", Cond.static yX6_write, Cond.initialized RX6, Cond.code yX6_write cX6_write 3 none, Cond.static yX6_read, Cond.code yX6_read cX6_read 2 (some .int)]
def wsX0_run_r2 : List Cond := [Cond.methodLink RX0 45 yX0_passOn, Cond.instanceMethod yX0_passOn, Cond.selects RX0 yX0_passOn yX0_passOn, Cond.code yX0_passOn cX0_passOn 9 none, Cond.methodLink RX0 49 yX2_bestDimension, Cond.instanceMethod yX2_bestDimension, Cond.selects RX2 yX2_bestDimension yX2_bestDimension, Cond.code yX2_bestDimension cX2_bestDimension 6 (some .int), Cond.static yX6_hasBit, Cond.code yX6_hasBit cX6_hasBit 2 (some .boolean), Cond.static yX6_neighbour, Cond.code yX6_neighbour cX6_neighbour 2 (some .int), Cond.methodLink RX2 83 yX2_levelOf, Cond.instanceMethod yX2_levelOf, Cond.selects RX2 yX2_levelOf yX2_levelOf, Cond.code yX2_levelOf cX2_levelOf 2 (some .int), Cond.fieldLink RX2 9 "FaultyCube$Safety" "levels" "[I", Cond.static yX6_contains, Cond.code yX6_contains cX6_contains 3 (some .boolean), Cond.methodLink RX0 60 yX0_timeOf, Cond.instanceMethod yX0_timeOf, Cond.selects RX0 yX0_timeOf yX0_timeOf, Cond.code yX0_timeOf cX0_timeOf 2 (some .int)]
def wsX0_run : List Cond := .code yX0_run cX0_run 6 none :: ((wsX0_run_r1 ++ wsX0_run_r2) ++ wsX00 ++ wsX20)
def wsX1_init : List Cond := .code yX1_init cX1_init 1 none :: ([.methodLink RX1 3 objectInit, .instanceMethod objectInit, .code objectInit ⟨#[0xb1]⟩ 1 none, .arrayClass .int, .fieldLink RX1 9 "FaultyCube$PathPacking" "leaving" "[I", .fieldLink RX1 15 "FaultyCube$PathPacking" "cameFrom" "[I", .fieldLink RX1 18 "FaultyCube$PathPacking" "queue" "[I"] ++ wsX10)
def wsX1_exit : List Cond := .code yX1_exit cX1_exit 1 (some .int) :: ([])
def wsX1_discover : List Cond := .code yX1_discover cX1_discover 3 none :: ([.fieldLink RX1 15 "FaultyCube$PathPacking" "cameFrom" "[I", .fieldLink RX1 18 "FaultyCube$PathPacking" "queue" "[I", .fieldLink RX1 48 "FaultyCube$PathPacking" "found" "I", .static yX6_read, .initialized RX6, .code yX6_read cX6_read 2 (some .int), .static yX6_write, .code yX6_write cX6_write 3 none] ++ wsX10)
def wsX1_entry : List Cond := .code yX1_entry cX1_entry 1 (some .int) :: ([])
def wsX1_searchFromEntry_r1 : List Cond := [Cond.fieldLink RX1 9 "FaultyCube$PathPacking" "leaving" "[I", Cond.fieldLink RX1 28 "FaultyCube$PathPacking" "dimension" "I", Cond.static yX6_read, Cond.initialized RX6, Cond.code yX6_read cX6_read 2 (some .int), Cond.methodLink RX1 51 yX1_exit, Cond.static yX1_exit, Cond.initialized RX1, Cond.code yX1_exit cX1_exit 1 (some .int), Cond.methodLink RX1 59 yX1_entry, Cond.static yX1_entry, Cond.code yX1_entry cX1_entry 1 (some .int), Cond.methodLink RX1 55 yX1_discover, Cond.instanceMethod yX1_discover, Cond.selects RX1 yX1_discover yX1_discover, Cond.code yX1_discover cX1_discover 3 none, Cond.fieldLink RX1 15 "FaultyCube$PathPacking" "cameFrom" "[I", Cond.fieldLink RX1 18 "FaultyCube$PathPacking" "queue" "[I", Cond.fieldLink RX1 48 "FaultyCube$PathPacking" "found" "I", Cond.static yX6_write, Cond.code yX6_write cX6_write 3 none, Cond.static yX6_neighbour, Cond.code yX6_neighbour cX6_neighbour 2 (some .int), Cond.static yX6_hasBit]
def wsX1_searchFromEntry_r2 : List Cond := [Cond.code yX6_hasBit cX6_hasBit 2 (some .boolean)]
def wsX1_searchFromEntry : List Cond := .code yX1_searchFromEntry cX1_searchFromEntry 4 none :: ((wsX1_searchFromEntry_r1 ++ wsX1_searchFromEntry_r2) ++ wsX10)
def wsX1_searchFromExit_r1 : List Cond := [Cond.fieldLink RX1 9 "FaultyCube$PathPacking" "leaving" "[I", Cond.fieldLink RX1 28 "FaultyCube$PathPacking" "dimension" "I", Cond.fieldLink RX1 21 "FaultyCube$PathPacking" "source" "I", Cond.fieldLink RX1 31 "FaultyCube$PathPacking" "alive" "J", Cond.static yX6_read, Cond.initialized RX6, Cond.code yX6_read cX6_read 2 (some .int), Cond.static yX6_neighbour, Cond.code yX6_neighbour cX6_neighbour 2 (some .int), Cond.static yX6_hasBit, Cond.code yX6_hasBit cX6_hasBit 2 (some .boolean), Cond.static yX6_contains, Cond.code yX6_contains cX6_contains 3 (some .boolean), Cond.methodLink RX1 59 yX1_entry, Cond.static yX1_entry, Cond.initialized RX1, Cond.code yX1_entry cX1_entry 1 (some .int), Cond.methodLink RX1 51 yX1_exit, Cond.static yX1_exit, Cond.code yX1_exit cX1_exit 1 (some .int), Cond.methodLink RX1 55 yX1_discover, Cond.instanceMethod yX1_discover, Cond.selects RX1 yX1_discover yX1_discover, Cond.code yX1_discover cX1_discover 3 none]
def wsX1_searchFromExit_r2 : List Cond := [Cond.fieldLink RX1 15 "FaultyCube$PathPacking" "cameFrom" "[I", Cond.fieldLink RX1 18 "FaultyCube$PathPacking" "queue" "[I", Cond.fieldLink RX1 48 "FaultyCube$PathPacking" "found" "I", Cond.static yX6_write, Cond.code yX6_write cX6_write 3 none]
def wsX1_searchFromExit : List Cond := .code yX1_searchFromExit cX1_searchFromExit 5 none :: ((wsX1_searchFromExit_r1 ++ wsX1_searchFromExit_r2) ++ wsX10)
def wsX1_findsPath_r1 : List Cond := [Cond.fieldLink RX1 15 "FaultyCube$PathPacking" "cameFrom" "[I", Cond.fieldLink RX1 48 "FaultyCube$PathPacking" "found" "I", Cond.fieldLink RX1 21 "FaultyCube$PathPacking" "source" "I", Cond.fieldLink RX1 18 "FaultyCube$PathPacking" "queue" "[I", Cond.fieldLink RX1 25 "FaultyCube$PathPacking" "goal" "I", Cond.methodLink RX1 35 yJ7_fill_53178, Cond.static yJ7_fill_53178, Cond.initialized RJ7, Cond.code yJ7_fill_53178 cJ7_fill_53178 4 none, Cond.methodLink RX1 51 yX1_exit, Cond.static yX1_exit, Cond.initialized RX1, Cond.code yX1_exit cX1_exit 1 (some .int), Cond.methodLink RX1 55 yX1_discover, Cond.instanceMethod yX1_discover, Cond.selects RX1 yX1_discover yX1_discover, Cond.code yX1_discover cX1_discover 3 none, Cond.static yX6_read, Cond.initialized RX6, Cond.code yX6_read cX6_read 2 (some .int), Cond.static yX6_write, Cond.code yX6_write cX6_write 3 none, Cond.methodLink RX1 59 yX1_entry, Cond.static yX1_entry]
def wsX1_findsPath_r2 : List Cond := [Cond.code yX1_entry cX1_entry 1 (some .int), Cond.methodLink RX1 62 yX1_searchFromEntry, Cond.instanceMethod yX1_searchFromEntry, Cond.selects RX1 yX1_searchFromEntry yX1_searchFromEntry, Cond.code yX1_searchFromEntry cX1_searchFromEntry 4 none, Cond.fieldLink RX1 9 "FaultyCube$PathPacking" "leaving" "[I", Cond.fieldLink RX1 28 "FaultyCube$PathPacking" "dimension" "I", Cond.static yX6_neighbour, Cond.code yX6_neighbour cX6_neighbour 2 (some .int), Cond.static yX6_hasBit, Cond.code yX6_hasBit cX6_hasBit 2 (some .boolean), Cond.methodLink RX1 66 yX1_searchFromExit, Cond.instanceMethod yX1_searchFromExit, Cond.selects RX1 yX1_searchFromExit yX1_searchFromExit, Cond.code yX1_searchFromExit cX1_searchFromExit 5 none, Cond.fieldLink RX1 31 "FaultyCube$PathPacking" "alive" "J", Cond.static yX6_contains, Cond.code yX6_contains cX6_contains 3 (some .boolean)]
def wsX1_findsPath : List Cond := .code yX1_findsPath cX1_findsPath 3 (some .boolean) :: ((wsX1_findsPath_r1 ++ wsX1_findsPath_r2) ++ wsX10)
def wsX1_addPath : List Cond := .code yX1_addPath cX1_addPath 6 none :: ([.fieldLink RX1 25 "FaultyCube$PathPacking" "goal" "I", .fieldLink RX1 15 "FaultyCube$PathPacking" "cameFrom" "[I", .fieldLink RX1 21 "FaultyCube$PathPacking" "source" "I", .fieldLink RX1 9 "FaultyCube$PathPacking" "leaving" "[I", .methodLink RX1 59 yX1_entry, .static yX1_entry, .initialized RX1, .code yX1_entry cX1_entry 1 (some .int), .methodLink RX1 51 yX1_exit, .static yX1_exit, .code yX1_exit cX1_exit 1 (some .int), .static yX6_read, .initialized RX6, .code yX6_read cX6_read 2 (some .int), .static yX6_write, .code yX6_write cX6_write 3 none] ++ wsX10)
def wsX1_largest_r1 : List Cond := [Cond.fieldLink RX1 21 "FaultyCube$PathPacking" "source" "I", Cond.fieldLink RX1 25 "FaultyCube$PathPacking" "goal" "I", Cond.fieldLink RX1 28 "FaultyCube$PathPacking" "dimension" "I", Cond.fieldLink RX1 31 "FaultyCube$PathPacking" "alive" "J", Cond.fieldLink RX1 9 "FaultyCube$PathPacking" "leaving" "[I", Cond.methodLink RX1 35 yJ7_fill_53178, Cond.static yJ7_fill_53178, Cond.initialized RJ7, Cond.code yJ7_fill_53178 cJ7_fill_53178 4 none, Cond.methodLink RX1 41 yX1_findsPath, Cond.instanceMethod yX1_findsPath, Cond.selects RX1 yX1_findsPath yX1_findsPath, Cond.initialized RX1, Cond.code yX1_findsPath cX1_findsPath 3 (some .boolean), Cond.fieldLink RX1 15 "FaultyCube$PathPacking" "cameFrom" "[I", Cond.fieldLink RX1 48 "FaultyCube$PathPacking" "found" "I", Cond.fieldLink RX1 18 "FaultyCube$PathPacking" "queue" "[I", Cond.methodLink RX1 51 yX1_exit, Cond.static yX1_exit, Cond.code yX1_exit cX1_exit 1 (some .int), Cond.methodLink RX1 55 yX1_discover, Cond.instanceMethod yX1_discover, Cond.selects RX1 yX1_discover yX1_discover, Cond.code yX1_discover cX1_discover 3 none]
def wsX1_largest_r2 : List Cond := [Cond.static yX6_read, Cond.initialized RX6, Cond.code yX6_read cX6_read 2 (some .int), Cond.static yX6_write, Cond.code yX6_write cX6_write 3 none, Cond.methodLink RX1 59 yX1_entry, Cond.static yX1_entry, Cond.code yX1_entry cX1_entry 1 (some .int), Cond.methodLink RX1 62 yX1_searchFromEntry, Cond.instanceMethod yX1_searchFromEntry, Cond.selects RX1 yX1_searchFromEntry yX1_searchFromEntry, Cond.code yX1_searchFromEntry cX1_searchFromEntry 4 none, Cond.static yX6_neighbour, Cond.code yX6_neighbour cX6_neighbour 2 (some .int), Cond.static yX6_hasBit, Cond.code yX6_hasBit cX6_hasBit 2 (some .boolean), Cond.methodLink RX1 66 yX1_searchFromExit, Cond.instanceMethod yX1_searchFromExit, Cond.selects RX1 yX1_searchFromExit yX1_searchFromExit, Cond.code yX1_searchFromExit cX1_searchFromExit 5 none, Cond.static yX6_contains, Cond.code yX6_contains cX6_contains 3 (some .boolean), Cond.methodLink RX1 45 yX1_addPath, Cond.instanceMethod yX1_addPath]
def wsX1_largest_r3 : List Cond := [Cond.selects RX1 yX1_addPath yX1_addPath, Cond.code yX1_addPath cX1_addPath 6 none]
def wsX1_largest : List Cond := .code yX1_largest cX1_largest 8 (some .int) :: ((wsX1_largest_r1 ++ (wsX1_largest_r2 ++ wsX1_largest_r3)) ++ wsX10)
def wsX2_init : List Cond := .code yX2_init cX2_init 1 none :: ([.methodLink RX2 3 objectInit, .instanceMethod objectInit, .code objectInit ⟨#[0xb1]⟩ 1 none, .arrayClass .int, .fieldLink RX2 9 "FaultyCube$Safety" "levels" "[I", .fieldLink RX2 15 "FaultyCube$Safety" "levelsBefore" "[I", .arrayClass .long, .fieldLink RX2 18 "FaultyCube$Safety" "vectorSets" "[J"] ++ wsX20)
def wsX2_startLevels : List Cond := .code yX2_startLevels cX2_startLevels 4 none :: ([.fieldLink RX2 9 "FaultyCube$Safety" "levels" "[I", .fieldLink RX2 22 "FaultyCube$Safety" "dimension" "I", .static yX6_contains, .initialized RX6, .code yX6_contains cX6_contains 3 (some .boolean), .static yX6_write, .code yX6_write cX6_write 3 none] ++ wsX20)
def wsX2_neighboursBelow : List Cond := .code yX2_neighboursBelow cX2_neighboursBelow 5 (some .int) :: ([.fieldLink RX2 22 "FaultyCube$Safety" "dimension" "I", .fieldLink RX2 15 "FaultyCube$Safety" "levelsBefore" "[I", .static yX6_neighbour, .initialized RX6, .code yX6_neighbour cX6_neighbour 2 (some .int), .static yX6_read, .code yX6_read cX6_read 2 (some .int)] ++ wsX20)
def wsX2_levelAfterRound : List Cond := .code yX2_levelAfterRound cX2_levelAfterRound 3 (some .int) :: ([.fieldLink RX2 22 "FaultyCube$Safety" "dimension" "I", .methodLink RX2 62 yX2_neighboursBelow, .instanceMethod yX2_neighboursBelow, .selects RX2 yX2_neighboursBelow yX2_neighboursBelow, .initialized RX2, .code yX2_neighboursBelow cX2_neighboursBelow 5 (some .int), .fieldLink RX2 15 "FaultyCube$Safety" "levelsBefore" "[I", .static yX6_neighbour, .initialized RX6, .code yX6_neighbour cX6_neighbour 2 (some .int), .static yX6_read, .code yX6_read cX6_read 2 (some .int)] ++ wsX20)
def wsX2_roundChanges_r1 : List Cond := [Cond.fieldLink RX2 9 "FaultyCube$Safety" "levels" "[I", Cond.fieldLink RX2 15 "FaultyCube$Safety" "levelsBefore" "[I", Cond.methodLink RX2 48 arraycopyName, Cond.native arraycopyName, Cond.static arraycopyName, Cond.initialized "java/lang/System", Cond.static yX6_contains, Cond.initialized RX6, Cond.code yX6_contains cX6_contains 3 (some .boolean), Cond.methodLink RX2 54 yX2_levelAfterRound, Cond.instanceMethod yX2_levelAfterRound, Cond.selects RX2 yX2_levelAfterRound yX2_levelAfterRound, Cond.initialized RX2, Cond.code yX2_levelAfterRound cX2_levelAfterRound 3 (some .int), Cond.fieldLink RX2 22 "FaultyCube$Safety" "dimension" "I", Cond.methodLink RX2 62 yX2_neighboursBelow, Cond.instanceMethod yX2_neighboursBelow, Cond.selects RX2 yX2_neighboursBelow yX2_neighboursBelow, Cond.code yX2_neighboursBelow cX2_neighboursBelow 5 (some .int), Cond.static yX6_neighbour, Cond.code yX6_neighbour cX6_neighbour 2 (some .int), Cond.static yX6_read, Cond.code yX6_read cX6_read 2 (some .int), Cond.static yX6_write]
def wsX2_roundChanges_r2 : List Cond := [Cond.code yX6_write cX6_write 3 none]
def wsX2_roundChanges : List Cond := .code yX2_roundChanges cX2_roundChanges 6 (some .boolean) :: ((wsX2_roundChanges_r1 ++ wsX2_roundChanges_r2) ++ wsX20)
def wsJ7_fill_d0a16 : List Cond := .code yJ7_fill_d0a16 cJ7_fill_d0a16 5 none :: ([])
def wsX2_withNeighboursAbove : List Cond := .code yX2_withNeighboursAbove cX2_withNeighboursAbove 9 (some .long) :: ([.fieldLink RX2 22 "FaultyCube$Safety" "dimension" "I", .static yX6_neighbour, .initialized RX6, .code yX6_neighbour cX6_neighbour 2 (some .int), .static yX6_contains, .code yX6_contains cX6_contains 3 (some .boolean)] ++ wsX20)
def wsX2_findVectors : List Cond := .code yX2_findVectors cX2_findVectors 6 none :: ([.fieldLink RX2 18 "FaultyCube$Safety" "vectorSets" "[J", .fieldLink RX2 22 "FaultyCube$Safety" "dimension" "I", .methodLink RX2 69 yJ7_fill_d0a16, .static yJ7_fill_d0a16, .initialized RJ7, .code yJ7_fill_d0a16 cJ7_fill_d0a16 5 none, .methodLink RX2 75 yX2_withNeighboursAbove, .instanceMethod yX2_withNeighboursAbove, .selects RX2 yX2_withNeighboursAbove yX2_withNeighboursAbove, .initialized RX2, .code yX2_withNeighboursAbove cX2_withNeighboursAbove 9 (some .long), .static yX6_neighbour, .initialized RX6, .code yX6_neighbour cX6_neighbour 2 (some .int), .static yX6_contains, .code yX6_contains cX6_contains 3 (some .boolean)] ++ wsX20)
def wsX2_find_r1 : List Cond := [Cond.fieldLink RX2 22 "FaultyCube$Safety" "dimension" "I", Cond.fieldLink RX2 30 "FaultyCube$Safety" "changingRounds" "I", Cond.methodLink RX2 26 yX2_startLevels, Cond.instanceMethod yX2_startLevels, Cond.selects RX2 yX2_startLevels yX2_startLevels, Cond.initialized RX2, Cond.code yX2_startLevels cX2_startLevels 4 none, Cond.fieldLink RX2 9 "FaultyCube$Safety" "levels" "[I", Cond.static yX6_contains, Cond.initialized RX6, Cond.code yX6_contains cX6_contains 3 (some .boolean), Cond.static yX6_write, Cond.code yX6_write cX6_write 3 none, Cond.methodLink RX2 33 yX2_roundChanges, Cond.instanceMethod yX2_roundChanges, Cond.selects RX2 yX2_roundChanges yX2_roundChanges, Cond.code yX2_roundChanges cX2_roundChanges 6 (some .boolean), Cond.fieldLink RX2 15 "FaultyCube$Safety" "levelsBefore" "[I", Cond.methodLink RX2 48 arraycopyName, Cond.native arraycopyName, Cond.static arraycopyName, Cond.initialized "java/lang/System", Cond.methodLink RX2 54 yX2_levelAfterRound, Cond.instanceMethod yX2_levelAfterRound]
def wsX2_find_r2 : List Cond := [Cond.selects RX2 yX2_levelAfterRound yX2_levelAfterRound, Cond.code yX2_levelAfterRound cX2_levelAfterRound 3 (some .int), Cond.methodLink RX2 62 yX2_neighboursBelow, Cond.instanceMethod yX2_neighboursBelow, Cond.selects RX2 yX2_neighboursBelow yX2_neighboursBelow, Cond.code yX2_neighboursBelow cX2_neighboursBelow 5 (some .int), Cond.static yX6_neighbour, Cond.code yX6_neighbour cX6_neighbour 2 (some .int), Cond.static yX6_read, Cond.code yX6_read cX6_read 2 (some .int), Cond.methodLink RX2 37 yX2_findVectors, Cond.instanceMethod yX2_findVectors, Cond.selects RX2 yX2_findVectors yX2_findVectors, Cond.code yX2_findVectors cX2_findVectors 6 none, Cond.fieldLink RX2 18 "FaultyCube$Safety" "vectorSets" "[J", Cond.methodLink RX2 69 yJ7_fill_d0a16, Cond.static yJ7_fill_d0a16, Cond.initialized RJ7, Cond.code yJ7_fill_d0a16 cJ7_fill_d0a16 5 none, Cond.methodLink RX2 75 yX2_withNeighboursAbove, Cond.instanceMethod yX2_withNeighboursAbove, Cond.selects RX2 yX2_withNeighboursAbove yX2_withNeighboursAbove, Cond.code yX2_withNeighboursAbove cX2_withNeighboursAbove 9 (some .long)]
def wsX2_find : List Cond := .code yX2_find cX2_find 6 none :: ((wsX2_find_r1 ++ wsX2_find_r2) ++ wsX20)
def wsX2_bitOf : List Cond := .code yX2_bitOf cX2_bitOf 4 (some .int) :: ([.fieldLink RX2 18 "FaultyCube$Safety" "vectorSets" "[J", .static yX6_contains, .initialized RX6, .code yX6_contains cX6_contains 3 (some .boolean)] ++ wsX20)
def wsX2_bestLevel : List Cond := .code yX2_bestLevel cX2_bestLevel 4 (some .int) :: ([.methodLink RX2 86 yX2_bestDimension, .instanceMethod yX2_bestDimension, .selects RX2 yX2_bestDimension yX2_bestDimension, .initialized RX2, .code yX2_bestDimension cX2_bestDimension 6 (some .int), .fieldLink RX2 22 "FaultyCube$Safety" "dimension" "I", .static yX6_hasBit, .initialized RX6, .code yX6_hasBit cX6_hasBit 2 (some .boolean), .static yX6_neighbour, .code yX6_neighbour cX6_neighbour 2 (some .int), .methodLink RX2 83 yX2_levelOf, .instanceMethod yX2_levelOf, .selects RX2 yX2_levelOf yX2_levelOf, .code yX2_levelOf cX2_levelOf 2 (some .int), .fieldLink RX2 9 "FaultyCube$Safety" "levels" "[I", .static yX6_read, .code yX6_read cX6_read 2 (some .int)] ++ wsX20)
def wsX3_init : List Cond := .code yX3_init cX3_init 1 none :: ([.methodLink RX3 3 objectInit, .instanceMethod objectInit, .code objectInit ⟨#[0xb1]⟩ 1 none, .arrayClass .int, .fieldLink RX3 9 "FaultyCube$Situation" "states" "[I", .fieldLink RX3 15 "FaultyCube$Situation" "positions" "[I", .fieldLink RX3 18 "FaultyCube$Situation" "goals" "[I", .fieldLink RX3 21 "FaultyCube$Situation" "moveCounts" "[I", .fieldLink RX3 24 "FaultyCube$Situation" "detourCounts" "[I"] ++ wsX30)
def wsX3_restart : List Cond := .code yX3_restart cX3_restart 2 none :: ([.fieldLink RX3 27 "FaultyCube$Situation" "dimension" "I", .constantLong RX3 31 (-1), .fieldLink RX3 33 "FaultyCube$Situation" "alive" "J", .fieldLink RX3 37 "FaultyCube$Situation" "steps" "I", .fieldLink RX3 40 "FaultyCube$Situation" "messages" "I"] ++ wsX30)
def wsX3_copyFrom : List Cond := .code yX3_copyFrom cX3_copyFrom 2 none :: ([.fieldLink RX3 27 "FaultyCube$Situation" "dimension" "I", .fieldLink RX3 33 "FaultyCube$Situation" "alive" "J", .fieldLink RX3 37 "FaultyCube$Situation" "steps" "I", .fieldLink RX3 40 "FaultyCube$Situation" "messages" "I", .fieldLink RX3 9 "FaultyCube$Situation" "states" "[I", .methodLink RX3 43 arraycopyName, .native arraycopyName, .static arraycopyName, .initialized "java/lang/System", .fieldLink RX3 15 "FaultyCube$Situation" "positions" "[I", .fieldLink RX3 18 "FaultyCube$Situation" "goals" "[I", .fieldLink RX3 21 "FaultyCube$Situation" "moveCounts" "[I", .fieldLink RX3 24 "FaultyCube$Situation" "detourCounts" "[I"] ++ wsX30)
def wsX3_addMessage : List Cond := .code yX3_addMessage cX3_addMessage 4 (some .int) :: ([.fieldLink RX3 40 "FaultyCube$Situation" "messages" "I", .fieldLink RX3 9 "FaultyCube$Situation" "states" "[I", .fieldLink RX3 15 "FaultyCube$Situation" "positions" "[I", .fieldLink RX3 18 "FaultyCube$Situation" "goals" "[I", .fieldLink RX3 21 "FaultyCube$Situation" "moveCounts" "[I", .fieldLink RX3 24 "FaultyCube$Situation" "detourCounts" "[I", .static yX6_write, .initialized RX6, .code yX6_write cX6_write 3 none] ++ wsX30)
def wsX3_letDie : List Cond := .code yX3_letDie cX3_letDie 6 (some .int) :: ([.fieldLink RX3 33 "FaultyCube$Situation" "alive" "J", .constantLong RX3 31 (-1), .fieldLink RX3 40 "FaultyCube$Situation" "messages" "I", .fieldLink RX3 15 "FaultyCube$Situation" "positions" "[I", .fieldLink RX3 18 "FaultyCube$Situation" "goals" "[I", .fieldLink RX3 9 "FaultyCube$Situation" "states" "[I", .static yX6_read, .initialized RX6, .code yX6_read cX6_read 2 (some .int), .static yX6_contains, .code yX6_contains cX6_contains 3 (some .boolean), .static yX6_write, .code yX6_write cX6_write 3 none] ++ wsX30)
def wsX4_init : List Cond := .code yX4_init cX4_init 1 none :: ([.methodLink RX4 3 objectInit, .instanceMethod objectInit, .code objectInit ⟨#[0xb1]⟩ 1 none, .arrayClass .int, .fieldLink RX4 9 "FaultyCube$Traffic" "usedWays" "[I"] ++ wsX40)
def wsX4_move : List Cond := .code yX4_move cX4_move 5 none :: ([.static yX6_write, .initialized RX6, .code yX6_write cX6_write 3 none, .static yX6_read, .code yX6_read cX6_read 2 (some .int)] ++ wsX30)
def wsX4_moved_r1 : List Cond := [Cond.fieldLink RX4 9 "FaultyCube$Traffic" "usedWays" "[I", Cond.static yX6_read, Cond.initialized RX6, Cond.code yX6_read cX6_read 2 (some .int), Cond.methodLink RX4 47 yX2_bestLevel, Cond.instanceMethod yX2_bestLevel, Cond.selects RX2 yX2_bestLevel yX2_bestLevel, Cond.initialized RX2, Cond.code yX2_bestLevel cX2_bestLevel 4 (some .int), Cond.methodLink RX2 86 yX2_bestDimension, Cond.instanceMethod yX2_bestDimension, Cond.selects RX2 yX2_bestDimension yX2_bestDimension, Cond.code yX2_bestDimension cX2_bestDimension 6 (some .int), Cond.fieldLink RX2 22 "FaultyCube$Safety" "dimension" "I", Cond.static yX6_hasBit, Cond.code yX6_hasBit cX6_hasBit 2 (some .boolean), Cond.static yX6_neighbour, Cond.code yX6_neighbour cX6_neighbour 2 (some .int), Cond.methodLink RX2 83 yX2_levelOf, Cond.instanceMethod yX2_levelOf, Cond.selects RX2 yX2_levelOf yX2_levelOf, Cond.code yX2_levelOf cX2_levelOf 2 (some .int), Cond.fieldLink RX2 9 "FaultyCube$Safety" "levels" "[I", Cond.methodLink RX4 53 yX2_spareOf]
def wsX4_moved_r2 : List Cond := [Cond.instanceMethod yX2_spareOf, Cond.selects RX2 yX2_spareOf yX2_spareOf, Cond.code yX2_spareOf cX2_spareOf 2 (some .int), Cond.methodLink RX4 60 yX2_bestDimension, Cond.static yX6_write, Cond.code yX6_write cX6_write 3 none, Cond.methodLink RX4 74 yX4_move, Cond.instanceMethod yX4_move, Cond.selects RX4 yX4_move yX4_move, Cond.initialized RX4, Cond.code yX4_move cX4_move 5 none]
def wsX4_moved : List Cond := .code yX4_moved cX4_moved 9 (some .boolean) :: ((wsX4_moved_r1 ++ wsX4_moved_r2) ++ wsX30 ++ wsX40 ++ wsX20)
def wsX4_oneStep_r1 : List Cond := [Cond.fieldLink RX4 9 "FaultyCube$Traffic" "usedWays" "[I", Cond.methodLink RX4 15 yJ7_fill_53178, Cond.static yJ7_fill_53178, Cond.initialized RJ7, Cond.code yJ7_fill_53178 cJ7_fill_53178 4 none, Cond.static yX6_read, Cond.initialized RX6, Cond.code yX6_read cX6_read 2 (some .int), Cond.methodLink RX4 34 yX4_moved, Cond.instanceMethod yX4_moved, Cond.selects RX4 yX4_moved yX4_moved, Cond.initialized RX4, Cond.code yX4_moved cX4_moved 9 (some .boolean), Cond.methodLink RX4 47 yX2_bestLevel, Cond.instanceMethod yX2_bestLevel, Cond.selects RX2 yX2_bestLevel yX2_bestLevel, Cond.initialized RX2, Cond.code yX2_bestLevel cX2_bestLevel 4 (some .int), Cond.methodLink RX2 86 yX2_bestDimension, Cond.instanceMethod yX2_bestDimension, Cond.selects RX2 yX2_bestDimension yX2_bestDimension, Cond.code yX2_bestDimension cX2_bestDimension 6 (some .int), Cond.fieldLink RX2 22 "FaultyCube$Safety" "dimension" "I", Cond.static yX6_hasBit]
def wsX4_oneStep_r2 : List Cond := [Cond.code yX6_hasBit cX6_hasBit 2 (some .boolean), Cond.static yX6_neighbour, Cond.code yX6_neighbour cX6_neighbour 2 (some .int), Cond.methodLink RX2 83 yX2_levelOf, Cond.instanceMethod yX2_levelOf, Cond.selects RX2 yX2_levelOf yX2_levelOf, Cond.code yX2_levelOf cX2_levelOf 2 (some .int), Cond.fieldLink RX2 9 "FaultyCube$Safety" "levels" "[I", Cond.methodLink RX4 53 yX2_spareOf, Cond.instanceMethod yX2_spareOf, Cond.selects RX2 yX2_spareOf yX2_spareOf, Cond.code yX2_spareOf cX2_spareOf 2 (some .int), Cond.methodLink RX4 60 yX2_bestDimension, Cond.static yX6_write, Cond.code yX6_write cX6_write 3 none, Cond.methodLink RX4 74 yX4_move, Cond.instanceMethod yX4_move, Cond.selects RX4 yX4_move yX4_move, Cond.code yX4_move cX4_move 5 none]
def wsX4_oneStep : List Cond := .code yX4_oneStep cX4_oneStep 5 (some .int) :: ((wsX4_oneStep_r1 ++ wsX4_oneStep_r2) ++ wsX40 ++ wsX30 ++ wsX20)
def wsX5_init : List Cond := .code yX5_init cX5_init 2 none :: ([.methodLink RX5 3 objectInit, .instanceMethod objectInit, .code objectInit ⟨#[0xb1]⟩ 1 none, .classLink RX5 9 RX3, .fieldLink RX5 11 "FaultyCube$UndoStack" "ring" "[LFaultyCube$Situation;", .instantiable RX3 9, .initialized RX3, .instanceMethod yX3_init, .code yX3_init cX3_init 1 none, .methodLink RX3 3 objectInit, .arrayClass .int, .fieldLink RX3 9 "FaultyCube$Situation" "states" "[I", .fieldLink RX3 15 "FaultyCube$Situation" "positions" "[I", .fieldLink RX3 18 "FaultyCube$Situation" "goals" "[I", .fieldLink RX3 21 "FaultyCube$Situation" "moveCounts" "[I", .fieldLink RX3 24 "FaultyCube$Situation" "detourCounts" "[I"] ++ wsX50 ++ wsX30)
def wsX5_slotAt : List Cond := .code yX5_slotAt cX5_slotAt 2 (some (.object "FaultyCube$Situation")) :: ([.fieldLink RX5 11 "FaultyCube$UndoStack" "ring" "[LFaultyCube$Situation;"] ++ wsX50)
def wsX5_save_r1 : List Cond := [Cond.fieldLink RX5 18 "FaultyCube$UndoStack" "next" "I", Cond.fieldLink RX5 30 "FaultyCube$UndoStack" "size" "I", Cond.methodLink RX5 33 Lib.Math.min.name, Cond.static Lib.Math.min.name, Cond.initialized "java/lang/Math", Cond.code Lib.Math.min.name Lib.Math.min.code 2 (some .int), Cond.methodLink RX5 22 yX5_slotAt, Cond.instanceMethod yX5_slotAt, Cond.selects RX5 yX5_slotAt yX5_slotAt, Cond.initialized RX5, Cond.code yX5_slotAt cX5_slotAt 2 (some (.object "FaultyCube$Situation")), Cond.fieldLink RX5 11 "FaultyCube$UndoStack" "ring" "[LFaultyCube$Situation;", Cond.methodLink RX5 26 yX3_copyFrom, Cond.instanceMethod yX3_copyFrom, Cond.selects RX3 yX3_copyFrom yX3_copyFrom, Cond.initialized RX3, Cond.code yX3_copyFrom cX3_copyFrom 2 none, Cond.fieldLink RX3 27 "FaultyCube$Situation" "dimension" "I", Cond.fieldLink RX3 33 "FaultyCube$Situation" "alive" "J", Cond.fieldLink RX3 37 "FaultyCube$Situation" "steps" "I", Cond.fieldLink RX3 40 "FaultyCube$Situation" "messages" "I", Cond.fieldLink RX3 9 "FaultyCube$Situation" "states" "[I", Cond.methodLink RX3 43 arraycopyName, Cond.native arraycopyName]
def wsX5_save_r2 : List Cond := [Cond.static arraycopyName, Cond.initialized "java/lang/System", Cond.fieldLink RX3 15 "FaultyCube$Situation" "positions" "[I", Cond.fieldLink RX3 18 "FaultyCube$Situation" "goals" "[I", Cond.fieldLink RX3 21 "FaultyCube$Situation" "moveCounts" "[I", Cond.fieldLink RX3 24 "FaultyCube$Situation" "detourCounts" "[I"]
def wsX5_save : List Cond := .code yX5_save cX5_save 3 none :: ((wsX5_save_r1 ++ wsX5_save_r2) ++ wsX50 ++ wsX30)
def wsX5_restoreInto_r1 : List Cond := [Cond.fieldLink RX5 18 "FaultyCube$UndoStack" "next" "I", Cond.fieldLink RX5 30 "FaultyCube$UndoStack" "size" "I", Cond.methodLink RX5 22 yX5_slotAt, Cond.instanceMethod yX5_slotAt, Cond.selects RX5 yX5_slotAt yX5_slotAt, Cond.initialized RX5, Cond.code yX5_slotAt cX5_slotAt 2 (some (.object "FaultyCube$Situation")), Cond.fieldLink RX5 11 "FaultyCube$UndoStack" "ring" "[LFaultyCube$Situation;", Cond.methodLink RX5 26 yX3_copyFrom, Cond.instanceMethod yX3_copyFrom, Cond.selects RX3 yX3_copyFrom yX3_copyFrom, Cond.initialized RX3, Cond.code yX3_copyFrom cX3_copyFrom 2 none, Cond.fieldLink RX3 27 "FaultyCube$Situation" "dimension" "I", Cond.fieldLink RX3 33 "FaultyCube$Situation" "alive" "J", Cond.fieldLink RX3 37 "FaultyCube$Situation" "steps" "I", Cond.fieldLink RX3 40 "FaultyCube$Situation" "messages" "I", Cond.fieldLink RX3 9 "FaultyCube$Situation" "states" "[I", Cond.methodLink RX3 43 arraycopyName, Cond.native arraycopyName, Cond.static arraycopyName, Cond.initialized "java/lang/System", Cond.fieldLink RX3 15 "FaultyCube$Situation" "positions" "[I", Cond.fieldLink RX3 18 "FaultyCube$Situation" "goals" "[I"]
def wsX5_restoreInto_r2 : List Cond := [Cond.fieldLink RX3 21 "FaultyCube$Situation" "moveCounts" "[I", Cond.fieldLink RX3 24 "FaultyCube$Situation" "detourCounts" "[I"]
def wsX5_restoreInto : List Cond := .code yX5_restoreInto cX5_restoreInto 4 none :: ((wsX5_restoreInto_r1 ++ wsX5_restoreInto_r2) ++ wsX50 ++ wsX30)
def wsX6_refreshSafety_r1 : List Cond := [Cond.fieldLink RX6 26 "FaultyCube" "safety" "LFaultyCube$Safety;", Cond.fieldLink RX6 10 "FaultyCube" "now" "LFaultyCube$Situation;", Cond.methodLink RX6 241 yX2_find, Cond.instanceMethod yX2_find, Cond.selects RX2 yX2_find yX2_find, Cond.initialized RX2, Cond.code yX2_find cX2_find 6 none, Cond.fieldLink RX2 22 "FaultyCube$Safety" "dimension" "I", Cond.fieldLink RX2 30 "FaultyCube$Safety" "changingRounds" "I", Cond.methodLink RX2 26 yX2_startLevels, Cond.instanceMethod yX2_startLevels, Cond.selects RX2 yX2_startLevels yX2_startLevels, Cond.code yX2_startLevels cX2_startLevels 4 none, Cond.fieldLink RX2 9 "FaultyCube$Safety" "levels" "[I", Cond.static yX6_contains, Cond.initialized RX6, Cond.code yX6_contains cX6_contains 3 (some .boolean), Cond.static yX6_write, Cond.code yX6_write cX6_write 3 none, Cond.methodLink RX2 33 yX2_roundChanges, Cond.instanceMethod yX2_roundChanges, Cond.selects RX2 yX2_roundChanges yX2_roundChanges, Cond.code yX2_roundChanges cX2_roundChanges 6 (some .boolean), Cond.fieldLink RX2 15 "FaultyCube$Safety" "levelsBefore" "[I"]
def wsX6_refreshSafety_r2 : List Cond := [Cond.methodLink RX2 48 arraycopyName, Cond.native arraycopyName, Cond.static arraycopyName, Cond.initialized "java/lang/System", Cond.methodLink RX2 54 yX2_levelAfterRound, Cond.instanceMethod yX2_levelAfterRound, Cond.selects RX2 yX2_levelAfterRound yX2_levelAfterRound, Cond.code yX2_levelAfterRound cX2_levelAfterRound 3 (some .int), Cond.methodLink RX2 62 yX2_neighboursBelow, Cond.instanceMethod yX2_neighboursBelow, Cond.selects RX2 yX2_neighboursBelow yX2_neighboursBelow, Cond.code yX2_neighboursBelow cX2_neighboursBelow 5 (some .int), Cond.static yX6_neighbour, Cond.code yX6_neighbour cX6_neighbour 2 (some .int), Cond.static yX6_read, Cond.code yX6_read cX6_read 2 (some .int), Cond.methodLink RX2 37 yX2_findVectors, Cond.instanceMethod yX2_findVectors, Cond.selects RX2 yX2_findVectors yX2_findVectors, Cond.code yX2_findVectors cX2_findVectors 6 none, Cond.fieldLink RX2 18 "FaultyCube$Safety" "vectorSets" "[J", Cond.methodLink RX2 69 yJ7_fill_d0a16, Cond.static yJ7_fill_d0a16, Cond.initialized RJ7]
def wsX6_refreshSafety_r3 : List Cond := [Cond.code yJ7_fill_d0a16 cJ7_fill_d0a16 5 none, Cond.methodLink RX2 75 yX2_withNeighboursAbove, Cond.instanceMethod yX2_withNeighboursAbove, Cond.selects RX2 yX2_withNeighboursAbove yX2_withNeighboursAbove, Cond.code yX2_withNeighboursAbove cX2_withNeighboursAbove 9 (some .long)]
def wsX6_refreshSafety : List Cond := .code yX6_refreshSafety cX6_refreshSafety 1 none :: ((wsX6_refreshSafety_r1 ++ (wsX6_refreshSafety_r2 ++ wsX6_refreshSafety_r3)) ++ wsX60 ++ wsX30 ++ wsX20)
def wsX6_init_r1 : List Cond := [Cond.methodLink RX6 1 objectInit, Cond.instanceMethod objectInit, Cond.code objectInit ⟨#[0xb1]⟩ 1 none, Cond.classLink RX6 7 RX3, Cond.instantiable RX3 9, Cond.initialized RX3, Cond.fieldLink RX6 10 "FaultyCube" "now" "LFaultyCube$Situation;", Cond.classLink RX6 16 RX5, Cond.instantiable RX5 3, Cond.initialized RX5, Cond.fieldLink RX6 19 "FaultyCube" "past" "LFaultyCube$UndoStack;", Cond.classLink RX6 23 RX2, Cond.instantiable RX2 5, Cond.initialized RX2, Cond.fieldLink RX6 26 "FaultyCube" "safety" "LFaultyCube$Safety;", Cond.classLink RX6 30 RX0, Cond.instantiable RX0 4, Cond.initialized RX0, Cond.fieldLink RX6 33 "FaultyCube" "broadcast" "LFaultyCube$Broadcast;", Cond.classLink RX6 37 RX1, Cond.instantiable RX1 8, Cond.initialized RX1, Cond.fieldLink RX6 40 "FaultyCube" "packing" "LFaultyCube$PathPacking;", Cond.classLink RX6 44 RX4]
def wsX6_init_r2 : List Cond := [Cond.instantiable RX4 1, Cond.initialized RX4, Cond.fieldLink RX6 47 "FaultyCube" "traffic" "LFaultyCube$Traffic;", Cond.instanceMethod yX3_init, Cond.code yX3_init cX3_init 1 none, Cond.methodLink RX3 3 objectInit, Cond.arrayClass .int, Cond.fieldLink RX3 9 "FaultyCube$Situation" "states" "[I", Cond.fieldLink RX3 15 "FaultyCube$Situation" "positions" "[I", Cond.fieldLink RX3 18 "FaultyCube$Situation" "goals" "[I", Cond.fieldLink RX3 21 "FaultyCube$Situation" "moveCounts" "[I", Cond.fieldLink RX3 24 "FaultyCube$Situation" "detourCounts" "[I", Cond.methodLink RX6 18 yX5_init, Cond.instanceMethod yX5_init, Cond.code yX5_init cX5_init 2 none, Cond.methodLink RX5 3 objectInit, Cond.classLink RX5 9 RX3, Cond.fieldLink RX5 11 "FaultyCube$UndoStack" "ring" "[LFaultyCube$Situation;", Cond.instanceMethod yX2_init, Cond.code yX2_init cX2_init 1 none, Cond.methodLink RX2 3 objectInit, Cond.fieldLink RX2 9 "FaultyCube$Safety" "levels" "[I", Cond.fieldLink RX2 15 "FaultyCube$Safety" "levelsBefore" "[I", Cond.arrayClass .long]
def wsX6_init_r3 : List Cond := [Cond.fieldLink RX2 18 "FaultyCube$Safety" "vectorSets" "[J", Cond.instanceMethod yX0_init, Cond.code yX0_init cX0_init 1 none, Cond.methodLink RX0 3 objectInit, Cond.fieldLink RX0 9 "FaultyCube$Broadcast" "times" "[I", Cond.fieldLink RX0 15 "FaultyCube$Broadcast" "lists" "[I", Cond.fieldLink RX0 18 "FaultyCube$Broadcast" "queue" "[I", Cond.instanceMethod yX1_init, Cond.code yX1_init cX1_init 1 none, Cond.methodLink RX1 3 objectInit, Cond.fieldLink RX1 9 "FaultyCube$PathPacking" "leaving" "[I", Cond.fieldLink RX1 15 "FaultyCube$PathPacking" "cameFrom" "[I", Cond.fieldLink RX1 18 "FaultyCube$PathPacking" "queue" "[I", Cond.instanceMethod yX4_init, Cond.code yX4_init cX4_init 1 none, Cond.methodLink RX4 3 objectInit, Cond.fieldLink RX4 9 "FaultyCube$Traffic" "usedWays" "[I", Cond.methodLink RX6 51 yX3_restart, Cond.instanceMethod yX3_restart, Cond.selects RX3 yX3_restart yX3_restart, Cond.code yX3_restart cX3_restart 2 none, Cond.fieldLink RX3 27 "FaultyCube$Situation" "dimension" "I", Cond.constantLong RX3 31 (-1), Cond.fieldLink RX3 33 "FaultyCube$Situation" "alive" "J"]
def wsX6_init_r4 : List Cond := [Cond.fieldLink RX3 37 "FaultyCube$Situation" "steps" "I", Cond.fieldLink RX3 40 "FaultyCube$Situation" "messages" "I", Cond.methodLink RX6 55 yX6_refreshSafety, Cond.instanceMethod yX6_refreshSafety, Cond.selects RX6 yX6_refreshSafety yX6_refreshSafety, Cond.initialized RX6, Cond.code yX6_refreshSafety cX6_refreshSafety 1 none, Cond.methodLink RX6 241 yX2_find, Cond.instanceMethod yX2_find, Cond.selects RX2 yX2_find yX2_find, Cond.code yX2_find cX2_find 6 none, Cond.fieldLink RX2 22 "FaultyCube$Safety" "dimension" "I", Cond.fieldLink RX2 30 "FaultyCube$Safety" "changingRounds" "I", Cond.methodLink RX2 26 yX2_startLevels, Cond.instanceMethod yX2_startLevels, Cond.selects RX2 yX2_startLevels yX2_startLevels, Cond.code yX2_startLevels cX2_startLevels 4 none, Cond.static yX6_contains, Cond.code yX6_contains cX6_contains 3 (some .boolean), Cond.static yX6_write, Cond.code yX6_write cX6_write 3 none, Cond.methodLink RX2 33 yX2_roundChanges, Cond.instanceMethod yX2_roundChanges, Cond.selects RX2 yX2_roundChanges yX2_roundChanges]
def wsX6_init_r5 : List Cond := [Cond.code yX2_roundChanges cX2_roundChanges 6 (some .boolean), Cond.methodLink RX2 48 arraycopyName, Cond.native arraycopyName, Cond.static arraycopyName, Cond.initialized "java/lang/System", Cond.methodLink RX2 54 yX2_levelAfterRound, Cond.instanceMethod yX2_levelAfterRound, Cond.selects RX2 yX2_levelAfterRound yX2_levelAfterRound, Cond.code yX2_levelAfterRound cX2_levelAfterRound 3 (some .int), Cond.methodLink RX2 62 yX2_neighboursBelow, Cond.instanceMethod yX2_neighboursBelow, Cond.selects RX2 yX2_neighboursBelow yX2_neighboursBelow, Cond.code yX2_neighboursBelow cX2_neighboursBelow 5 (some .int), Cond.static yX6_neighbour, Cond.code yX6_neighbour cX6_neighbour 2 (some .int), Cond.static yX6_read, Cond.code yX6_read cX6_read 2 (some .int), Cond.methodLink RX2 37 yX2_findVectors, Cond.instanceMethod yX2_findVectors, Cond.selects RX2 yX2_findVectors yX2_findVectors, Cond.code yX2_findVectors cX2_findVectors 6 none, Cond.methodLink RX2 69 yJ7_fill_d0a16, Cond.static yJ7_fill_d0a16, Cond.initialized RJ7]
def wsX6_init_r6 : List Cond := [Cond.code yJ7_fill_d0a16 cJ7_fill_d0a16 5 none, Cond.methodLink RX2 75 yX2_withNeighboursAbove, Cond.instanceMethod yX2_withNeighboursAbove, Cond.selects RX2 yX2_withNeighboursAbove yX2_withNeighboursAbove, Cond.code yX2_withNeighboursAbove cX2_withNeighboursAbove 9 (some .long)]
def wsX6_init : List Cond := .code yX6_init cX6_init 1 none :: ((wsX6_init_r1 ++ (wsX6_init_r2 ++ (wsX6_init_r3 ++ (wsX6_init_r4 ++ (wsX6_init_r5 ++ wsX6_init_r6))))) ++ wsX30 ++ wsX60 ++ wsX50 ++ wsX20 ++ wsX00 ++ wsX10 ++ wsX40)
def wsX6_setDimension_r1 : List Cond := [Cond.classLink RX6 58 "java/lang/IllegalArgumentException", Cond.initialized "java/lang/IllegalArgumentException", Cond.fieldLink RX6 10 "FaultyCube" "now" "LFaultyCube$Situation;", Cond.fieldLink RX6 19 "FaultyCube" "past" "LFaultyCube$UndoStack;", Cond.methodLink RX6 69 yX5_save, Cond.instanceMethod yX5_save, Cond.selects RX5 yX5_save yX5_save, Cond.initialized RX5, Cond.code yX5_save cX5_save 3 none, Cond.fieldLink RX5 18 "FaultyCube$UndoStack" "next" "I", Cond.fieldLink RX5 30 "FaultyCube$UndoStack" "size" "I", Cond.methodLink RX5 33 Lib.Math.min.name, Cond.static Lib.Math.min.name, Cond.initialized "java/lang/Math", Cond.code Lib.Math.min.name Lib.Math.min.code 2 (some .int), Cond.methodLink RX5 22 yX5_slotAt, Cond.instanceMethod yX5_slotAt, Cond.selects RX5 yX5_slotAt yX5_slotAt, Cond.code yX5_slotAt cX5_slotAt 2 (some (.object "FaultyCube$Situation")), Cond.fieldLink RX5 11 "FaultyCube$UndoStack" "ring" "[LFaultyCube$Situation;", Cond.methodLink RX5 26 yX3_copyFrom, Cond.instanceMethod yX3_copyFrom, Cond.selects RX3 yX3_copyFrom yX3_copyFrom, Cond.initialized RX3]
def wsX6_setDimension_r2 : List Cond := [Cond.code yX3_copyFrom cX3_copyFrom 2 none, Cond.fieldLink RX3 27 "FaultyCube$Situation" "dimension" "I", Cond.fieldLink RX3 33 "FaultyCube$Situation" "alive" "J", Cond.fieldLink RX3 37 "FaultyCube$Situation" "steps" "I", Cond.fieldLink RX3 40 "FaultyCube$Situation" "messages" "I", Cond.fieldLink RX3 9 "FaultyCube$Situation" "states" "[I", Cond.methodLink RX3 43 arraycopyName, Cond.native arraycopyName, Cond.static arraycopyName, Cond.initialized "java/lang/System", Cond.fieldLink RX3 15 "FaultyCube$Situation" "positions" "[I", Cond.fieldLink RX3 18 "FaultyCube$Situation" "goals" "[I", Cond.fieldLink RX3 21 "FaultyCube$Situation" "moveCounts" "[I", Cond.fieldLink RX3 24 "FaultyCube$Situation" "detourCounts" "[I", Cond.methodLink RX6 51 yX3_restart, Cond.instanceMethod yX3_restart, Cond.selects RX3 yX3_restart yX3_restart, Cond.code yX3_restart cX3_restart 2 none, Cond.constantLong RX3 31 (-1), Cond.methodLink RX6 55 yX6_refreshSafety, Cond.instanceMethod yX6_refreshSafety, Cond.selects RX6 yX6_refreshSafety yX6_refreshSafety, Cond.initialized RX6, Cond.code yX6_refreshSafety cX6_refreshSafety 1 none]
def wsX6_setDimension_r3 : List Cond := [Cond.fieldLink RX6 26 "FaultyCube" "safety" "LFaultyCube$Safety;", Cond.methodLink RX6 241 yX2_find, Cond.instanceMethod yX2_find, Cond.selects RX2 yX2_find yX2_find, Cond.initialized RX2, Cond.code yX2_find cX2_find 6 none, Cond.fieldLink RX2 22 "FaultyCube$Safety" "dimension" "I", Cond.fieldLink RX2 30 "FaultyCube$Safety" "changingRounds" "I", Cond.methodLink RX2 26 yX2_startLevels, Cond.instanceMethod yX2_startLevels, Cond.selects RX2 yX2_startLevels yX2_startLevels, Cond.code yX2_startLevels cX2_startLevels 4 none, Cond.fieldLink RX2 9 "FaultyCube$Safety" "levels" "[I", Cond.static yX6_contains, Cond.code yX6_contains cX6_contains 3 (some .boolean), Cond.static yX6_write, Cond.code yX6_write cX6_write 3 none, Cond.methodLink RX2 33 yX2_roundChanges, Cond.instanceMethod yX2_roundChanges, Cond.selects RX2 yX2_roundChanges yX2_roundChanges, Cond.code yX2_roundChanges cX2_roundChanges 6 (some .boolean), Cond.fieldLink RX2 15 "FaultyCube$Safety" "levelsBefore" "[I", Cond.methodLink RX2 48 arraycopyName, Cond.methodLink RX2 54 yX2_levelAfterRound]
def wsX6_setDimension_r4 : List Cond := [Cond.instanceMethod yX2_levelAfterRound, Cond.selects RX2 yX2_levelAfterRound yX2_levelAfterRound, Cond.code yX2_levelAfterRound cX2_levelAfterRound 3 (some .int), Cond.methodLink RX2 62 yX2_neighboursBelow, Cond.instanceMethod yX2_neighboursBelow, Cond.selects RX2 yX2_neighboursBelow yX2_neighboursBelow, Cond.code yX2_neighboursBelow cX2_neighboursBelow 5 (some .int), Cond.static yX6_neighbour, Cond.code yX6_neighbour cX6_neighbour 2 (some .int), Cond.static yX6_read, Cond.code yX6_read cX6_read 2 (some .int), Cond.methodLink RX2 37 yX2_findVectors, Cond.instanceMethod yX2_findVectors, Cond.selects RX2 yX2_findVectors yX2_findVectors, Cond.code yX2_findVectors cX2_findVectors 6 none, Cond.fieldLink RX2 18 "FaultyCube$Safety" "vectorSets" "[J", Cond.methodLink RX2 69 yJ7_fill_d0a16, Cond.static yJ7_fill_d0a16, Cond.initialized RJ7, Cond.code yJ7_fill_d0a16 cJ7_fill_d0a16 5 none, Cond.methodLink RX2 75 yX2_withNeighboursAbove, Cond.instanceMethod yX2_withNeighboursAbove, Cond.selects RX2 yX2_withNeighboursAbove yX2_withNeighboursAbove, Cond.code yX2_withNeighboursAbove cX2_withNeighboursAbove 9 (some .long)]
def wsX6_setDimension : List Cond := .code yX6_setDimension cX6_setDimension 3 (some .int) :: ((wsX6_setDimension_r1 ++ (wsX6_setDimension_r2 ++ (wsX6_setDimension_r3 ++ wsX6_setDimension_r4))) ++ wsX60 ++ wsX30 ++ wsX50 ++ wsX20 ++ (vx_atS RX6 62 "java/lang/IllegalArgumentException" ["java/lang/RuntimeException", "java/lang/Exception"]).filter goodWord)
def wsX6_nodeCount : List Cond := .code yX6_nodeCount cX6_nodeCount 1 (some .int) :: ([.fieldLink RX6 10 "FaultyCube" "now" "LFaultyCube$Situation;"] ++ wsX60 ++ wsX30)
def wsX6_requireNode : List Cond := .code yX6_requireNode cX6_requireNode 2 none :: ([.classLink RX6 58 "java/lang/IllegalArgumentException", .initialized "java/lang/IllegalArgumentException", .methodLink RX6 96 yX6_nodeCount, .instanceMethod yX6_nodeCount, .selects RX6 yX6_nodeCount yX6_nodeCount, .initialized RX6, .code yX6_nodeCount cX6_nodeCount 1 (some .int), .fieldLink RX6 10 "FaultyCube" "now" "LFaultyCube$Situation;"] ++ wsX60 ++ wsX30 ++ (vx_atS RX6 62 "java/lang/IllegalArgumentException" ["java/lang/RuntimeException", "java/lang/Exception"]).filter goodWord)
def wsX6_requireAlive : List Cond := .code yX6_requireAlive cX6_requireAlive 2 none :: ([.classLink RX6 91 "java/lang/IllegalStateException", .initialized "java/lang/IllegalStateException", .fieldLink RX6 10 "FaultyCube" "now" "LFaultyCube$Situation;", .methodLink RX6 87 yX6_contains, .static yX6_contains, .initialized RX6, .code yX6_contains cX6_contains 3 (some .boolean)] ++ wsX60 ++ wsX30 ++ (vx_atS RX6 95 "java/lang/IllegalStateException" ["java/lang/RuntimeException", "java/lang/Exception"]).filter goodWord)
def wsX6_kill_r1 : List Cond := [Cond.fieldLink RX6 19 "FaultyCube" "past" "LFaultyCube$UndoStack;", Cond.fieldLink RX6 10 "FaultyCube" "now" "LFaultyCube$Situation;", Cond.methodLink RX6 73 yX6_requireNode, Cond.instanceMethod yX6_requireNode, Cond.selects RX6 yX6_requireNode yX6_requireNode, Cond.initialized RX6, Cond.code yX6_requireNode cX6_requireNode 2 none, Cond.classLink RX6 58 "java/lang/IllegalArgumentException", Cond.initialized "java/lang/IllegalArgumentException", Cond.methodLink RX6 96 yX6_nodeCount, Cond.instanceMethod yX6_nodeCount, Cond.selects RX6 yX6_nodeCount yX6_nodeCount, Cond.code yX6_nodeCount cX6_nodeCount 1 (some .int), Cond.methodLink RX6 76 yX6_requireAlive, Cond.instanceMethod yX6_requireAlive, Cond.selects RX6 yX6_requireAlive yX6_requireAlive, Cond.code yX6_requireAlive cX6_requireAlive 2 none, Cond.classLink RX6 91 "java/lang/IllegalStateException", Cond.initialized "java/lang/IllegalStateException", Cond.methodLink RX6 87 yX6_contains, Cond.static yX6_contains, Cond.code yX6_contains cX6_contains 3 (some .boolean), Cond.methodLink RX6 69 yX5_save, Cond.instanceMethod yX5_save]
def wsX6_kill_r2 : List Cond := [Cond.selects RX5 yX5_save yX5_save, Cond.initialized RX5, Cond.code yX5_save cX5_save 3 none, Cond.fieldLink RX5 18 "FaultyCube$UndoStack" "next" "I", Cond.fieldLink RX5 30 "FaultyCube$UndoStack" "size" "I", Cond.methodLink RX5 33 Lib.Math.min.name, Cond.static Lib.Math.min.name, Cond.initialized "java/lang/Math", Cond.code Lib.Math.min.name Lib.Math.min.code 2 (some .int), Cond.methodLink RX5 22 yX5_slotAt, Cond.instanceMethod yX5_slotAt, Cond.selects RX5 yX5_slotAt yX5_slotAt, Cond.code yX5_slotAt cX5_slotAt 2 (some (.object "FaultyCube$Situation")), Cond.fieldLink RX5 11 "FaultyCube$UndoStack" "ring" "[LFaultyCube$Situation;", Cond.methodLink RX5 26 yX3_copyFrom, Cond.instanceMethod yX3_copyFrom, Cond.selects RX3 yX3_copyFrom yX3_copyFrom, Cond.initialized RX3, Cond.code yX3_copyFrom cX3_copyFrom 2 none, Cond.fieldLink RX3 27 "FaultyCube$Situation" "dimension" "I", Cond.fieldLink RX3 33 "FaultyCube$Situation" "alive" "J", Cond.fieldLink RX3 37 "FaultyCube$Situation" "steps" "I", Cond.fieldLink RX3 40 "FaultyCube$Situation" "messages" "I", Cond.fieldLink RX3 9 "FaultyCube$Situation" "states" "[I"]
def wsX6_kill_r3 : List Cond := [Cond.methodLink RX3 43 arraycopyName, Cond.native arraycopyName, Cond.static arraycopyName, Cond.initialized "java/lang/System", Cond.fieldLink RX3 15 "FaultyCube$Situation" "positions" "[I", Cond.fieldLink RX3 18 "FaultyCube$Situation" "goals" "[I", Cond.fieldLink RX3 21 "FaultyCube$Situation" "moveCounts" "[I", Cond.fieldLink RX3 24 "FaultyCube$Situation" "detourCounts" "[I", Cond.methodLink RX6 79 yX3_letDie, Cond.instanceMethod yX3_letDie, Cond.selects RX3 yX3_letDie yX3_letDie, Cond.code yX3_letDie cX3_letDie 6 (some .int), Cond.constantLong RX3 31 (-1), Cond.static yX6_read, Cond.code yX6_read cX6_read 2 (some .int), Cond.static yX6_write, Cond.code yX6_write cX6_write 3 none, Cond.methodLink RX6 55 yX6_refreshSafety, Cond.instanceMethod yX6_refreshSafety, Cond.selects RX6 yX6_refreshSafety yX6_refreshSafety, Cond.code yX6_refreshSafety cX6_refreshSafety 1 none, Cond.fieldLink RX6 26 "FaultyCube" "safety" "LFaultyCube$Safety;", Cond.methodLink RX6 241 yX2_find, Cond.instanceMethod yX2_find]
def wsX6_kill_r4 : List Cond := [Cond.selects RX2 yX2_find yX2_find, Cond.initialized RX2, Cond.code yX2_find cX2_find 6 none, Cond.fieldLink RX2 22 "FaultyCube$Safety" "dimension" "I", Cond.fieldLink RX2 30 "FaultyCube$Safety" "changingRounds" "I", Cond.methodLink RX2 26 yX2_startLevels, Cond.instanceMethod yX2_startLevels, Cond.selects RX2 yX2_startLevels yX2_startLevels, Cond.code yX2_startLevels cX2_startLevels 4 none, Cond.fieldLink RX2 9 "FaultyCube$Safety" "levels" "[I", Cond.methodLink RX2 33 yX2_roundChanges, Cond.instanceMethod yX2_roundChanges, Cond.selects RX2 yX2_roundChanges yX2_roundChanges, Cond.code yX2_roundChanges cX2_roundChanges 6 (some .boolean), Cond.fieldLink RX2 15 "FaultyCube$Safety" "levelsBefore" "[I", Cond.methodLink RX2 48 arraycopyName, Cond.methodLink RX2 54 yX2_levelAfterRound, Cond.instanceMethod yX2_levelAfterRound, Cond.selects RX2 yX2_levelAfterRound yX2_levelAfterRound, Cond.code yX2_levelAfterRound cX2_levelAfterRound 3 (some .int), Cond.methodLink RX2 62 yX2_neighboursBelow, Cond.instanceMethod yX2_neighboursBelow, Cond.selects RX2 yX2_neighboursBelow yX2_neighboursBelow, Cond.code yX2_neighboursBelow cX2_neighboursBelow 5 (some .int)]
def wsX6_kill_r5 : List Cond := [Cond.static yX6_neighbour, Cond.code yX6_neighbour cX6_neighbour 2 (some .int), Cond.methodLink RX2 37 yX2_findVectors, Cond.instanceMethod yX2_findVectors, Cond.selects RX2 yX2_findVectors yX2_findVectors, Cond.code yX2_findVectors cX2_findVectors 6 none, Cond.fieldLink RX2 18 "FaultyCube$Safety" "vectorSets" "[J", Cond.methodLink RX2 69 yJ7_fill_d0a16, Cond.static yJ7_fill_d0a16, Cond.initialized RJ7, Cond.code yJ7_fill_d0a16 cJ7_fill_d0a16 5 none, Cond.methodLink RX2 75 yX2_withNeighboursAbove, Cond.instanceMethod yX2_withNeighboursAbove, Cond.selects RX2 yX2_withNeighboursAbove yX2_withNeighboursAbove, Cond.code yX2_withNeighboursAbove cX2_withNeighboursAbove 9 (some .long)]
def wsX6_kill : List Cond := .code yX6_kill cX6_kill 3 (some .int) :: ((wsX6_kill_r1 ++ (wsX6_kill_r2 ++ (wsX6_kill_r3 ++ (wsX6_kill_r4 ++ wsX6_kill_r5)))) ++ wsX60 ++ wsX30 ++ wsX50 ++ wsX20 ++ (vx_atS RX6 62 "java/lang/IllegalArgumentException" ["java/lang/RuntimeException", "java/lang/Exception"]).filter goodWord ++ (vx_atS RX6 95 "java/lang/IllegalStateException" ["java/lang/RuntimeException", "java/lang/Exception"]).filter goodWord)
def wsJ13_bitCount_95d88 : List Cond := .code yJ13_bitCount_95d88 cJ13_bitCount_95d88 2 (some .int) :: ([.constantLong RJ13 314 (6148914691236517205), .constantLong RJ13 316 (3689348814741910323), .constantLong RJ13 318 (1085102592571150095)])
def wsX6_revive_r1 : List Cond := [Cond.classLink RX6 91 "java/lang/IllegalStateException", Cond.initialized "java/lang/IllegalStateException", Cond.fieldLink RX6 10 "FaultyCube" "now" "LFaultyCube$Situation;", Cond.fieldLink RX6 19 "FaultyCube" "past" "LFaultyCube$UndoStack;", Cond.methodLink RX6 73 yX6_requireNode, Cond.instanceMethod yX6_requireNode, Cond.selects RX6 yX6_requireNode yX6_requireNode, Cond.initialized RX6, Cond.code yX6_requireNode cX6_requireNode 2 none, Cond.classLink RX6 58 "java/lang/IllegalArgumentException", Cond.initialized "java/lang/IllegalArgumentException", Cond.methodLink RX6 96 yX6_nodeCount, Cond.instanceMethod yX6_nodeCount, Cond.selects RX6 yX6_nodeCount yX6_nodeCount, Cond.code yX6_nodeCount cX6_nodeCount 1 (some .int), Cond.methodLink RX6 87 yX6_contains, Cond.static yX6_contains, Cond.code yX6_contains cX6_contains 3 (some .boolean), Cond.methodLink RX6 69 yX5_save, Cond.instanceMethod yX5_save, Cond.selects RX5 yX5_save yX5_save, Cond.initialized RX5, Cond.code yX5_save cX5_save 3 none, Cond.fieldLink RX5 18 "FaultyCube$UndoStack" "next" "I"]
def wsX6_revive_r2 : List Cond := [Cond.fieldLink RX5 30 "FaultyCube$UndoStack" "size" "I", Cond.methodLink RX5 33 Lib.Math.min.name, Cond.static Lib.Math.min.name, Cond.initialized "java/lang/Math", Cond.code Lib.Math.min.name Lib.Math.min.code 2 (some .int), Cond.methodLink RX5 22 yX5_slotAt, Cond.instanceMethod yX5_slotAt, Cond.selects RX5 yX5_slotAt yX5_slotAt, Cond.code yX5_slotAt cX5_slotAt 2 (some (.object "FaultyCube$Situation")), Cond.fieldLink RX5 11 "FaultyCube$UndoStack" "ring" "[LFaultyCube$Situation;", Cond.methodLink RX5 26 yX3_copyFrom, Cond.instanceMethod yX3_copyFrom, Cond.selects RX3 yX3_copyFrom yX3_copyFrom, Cond.initialized RX3, Cond.code yX3_copyFrom cX3_copyFrom 2 none, Cond.fieldLink RX3 27 "FaultyCube$Situation" "dimension" "I", Cond.fieldLink RX3 33 "FaultyCube$Situation" "alive" "J", Cond.fieldLink RX3 37 "FaultyCube$Situation" "steps" "I", Cond.fieldLink RX3 40 "FaultyCube$Situation" "messages" "I", Cond.fieldLink RX3 9 "FaultyCube$Situation" "states" "[I", Cond.methodLink RX3 43 arraycopyName, Cond.native arraycopyName, Cond.static arraycopyName, Cond.initialized "java/lang/System"]
def wsX6_revive_r3 : List Cond := [Cond.fieldLink RX3 15 "FaultyCube$Situation" "positions" "[I", Cond.fieldLink RX3 18 "FaultyCube$Situation" "goals" "[I", Cond.fieldLink RX3 21 "FaultyCube$Situation" "moveCounts" "[I", Cond.fieldLink RX3 24 "FaultyCube$Situation" "detourCounts" "[I", Cond.methodLink RX6 55 yX6_refreshSafety, Cond.instanceMethod yX6_refreshSafety, Cond.selects RX6 yX6_refreshSafety yX6_refreshSafety, Cond.code yX6_refreshSafety cX6_refreshSafety 1 none, Cond.fieldLink RX6 26 "FaultyCube" "safety" "LFaultyCube$Safety;", Cond.methodLink RX6 241 yX2_find, Cond.instanceMethod yX2_find, Cond.selects RX2 yX2_find yX2_find, Cond.initialized RX2, Cond.code yX2_find cX2_find 6 none, Cond.fieldLink RX2 22 "FaultyCube$Safety" "dimension" "I", Cond.fieldLink RX2 30 "FaultyCube$Safety" "changingRounds" "I", Cond.methodLink RX2 26 yX2_startLevels, Cond.instanceMethod yX2_startLevels, Cond.selects RX2 yX2_startLevels yX2_startLevels, Cond.code yX2_startLevels cX2_startLevels 4 none, Cond.fieldLink RX2 9 "FaultyCube$Safety" "levels" "[I", Cond.static yX6_write, Cond.code yX6_write cX6_write 3 none, Cond.methodLink RX2 33 yX2_roundChanges]
def wsX6_revive_r4 : List Cond := [Cond.instanceMethod yX2_roundChanges, Cond.selects RX2 yX2_roundChanges yX2_roundChanges, Cond.code yX2_roundChanges cX2_roundChanges 6 (some .boolean), Cond.fieldLink RX2 15 "FaultyCube$Safety" "levelsBefore" "[I", Cond.methodLink RX2 48 arraycopyName, Cond.methodLink RX2 54 yX2_levelAfterRound, Cond.instanceMethod yX2_levelAfterRound, Cond.selects RX2 yX2_levelAfterRound yX2_levelAfterRound, Cond.code yX2_levelAfterRound cX2_levelAfterRound 3 (some .int), Cond.methodLink RX2 62 yX2_neighboursBelow, Cond.instanceMethod yX2_neighboursBelow, Cond.selects RX2 yX2_neighboursBelow yX2_neighboursBelow, Cond.code yX2_neighboursBelow cX2_neighboursBelow 5 (some .int), Cond.static yX6_neighbour, Cond.code yX6_neighbour cX6_neighbour 2 (some .int), Cond.static yX6_read, Cond.code yX6_read cX6_read 2 (some .int), Cond.methodLink RX2 37 yX2_findVectors, Cond.instanceMethod yX2_findVectors, Cond.selects RX2 yX2_findVectors yX2_findVectors, Cond.code yX2_findVectors cX2_findVectors 6 none, Cond.fieldLink RX2 18 "FaultyCube$Safety" "vectorSets" "[J", Cond.methodLink RX2 69 yJ7_fill_d0a16, Cond.static yJ7_fill_d0a16]
def wsX6_revive_r5 : List Cond := [Cond.initialized RJ7, Cond.code yJ7_fill_d0a16 cJ7_fill_d0a16 5 none, Cond.methodLink RX2 75 yX2_withNeighboursAbove, Cond.instanceMethod yX2_withNeighboursAbove, Cond.selects RX2 yX2_withNeighboursAbove yX2_withNeighboursAbove, Cond.code yX2_withNeighboursAbove cX2_withNeighboursAbove 9 (some .long), Cond.methodLink RX6 100 yJ13_bitCount_95d88, Cond.static yJ13_bitCount_95d88, Cond.initialized RJ13, Cond.code yJ13_bitCount_95d88 cJ13_bitCount_95d88 2 (some .int), Cond.constantLong RJ13 314 (6148914691236517205), Cond.constantLong RJ13 316 (3689348814741910323), Cond.constantLong RJ13 318 (1085102592571150095)]
def wsX6_revive : List Cond := .code yX6_revive cX6_revive 2 (some .int) :: ((wsX6_revive_r1 ++ (wsX6_revive_r2 ++ (wsX6_revive_r3 ++ (wsX6_revive_r4 ++ wsX6_revive_r5)))) ++ wsX60 ++ wsX30 ++ wsX50 ++ wsX20 ++ (vx_atS RX6 95 "java/lang/IllegalStateException" ["java/lang/RuntimeException", "java/lang/Exception"]).filter goodWord ++ (vx_atS RX6 62 "java/lang/IllegalArgumentException" ["java/lang/RuntimeException", "java/lang/Exception"]).filter goodWord)
def wsX6_isAlive : List Cond := .code yX6_isAlive cX6_isAlive 2 (some .boolean) :: ([.fieldLink RX6 10 "FaultyCube" "now" "LFaultyCube$Situation;", .methodLink RX6 73 yX6_requireNode, .instanceMethod yX6_requireNode, .selects RX6 yX6_requireNode yX6_requireNode, .initialized RX6, .code yX6_requireNode cX6_requireNode 2 none, .classLink RX6 58 "java/lang/IllegalArgumentException", .initialized "java/lang/IllegalArgumentException", .methodLink RX6 96 yX6_nodeCount, .instanceMethod yX6_nodeCount, .selects RX6 yX6_nodeCount yX6_nodeCount, .code yX6_nodeCount cX6_nodeCount 1 (some .int), .methodLink RX6 87 yX6_contains, .static yX6_contains, .code yX6_contains cX6_contains 3 (some .boolean)] ++ wsX60 ++ wsX30 ++ (vx_atS RX6 62 "java/lang/IllegalArgumentException" ["java/lang/RuntimeException", "java/lang/Exception"]).filter goodWord)
def wsJ6_bitCount_0f7a4 : List Cond := .code yJ6_bitCount_0f7a4 cJ6_bitCount_0f7a4 1 (some .int) :: ([.constant RJ6 265 (1431655765), .constant RJ6 266 (858993459), .constant RJ6 267 (252645135)])
def wsX6_distance : List Cond := .code yX6_distance cX6_distance 3 (some .int) :: ([.methodLink RX6 73 yX6_requireNode, .instanceMethod yX6_requireNode, .selects RX6 yX6_requireNode yX6_requireNode, .initialized RX6, .code yX6_requireNode cX6_requireNode 2 none, .classLink RX6 58 "java/lang/IllegalArgumentException", .initialized "java/lang/IllegalArgumentException", .methodLink RX6 96 yX6_nodeCount, .instanceMethod yX6_nodeCount, .selects RX6 yX6_nodeCount yX6_nodeCount, .code yX6_nodeCount cX6_nodeCount 1 (some .int), .fieldLink RX6 10 "FaultyCube" "now" "LFaultyCube$Situation;", .methodLink RX6 107 yJ6_bitCount_0f7a4, .static yJ6_bitCount_0f7a4, .initialized RJ6, .code yJ6_bitCount_0f7a4 cJ6_bitCount_0f7a4 1 (some .int), .constant RJ6 265 (1431655765), .constant RJ6 266 (858993459), .constant RJ6 267 (252645135)] ++ wsX60 ++ wsX30 ++ (vx_atS RX6 62 "java/lang/IllegalArgumentException" ["java/lang/RuntimeException", "java/lang/Exception"]).filter goodWord)
def wsX6_requireLivingPair : List Cond := .code yX6_requireLivingPair cX6_requireLivingPair 3 none :: ([.methodLink RX6 73 yX6_requireNode, .instanceMethod yX6_requireNode, .selects RX6 yX6_requireNode yX6_requireNode, .initialized RX6, .code yX6_requireNode cX6_requireNode 2 none, .classLink RX6 58 "java/lang/IllegalArgumentException", .initialized "java/lang/IllegalArgumentException", .methodLink RX6 96 yX6_nodeCount, .instanceMethod yX6_nodeCount, .selects RX6 yX6_nodeCount yX6_nodeCount, .code yX6_nodeCount cX6_nodeCount 1 (some .int), .fieldLink RX6 10 "FaultyCube" "now" "LFaultyCube$Situation;", .methodLink RX6 76 yX6_requireAlive, .instanceMethod yX6_requireAlive, .selects RX6 yX6_requireAlive yX6_requireAlive, .code yX6_requireAlive cX6_requireAlive 2 none, .classLink RX6 91 "java/lang/IllegalStateException", .initialized "java/lang/IllegalStateException", .methodLink RX6 87 yX6_contains, .static yX6_contains, .code yX6_contains cX6_contains 3 (some .boolean)] ++ wsX60 ++ wsX30 ++ (vx_atS RX6 62 "java/lang/IllegalArgumentException" ["java/lang/RuntimeException", "java/lang/Exception"]).filter goodWord ++ (vx_atS RX6 95 "java/lang/IllegalStateException" ["java/lang/RuntimeException", "java/lang/Exception"]).filter goodWord)
def wsX6_lowNodes : List Cond := .code yX6_lowNodes cX6_lowNodes 1 (some .long) :: ([.fieldLink RX6 270 "FaultyCube" "LOW_NODES" "[J"])
def wsX6_neighboursOfSet : List Cond := .code yX6_neighboursOfSet cX6_neighboursOfSet 8 (some .long) :: ([.methodLink RX6 267 yX6_lowNodes, .static yX6_lowNodes, .initialized RX6, .code yX6_lowNodes cX6_lowNodes 1 (some .long), .fieldLink RX6 270 "FaultyCube" "LOW_NODES" "[J"])
def wsX6_shortest_r1 : List Cond := [Cond.fieldLink RX6 10 "FaultyCube" "now" "LFaultyCube$Situation;", Cond.methodLink RX6 112 yX6_requireLivingPair, Cond.instanceMethod yX6_requireLivingPair, Cond.selects RX6 yX6_requireLivingPair yX6_requireLivingPair, Cond.initialized RX6, Cond.code yX6_requireLivingPair cX6_requireLivingPair 3 none, Cond.methodLink RX6 73 yX6_requireNode, Cond.instanceMethod yX6_requireNode, Cond.selects RX6 yX6_requireNode yX6_requireNode, Cond.code yX6_requireNode cX6_requireNode 2 none, Cond.classLink RX6 58 "java/lang/IllegalArgumentException", Cond.initialized "java/lang/IllegalArgumentException", Cond.methodLink RX6 96 yX6_nodeCount, Cond.instanceMethod yX6_nodeCount, Cond.selects RX6 yX6_nodeCount yX6_nodeCount, Cond.code yX6_nodeCount cX6_nodeCount 1 (some .int), Cond.methodLink RX6 76 yX6_requireAlive, Cond.instanceMethod yX6_requireAlive, Cond.selects RX6 yX6_requireAlive yX6_requireAlive, Cond.code yX6_requireAlive cX6_requireAlive 2 none, Cond.classLink RX6 91 "java/lang/IllegalStateException", Cond.initialized "java/lang/IllegalStateException", Cond.methodLink RX6 87 yX6_contains, Cond.static yX6_contains]
def wsX6_shortest_r2 : List Cond := [Cond.code yX6_contains cX6_contains 3 (some .boolean), Cond.methodLink RX6 116 yX6_neighboursOfSet, Cond.static yX6_neighboursOfSet, Cond.code yX6_neighboursOfSet cX6_neighboursOfSet 8 (some .long), Cond.methodLink RX6 267 yX6_lowNodes, Cond.static yX6_lowNodes, Cond.code yX6_lowNodes cX6_lowNodes 1 (some .long), Cond.fieldLink RX6 270 "FaultyCube" "LOW_NODES" "[J"]
def wsX6_shortest : List Cond := .code yX6_shortest cX6_shortest 6 (some .int) :: ((wsX6_shortest_r1 ++ wsX6_shortest_r2) ++ wsX60 ++ wsX30 ++ (vx_atS RX6 62 "java/lang/IllegalArgumentException" ["java/lang/RuntimeException", "java/lang/Exception"]).filter goodWord ++ (vx_atS RX6 95 "java/lang/IllegalStateException" ["java/lang/RuntimeException", "java/lang/Exception"]).filter goodWord)
def wsX6_level : List Cond := .code yX6_level cX6_level 2 (some .int) :: ([.fieldLink RX6 26 "FaultyCube" "safety" "LFaultyCube$Safety;", .methodLink RX6 73 yX6_requireNode, .instanceMethod yX6_requireNode, .selects RX6 yX6_requireNode yX6_requireNode, .initialized RX6, .code yX6_requireNode cX6_requireNode 2 none, .classLink RX6 58 "java/lang/IllegalArgumentException", .initialized "java/lang/IllegalArgumentException", .methodLink RX6 96 yX6_nodeCount, .instanceMethod yX6_nodeCount, .selects RX6 yX6_nodeCount yX6_nodeCount, .code yX6_nodeCount cX6_nodeCount 1 (some .int), .fieldLink RX6 10 "FaultyCube" "now" "LFaultyCube$Situation;", .methodLink RX6 120 yX2_levelOf, .instanceMethod yX2_levelOf, .selects RX2 yX2_levelOf yX2_levelOf, .initialized RX2, .code yX2_levelOf cX2_levelOf 2 (some .int), .fieldLink RX2 9 "FaultyCube$Safety" "levels" "[I", .static yX6_read, .code yX6_read cX6_read 2 (some .int)] ++ wsX60 ++ wsX30 ++ wsX20 ++ (vx_atS RX6 62 "java/lang/IllegalArgumentException" ["java/lang/RuntimeException", "java/lang/Exception"]).filter goodWord)
def wsX6_rounds : List Cond := .code yX6_rounds cX6_rounds 1 (some .int) :: ([.fieldLink RX6 26 "FaultyCube" "safety" "LFaultyCube$Safety;"] ++ wsX60 ++ wsX20)
def wsX6_safeNodes : List Cond := .code yX6_safeNodes cX6_safeNodes 3 (some .int) :: ([.fieldLink RX6 26 "FaultyCube" "safety" "LFaultyCube$Safety;", .fieldLink RX6 10 "FaultyCube" "now" "LFaultyCube$Situation;", .methodLink RX6 96 yX6_nodeCount, .instanceMethod yX6_nodeCount, .selects RX6 yX6_nodeCount yX6_nodeCount, .initialized RX6, .code yX6_nodeCount cX6_nodeCount 1 (some .int), .methodLink RX6 120 yX2_levelOf, .instanceMethod yX2_levelOf, .selects RX2 yX2_levelOf yX2_levelOf, .initialized RX2, .code yX2_levelOf cX2_levelOf 2 (some .int), .fieldLink RX2 9 "FaultyCube$Safety" "levels" "[I", .static yX6_read, .code yX6_read cX6_read 2 (some .int)] ++ wsX60 ++ wsX30 ++ wsX20)
def wsX6_vectorBit : List Cond := .code yX6_vectorBit cX6_vectorBit 3 (some .int) :: ([.classLink RX6 58 "java/lang/IllegalArgumentException", .initialized "java/lang/IllegalArgumentException", .fieldLink RX6 10 "FaultyCube" "now" "LFaultyCube$Situation;", .fieldLink RX6 26 "FaultyCube" "safety" "LFaultyCube$Safety;", .methodLink RX6 73 yX6_requireNode, .instanceMethod yX6_requireNode, .selects RX6 yX6_requireNode yX6_requireNode, .initialized RX6, .code yX6_requireNode cX6_requireNode 2 none, .methodLink RX6 96 yX6_nodeCount, .instanceMethod yX6_nodeCount, .selects RX6 yX6_nodeCount yX6_nodeCount, .code yX6_nodeCount cX6_nodeCount 1 (some .int), .methodLink RX6 128 yX2_bitOf, .instanceMethod yX2_bitOf, .selects RX2 yX2_bitOf yX2_bitOf, .initialized RX2, .code yX2_bitOf cX2_bitOf 4 (some .int), .fieldLink RX2 18 "FaultyCube$Safety" "vectorSets" "[J", .static yX6_contains, .code yX6_contains cX6_contains 3 (some .boolean)] ++ wsX60 ++ wsX30 ++ wsX20 ++ (vx_atS RX6 62 "java/lang/IllegalArgumentException" ["java/lang/RuntimeException", "java/lang/Exception"]).filter goodWord)
def wsX6_decision_r1 : List Cond := [Cond.fieldLink RX6 26 "FaultyCube" "safety" "LFaultyCube$Safety;", Cond.methodLink RX6 107 yJ6_bitCount_0f7a4, Cond.static yJ6_bitCount_0f7a4, Cond.initialized RJ6, Cond.code yJ6_bitCount_0f7a4 cJ6_bitCount_0f7a4 1 (some .int), Cond.constant RJ6 265 (1431655765), Cond.constant RJ6 266 (858993459), Cond.constant RJ6 267 (252645135), Cond.methodLink RX6 120 yX2_levelOf, Cond.instanceMethod yX2_levelOf, Cond.selects RX2 yX2_levelOf yX2_levelOf, Cond.initialized RX2, Cond.code yX2_levelOf cX2_levelOf 2 (some .int), Cond.fieldLink RX2 9 "FaultyCube$Safety" "levels" "[I", Cond.static yX6_read, Cond.initialized RX6, Cond.code yX6_read cX6_read 2 (some .int), Cond.methodLink RX6 251 yX2_bestLevel, Cond.instanceMethod yX2_bestLevel, Cond.selects RX2 yX2_bestLevel yX2_bestLevel, Cond.code yX2_bestLevel cX2_bestLevel 4 (some .int), Cond.methodLink RX2 86 yX2_bestDimension, Cond.instanceMethod yX2_bestDimension, Cond.selects RX2 yX2_bestDimension yX2_bestDimension]
def wsX6_decision_r2 : List Cond := [Cond.code yX2_bestDimension cX2_bestDimension 6 (some .int), Cond.fieldLink RX2 22 "FaultyCube$Safety" "dimension" "I", Cond.static yX6_hasBit, Cond.code yX6_hasBit cX6_hasBit 2 (some .boolean), Cond.static yX6_neighbour, Cond.code yX6_neighbour cX6_neighbour 2 (some .int), Cond.methodLink RX2 83 yX2_levelOf, Cond.methodLink RX6 254 yX2_spareOf, Cond.instanceMethod yX2_spareOf, Cond.selects RX2 yX2_spareOf yX2_spareOf, Cond.code yX2_spareOf cX2_spareOf 2 (some .int)]
def wsX6_decision : List Cond := .code yX6_decision cX6_decision 5 (some .int) :: ((wsX6_decision_r1 ++ wsX6_decision_r2) ++ wsX60 ++ wsX20)
def wsX6_decide_r1 : List Cond := [Cond.methodLink RX6 112 yX6_requireLivingPair, Cond.instanceMethod yX6_requireLivingPair, Cond.selects RX6 yX6_requireLivingPair yX6_requireLivingPair, Cond.initialized RX6, Cond.code yX6_requireLivingPair cX6_requireLivingPair 3 none, Cond.methodLink RX6 73 yX6_requireNode, Cond.instanceMethod yX6_requireNode, Cond.selects RX6 yX6_requireNode yX6_requireNode, Cond.code yX6_requireNode cX6_requireNode 2 none, Cond.classLink RX6 58 "java/lang/IllegalArgumentException", Cond.initialized "java/lang/IllegalArgumentException", Cond.methodLink RX6 96 yX6_nodeCount, Cond.instanceMethod yX6_nodeCount, Cond.selects RX6 yX6_nodeCount yX6_nodeCount, Cond.code yX6_nodeCount cX6_nodeCount 1 (some .int), Cond.fieldLink RX6 10 "FaultyCube" "now" "LFaultyCube$Situation;", Cond.methodLink RX6 76 yX6_requireAlive, Cond.instanceMethod yX6_requireAlive, Cond.selects RX6 yX6_requireAlive yX6_requireAlive, Cond.code yX6_requireAlive cX6_requireAlive 2 none, Cond.classLink RX6 91 "java/lang/IllegalStateException", Cond.initialized "java/lang/IllegalStateException", Cond.methodLink RX6 87 yX6_contains, Cond.static yX6_contains]
def wsX6_decide_r2 : List Cond := [Cond.code yX6_contains cX6_contains 3 (some .boolean), Cond.methodLink RX6 132 yX6_decision, Cond.instanceMethod yX6_decision, Cond.selects RX6 yX6_decision yX6_decision, Cond.code yX6_decision cX6_decision 5 (some .int), Cond.fieldLink RX6 26 "FaultyCube" "safety" "LFaultyCube$Safety;", Cond.methodLink RX6 107 yJ6_bitCount_0f7a4, Cond.static yJ6_bitCount_0f7a4, Cond.initialized RJ6, Cond.code yJ6_bitCount_0f7a4 cJ6_bitCount_0f7a4 1 (some .int), Cond.constant RJ6 265 (1431655765), Cond.constant RJ6 266 (858993459), Cond.constant RJ6 267 (252645135), Cond.methodLink RX6 120 yX2_levelOf, Cond.instanceMethod yX2_levelOf, Cond.selects RX2 yX2_levelOf yX2_levelOf, Cond.initialized RX2, Cond.code yX2_levelOf cX2_levelOf 2 (some .int), Cond.fieldLink RX2 9 "FaultyCube$Safety" "levels" "[I", Cond.static yX6_read, Cond.code yX6_read cX6_read 2 (some .int), Cond.methodLink RX6 251 yX2_bestLevel, Cond.instanceMethod yX2_bestLevel, Cond.selects RX2 yX2_bestLevel yX2_bestLevel]
def wsX6_decide_r3 : List Cond := [Cond.code yX2_bestLevel cX2_bestLevel 4 (some .int), Cond.methodLink RX2 86 yX2_bestDimension, Cond.instanceMethod yX2_bestDimension, Cond.selects RX2 yX2_bestDimension yX2_bestDimension, Cond.code yX2_bestDimension cX2_bestDimension 6 (some .int), Cond.fieldLink RX2 22 "FaultyCube$Safety" "dimension" "I", Cond.static yX6_hasBit, Cond.code yX6_hasBit cX6_hasBit 2 (some .boolean), Cond.static yX6_neighbour, Cond.code yX6_neighbour cX6_neighbour 2 (some .int), Cond.methodLink RX2 83 yX2_levelOf, Cond.methodLink RX6 254 yX2_spareOf, Cond.instanceMethod yX2_spareOf, Cond.selects RX2 yX2_spareOf yX2_spareOf, Cond.code yX2_spareOf cX2_spareOf 2 (some .int)]
def wsX6_decide : List Cond := .code yX6_decide cX6_decide 3 (some .int) :: ((wsX6_decide_r1 ++ (wsX6_decide_r2 ++ wsX6_decide_r3)) ++ wsX60 ++ wsX30 ++ wsX20 ++ (vx_atS RX6 62 "java/lang/IllegalArgumentException" ["java/lang/RuntimeException", "java/lang/Exception"]).filter goodWord ++ (vx_atS RX6 95 "java/lang/IllegalStateException" ["java/lang/RuntimeException", "java/lang/Exception"]).filter goodWord)
def wsX6_lengthOfRoute_r1 : List Cond := [Cond.methodLink RX6 132 yX6_decision, Cond.instanceMethod yX6_decision, Cond.selects RX6 yX6_decision yX6_decision, Cond.initialized RX6, Cond.code yX6_decision cX6_decision 5 (some .int), Cond.fieldLink RX6 26 "FaultyCube" "safety" "LFaultyCube$Safety;", Cond.methodLink RX6 107 yJ6_bitCount_0f7a4, Cond.static yJ6_bitCount_0f7a4, Cond.initialized RJ6, Cond.code yJ6_bitCount_0f7a4 cJ6_bitCount_0f7a4 1 (some .int), Cond.constant RJ6 265 (1431655765), Cond.constant RJ6 266 (858993459), Cond.constant RJ6 267 (252645135), Cond.methodLink RX6 120 yX2_levelOf, Cond.instanceMethod yX2_levelOf, Cond.selects RX2 yX2_levelOf yX2_levelOf, Cond.initialized RX2, Cond.code yX2_levelOf cX2_levelOf 2 (some .int), Cond.fieldLink RX2 9 "FaultyCube$Safety" "levels" "[I", Cond.static yX6_read, Cond.code yX6_read cX6_read 2 (some .int), Cond.methodLink RX6 251 yX2_bestLevel, Cond.instanceMethod yX2_bestLevel, Cond.selects RX2 yX2_bestLevel yX2_bestLevel]
def wsX6_lengthOfRoute_r2 : List Cond := [Cond.code yX2_bestLevel cX2_bestLevel 4 (some .int), Cond.methodLink RX2 86 yX2_bestDimension, Cond.instanceMethod yX2_bestDimension, Cond.selects RX2 yX2_bestDimension yX2_bestDimension, Cond.code yX2_bestDimension cX2_bestDimension 6 (some .int), Cond.fieldLink RX2 22 "FaultyCube$Safety" "dimension" "I", Cond.static yX6_hasBit, Cond.code yX6_hasBit cX6_hasBit 2 (some .boolean), Cond.static yX6_neighbour, Cond.code yX6_neighbour cX6_neighbour 2 (some .int), Cond.methodLink RX2 83 yX2_levelOf, Cond.methodLink RX6 254 yX2_spareOf, Cond.instanceMethod yX2_spareOf, Cond.selects RX2 yX2_spareOf yX2_spareOf, Cond.code yX2_spareOf cX2_spareOf 2 (some .int)]
def wsX6_lengthOfRoute : List Cond := .code yX6_lengthOfRoute cX6_lengthOfRoute 5 (some .int) :: ((wsX6_lengthOfRoute_r1 ++ wsX6_lengthOfRoute_r2) ++ wsX60 ++ wsX20)
def wsX6_routeLength_r1 : List Cond := [Cond.methodLink RX6 112 yX6_requireLivingPair, Cond.instanceMethod yX6_requireLivingPair, Cond.selects RX6 yX6_requireLivingPair yX6_requireLivingPair, Cond.initialized RX6, Cond.code yX6_requireLivingPair cX6_requireLivingPair 3 none, Cond.methodLink RX6 73 yX6_requireNode, Cond.instanceMethod yX6_requireNode, Cond.selects RX6 yX6_requireNode yX6_requireNode, Cond.code yX6_requireNode cX6_requireNode 2 none, Cond.classLink RX6 58 "java/lang/IllegalArgumentException", Cond.initialized "java/lang/IllegalArgumentException", Cond.methodLink RX6 96 yX6_nodeCount, Cond.instanceMethod yX6_nodeCount, Cond.selects RX6 yX6_nodeCount yX6_nodeCount, Cond.code yX6_nodeCount cX6_nodeCount 1 (some .int), Cond.fieldLink RX6 10 "FaultyCube" "now" "LFaultyCube$Situation;", Cond.methodLink RX6 76 yX6_requireAlive, Cond.instanceMethod yX6_requireAlive, Cond.selects RX6 yX6_requireAlive yX6_requireAlive, Cond.code yX6_requireAlive cX6_requireAlive 2 none, Cond.classLink RX6 91 "java/lang/IllegalStateException", Cond.initialized "java/lang/IllegalStateException", Cond.methodLink RX6 87 yX6_contains, Cond.static yX6_contains]
def wsX6_routeLength_r2 : List Cond := [Cond.code yX6_contains cX6_contains 3 (some .boolean), Cond.methodLink RX6 135 yX6_lengthOfRoute, Cond.instanceMethod yX6_lengthOfRoute, Cond.selects RX6 yX6_lengthOfRoute yX6_lengthOfRoute, Cond.code yX6_lengthOfRoute cX6_lengthOfRoute 5 (some .int), Cond.methodLink RX6 132 yX6_decision, Cond.instanceMethod yX6_decision, Cond.selects RX6 yX6_decision yX6_decision, Cond.code yX6_decision cX6_decision 5 (some .int), Cond.fieldLink RX6 26 "FaultyCube" "safety" "LFaultyCube$Safety;", Cond.methodLink RX6 107 yJ6_bitCount_0f7a4, Cond.static yJ6_bitCount_0f7a4, Cond.initialized RJ6, Cond.code yJ6_bitCount_0f7a4 cJ6_bitCount_0f7a4 1 (some .int), Cond.constant RJ6 265 (1431655765), Cond.constant RJ6 266 (858993459), Cond.constant RJ6 267 (252645135), Cond.methodLink RX6 120 yX2_levelOf, Cond.instanceMethod yX2_levelOf, Cond.selects RX2 yX2_levelOf yX2_levelOf, Cond.initialized RX2, Cond.code yX2_levelOf cX2_levelOf 2 (some .int), Cond.fieldLink RX2 9 "FaultyCube$Safety" "levels" "[I", Cond.static yX6_read]
def wsX6_routeLength_r3 : List Cond := [Cond.code yX6_read cX6_read 2 (some .int), Cond.methodLink RX6 251 yX2_bestLevel, Cond.instanceMethod yX2_bestLevel, Cond.selects RX2 yX2_bestLevel yX2_bestLevel, Cond.code yX2_bestLevel cX2_bestLevel 4 (some .int), Cond.methodLink RX2 86 yX2_bestDimension, Cond.instanceMethod yX2_bestDimension, Cond.selects RX2 yX2_bestDimension yX2_bestDimension, Cond.code yX2_bestDimension cX2_bestDimension 6 (some .int), Cond.fieldLink RX2 22 "FaultyCube$Safety" "dimension" "I", Cond.static yX6_hasBit, Cond.code yX6_hasBit cX6_hasBit 2 (some .boolean), Cond.static yX6_neighbour, Cond.code yX6_neighbour cX6_neighbour 2 (some .int), Cond.methodLink RX2 83 yX2_levelOf, Cond.methodLink RX6 254 yX2_spareOf, Cond.instanceMethod yX2_spareOf, Cond.selects RX2 yX2_spareOf yX2_spareOf, Cond.code yX2_spareOf cX2_spareOf 2 (some .int)]
def wsX6_routeLength : List Cond := .code yX6_routeLength cX6_routeLength 3 (some .int) :: ((wsX6_routeLength_r1 ++ (wsX6_routeLength_r2 ++ wsX6_routeLength_r3)) ++ wsX60 ++ wsX30 ++ wsX20 ++ (vx_atS RX6 62 "java/lang/IllegalArgumentException" ["java/lang/RuntimeException", "java/lang/Exception"]).filter goodWord ++ (vx_atS RX6 95 "java/lang/IllegalStateException" ["java/lang/RuntimeException", "java/lang/Exception"]).filter goodWord)
def wsX6_nodeOfRoute_r1 : List Cond := [Cond.fieldLink RX6 26 "FaultyCube" "safety" "LFaultyCube$Safety;", Cond.methodLink RX6 132 yX6_decision, Cond.instanceMethod yX6_decision, Cond.selects RX6 yX6_decision yX6_decision, Cond.initialized RX6, Cond.code yX6_decision cX6_decision 5 (some .int), Cond.methodLink RX6 107 yJ6_bitCount_0f7a4, Cond.static yJ6_bitCount_0f7a4, Cond.initialized RJ6, Cond.code yJ6_bitCount_0f7a4 cJ6_bitCount_0f7a4 1 (some .int), Cond.constant RJ6 265 (1431655765), Cond.constant RJ6 266 (858993459), Cond.constant RJ6 267 (252645135), Cond.methodLink RX6 120 yX2_levelOf, Cond.instanceMethod yX2_levelOf, Cond.selects RX2 yX2_levelOf yX2_levelOf, Cond.initialized RX2, Cond.code yX2_levelOf cX2_levelOf 2 (some .int), Cond.fieldLink RX2 9 "FaultyCube$Safety" "levels" "[I", Cond.static yX6_read, Cond.code yX6_read cX6_read 2 (some .int), Cond.methodLink RX6 251 yX2_bestLevel, Cond.instanceMethod yX2_bestLevel, Cond.selects RX2 yX2_bestLevel yX2_bestLevel]
def wsX6_nodeOfRoute_r2 : List Cond := [Cond.code yX2_bestLevel cX2_bestLevel 4 (some .int), Cond.methodLink RX2 86 yX2_bestDimension, Cond.instanceMethod yX2_bestDimension, Cond.selects RX2 yX2_bestDimension yX2_bestDimension, Cond.code yX2_bestDimension cX2_bestDimension 6 (some .int), Cond.fieldLink RX2 22 "FaultyCube$Safety" "dimension" "I", Cond.static yX6_hasBit, Cond.code yX6_hasBit cX6_hasBit 2 (some .boolean), Cond.static yX6_neighbour, Cond.code yX6_neighbour cX6_neighbour 2 (some .int), Cond.methodLink RX2 83 yX2_levelOf, Cond.methodLink RX6 254 yX2_spareOf, Cond.instanceMethod yX2_spareOf, Cond.selects RX2 yX2_spareOf yX2_spareOf, Cond.code yX2_spareOf cX2_spareOf 2 (some .int), Cond.methodLink RX6 257 yX2_bestDimension, Cond.methodLink RX6 260 yX6_neighbour]
def wsX6_nodeOfRoute : List Cond := .code yX6_nodeOfRoute cX6_nodeOfRoute 9 (some .int) :: ((wsX6_nodeOfRoute_r1 ++ wsX6_nodeOfRoute_r2) ++ wsX60 ++ wsX20)
def wsX6_routeNode_r1 : List Cond := [Cond.classLink RX6 58 "java/lang/IllegalArgumentException", Cond.initialized "java/lang/IllegalArgumentException", Cond.methodLink RX6 73 yX6_requireNode, Cond.instanceMethod yX6_requireNode, Cond.selects RX6 yX6_requireNode yX6_requireNode, Cond.initialized RX6, Cond.code yX6_requireNode cX6_requireNode 2 none, Cond.methodLink RX6 96 yX6_nodeCount, Cond.instanceMethod yX6_nodeCount, Cond.selects RX6 yX6_nodeCount yX6_nodeCount, Cond.code yX6_nodeCount cX6_nodeCount 1 (some .int), Cond.fieldLink RX6 10 "FaultyCube" "now" "LFaultyCube$Situation;", Cond.methodLink RX6 76 yX6_requireAlive, Cond.instanceMethod yX6_requireAlive, Cond.selects RX6 yX6_requireAlive yX6_requireAlive, Cond.code yX6_requireAlive cX6_requireAlive 2 none, Cond.classLink RX6 91 "java/lang/IllegalStateException", Cond.initialized "java/lang/IllegalStateException", Cond.methodLink RX6 87 yX6_contains, Cond.static yX6_contains, Cond.code yX6_contains cX6_contains 3 (some .boolean), Cond.methodLink RX6 135 yX6_lengthOfRoute, Cond.instanceMethod yX6_lengthOfRoute, Cond.selects RX6 yX6_lengthOfRoute yX6_lengthOfRoute]
def wsX6_routeNode_r2 : List Cond := [Cond.code yX6_lengthOfRoute cX6_lengthOfRoute 5 (some .int), Cond.methodLink RX6 132 yX6_decision, Cond.instanceMethod yX6_decision, Cond.selects RX6 yX6_decision yX6_decision, Cond.code yX6_decision cX6_decision 5 (some .int), Cond.fieldLink RX6 26 "FaultyCube" "safety" "LFaultyCube$Safety;", Cond.methodLink RX6 107 yJ6_bitCount_0f7a4, Cond.static yJ6_bitCount_0f7a4, Cond.initialized RJ6, Cond.code yJ6_bitCount_0f7a4 cJ6_bitCount_0f7a4 1 (some .int), Cond.constant RJ6 265 (1431655765), Cond.constant RJ6 266 (858993459), Cond.constant RJ6 267 (252645135), Cond.methodLink RX6 120 yX2_levelOf, Cond.instanceMethod yX2_levelOf, Cond.selects RX2 yX2_levelOf yX2_levelOf, Cond.initialized RX2, Cond.code yX2_levelOf cX2_levelOf 2 (some .int), Cond.fieldLink RX2 9 "FaultyCube$Safety" "levels" "[I", Cond.static yX6_read, Cond.code yX6_read cX6_read 2 (some .int), Cond.methodLink RX6 251 yX2_bestLevel, Cond.instanceMethod yX2_bestLevel, Cond.selects RX2 yX2_bestLevel yX2_bestLevel]
def wsX6_routeNode_r3 : List Cond := [Cond.code yX2_bestLevel cX2_bestLevel 4 (some .int), Cond.methodLink RX2 86 yX2_bestDimension, Cond.instanceMethod yX2_bestDimension, Cond.selects RX2 yX2_bestDimension yX2_bestDimension, Cond.code yX2_bestDimension cX2_bestDimension 6 (some .int), Cond.fieldLink RX2 22 "FaultyCube$Safety" "dimension" "I", Cond.static yX6_hasBit, Cond.code yX6_hasBit cX6_hasBit 2 (some .boolean), Cond.static yX6_neighbour, Cond.code yX6_neighbour cX6_neighbour 2 (some .int), Cond.methodLink RX2 83 yX2_levelOf, Cond.methodLink RX6 254 yX2_spareOf, Cond.instanceMethod yX2_spareOf, Cond.selects RX2 yX2_spareOf yX2_spareOf, Cond.code yX2_spareOf cX2_spareOf 2 (some .int), Cond.methodLink RX6 140 yX6_nodeOfRoute, Cond.instanceMethod yX6_nodeOfRoute, Cond.selects RX6 yX6_nodeOfRoute yX6_nodeOfRoute, Cond.code yX6_nodeOfRoute cX6_nodeOfRoute 9 (some .int), Cond.methodLink RX6 257 yX2_bestDimension, Cond.methodLink RX6 260 yX6_neighbour]
def wsX6_routeNode : List Cond := .code yX6_routeNode cX6_routeNode 4 (some .int) :: ((wsX6_routeNode_r1 ++ (wsX6_routeNode_r2 ++ wsX6_routeNode_r3)) ++ wsX60 ++ wsX30 ++ wsX20 ++ (vx_atS RX6 62 "java/lang/IllegalArgumentException" ["java/lang/RuntimeException", "java/lang/Exception"]).filter goodWord ++ (vx_atS RX6 95 "java/lang/IllegalStateException" ["java/lang/RuntimeException", "java/lang/Exception"]).filter goodWord)
def wsX6_reach_r1 : List Cond := [Cond.classLink RX6 58 "java/lang/IllegalArgumentException", Cond.initialized "java/lang/IllegalArgumentException", Cond.fieldLink RX6 10 "FaultyCube" "now" "LFaultyCube$Situation;", Cond.methodLink RX6 73 yX6_requireNode, Cond.instanceMethod yX6_requireNode, Cond.selects RX6 yX6_requireNode yX6_requireNode, Cond.initialized RX6, Cond.code yX6_requireNode cX6_requireNode 2 none, Cond.methodLink RX6 96 yX6_nodeCount, Cond.instanceMethod yX6_nodeCount, Cond.selects RX6 yX6_nodeCount yX6_nodeCount, Cond.code yX6_nodeCount cX6_nodeCount 1 (some .int), Cond.methodLink RX6 76 yX6_requireAlive, Cond.instanceMethod yX6_requireAlive, Cond.selects RX6 yX6_requireAlive yX6_requireAlive, Cond.code yX6_requireAlive cX6_requireAlive 2 none, Cond.classLink RX6 91 "java/lang/IllegalStateException", Cond.initialized "java/lang/IllegalStateException", Cond.methodLink RX6 87 yX6_contains, Cond.static yX6_contains, Cond.code yX6_contains cX6_contains 3 (some .boolean), Cond.methodLink RX6 132 yX6_decision, Cond.instanceMethod yX6_decision, Cond.selects RX6 yX6_decision yX6_decision]
def wsX6_reach_r2 : List Cond := [Cond.code yX6_decision cX6_decision 5 (some .int), Cond.fieldLink RX6 26 "FaultyCube" "safety" "LFaultyCube$Safety;", Cond.methodLink RX6 107 yJ6_bitCount_0f7a4, Cond.static yJ6_bitCount_0f7a4, Cond.initialized RJ6, Cond.code yJ6_bitCount_0f7a4 cJ6_bitCount_0f7a4 1 (some .int), Cond.constant RJ6 265 (1431655765), Cond.constant RJ6 266 (858993459), Cond.constant RJ6 267 (252645135), Cond.methodLink RX6 120 yX2_levelOf, Cond.instanceMethod yX2_levelOf, Cond.selects RX2 yX2_levelOf yX2_levelOf, Cond.initialized RX2, Cond.code yX2_levelOf cX2_levelOf 2 (some .int), Cond.fieldLink RX2 9 "FaultyCube$Safety" "levels" "[I", Cond.static yX6_read, Cond.code yX6_read cX6_read 2 (some .int), Cond.methodLink RX6 251 yX2_bestLevel, Cond.instanceMethod yX2_bestLevel, Cond.selects RX2 yX2_bestLevel yX2_bestLevel, Cond.code yX2_bestLevel cX2_bestLevel 4 (some .int), Cond.methodLink RX2 86 yX2_bestDimension, Cond.instanceMethod yX2_bestDimension, Cond.selects RX2 yX2_bestDimension yX2_bestDimension]
def wsX6_reach_r3 : List Cond := [Cond.code yX2_bestDimension cX2_bestDimension 6 (some .int), Cond.fieldLink RX2 22 "FaultyCube$Safety" "dimension" "I", Cond.static yX6_hasBit, Cond.code yX6_hasBit cX6_hasBit 2 (some .boolean), Cond.static yX6_neighbour, Cond.code yX6_neighbour cX6_neighbour 2 (some .int), Cond.methodLink RX2 83 yX2_levelOf, Cond.methodLink RX6 254 yX2_spareOf, Cond.instanceMethod yX2_spareOf, Cond.selects RX2 yX2_spareOf yX2_spareOf, Cond.code yX2_spareOf cX2_spareOf 2 (some .int)]
def wsX6_reach : List Cond := .code yX6_reach cX6_reach 5 (some .int) :: ((wsX6_reach_r1 ++ (wsX6_reach_r2 ++ wsX6_reach_r3)) ++ wsX60 ++ wsX30 ++ wsX20 ++ (vx_atS RX6 62 "java/lang/IllegalArgumentException" ["java/lang/RuntimeException", "java/lang/Exception"]).filter goodWord ++ (vx_atS RX6 95 "java/lang/IllegalStateException" ["java/lang/RuntimeException", "java/lang/Exception"]).filter goodWord)
def wsX6_broadcastTime_r1 : List Cond := [Cond.fieldLink RX6 33 "FaultyCube" "broadcast" "LFaultyCube$Broadcast;", Cond.fieldLink RX6 10 "FaultyCube" "now" "LFaultyCube$Situation;", Cond.fieldLink RX6 26 "FaultyCube" "safety" "LFaultyCube$Safety;", Cond.methodLink RX6 73 yX6_requireNode, Cond.instanceMethod yX6_requireNode, Cond.selects RX6 yX6_requireNode yX6_requireNode, Cond.initialized RX6, Cond.code yX6_requireNode cX6_requireNode 2 none, Cond.classLink RX6 58 "java/lang/IllegalArgumentException", Cond.initialized "java/lang/IllegalArgumentException", Cond.methodLink RX6 96 yX6_nodeCount, Cond.instanceMethod yX6_nodeCount, Cond.selects RX6 yX6_nodeCount yX6_nodeCount, Cond.code yX6_nodeCount cX6_nodeCount 1 (some .int), Cond.methodLink RX6 76 yX6_requireAlive, Cond.instanceMethod yX6_requireAlive, Cond.selects RX6 yX6_requireAlive yX6_requireAlive, Cond.code yX6_requireAlive cX6_requireAlive 2 none, Cond.classLink RX6 91 "java/lang/IllegalStateException", Cond.initialized "java/lang/IllegalStateException", Cond.methodLink RX6 87 yX6_contains, Cond.static yX6_contains, Cond.code yX6_contains cX6_contains 3 (some .boolean), Cond.methodLink RX6 146 yX0_run]
def wsX6_broadcastTime_r2 : List Cond := [Cond.instanceMethod yX0_run, Cond.selects RX0 yX0_run yX0_run, Cond.initialized RX0, Cond.code yX0_run cX0_run 6 none, Cond.fieldLink RX0 9 "FaultyCube$Broadcast" "times" "[I", Cond.fieldLink RX0 27 "FaultyCube$Broadcast" "receivers" "I", Cond.fieldLink RX0 18 "FaultyCube$Broadcast" "queue" "[I", Cond.methodLink RX0 21 yJ7_fill_53178, Cond.static yJ7_fill_53178, Cond.initialized RJ7, Cond.code yJ7_fill_53178 cJ7_fill_53178 4 none, Cond.methodLink RX0 31 yX2_spareOf, Cond.instanceMethod yX2_spareOf, Cond.selects RX2 yX2_spareOf yX2_spareOf, Cond.initialized RX2, Cond.code yX2_spareOf cX2_spareOf 2 (some .int), Cond.fieldLink RX2 22 "FaultyCube$Safety" "dimension" "I", Cond.methodLink RX0 37 yX0_receive, Cond.instanceMethod yX0_receive, Cond.selects RX0 yX0_receive yX0_receive, Cond.code yX0_receive cX0_receive 4 none, Cond.fieldLink RX0 15 "FaultyCube$Broadcast" "lists" "[I", Cond.static yX6_write, Cond.code yX6_write cX6_write 3 none]
def wsX6_broadcastTime_r3 : List Cond := [Cond.static yX6_read, Cond.code yX6_read cX6_read 2 (some .int), Cond.methodLink RX0 45 yX0_passOn, Cond.instanceMethod yX0_passOn, Cond.selects RX0 yX0_passOn yX0_passOn, Cond.code yX0_passOn cX0_passOn 9 none, Cond.methodLink RX0 49 yX2_bestDimension, Cond.instanceMethod yX2_bestDimension, Cond.selects RX2 yX2_bestDimension yX2_bestDimension, Cond.code yX2_bestDimension cX2_bestDimension 6 (some .int), Cond.static yX6_hasBit, Cond.code yX6_hasBit cX6_hasBit 2 (some .boolean), Cond.static yX6_neighbour, Cond.code yX6_neighbour cX6_neighbour 2 (some .int), Cond.methodLink RX2 83 yX2_levelOf, Cond.instanceMethod yX2_levelOf, Cond.selects RX2 yX2_levelOf yX2_levelOf, Cond.code yX2_levelOf cX2_levelOf 2 (some .int), Cond.fieldLink RX2 9 "FaultyCube$Safety" "levels" "[I", Cond.methodLink RX0 60 yX0_timeOf, Cond.instanceMethod yX0_timeOf, Cond.selects RX0 yX0_timeOf yX0_timeOf, Cond.code yX0_timeOf cX0_timeOf 2 (some .int), Cond.methodLink RX6 150 yX0_timeOf]
def wsX6_broadcastTime : List Cond := .code yX6_broadcastTime cX6_broadcastTime 3 (some .int) :: ((wsX6_broadcastTime_r1 ++ (wsX6_broadcastTime_r2 ++ wsX6_broadcastTime_r3)) ++ wsX60 ++ wsX30 ++ wsX00 ++ wsX20 ++ (vx_atS RX6 62 "java/lang/IllegalArgumentException" ["java/lang/RuntimeException", "java/lang/Exception"]).filter goodWord ++ (vx_atS RX6 95 "java/lang/IllegalStateException" ["java/lang/RuntimeException", "java/lang/Exception"]).filter goodWord)
def wsX6_broadcastSize_r1 : List Cond := [Cond.fieldLink RX6 33 "FaultyCube" "broadcast" "LFaultyCube$Broadcast;", Cond.fieldLink RX6 10 "FaultyCube" "now" "LFaultyCube$Situation;", Cond.fieldLink RX6 26 "FaultyCube" "safety" "LFaultyCube$Safety;", Cond.methodLink RX6 73 yX6_requireNode, Cond.instanceMethod yX6_requireNode, Cond.selects RX6 yX6_requireNode yX6_requireNode, Cond.initialized RX6, Cond.code yX6_requireNode cX6_requireNode 2 none, Cond.classLink RX6 58 "java/lang/IllegalArgumentException", Cond.initialized "java/lang/IllegalArgumentException", Cond.methodLink RX6 96 yX6_nodeCount, Cond.instanceMethod yX6_nodeCount, Cond.selects RX6 yX6_nodeCount yX6_nodeCount, Cond.code yX6_nodeCount cX6_nodeCount 1 (some .int), Cond.methodLink RX6 76 yX6_requireAlive, Cond.instanceMethod yX6_requireAlive, Cond.selects RX6 yX6_requireAlive yX6_requireAlive, Cond.code yX6_requireAlive cX6_requireAlive 2 none, Cond.classLink RX6 91 "java/lang/IllegalStateException", Cond.initialized "java/lang/IllegalStateException", Cond.methodLink RX6 87 yX6_contains, Cond.static yX6_contains, Cond.code yX6_contains cX6_contains 3 (some .boolean), Cond.methodLink RX6 146 yX0_run]
def wsX6_broadcastSize_r2 : List Cond := [Cond.instanceMethod yX0_run, Cond.selects RX0 yX0_run yX0_run, Cond.initialized RX0, Cond.code yX0_run cX0_run 6 none, Cond.fieldLink RX0 9 "FaultyCube$Broadcast" "times" "[I", Cond.fieldLink RX0 27 "FaultyCube$Broadcast" "receivers" "I", Cond.fieldLink RX0 18 "FaultyCube$Broadcast" "queue" "[I", Cond.methodLink RX0 21 yJ7_fill_53178, Cond.static yJ7_fill_53178, Cond.initialized RJ7, Cond.code yJ7_fill_53178 cJ7_fill_53178 4 none, Cond.methodLink RX0 31 yX2_spareOf, Cond.instanceMethod yX2_spareOf, Cond.selects RX2 yX2_spareOf yX2_spareOf, Cond.initialized RX2, Cond.code yX2_spareOf cX2_spareOf 2 (some .int), Cond.fieldLink RX2 22 "FaultyCube$Safety" "dimension" "I", Cond.methodLink RX0 37 yX0_receive, Cond.instanceMethod yX0_receive, Cond.selects RX0 yX0_receive yX0_receive, Cond.code yX0_receive cX0_receive 4 none, Cond.fieldLink RX0 15 "FaultyCube$Broadcast" "lists" "[I", Cond.static yX6_write, Cond.code yX6_write cX6_write 3 none]
def wsX6_broadcastSize_r3 : List Cond := [Cond.static yX6_read, Cond.code yX6_read cX6_read 2 (some .int), Cond.methodLink RX0 45 yX0_passOn, Cond.instanceMethod yX0_passOn, Cond.selects RX0 yX0_passOn yX0_passOn, Cond.code yX0_passOn cX0_passOn 9 none, Cond.methodLink RX0 49 yX2_bestDimension, Cond.instanceMethod yX2_bestDimension, Cond.selects RX2 yX2_bestDimension yX2_bestDimension, Cond.code yX2_bestDimension cX2_bestDimension 6 (some .int), Cond.static yX6_hasBit, Cond.code yX6_hasBit cX6_hasBit 2 (some .boolean), Cond.static yX6_neighbour, Cond.code yX6_neighbour cX6_neighbour 2 (some .int), Cond.methodLink RX2 83 yX2_levelOf, Cond.instanceMethod yX2_levelOf, Cond.selects RX2 yX2_levelOf yX2_levelOf, Cond.code yX2_levelOf cX2_levelOf 2 (some .int), Cond.fieldLink RX2 9 "FaultyCube$Safety" "levels" "[I", Cond.methodLink RX0 60 yX0_timeOf, Cond.instanceMethod yX0_timeOf, Cond.selects RX0 yX0_timeOf yX0_timeOf, Cond.code yX0_timeOf cX0_timeOf 2 (some .int)]
def wsX6_broadcastSize : List Cond := .code yX6_broadcastSize cX6_broadcastSize 2 (some .int) :: ((wsX6_broadcastSize_r1 ++ (wsX6_broadcastSize_r2 ++ wsX6_broadcastSize_r3)) ++ wsX60 ++ wsX30 ++ wsX00 ++ wsX20 ++ (vx_atS RX6 62 "java/lang/IllegalArgumentException" ["java/lang/RuntimeException", "java/lang/Exception"]).filter goodWord ++ (vx_atS RX6 95 "java/lang/IllegalStateException" ["java/lang/RuntimeException", "java/lang/Exception"]).filter goodWord)
def wsX6_freeBases : List Cond := .code yX6_freeBases cX6_freeBases 5 (some .long) :: ([.fieldLink RX6 10 "FaultyCube" "now" "LFaultyCube$Situation;", .methodLink RX6 263 yX6_hasBit, .static yX6_hasBit, .initialized RX6, .code yX6_hasBit cX6_hasBit 2 (some .boolean), .methodLink RX6 267 yX6_lowNodes, .static yX6_lowNodes, .code yX6_lowNodes cX6_lowNodes 1 (some .long), .fieldLink RX6 270 "FaultyCube" "LOW_NODES" "[J"] ++ wsX60 ++ wsX30)
def wsX6_freeSubcubes_r1 : List Cond := [Cond.classLink RX6 58 "java/lang/IllegalArgumentException", Cond.initialized "java/lang/IllegalArgumentException", Cond.fieldLink RX6 10 "FaultyCube" "now" "LFaultyCube$Situation;", Cond.methodLink RX6 96 yX6_nodeCount, Cond.instanceMethod yX6_nodeCount, Cond.selects RX6 yX6_nodeCount yX6_nodeCount, Cond.initialized RX6, Cond.code yX6_nodeCount cX6_nodeCount 1 (some .int), Cond.methodLink RX6 107 yJ6_bitCount_0f7a4, Cond.static yJ6_bitCount_0f7a4, Cond.initialized RJ6, Cond.code yJ6_bitCount_0f7a4 cJ6_bitCount_0f7a4 1 (some .int), Cond.constant RJ6 265 (1431655765), Cond.constant RJ6 266 (858993459), Cond.constant RJ6 267 (252645135), Cond.methodLink RX6 158 yX6_freeBases, Cond.instanceMethod yX6_freeBases, Cond.selects RX6 yX6_freeBases yX6_freeBases, Cond.code yX6_freeBases cX6_freeBases 5 (some .long), Cond.methodLink RX6 263 yX6_hasBit, Cond.static yX6_hasBit, Cond.code yX6_hasBit cX6_hasBit 2 (some .boolean), Cond.methodLink RX6 267 yX6_lowNodes, Cond.static yX6_lowNodes]
def wsX6_freeSubcubes_r2 : List Cond := [Cond.code yX6_lowNodes cX6_lowNodes 1 (some .long), Cond.fieldLink RX6 270 "FaultyCube" "LOW_NODES" "[J", Cond.methodLink RX6 100 yJ13_bitCount_95d88, Cond.static yJ13_bitCount_95d88, Cond.initialized RJ13, Cond.code yJ13_bitCount_95d88 cJ13_bitCount_95d88 2 (some .int), Cond.constantLong RJ13 314 (6148914691236517205), Cond.constantLong RJ13 316 (3689348814741910323), Cond.constantLong RJ13 318 (1085102592571150095)]
def wsX6_freeSubcubes : List Cond := .code yX6_freeSubcubes cX6_freeSubcubes 4 (some .int) :: ((wsX6_freeSubcubes_r1 ++ wsX6_freeSubcubes_r2) ++ wsX60 ++ wsX30 ++ (vx_atS RX6 62 "java/lang/IllegalArgumentException" ["java/lang/RuntimeException", "java/lang/Exception"]).filter goodWord)
def wsX6_leastNode : List Cond := .code yX6_leastNode cX6_leastNode 2 (some .int) :: ([.methodLink RX6 100 yJ13_bitCount_95d88, .static yJ13_bitCount_95d88, .initialized RJ13, .code yJ13_bitCount_95d88 cJ13_bitCount_95d88 2 (some .int), .constantLong RJ13 314 (6148914691236517205), .constantLong RJ13 316 (3689348814741910323), .constantLong RJ13 318 (1085102592571150095)])
def wsX6_largestSubcube_r1 : List Cond := [Cond.methodLink RX6 96 yX6_nodeCount, Cond.instanceMethod yX6_nodeCount, Cond.selects RX6 yX6_nodeCount yX6_nodeCount, Cond.initialized RX6, Cond.code yX6_nodeCount cX6_nodeCount 1 (some .int), Cond.fieldLink RX6 10 "FaultyCube" "now" "LFaultyCube$Situation;", Cond.methodLink RX6 158 yX6_freeBases, Cond.instanceMethod yX6_freeBases, Cond.selects RX6 yX6_freeBases yX6_freeBases, Cond.code yX6_freeBases cX6_freeBases 5 (some .long), Cond.methodLink RX6 263 yX6_hasBit, Cond.static yX6_hasBit, Cond.code yX6_hasBit cX6_hasBit 2 (some .boolean), Cond.methodLink RX6 267 yX6_lowNodes, Cond.static yX6_lowNodes, Cond.code yX6_lowNodes cX6_lowNodes 1 (some .long), Cond.fieldLink RX6 270 "FaultyCube" "LOW_NODES" "[J", Cond.methodLink RX6 107 yJ6_bitCount_0f7a4, Cond.static yJ6_bitCount_0f7a4, Cond.initialized RJ6, Cond.code yJ6_bitCount_0f7a4 cJ6_bitCount_0f7a4 1 (some .int), Cond.constant RJ6 265 (1431655765), Cond.constant RJ6 266 (858993459), Cond.constant RJ6 267 (252645135)]
def wsX6_largestSubcube_r2 : List Cond := [Cond.methodLink RX6 162 yX6_leastNode, Cond.static yX6_leastNode, Cond.code yX6_leastNode cX6_leastNode 2 (some .int), Cond.methodLink RX6 100 yJ13_bitCount_95d88, Cond.static yJ13_bitCount_95d88, Cond.initialized RJ13, Cond.code yJ13_bitCount_95d88 cJ13_bitCount_95d88 2 (some .int), Cond.constantLong RJ13 314 (6148914691236517205), Cond.constantLong RJ13 316 (3689348814741910323), Cond.constantLong RJ13 318 (1085102592571150095)]
def wsX6_largestSubcube : List Cond := .code yX6_largestSubcube cX6_largestSubcube 6 (some .int) :: ((wsX6_largestSubcube_r1 ++ wsX6_largestSubcube_r2) ++ wsX60 ++ wsX30)
def wsX6_disjointPaths_r1 : List Cond := [Cond.classLink RX6 58 "java/lang/IllegalArgumentException", Cond.initialized "java/lang/IllegalArgumentException", Cond.fieldLink RX6 40 "FaultyCube" "packing" "LFaultyCube$PathPacking;", Cond.fieldLink RX6 10 "FaultyCube" "now" "LFaultyCube$Situation;", Cond.methodLink RX6 73 yX6_requireNode, Cond.instanceMethod yX6_requireNode, Cond.selects RX6 yX6_requireNode yX6_requireNode, Cond.initialized RX6, Cond.code yX6_requireNode cX6_requireNode 2 none, Cond.methodLink RX6 96 yX6_nodeCount, Cond.instanceMethod yX6_nodeCount, Cond.selects RX6 yX6_nodeCount yX6_nodeCount, Cond.code yX6_nodeCount cX6_nodeCount 1 (some .int), Cond.methodLink RX6 76 yX6_requireAlive, Cond.instanceMethod yX6_requireAlive, Cond.selects RX6 yX6_requireAlive yX6_requireAlive, Cond.code yX6_requireAlive cX6_requireAlive 2 none, Cond.classLink RX6 91 "java/lang/IllegalStateException", Cond.initialized "java/lang/IllegalStateException", Cond.methodLink RX6 87 yX6_contains, Cond.static yX6_contains, Cond.code yX6_contains cX6_contains 3 (some .boolean), Cond.methodLink RX6 167 yX1_largest, Cond.instanceMethod yX1_largest]
def wsX6_disjointPaths_r2 : List Cond := [Cond.selects RX1 yX1_largest yX1_largest, Cond.initialized RX1, Cond.code yX1_largest cX1_largest 8 (some .int), Cond.fieldLink RX1 21 "FaultyCube$PathPacking" "source" "I", Cond.fieldLink RX1 25 "FaultyCube$PathPacking" "goal" "I", Cond.fieldLink RX1 28 "FaultyCube$PathPacking" "dimension" "I", Cond.fieldLink RX1 31 "FaultyCube$PathPacking" "alive" "J", Cond.fieldLink RX1 9 "FaultyCube$PathPacking" "leaving" "[I", Cond.methodLink RX1 35 yJ7_fill_53178, Cond.static yJ7_fill_53178, Cond.initialized RJ7, Cond.code yJ7_fill_53178 cJ7_fill_53178 4 none, Cond.methodLink RX1 41 yX1_findsPath, Cond.instanceMethod yX1_findsPath, Cond.selects RX1 yX1_findsPath yX1_findsPath, Cond.code yX1_findsPath cX1_findsPath 3 (some .boolean), Cond.fieldLink RX1 15 "FaultyCube$PathPacking" "cameFrom" "[I", Cond.fieldLink RX1 48 "FaultyCube$PathPacking" "found" "I", Cond.fieldLink RX1 18 "FaultyCube$PathPacking" "queue" "[I", Cond.methodLink RX1 51 yX1_exit, Cond.static yX1_exit, Cond.code yX1_exit cX1_exit 1 (some .int), Cond.methodLink RX1 55 yX1_discover, Cond.instanceMethod yX1_discover]
def wsX6_disjointPaths_r3 : List Cond := [Cond.selects RX1 yX1_discover yX1_discover, Cond.code yX1_discover cX1_discover 3 none, Cond.static yX6_read, Cond.code yX6_read cX6_read 2 (some .int), Cond.static yX6_write, Cond.code yX6_write cX6_write 3 none, Cond.methodLink RX1 59 yX1_entry, Cond.static yX1_entry, Cond.code yX1_entry cX1_entry 1 (some .int), Cond.methodLink RX1 62 yX1_searchFromEntry, Cond.instanceMethod yX1_searchFromEntry, Cond.selects RX1 yX1_searchFromEntry yX1_searchFromEntry, Cond.code yX1_searchFromEntry cX1_searchFromEntry 4 none, Cond.static yX6_neighbour, Cond.code yX6_neighbour cX6_neighbour 2 (some .int), Cond.static yX6_hasBit, Cond.code yX6_hasBit cX6_hasBit 2 (some .boolean), Cond.methodLink RX1 66 yX1_searchFromExit, Cond.instanceMethod yX1_searchFromExit, Cond.selects RX1 yX1_searchFromExit yX1_searchFromExit, Cond.code yX1_searchFromExit cX1_searchFromExit 5 none, Cond.methodLink RX1 45 yX1_addPath, Cond.instanceMethod yX1_addPath, Cond.selects RX1 yX1_addPath yX1_addPath]
def wsX6_disjointPaths_r4 : List Cond := [Cond.code yX1_addPath cX1_addPath 6 none]
def wsX6_disjointPaths : List Cond := .code yX6_disjointPaths cX6_disjointPaths 3 (some .int) :: ((wsX6_disjointPaths_r1 ++ (wsX6_disjointPaths_r2 ++ (wsX6_disjointPaths_r3 ++ wsX6_disjointPaths_r4))) ++ wsX60 ++ wsX30 ++ wsX10 ++ (vx_atS RX6 62 "java/lang/IllegalArgumentException" ["java/lang/RuntimeException", "java/lang/Exception"]).filter goodWord ++ (vx_atS RX6 95 "java/lang/IllegalStateException" ["java/lang/RuntimeException", "java/lang/Exception"]).filter goodWord)
def wsX6_send_r1 : List Cond := [Cond.classLink RX6 91 "java/lang/IllegalStateException", Cond.initialized "java/lang/IllegalStateException", Cond.fieldLink RX6 10 "FaultyCube" "now" "LFaultyCube$Situation;", Cond.fieldLink RX6 19 "FaultyCube" "past" "LFaultyCube$UndoStack;", Cond.methodLink RX6 112 yX6_requireLivingPair, Cond.instanceMethod yX6_requireLivingPair, Cond.selects RX6 yX6_requireLivingPair yX6_requireLivingPair, Cond.initialized RX6, Cond.code yX6_requireLivingPair cX6_requireLivingPair 3 none, Cond.methodLink RX6 73 yX6_requireNode, Cond.instanceMethod yX6_requireNode, Cond.selects RX6 yX6_requireNode yX6_requireNode, Cond.code yX6_requireNode cX6_requireNode 2 none, Cond.classLink RX6 58 "java/lang/IllegalArgumentException", Cond.initialized "java/lang/IllegalArgumentException", Cond.methodLink RX6 96 yX6_nodeCount, Cond.instanceMethod yX6_nodeCount, Cond.selects RX6 yX6_nodeCount yX6_nodeCount, Cond.code yX6_nodeCount cX6_nodeCount 1 (some .int), Cond.methodLink RX6 76 yX6_requireAlive, Cond.instanceMethod yX6_requireAlive, Cond.selects RX6 yX6_requireAlive yX6_requireAlive, Cond.code yX6_requireAlive cX6_requireAlive 2 none, Cond.methodLink RX6 87 yX6_contains]
def wsX6_send_r2 : List Cond := [Cond.static yX6_contains, Cond.code yX6_contains cX6_contains 3 (some .boolean), Cond.methodLink RX6 69 yX5_save, Cond.instanceMethod yX5_save, Cond.selects RX5 yX5_save yX5_save, Cond.initialized RX5, Cond.code yX5_save cX5_save 3 none, Cond.fieldLink RX5 18 "FaultyCube$UndoStack" "next" "I", Cond.fieldLink RX5 30 "FaultyCube$UndoStack" "size" "I", Cond.methodLink RX5 33 Lib.Math.min.name, Cond.static Lib.Math.min.name, Cond.initialized "java/lang/Math", Cond.code Lib.Math.min.name Lib.Math.min.code 2 (some .int), Cond.methodLink RX5 22 yX5_slotAt, Cond.instanceMethod yX5_slotAt, Cond.selects RX5 yX5_slotAt yX5_slotAt, Cond.code yX5_slotAt cX5_slotAt 2 (some (.object "FaultyCube$Situation")), Cond.fieldLink RX5 11 "FaultyCube$UndoStack" "ring" "[LFaultyCube$Situation;", Cond.methodLink RX5 26 yX3_copyFrom, Cond.instanceMethod yX3_copyFrom, Cond.selects RX3 yX3_copyFrom yX3_copyFrom, Cond.initialized RX3, Cond.code yX3_copyFrom cX3_copyFrom 2 none, Cond.fieldLink RX3 27 "FaultyCube$Situation" "dimension" "I"]
def wsX6_send_r3 : List Cond := [Cond.fieldLink RX3 33 "FaultyCube$Situation" "alive" "J", Cond.fieldLink RX3 37 "FaultyCube$Situation" "steps" "I", Cond.fieldLink RX3 40 "FaultyCube$Situation" "messages" "I", Cond.fieldLink RX3 9 "FaultyCube$Situation" "states" "[I", Cond.methodLink RX3 43 arraycopyName, Cond.native arraycopyName, Cond.static arraycopyName, Cond.initialized "java/lang/System", Cond.fieldLink RX3 15 "FaultyCube$Situation" "positions" "[I", Cond.fieldLink RX3 18 "FaultyCube$Situation" "goals" "[I", Cond.fieldLink RX3 21 "FaultyCube$Situation" "moveCounts" "[I", Cond.fieldLink RX3 24 "FaultyCube$Situation" "detourCounts" "[I", Cond.methodLink RX6 176 yX3_addMessage, Cond.instanceMethod yX3_addMessage, Cond.selects RX3 yX3_addMessage yX3_addMessage, Cond.code yX3_addMessage cX3_addMessage 4 (some .int), Cond.static yX6_write, Cond.code yX6_write cX6_write 3 none]
def wsX6_send : List Cond := .code yX6_send cX6_send 3 (some .int) :: ((wsX6_send_r1 ++ (wsX6_send_r2 ++ wsX6_send_r3)) ++ wsX60 ++ wsX30 ++ wsX50 ++ (vx_atS RX6 95 "java/lang/IllegalStateException" ["java/lang/RuntimeException", "java/lang/Exception"]).filter goodWord ++ (vx_atS RX6 62 "java/lang/IllegalArgumentException" ["java/lang/RuntimeException", "java/lang/Exception"]).filter goodWord)
def wsX6_step_r1 : List Cond := [Cond.classLink RX6 58 "java/lang/IllegalArgumentException", Cond.initialized "java/lang/IllegalArgumentException", Cond.fieldLink RX6 19 "FaultyCube" "past" "LFaultyCube$UndoStack;", Cond.fieldLink RX6 10 "FaultyCube" "now" "LFaultyCube$Situation;", Cond.fieldLink RX6 47 "FaultyCube" "traffic" "LFaultyCube$Traffic;", Cond.fieldLink RX6 26 "FaultyCube" "safety" "LFaultyCube$Safety;", Cond.methodLink RX6 69 yX5_save, Cond.instanceMethod yX5_save, Cond.selects RX5 yX5_save yX5_save, Cond.initialized RX5, Cond.code yX5_save cX5_save 3 none, Cond.fieldLink RX5 18 "FaultyCube$UndoStack" "next" "I", Cond.fieldLink RX5 30 "FaultyCube$UndoStack" "size" "I", Cond.methodLink RX5 33 Lib.Math.min.name, Cond.static Lib.Math.min.name, Cond.initialized "java/lang/Math", Cond.code Lib.Math.min.name Lib.Math.min.code 2 (some .int), Cond.methodLink RX5 22 yX5_slotAt, Cond.instanceMethod yX5_slotAt, Cond.selects RX5 yX5_slotAt yX5_slotAt, Cond.code yX5_slotAt cX5_slotAt 2 (some (.object "FaultyCube$Situation")), Cond.fieldLink RX5 11 "FaultyCube$UndoStack" "ring" "[LFaultyCube$Situation;", Cond.methodLink RX5 26 yX3_copyFrom, Cond.instanceMethod yX3_copyFrom]
def wsX6_step_r2 : List Cond := [Cond.selects RX3 yX3_copyFrom yX3_copyFrom, Cond.initialized RX3, Cond.code yX3_copyFrom cX3_copyFrom 2 none, Cond.fieldLink RX3 27 "FaultyCube$Situation" "dimension" "I", Cond.fieldLink RX3 33 "FaultyCube$Situation" "alive" "J", Cond.fieldLink RX3 37 "FaultyCube$Situation" "steps" "I", Cond.fieldLink RX3 40 "FaultyCube$Situation" "messages" "I", Cond.fieldLink RX3 9 "FaultyCube$Situation" "states" "[I", Cond.methodLink RX3 43 arraycopyName, Cond.native arraycopyName, Cond.static arraycopyName, Cond.initialized "java/lang/System", Cond.fieldLink RX3 15 "FaultyCube$Situation" "positions" "[I", Cond.fieldLink RX3 18 "FaultyCube$Situation" "goals" "[I", Cond.fieldLink RX3 21 "FaultyCube$Situation" "moveCounts" "[I", Cond.fieldLink RX3 24 "FaultyCube$Situation" "detourCounts" "[I", Cond.methodLink RX6 181 yX4_oneStep, Cond.instanceMethod yX4_oneStep, Cond.selects RX4 yX4_oneStep yX4_oneStep, Cond.initialized RX4, Cond.code yX4_oneStep cX4_oneStep 5 (some .int), Cond.fieldLink RX4 9 "FaultyCube$Traffic" "usedWays" "[I", Cond.methodLink RX4 15 yJ7_fill_53178, Cond.static yJ7_fill_53178]
def wsX6_step_r3 : List Cond := [Cond.initialized RJ7, Cond.code yJ7_fill_53178 cJ7_fill_53178 4 none, Cond.static yX6_read, Cond.initialized RX6, Cond.code yX6_read cX6_read 2 (some .int), Cond.methodLink RX4 34 yX4_moved, Cond.instanceMethod yX4_moved, Cond.selects RX4 yX4_moved yX4_moved, Cond.code yX4_moved cX4_moved 9 (some .boolean), Cond.methodLink RX4 47 yX2_bestLevel, Cond.instanceMethod yX2_bestLevel, Cond.selects RX2 yX2_bestLevel yX2_bestLevel, Cond.initialized RX2, Cond.code yX2_bestLevel cX2_bestLevel 4 (some .int), Cond.methodLink RX2 86 yX2_bestDimension, Cond.instanceMethod yX2_bestDimension, Cond.selects RX2 yX2_bestDimension yX2_bestDimension, Cond.code yX2_bestDimension cX2_bestDimension 6 (some .int), Cond.fieldLink RX2 22 "FaultyCube$Safety" "dimension" "I", Cond.static yX6_hasBit, Cond.code yX6_hasBit cX6_hasBit 2 (some .boolean), Cond.static yX6_neighbour, Cond.code yX6_neighbour cX6_neighbour 2 (some .int), Cond.methodLink RX2 83 yX2_levelOf]
def wsX6_step_r4 : List Cond := [Cond.instanceMethod yX2_levelOf, Cond.selects RX2 yX2_levelOf yX2_levelOf, Cond.code yX2_levelOf cX2_levelOf 2 (some .int), Cond.fieldLink RX2 9 "FaultyCube$Safety" "levels" "[I", Cond.methodLink RX4 53 yX2_spareOf, Cond.instanceMethod yX2_spareOf, Cond.selects RX2 yX2_spareOf yX2_spareOf, Cond.code yX2_spareOf cX2_spareOf 2 (some .int), Cond.methodLink RX4 60 yX2_bestDimension, Cond.static yX6_write, Cond.code yX6_write cX6_write 3 none, Cond.methodLink RX4 74 yX4_move, Cond.instanceMethod yX4_move, Cond.selects RX4 yX4_move yX4_move, Cond.code yX4_move cX4_move 5 none]
def wsX6_step : List Cond := .code yX6_step cX6_step 4 (some .int) :: ((wsX6_step_r1 ++ (wsX6_step_r2 ++ (wsX6_step_r3 ++ wsX6_step_r4))) ++ wsX60 ++ wsX50 ++ wsX30 ++ wsX40 ++ wsX20 ++ (vx_atS RX6 62 "java/lang/IllegalArgumentException" ["java/lang/RuntimeException", "java/lang/Exception"]).filter goodWord)
def wsX6_requireMessage : List Cond := .code yX6_requireMessage cX6_requireMessage 2 none :: ([.classLink RX6 58 "java/lang/IllegalArgumentException", .initialized "java/lang/IllegalArgumentException", .fieldLink RX6 10 "FaultyCube" "now" "LFaultyCube$Situation;"] ++ wsX60 ++ wsX30 ++ (vx_atS RX6 62 "java/lang/IllegalArgumentException" ["java/lang/RuntimeException", "java/lang/Exception"]).filter goodWord)
def wsX6_state : List Cond := .code yX6_state cX6_state 2 (some .int) :: ([.fieldLink RX6 10 "FaultyCube" "now" "LFaultyCube$Situation;", .methodLink RX6 185 yX6_requireMessage, .instanceMethod yX6_requireMessage, .selects RX6 yX6_requireMessage yX6_requireMessage, .initialized RX6, .code yX6_requireMessage cX6_requireMessage 2 none, .classLink RX6 58 "java/lang/IllegalArgumentException", .initialized "java/lang/IllegalArgumentException", .methodLink RX6 192 yX6_read, .static yX6_read, .code yX6_read cX6_read 2 (some .int)] ++ wsX60 ++ wsX30 ++ (vx_atS RX6 62 "java/lang/IllegalArgumentException" ["java/lang/RuntimeException", "java/lang/Exception"]).filter goodWord)
def wsX6_position : List Cond := .code yX6_position cX6_position 2 (some .int) :: ([.fieldLink RX6 10 "FaultyCube" "now" "LFaultyCube$Situation;", .methodLink RX6 185 yX6_requireMessage, .instanceMethod yX6_requireMessage, .selects RX6 yX6_requireMessage yX6_requireMessage, .initialized RX6, .code yX6_requireMessage cX6_requireMessage 2 none, .classLink RX6 58 "java/lang/IllegalArgumentException", .initialized "java/lang/IllegalArgumentException", .methodLink RX6 192 yX6_read, .static yX6_read, .code yX6_read cX6_read 2 (some .int)] ++ wsX60 ++ wsX30 ++ (vx_atS RX6 62 "java/lang/IllegalArgumentException" ["java/lang/RuntimeException", "java/lang/Exception"]).filter goodWord)
def wsX6_moves : List Cond := .code yX6_moves cX6_moves 2 (some .int) :: ([.fieldLink RX6 10 "FaultyCube" "now" "LFaultyCube$Situation;", .methodLink RX6 185 yX6_requireMessage, .instanceMethod yX6_requireMessage, .selects RX6 yX6_requireMessage yX6_requireMessage, .initialized RX6, .code yX6_requireMessage cX6_requireMessage 2 none, .classLink RX6 58 "java/lang/IllegalArgumentException", .initialized "java/lang/IllegalArgumentException", .methodLink RX6 192 yX6_read, .static yX6_read, .code yX6_read cX6_read 2 (some .int)] ++ wsX60 ++ wsX30 ++ (vx_atS RX6 62 "java/lang/IllegalArgumentException" ["java/lang/RuntimeException", "java/lang/Exception"]).filter goodWord)
def wsX6_count : List Cond := .code yX6_count cX6_count 4 (some .int) :: ([.classLink RX6 58 "java/lang/IllegalArgumentException", .initialized "java/lang/IllegalArgumentException", .fieldLink RX6 10 "FaultyCube" "now" "LFaultyCube$Situation;", .methodLink RX6 192 yX6_read, .static yX6_read, .initialized RX6, .code yX6_read cX6_read 2 (some .int)] ++ wsX60 ++ wsX30 ++ (vx_atS RX6 62 "java/lang/IllegalArgumentException" ["java/lang/RuntimeException", "java/lang/Exception"]).filter goodWord)
def wsX6_undo_r1 : List Cond := [Cond.classLink RX6 91 "java/lang/IllegalStateException", Cond.initialized "java/lang/IllegalStateException", Cond.fieldLink RX6 19 "FaultyCube" "past" "LFaultyCube$UndoStack;", Cond.fieldLink RX6 10 "FaultyCube" "now" "LFaultyCube$Situation;", Cond.methodLink RX6 209 yX5_restoreInto, Cond.instanceMethod yX5_restoreInto, Cond.selects RX5 yX5_restoreInto yX5_restoreInto, Cond.initialized RX5, Cond.code yX5_restoreInto cX5_restoreInto 4 none, Cond.fieldLink RX5 18 "FaultyCube$UndoStack" "next" "I", Cond.fieldLink RX5 30 "FaultyCube$UndoStack" "size" "I", Cond.methodLink RX5 22 yX5_slotAt, Cond.instanceMethod yX5_slotAt, Cond.selects RX5 yX5_slotAt yX5_slotAt, Cond.code yX5_slotAt cX5_slotAt 2 (some (.object "FaultyCube$Situation")), Cond.fieldLink RX5 11 "FaultyCube$UndoStack" "ring" "[LFaultyCube$Situation;", Cond.methodLink RX5 26 yX3_copyFrom, Cond.instanceMethod yX3_copyFrom, Cond.selects RX3 yX3_copyFrom yX3_copyFrom, Cond.initialized RX3, Cond.code yX3_copyFrom cX3_copyFrom 2 none, Cond.fieldLink RX3 27 "FaultyCube$Situation" "dimension" "I", Cond.fieldLink RX3 33 "FaultyCube$Situation" "alive" "J", Cond.fieldLink RX3 37 "FaultyCube$Situation" "steps" "I"]
def wsX6_undo_r2 : List Cond := [Cond.fieldLink RX3 40 "FaultyCube$Situation" "messages" "I", Cond.fieldLink RX3 9 "FaultyCube$Situation" "states" "[I", Cond.methodLink RX3 43 arraycopyName, Cond.native arraycopyName, Cond.static arraycopyName, Cond.initialized "java/lang/System", Cond.fieldLink RX3 15 "FaultyCube$Situation" "positions" "[I", Cond.fieldLink RX3 18 "FaultyCube$Situation" "goals" "[I", Cond.fieldLink RX3 21 "FaultyCube$Situation" "moveCounts" "[I", Cond.fieldLink RX3 24 "FaultyCube$Situation" "detourCounts" "[I", Cond.methodLink RX6 55 yX6_refreshSafety, Cond.instanceMethod yX6_refreshSafety, Cond.selects RX6 yX6_refreshSafety yX6_refreshSafety, Cond.initialized RX6, Cond.code yX6_refreshSafety cX6_refreshSafety 1 none, Cond.fieldLink RX6 26 "FaultyCube" "safety" "LFaultyCube$Safety;", Cond.methodLink RX6 241 yX2_find, Cond.instanceMethod yX2_find, Cond.selects RX2 yX2_find yX2_find, Cond.initialized RX2, Cond.code yX2_find cX2_find 6 none, Cond.fieldLink RX2 22 "FaultyCube$Safety" "dimension" "I", Cond.fieldLink RX2 30 "FaultyCube$Safety" "changingRounds" "I", Cond.methodLink RX2 26 yX2_startLevels]
def wsX6_undo_r3 : List Cond := [Cond.instanceMethod yX2_startLevels, Cond.selects RX2 yX2_startLevels yX2_startLevels, Cond.code yX2_startLevels cX2_startLevels 4 none, Cond.fieldLink RX2 9 "FaultyCube$Safety" "levels" "[I", Cond.static yX6_contains, Cond.code yX6_contains cX6_contains 3 (some .boolean), Cond.static yX6_write, Cond.code yX6_write cX6_write 3 none, Cond.methodLink RX2 33 yX2_roundChanges, Cond.instanceMethod yX2_roundChanges, Cond.selects RX2 yX2_roundChanges yX2_roundChanges, Cond.code yX2_roundChanges cX2_roundChanges 6 (some .boolean), Cond.fieldLink RX2 15 "FaultyCube$Safety" "levelsBefore" "[I", Cond.methodLink RX2 48 arraycopyName, Cond.methodLink RX2 54 yX2_levelAfterRound, Cond.instanceMethod yX2_levelAfterRound, Cond.selects RX2 yX2_levelAfterRound yX2_levelAfterRound, Cond.code yX2_levelAfterRound cX2_levelAfterRound 3 (some .int), Cond.methodLink RX2 62 yX2_neighboursBelow, Cond.instanceMethod yX2_neighboursBelow, Cond.selects RX2 yX2_neighboursBelow yX2_neighboursBelow, Cond.code yX2_neighboursBelow cX2_neighboursBelow 5 (some .int), Cond.static yX6_neighbour, Cond.code yX6_neighbour cX6_neighbour 2 (some .int)]
def wsX6_undo_r4 : List Cond := [Cond.static yX6_read, Cond.code yX6_read cX6_read 2 (some .int), Cond.methodLink RX2 37 yX2_findVectors, Cond.instanceMethod yX2_findVectors, Cond.selects RX2 yX2_findVectors yX2_findVectors, Cond.code yX2_findVectors cX2_findVectors 6 none, Cond.fieldLink RX2 18 "FaultyCube$Safety" "vectorSets" "[J", Cond.methodLink RX2 69 yJ7_fill_d0a16, Cond.static yJ7_fill_d0a16, Cond.initialized RJ7, Cond.code yJ7_fill_d0a16 cJ7_fill_d0a16 5 none, Cond.methodLink RX2 75 yX2_withNeighboursAbove, Cond.instanceMethod yX2_withNeighboursAbove, Cond.selects RX2 yX2_withNeighboursAbove yX2_withNeighboursAbove, Cond.code yX2_withNeighboursAbove cX2_withNeighboursAbove 9 (some .long)]
def wsX6_undo : List Cond := .code yX6_undo cX6_undo 1 (some .int) :: ((wsX6_undo_r1 ++ (wsX6_undo_r2 ++ (wsX6_undo_r3 ++ wsX6_undo_r4))) ++ wsX60 ++ wsX50 ++ wsX30 ++ wsX20 ++ (vx_atS RX6 95 "java/lang/IllegalStateException" ["java/lang/RuntimeException", "java/lang/Exception"]).filter goodWord)
def wsJ9_min_7cf53 : List Cond := .code yJ9_min_7cf53 cJ9_min_7cf53 2 (some .int) :: ([])
def wsL_cell : List Cond := .code yL_cell cL_cell 2 (some .int) :: ([.constant RL 7 (916318735)])
def wsL_low : List Cond := .code yL_low cL_low 2 (some .int) :: ([.constant RL 8 (2147483647)])
def wsL_ones : List Cond := .code yL_ones cL_ones 3 (some .int) :: ([])
def wsL_setDimension_r1 : List Cond := [Cond.classLink RL 15 "java/lang/IllegalArgumentException", Cond.methodLink RL 9 yX6_setDimension, Cond.instanceMethod yX6_setDimension, Cond.selects RX6 yX6_setDimension yX6_setDimension, Cond.initialized RX6, Cond.code yX6_setDimension cX6_setDimension 3 (some .int), Cond.classLink RX6 58 "java/lang/IllegalArgumentException", Cond.initialized "java/lang/IllegalArgumentException", Cond.fieldLink RX6 10 "FaultyCube" "now" "LFaultyCube$Situation;", Cond.fieldLink RX6 19 "FaultyCube" "past" "LFaultyCube$UndoStack;", Cond.methodLink RX6 69 yX5_save, Cond.instanceMethod yX5_save, Cond.selects RX5 yX5_save yX5_save, Cond.initialized RX5, Cond.code yX5_save cX5_save 3 none, Cond.fieldLink RX5 18 "FaultyCube$UndoStack" "next" "I", Cond.fieldLink RX5 30 "FaultyCube$UndoStack" "size" "I", Cond.methodLink RX5 33 Lib.Math.min.name, Cond.static Lib.Math.min.name, Cond.initialized "java/lang/Math", Cond.code Lib.Math.min.name Lib.Math.min.code 2 (some .int), Cond.methodLink RX5 22 yX5_slotAt, Cond.instanceMethod yX5_slotAt, Cond.selects RX5 yX5_slotAt yX5_slotAt]
def wsL_setDimension_r2 : List Cond := [Cond.code yX5_slotAt cX5_slotAt 2 (some (.object "FaultyCube$Situation")), Cond.fieldLink RX5 11 "FaultyCube$UndoStack" "ring" "[LFaultyCube$Situation;", Cond.methodLink RX5 26 yX3_copyFrom, Cond.instanceMethod yX3_copyFrom, Cond.selects RX3 yX3_copyFrom yX3_copyFrom, Cond.initialized RX3, Cond.code yX3_copyFrom cX3_copyFrom 2 none, Cond.fieldLink RX3 27 "FaultyCube$Situation" "dimension" "I", Cond.fieldLink RX3 33 "FaultyCube$Situation" "alive" "J", Cond.fieldLink RX3 37 "FaultyCube$Situation" "steps" "I", Cond.fieldLink RX3 40 "FaultyCube$Situation" "messages" "I", Cond.fieldLink RX3 9 "FaultyCube$Situation" "states" "[I", Cond.methodLink RX3 43 arraycopyName, Cond.native arraycopyName, Cond.static arraycopyName, Cond.initialized "java/lang/System", Cond.fieldLink RX3 15 "FaultyCube$Situation" "positions" "[I", Cond.fieldLink RX3 18 "FaultyCube$Situation" "goals" "[I", Cond.fieldLink RX3 21 "FaultyCube$Situation" "moveCounts" "[I", Cond.fieldLink RX3 24 "FaultyCube$Situation" "detourCounts" "[I", Cond.methodLink RX6 51 yX3_restart, Cond.instanceMethod yX3_restart, Cond.selects RX3 yX3_restart yX3_restart, Cond.code yX3_restart cX3_restart 2 none]
def wsL_setDimension_r3 : List Cond := [Cond.constantLong RX3 31 (-1), Cond.methodLink RX6 55 yX6_refreshSafety, Cond.instanceMethod yX6_refreshSafety, Cond.selects RX6 yX6_refreshSafety yX6_refreshSafety, Cond.code yX6_refreshSafety cX6_refreshSafety 1 none, Cond.fieldLink RX6 26 "FaultyCube" "safety" "LFaultyCube$Safety;", Cond.methodLink RX6 241 yX2_find, Cond.instanceMethod yX2_find, Cond.selects RX2 yX2_find yX2_find, Cond.initialized RX2, Cond.code yX2_find cX2_find 6 none, Cond.fieldLink RX2 22 "FaultyCube$Safety" "dimension" "I", Cond.fieldLink RX2 30 "FaultyCube$Safety" "changingRounds" "I", Cond.methodLink RX2 26 yX2_startLevels, Cond.instanceMethod yX2_startLevels, Cond.selects RX2 yX2_startLevels yX2_startLevels, Cond.code yX2_startLevels cX2_startLevels 4 none, Cond.fieldLink RX2 9 "FaultyCube$Safety" "levels" "[I", Cond.static yX6_contains, Cond.code yX6_contains cX6_contains 3 (some .boolean), Cond.static yX6_write, Cond.code yX6_write cX6_write 3 none, Cond.methodLink RX2 33 yX2_roundChanges, Cond.instanceMethod yX2_roundChanges]
def wsL_setDimension_r4 : List Cond := [Cond.selects RX2 yX2_roundChanges yX2_roundChanges, Cond.code yX2_roundChanges cX2_roundChanges 6 (some .boolean), Cond.fieldLink RX2 15 "FaultyCube$Safety" "levelsBefore" "[I", Cond.methodLink RX2 48 arraycopyName, Cond.methodLink RX2 54 yX2_levelAfterRound, Cond.instanceMethod yX2_levelAfterRound, Cond.selects RX2 yX2_levelAfterRound yX2_levelAfterRound, Cond.code yX2_levelAfterRound cX2_levelAfterRound 3 (some .int), Cond.methodLink RX2 62 yX2_neighboursBelow, Cond.instanceMethod yX2_neighboursBelow, Cond.selects RX2 yX2_neighboursBelow yX2_neighboursBelow, Cond.code yX2_neighboursBelow cX2_neighboursBelow 5 (some .int), Cond.static yX6_neighbour, Cond.code yX6_neighbour cX6_neighbour 2 (some .int), Cond.static yX6_read, Cond.code yX6_read cX6_read 2 (some .int), Cond.methodLink RX2 37 yX2_findVectors, Cond.instanceMethod yX2_findVectors, Cond.selects RX2 yX2_findVectors yX2_findVectors, Cond.code yX2_findVectors cX2_findVectors 6 none, Cond.fieldLink RX2 18 "FaultyCube$Safety" "vectorSets" "[J", Cond.methodLink RX2 69 yJ7_fill_d0a16, Cond.static yJ7_fill_d0a16, Cond.initialized RJ7]
def wsL_setDimension_r5 : List Cond := [Cond.code yJ7_fill_d0a16 cJ7_fill_d0a16 5 none, Cond.methodLink RX2 75 yX2_withNeighboursAbove, Cond.instanceMethod yX2_withNeighboursAbove, Cond.selects RX2 yX2_withNeighboursAbove yX2_withNeighboursAbove, Cond.code yX2_withNeighboursAbove cX2_withNeighboursAbove 9 (some .long)]
def wsL_setDimension : List Cond := .codeWith yL_setDimension cL_setDimension 4 (some .int) [(0, 6, 9, 15)] :: ((wsL_setDimension_r1 ++ (wsL_setDimension_r2 ++ (wsL_setDimension_r3 ++ (wsL_setDimension_r4 ++ wsL_setDimension_r5)))) ++ wsX60 ++ wsX30 ++ wsX50 ++ wsX20 ++ (vx_atS RX6 62 "java/lang/IllegalArgumentException" ["java/lang/RuntimeException", "java/lang/Exception"]).filter goodWord)
def wsL_kill_r1 : List Cond := [Cond.classLink RL 15 "java/lang/IllegalArgumentException", Cond.classLink RL 20 "java/lang/IllegalStateException", Cond.methodLink RL 17 yX6_kill, Cond.instanceMethod yX6_kill, Cond.selects RX6 yX6_kill yX6_kill, Cond.initialized RX6, Cond.code yX6_kill cX6_kill 3 (some .int), Cond.fieldLink RX6 19 "FaultyCube" "past" "LFaultyCube$UndoStack;", Cond.fieldLink RX6 10 "FaultyCube" "now" "LFaultyCube$Situation;", Cond.methodLink RX6 73 yX6_requireNode, Cond.instanceMethod yX6_requireNode, Cond.selects RX6 yX6_requireNode yX6_requireNode, Cond.code yX6_requireNode cX6_requireNode 2 none, Cond.classLink RX6 58 "java/lang/IllegalArgumentException", Cond.initialized "java/lang/IllegalArgumentException", Cond.methodLink RX6 96 yX6_nodeCount, Cond.instanceMethod yX6_nodeCount, Cond.selects RX6 yX6_nodeCount yX6_nodeCount, Cond.code yX6_nodeCount cX6_nodeCount 1 (some .int), Cond.methodLink RX6 76 yX6_requireAlive, Cond.instanceMethod yX6_requireAlive, Cond.selects RX6 yX6_requireAlive yX6_requireAlive, Cond.code yX6_requireAlive cX6_requireAlive 2 none, Cond.classLink RX6 91 "java/lang/IllegalStateException"]
def wsL_kill_r2 : List Cond := [Cond.initialized "java/lang/IllegalStateException", Cond.methodLink RX6 87 yX6_contains, Cond.static yX6_contains, Cond.code yX6_contains cX6_contains 3 (some .boolean), Cond.methodLink RX6 69 yX5_save, Cond.instanceMethod yX5_save, Cond.selects RX5 yX5_save yX5_save, Cond.initialized RX5, Cond.code yX5_save cX5_save 3 none, Cond.fieldLink RX5 18 "FaultyCube$UndoStack" "next" "I", Cond.fieldLink RX5 30 "FaultyCube$UndoStack" "size" "I", Cond.methodLink RX5 33 Lib.Math.min.name, Cond.static Lib.Math.min.name, Cond.initialized "java/lang/Math", Cond.code Lib.Math.min.name Lib.Math.min.code 2 (some .int), Cond.methodLink RX5 22 yX5_slotAt, Cond.instanceMethod yX5_slotAt, Cond.selects RX5 yX5_slotAt yX5_slotAt, Cond.code yX5_slotAt cX5_slotAt 2 (some (.object "FaultyCube$Situation")), Cond.fieldLink RX5 11 "FaultyCube$UndoStack" "ring" "[LFaultyCube$Situation;", Cond.methodLink RX5 26 yX3_copyFrom, Cond.instanceMethod yX3_copyFrom, Cond.selects RX3 yX3_copyFrom yX3_copyFrom, Cond.initialized RX3]
def wsL_kill_r3 : List Cond := [Cond.code yX3_copyFrom cX3_copyFrom 2 none, Cond.fieldLink RX3 27 "FaultyCube$Situation" "dimension" "I", Cond.fieldLink RX3 33 "FaultyCube$Situation" "alive" "J", Cond.fieldLink RX3 37 "FaultyCube$Situation" "steps" "I", Cond.fieldLink RX3 40 "FaultyCube$Situation" "messages" "I", Cond.fieldLink RX3 9 "FaultyCube$Situation" "states" "[I", Cond.methodLink RX3 43 arraycopyName, Cond.native arraycopyName, Cond.static arraycopyName, Cond.initialized "java/lang/System", Cond.fieldLink RX3 15 "FaultyCube$Situation" "positions" "[I", Cond.fieldLink RX3 18 "FaultyCube$Situation" "goals" "[I", Cond.fieldLink RX3 21 "FaultyCube$Situation" "moveCounts" "[I", Cond.fieldLink RX3 24 "FaultyCube$Situation" "detourCounts" "[I", Cond.methodLink RX6 79 yX3_letDie, Cond.instanceMethod yX3_letDie, Cond.selects RX3 yX3_letDie yX3_letDie, Cond.code yX3_letDie cX3_letDie 6 (some .int), Cond.constantLong RX3 31 (-1), Cond.static yX6_read, Cond.code yX6_read cX6_read 2 (some .int), Cond.static yX6_write, Cond.code yX6_write cX6_write 3 none, Cond.methodLink RX6 55 yX6_refreshSafety]
def wsL_kill_r4 : List Cond := [Cond.instanceMethod yX6_refreshSafety, Cond.selects RX6 yX6_refreshSafety yX6_refreshSafety, Cond.code yX6_refreshSafety cX6_refreshSafety 1 none, Cond.fieldLink RX6 26 "FaultyCube" "safety" "LFaultyCube$Safety;", Cond.methodLink RX6 241 yX2_find, Cond.instanceMethod yX2_find, Cond.selects RX2 yX2_find yX2_find, Cond.initialized RX2, Cond.code yX2_find cX2_find 6 none, Cond.fieldLink RX2 22 "FaultyCube$Safety" "dimension" "I", Cond.fieldLink RX2 30 "FaultyCube$Safety" "changingRounds" "I", Cond.methodLink RX2 26 yX2_startLevels, Cond.instanceMethod yX2_startLevels, Cond.selects RX2 yX2_startLevels yX2_startLevels, Cond.code yX2_startLevels cX2_startLevels 4 none, Cond.fieldLink RX2 9 "FaultyCube$Safety" "levels" "[I", Cond.methodLink RX2 33 yX2_roundChanges, Cond.instanceMethod yX2_roundChanges, Cond.selects RX2 yX2_roundChanges yX2_roundChanges, Cond.code yX2_roundChanges cX2_roundChanges 6 (some .boolean), Cond.fieldLink RX2 15 "FaultyCube$Safety" "levelsBefore" "[I", Cond.methodLink RX2 48 arraycopyName, Cond.methodLink RX2 54 yX2_levelAfterRound, Cond.instanceMethod yX2_levelAfterRound]
def wsL_kill_r5 : List Cond := [Cond.selects RX2 yX2_levelAfterRound yX2_levelAfterRound, Cond.code yX2_levelAfterRound cX2_levelAfterRound 3 (some .int), Cond.methodLink RX2 62 yX2_neighboursBelow, Cond.instanceMethod yX2_neighboursBelow, Cond.selects RX2 yX2_neighboursBelow yX2_neighboursBelow, Cond.code yX2_neighboursBelow cX2_neighboursBelow 5 (some .int), Cond.static yX6_neighbour, Cond.code yX6_neighbour cX6_neighbour 2 (some .int), Cond.methodLink RX2 37 yX2_findVectors, Cond.instanceMethod yX2_findVectors, Cond.selects RX2 yX2_findVectors yX2_findVectors, Cond.code yX2_findVectors cX2_findVectors 6 none, Cond.fieldLink RX2 18 "FaultyCube$Safety" "vectorSets" "[J", Cond.methodLink RX2 69 yJ7_fill_d0a16, Cond.static yJ7_fill_d0a16, Cond.initialized RJ7, Cond.code yJ7_fill_d0a16 cJ7_fill_d0a16 5 none, Cond.methodLink RX2 75 yX2_withNeighboursAbove, Cond.instanceMethod yX2_withNeighboursAbove, Cond.selects RX2 yX2_withNeighboursAbove yX2_withNeighboursAbove, Cond.code yX2_withNeighboursAbove cX2_withNeighboursAbove 9 (some .long)]
def wsL_kill : List Cond := .codeWith yL_kill cL_kill 4 (some .int) [(0, 6, 9, 15), (0, 6, 14, 20)] :: ((wsL_kill_r1 ++ (wsL_kill_r2 ++ (wsL_kill_r3 ++ (wsL_kill_r4 ++ wsL_kill_r5)))) ++ wsX60 ++ wsX30 ++ wsX50 ++ wsX20 ++ (vx_atS RX6 62 "java/lang/IllegalArgumentException" ["java/lang/RuntimeException", "java/lang/Exception"]).filter goodWord ++ (vx_atS RX6 95 "java/lang/IllegalStateException" ["java/lang/RuntimeException", "java/lang/Exception"]).filter goodWord)
def wsL_revive_r1 : List Cond := [Cond.classLink RL 15 "java/lang/IllegalArgumentException", Cond.classLink RL 20 "java/lang/IllegalStateException", Cond.methodLink RL 22 yX6_revive, Cond.instanceMethod yX6_revive, Cond.selects RX6 yX6_revive yX6_revive, Cond.initialized RX6, Cond.code yX6_revive cX6_revive 2 (some .int), Cond.classLink RX6 91 "java/lang/IllegalStateException", Cond.initialized "java/lang/IllegalStateException", Cond.fieldLink RX6 10 "FaultyCube" "now" "LFaultyCube$Situation;", Cond.fieldLink RX6 19 "FaultyCube" "past" "LFaultyCube$UndoStack;", Cond.methodLink RX6 73 yX6_requireNode, Cond.instanceMethod yX6_requireNode, Cond.selects RX6 yX6_requireNode yX6_requireNode, Cond.code yX6_requireNode cX6_requireNode 2 none, Cond.classLink RX6 58 "java/lang/IllegalArgumentException", Cond.initialized "java/lang/IllegalArgumentException", Cond.methodLink RX6 96 yX6_nodeCount, Cond.instanceMethod yX6_nodeCount, Cond.selects RX6 yX6_nodeCount yX6_nodeCount, Cond.code yX6_nodeCount cX6_nodeCount 1 (some .int), Cond.methodLink RX6 87 yX6_contains, Cond.static yX6_contains, Cond.code yX6_contains cX6_contains 3 (some .boolean)]
def wsL_revive_r2 : List Cond := [Cond.methodLink RX6 69 yX5_save, Cond.instanceMethod yX5_save, Cond.selects RX5 yX5_save yX5_save, Cond.initialized RX5, Cond.code yX5_save cX5_save 3 none, Cond.fieldLink RX5 18 "FaultyCube$UndoStack" "next" "I", Cond.fieldLink RX5 30 "FaultyCube$UndoStack" "size" "I", Cond.methodLink RX5 33 Lib.Math.min.name, Cond.static Lib.Math.min.name, Cond.initialized "java/lang/Math", Cond.code Lib.Math.min.name Lib.Math.min.code 2 (some .int), Cond.methodLink RX5 22 yX5_slotAt, Cond.instanceMethod yX5_slotAt, Cond.selects RX5 yX5_slotAt yX5_slotAt, Cond.code yX5_slotAt cX5_slotAt 2 (some (.object "FaultyCube$Situation")), Cond.fieldLink RX5 11 "FaultyCube$UndoStack" "ring" "[LFaultyCube$Situation;", Cond.methodLink RX5 26 yX3_copyFrom, Cond.instanceMethod yX3_copyFrom, Cond.selects RX3 yX3_copyFrom yX3_copyFrom, Cond.initialized RX3, Cond.code yX3_copyFrom cX3_copyFrom 2 none, Cond.fieldLink RX3 27 "FaultyCube$Situation" "dimension" "I", Cond.fieldLink RX3 33 "FaultyCube$Situation" "alive" "J", Cond.fieldLink RX3 37 "FaultyCube$Situation" "steps" "I"]
def wsL_revive_r3 : List Cond := [Cond.fieldLink RX3 40 "FaultyCube$Situation" "messages" "I", Cond.fieldLink RX3 9 "FaultyCube$Situation" "states" "[I", Cond.methodLink RX3 43 arraycopyName, Cond.native arraycopyName, Cond.static arraycopyName, Cond.initialized "java/lang/System", Cond.fieldLink RX3 15 "FaultyCube$Situation" "positions" "[I", Cond.fieldLink RX3 18 "FaultyCube$Situation" "goals" "[I", Cond.fieldLink RX3 21 "FaultyCube$Situation" "moveCounts" "[I", Cond.fieldLink RX3 24 "FaultyCube$Situation" "detourCounts" "[I", Cond.methodLink RX6 55 yX6_refreshSafety, Cond.instanceMethod yX6_refreshSafety, Cond.selects RX6 yX6_refreshSafety yX6_refreshSafety, Cond.code yX6_refreshSafety cX6_refreshSafety 1 none, Cond.fieldLink RX6 26 "FaultyCube" "safety" "LFaultyCube$Safety;", Cond.methodLink RX6 241 yX2_find, Cond.instanceMethod yX2_find, Cond.selects RX2 yX2_find yX2_find, Cond.initialized RX2, Cond.code yX2_find cX2_find 6 none, Cond.fieldLink RX2 22 "FaultyCube$Safety" "dimension" "I", Cond.fieldLink RX2 30 "FaultyCube$Safety" "changingRounds" "I", Cond.methodLink RX2 26 yX2_startLevels, Cond.instanceMethod yX2_startLevels]
def wsL_revive_r4 : List Cond := [Cond.selects RX2 yX2_startLevels yX2_startLevels, Cond.code yX2_startLevels cX2_startLevels 4 none, Cond.fieldLink RX2 9 "FaultyCube$Safety" "levels" "[I", Cond.static yX6_write, Cond.code yX6_write cX6_write 3 none, Cond.methodLink RX2 33 yX2_roundChanges, Cond.instanceMethod yX2_roundChanges, Cond.selects RX2 yX2_roundChanges yX2_roundChanges, Cond.code yX2_roundChanges cX2_roundChanges 6 (some .boolean), Cond.fieldLink RX2 15 "FaultyCube$Safety" "levelsBefore" "[I", Cond.methodLink RX2 48 arraycopyName, Cond.methodLink RX2 54 yX2_levelAfterRound, Cond.instanceMethod yX2_levelAfterRound, Cond.selects RX2 yX2_levelAfterRound yX2_levelAfterRound, Cond.code yX2_levelAfterRound cX2_levelAfterRound 3 (some .int), Cond.methodLink RX2 62 yX2_neighboursBelow, Cond.instanceMethod yX2_neighboursBelow, Cond.selects RX2 yX2_neighboursBelow yX2_neighboursBelow, Cond.code yX2_neighboursBelow cX2_neighboursBelow 5 (some .int), Cond.static yX6_neighbour, Cond.code yX6_neighbour cX6_neighbour 2 (some .int), Cond.static yX6_read, Cond.code yX6_read cX6_read 2 (some .int), Cond.methodLink RX2 37 yX2_findVectors]
def wsL_revive_r5 : List Cond := [Cond.instanceMethod yX2_findVectors, Cond.selects RX2 yX2_findVectors yX2_findVectors, Cond.code yX2_findVectors cX2_findVectors 6 none, Cond.fieldLink RX2 18 "FaultyCube$Safety" "vectorSets" "[J", Cond.methodLink RX2 69 yJ7_fill_d0a16, Cond.static yJ7_fill_d0a16, Cond.initialized RJ7, Cond.code yJ7_fill_d0a16 cJ7_fill_d0a16 5 none, Cond.methodLink RX2 75 yX2_withNeighboursAbove, Cond.instanceMethod yX2_withNeighboursAbove, Cond.selects RX2 yX2_withNeighboursAbove yX2_withNeighboursAbove, Cond.code yX2_withNeighboursAbove cX2_withNeighboursAbove 9 (some .long), Cond.methodLink RX6 100 yJ13_bitCount_95d88, Cond.static yJ13_bitCount_95d88, Cond.initialized RJ13, Cond.code yJ13_bitCount_95d88 cJ13_bitCount_95d88 2 (some .int), Cond.constantLong RJ13 314 (6148914691236517205), Cond.constantLong RJ13 316 (3689348814741910323), Cond.constantLong RJ13 318 (1085102592571150095)]
def wsL_revive : List Cond := .codeWith yL_revive cL_revive 4 (some .int) [(0, 6, 9, 15), (0, 6, 14, 20)] :: ((wsL_revive_r1 ++ (wsL_revive_r2 ++ (wsL_revive_r3 ++ (wsL_revive_r4 ++ wsL_revive_r5)))) ++ wsX60 ++ wsX30 ++ wsX50 ++ wsX20 ++ (vx_atS RX6 95 "java/lang/IllegalStateException" ["java/lang/RuntimeException", "java/lang/Exception"]).filter goodWord ++ (vx_atS RX6 62 "java/lang/IllegalArgumentException" ["java/lang/RuntimeException", "java/lang/Exception"]).filter goodWord)
def wsL_isAlive : List Cond := .codeWith yL_isAlive cL_isAlive 4 (some .int) [(0, 14, 17, 15)] :: ([.classLink RL 15 "java/lang/IllegalArgumentException", .methodLink RL 25 yX6_isAlive, .instanceMethod yX6_isAlive, .selects RX6 yX6_isAlive yX6_isAlive, .initialized RX6, .code yX6_isAlive cX6_isAlive 2 (some .boolean), .fieldLink RX6 10 "FaultyCube" "now" "LFaultyCube$Situation;", .methodLink RX6 73 yX6_requireNode, .instanceMethod yX6_requireNode, .selects RX6 yX6_requireNode yX6_requireNode, .code yX6_requireNode cX6_requireNode 2 none, .classLink RX6 58 "java/lang/IllegalArgumentException", .initialized "java/lang/IllegalArgumentException", .methodLink RX6 96 yX6_nodeCount, .instanceMethod yX6_nodeCount, .selects RX6 yX6_nodeCount yX6_nodeCount, .code yX6_nodeCount cX6_nodeCount 1 (some .int), .methodLink RX6 87 yX6_contains, .static yX6_contains, .code yX6_contains cX6_contains 3 (some .boolean)] ++ wsX60 ++ wsX30 ++ (vx_atS RX6 62 "java/lang/IllegalArgumentException" ["java/lang/RuntimeException", "java/lang/Exception"]).filter goodWord)
def wsL_distance : List Cond := .codeWith yL_distance cL_distance 5 (some .int) [(0, 7, 10, 15)] :: ([.classLink RL 15 "java/lang/IllegalArgumentException", .methodLink RL 29 yX6_distance, .instanceMethod yX6_distance, .selects RX6 yX6_distance yX6_distance, .initialized RX6, .code yX6_distance cX6_distance 3 (some .int), .methodLink RX6 73 yX6_requireNode, .instanceMethod yX6_requireNode, .selects RX6 yX6_requireNode yX6_requireNode, .code yX6_requireNode cX6_requireNode 2 none, .classLink RX6 58 "java/lang/IllegalArgumentException", .initialized "java/lang/IllegalArgumentException", .methodLink RX6 96 yX6_nodeCount, .instanceMethod yX6_nodeCount, .selects RX6 yX6_nodeCount yX6_nodeCount, .code yX6_nodeCount cX6_nodeCount 1 (some .int), .fieldLink RX6 10 "FaultyCube" "now" "LFaultyCube$Situation;", .methodLink RX6 107 yJ6_bitCount_0f7a4, .static yJ6_bitCount_0f7a4, .initialized RJ6, .code yJ6_bitCount_0f7a4 cJ6_bitCount_0f7a4 1 (some .int), .constant RJ6 265 (1431655765), .constant RJ6 266 (858993459), .constant RJ6 267 (252645135)] ++ wsX60 ++ wsX30 ++ (vx_atS RX6 62 "java/lang/IllegalArgumentException" ["java/lang/RuntimeException", "java/lang/Exception"]).filter goodWord)
def wsL_shortest_r1 : List Cond := [Cond.classLink RL 15 "java/lang/IllegalArgumentException", Cond.classLink RL 20 "java/lang/IllegalStateException", Cond.methodLink RL 33 yX6_shortest, Cond.instanceMethod yX6_shortest, Cond.selects RX6 yX6_shortest yX6_shortest, Cond.initialized RX6, Cond.code yX6_shortest cX6_shortest 6 (some .int), Cond.fieldLink RX6 10 "FaultyCube" "now" "LFaultyCube$Situation;", Cond.methodLink RX6 112 yX6_requireLivingPair, Cond.instanceMethod yX6_requireLivingPair, Cond.selects RX6 yX6_requireLivingPair yX6_requireLivingPair, Cond.code yX6_requireLivingPair cX6_requireLivingPair 3 none, Cond.methodLink RX6 73 yX6_requireNode, Cond.instanceMethod yX6_requireNode, Cond.selects RX6 yX6_requireNode yX6_requireNode, Cond.code yX6_requireNode cX6_requireNode 2 none, Cond.classLink RX6 58 "java/lang/IllegalArgumentException", Cond.initialized "java/lang/IllegalArgumentException", Cond.methodLink RX6 96 yX6_nodeCount, Cond.instanceMethod yX6_nodeCount, Cond.selects RX6 yX6_nodeCount yX6_nodeCount, Cond.code yX6_nodeCount cX6_nodeCount 1 (some .int), Cond.methodLink RX6 76 yX6_requireAlive, Cond.instanceMethod yX6_requireAlive]
def wsL_shortest_r2 : List Cond := [Cond.selects RX6 yX6_requireAlive yX6_requireAlive, Cond.code yX6_requireAlive cX6_requireAlive 2 none, Cond.classLink RX6 91 "java/lang/IllegalStateException", Cond.initialized "java/lang/IllegalStateException", Cond.methodLink RX6 87 yX6_contains, Cond.static yX6_contains, Cond.code yX6_contains cX6_contains 3 (some .boolean), Cond.methodLink RX6 116 yX6_neighboursOfSet, Cond.static yX6_neighboursOfSet, Cond.code yX6_neighboursOfSet cX6_neighboursOfSet 8 (some .long), Cond.methodLink RX6 267 yX6_lowNodes, Cond.static yX6_lowNodes, Cond.code yX6_lowNodes cX6_lowNodes 1 (some .long), Cond.fieldLink RX6 270 "FaultyCube" "LOW_NODES" "[J"]
def wsL_shortest : List Cond := .codeWith yL_shortest cL_shortest 5 (some .int) [(0, 7, 10, 15), (0, 7, 16, 20)] :: ((wsL_shortest_r1 ++ wsL_shortest_r2) ++ wsX60 ++ wsX30 ++ (vx_atS RX6 62 "java/lang/IllegalArgumentException" ["java/lang/RuntimeException", "java/lang/Exception"]).filter goodWord ++ (vx_atS RX6 95 "java/lang/IllegalStateException" ["java/lang/RuntimeException", "java/lang/Exception"]).filter goodWord)
def wsL_level_r1 : List Cond := [Cond.classLink RL 15 "java/lang/IllegalArgumentException", Cond.methodLink RL 36 yX6_level, Cond.instanceMethod yX6_level, Cond.selects RX6 yX6_level yX6_level, Cond.initialized RX6, Cond.code yX6_level cX6_level 2 (some .int), Cond.fieldLink RX6 26 "FaultyCube" "safety" "LFaultyCube$Safety;", Cond.methodLink RX6 73 yX6_requireNode, Cond.instanceMethod yX6_requireNode, Cond.selects RX6 yX6_requireNode yX6_requireNode, Cond.code yX6_requireNode cX6_requireNode 2 none, Cond.classLink RX6 58 "java/lang/IllegalArgumentException", Cond.initialized "java/lang/IllegalArgumentException", Cond.methodLink RX6 96 yX6_nodeCount, Cond.instanceMethod yX6_nodeCount, Cond.selects RX6 yX6_nodeCount yX6_nodeCount, Cond.code yX6_nodeCount cX6_nodeCount 1 (some .int), Cond.fieldLink RX6 10 "FaultyCube" "now" "LFaultyCube$Situation;", Cond.methodLink RX6 120 yX2_levelOf, Cond.instanceMethod yX2_levelOf, Cond.selects RX2 yX2_levelOf yX2_levelOf, Cond.initialized RX2, Cond.code yX2_levelOf cX2_levelOf 2 (some .int), Cond.fieldLink RX2 9 "FaultyCube$Safety" "levels" "[I"]
def wsL_level_r2 : List Cond := [Cond.static yX6_read, Cond.code yX6_read cX6_read 2 (some .int)]
def wsL_level : List Cond := .codeWith yL_level cL_level 4 (some .int) [(0, 6, 9, 15)] :: ((wsL_level_r1 ++ wsL_level_r2) ++ wsX60 ++ wsX30 ++ wsX20 ++ (vx_atS RX6 62 "java/lang/IllegalArgumentException" ["java/lang/RuntimeException", "java/lang/Exception"]).filter goodWord)
def wsL_vectorBit_r1 : List Cond := [Cond.classLink RL 15 "java/lang/IllegalArgumentException", Cond.methodLink RL 39 yX6_vectorBit, Cond.instanceMethod yX6_vectorBit, Cond.selects RX6 yX6_vectorBit yX6_vectorBit, Cond.initialized RX6, Cond.code yX6_vectorBit cX6_vectorBit 3 (some .int), Cond.classLink RX6 58 "java/lang/IllegalArgumentException", Cond.initialized "java/lang/IllegalArgumentException", Cond.fieldLink RX6 10 "FaultyCube" "now" "LFaultyCube$Situation;", Cond.fieldLink RX6 26 "FaultyCube" "safety" "LFaultyCube$Safety;", Cond.methodLink RX6 73 yX6_requireNode, Cond.instanceMethod yX6_requireNode, Cond.selects RX6 yX6_requireNode yX6_requireNode, Cond.code yX6_requireNode cX6_requireNode 2 none, Cond.methodLink RX6 96 yX6_nodeCount, Cond.instanceMethod yX6_nodeCount, Cond.selects RX6 yX6_nodeCount yX6_nodeCount, Cond.code yX6_nodeCount cX6_nodeCount 1 (some .int), Cond.methodLink RX6 128 yX2_bitOf, Cond.instanceMethod yX2_bitOf, Cond.selects RX2 yX2_bitOf yX2_bitOf, Cond.initialized RX2, Cond.code yX2_bitOf cX2_bitOf 4 (some .int), Cond.fieldLink RX2 18 "FaultyCube$Safety" "vectorSets" "[J"]
def wsL_vectorBit_r2 : List Cond := [Cond.static yX6_contains, Cond.code yX6_contains cX6_contains 3 (some .boolean)]
def wsL_vectorBit : List Cond := .codeWith yL_vectorBit cL_vectorBit 5 (some .int) [(0, 7, 10, 15)] :: ((wsL_vectorBit_r1 ++ wsL_vectorBit_r2) ++ wsX60 ++ wsX30 ++ wsX20 ++ (vx_atS RX6 62 "java/lang/IllegalArgumentException" ["java/lang/RuntimeException", "java/lang/Exception"]).filter goodWord)
def wsL_decide_r1 : List Cond := [Cond.classLink RL 15 "java/lang/IllegalArgumentException", Cond.classLink RL 20 "java/lang/IllegalStateException", Cond.methodLink RL 42 yX6_decide, Cond.instanceMethod yX6_decide, Cond.selects RX6 yX6_decide yX6_decide, Cond.initialized RX6, Cond.code yX6_decide cX6_decide 3 (some .int), Cond.methodLink RX6 112 yX6_requireLivingPair, Cond.instanceMethod yX6_requireLivingPair, Cond.selects RX6 yX6_requireLivingPair yX6_requireLivingPair, Cond.code yX6_requireLivingPair cX6_requireLivingPair 3 none, Cond.methodLink RX6 73 yX6_requireNode, Cond.instanceMethod yX6_requireNode, Cond.selects RX6 yX6_requireNode yX6_requireNode, Cond.code yX6_requireNode cX6_requireNode 2 none, Cond.classLink RX6 58 "java/lang/IllegalArgumentException", Cond.initialized "java/lang/IllegalArgumentException", Cond.methodLink RX6 96 yX6_nodeCount, Cond.instanceMethod yX6_nodeCount, Cond.selects RX6 yX6_nodeCount yX6_nodeCount, Cond.code yX6_nodeCount cX6_nodeCount 1 (some .int), Cond.fieldLink RX6 10 "FaultyCube" "now" "LFaultyCube$Situation;", Cond.methodLink RX6 76 yX6_requireAlive, Cond.instanceMethod yX6_requireAlive]
def wsL_decide_r2 : List Cond := [Cond.selects RX6 yX6_requireAlive yX6_requireAlive, Cond.code yX6_requireAlive cX6_requireAlive 2 none, Cond.classLink RX6 91 "java/lang/IllegalStateException", Cond.initialized "java/lang/IllegalStateException", Cond.methodLink RX6 87 yX6_contains, Cond.static yX6_contains, Cond.code yX6_contains cX6_contains 3 (some .boolean), Cond.methodLink RX6 132 yX6_decision, Cond.instanceMethod yX6_decision, Cond.selects RX6 yX6_decision yX6_decision, Cond.code yX6_decision cX6_decision 5 (some .int), Cond.fieldLink RX6 26 "FaultyCube" "safety" "LFaultyCube$Safety;", Cond.methodLink RX6 107 yJ6_bitCount_0f7a4, Cond.static yJ6_bitCount_0f7a4, Cond.initialized RJ6, Cond.code yJ6_bitCount_0f7a4 cJ6_bitCount_0f7a4 1 (some .int), Cond.constant RJ6 265 (1431655765), Cond.constant RJ6 266 (858993459), Cond.constant RJ6 267 (252645135), Cond.methodLink RX6 120 yX2_levelOf, Cond.instanceMethod yX2_levelOf, Cond.selects RX2 yX2_levelOf yX2_levelOf, Cond.initialized RX2, Cond.code yX2_levelOf cX2_levelOf 2 (some .int)]
def wsL_decide_r3 : List Cond := [Cond.fieldLink RX2 9 "FaultyCube$Safety" "levels" "[I", Cond.static yX6_read, Cond.code yX6_read cX6_read 2 (some .int), Cond.methodLink RX6 251 yX2_bestLevel, Cond.instanceMethod yX2_bestLevel, Cond.selects RX2 yX2_bestLevel yX2_bestLevel, Cond.code yX2_bestLevel cX2_bestLevel 4 (some .int), Cond.methodLink RX2 86 yX2_bestDimension, Cond.instanceMethod yX2_bestDimension, Cond.selects RX2 yX2_bestDimension yX2_bestDimension, Cond.code yX2_bestDimension cX2_bestDimension 6 (some .int), Cond.fieldLink RX2 22 "FaultyCube$Safety" "dimension" "I", Cond.static yX6_hasBit, Cond.code yX6_hasBit cX6_hasBit 2 (some .boolean), Cond.static yX6_neighbour, Cond.code yX6_neighbour cX6_neighbour 2 (some .int), Cond.methodLink RX2 83 yX2_levelOf, Cond.methodLink RX6 254 yX2_spareOf, Cond.instanceMethod yX2_spareOf, Cond.selects RX2 yX2_spareOf yX2_spareOf, Cond.code yX2_spareOf cX2_spareOf 2 (some .int)]
def wsL_decide : List Cond := .codeWith yL_decide cL_decide 5 (some .int) [(0, 7, 10, 15), (0, 7, 16, 20)] :: ((wsL_decide_r1 ++ (wsL_decide_r2 ++ wsL_decide_r3)) ++ wsX60 ++ wsX30 ++ wsX20 ++ (vx_atS RX6 62 "java/lang/IllegalArgumentException" ["java/lang/RuntimeException", "java/lang/Exception"]).filter goodWord ++ (vx_atS RX6 95 "java/lang/IllegalStateException" ["java/lang/RuntimeException", "java/lang/Exception"]).filter goodWord)
def wsL_routeLength_r1 : List Cond := [Cond.classLink RL 15 "java/lang/IllegalArgumentException", Cond.classLink RL 20 "java/lang/IllegalStateException", Cond.methodLink RL 45 yX6_routeLength, Cond.instanceMethod yX6_routeLength, Cond.selects RX6 yX6_routeLength yX6_routeLength, Cond.initialized RX6, Cond.code yX6_routeLength cX6_routeLength 3 (some .int), Cond.methodLink RX6 112 yX6_requireLivingPair, Cond.instanceMethod yX6_requireLivingPair, Cond.selects RX6 yX6_requireLivingPair yX6_requireLivingPair, Cond.code yX6_requireLivingPair cX6_requireLivingPair 3 none, Cond.methodLink RX6 73 yX6_requireNode, Cond.instanceMethod yX6_requireNode, Cond.selects RX6 yX6_requireNode yX6_requireNode, Cond.code yX6_requireNode cX6_requireNode 2 none, Cond.classLink RX6 58 "java/lang/IllegalArgumentException", Cond.initialized "java/lang/IllegalArgumentException", Cond.methodLink RX6 96 yX6_nodeCount, Cond.instanceMethod yX6_nodeCount, Cond.selects RX6 yX6_nodeCount yX6_nodeCount, Cond.code yX6_nodeCount cX6_nodeCount 1 (some .int), Cond.fieldLink RX6 10 "FaultyCube" "now" "LFaultyCube$Situation;", Cond.methodLink RX6 76 yX6_requireAlive, Cond.instanceMethod yX6_requireAlive]
def wsL_routeLength_r2 : List Cond := [Cond.selects RX6 yX6_requireAlive yX6_requireAlive, Cond.code yX6_requireAlive cX6_requireAlive 2 none, Cond.classLink RX6 91 "java/lang/IllegalStateException", Cond.initialized "java/lang/IllegalStateException", Cond.methodLink RX6 87 yX6_contains, Cond.static yX6_contains, Cond.code yX6_contains cX6_contains 3 (some .boolean), Cond.methodLink RX6 135 yX6_lengthOfRoute, Cond.instanceMethod yX6_lengthOfRoute, Cond.selects RX6 yX6_lengthOfRoute yX6_lengthOfRoute, Cond.code yX6_lengthOfRoute cX6_lengthOfRoute 5 (some .int), Cond.methodLink RX6 132 yX6_decision, Cond.instanceMethod yX6_decision, Cond.selects RX6 yX6_decision yX6_decision, Cond.code yX6_decision cX6_decision 5 (some .int), Cond.fieldLink RX6 26 "FaultyCube" "safety" "LFaultyCube$Safety;", Cond.methodLink RX6 107 yJ6_bitCount_0f7a4, Cond.static yJ6_bitCount_0f7a4, Cond.initialized RJ6, Cond.code yJ6_bitCount_0f7a4 cJ6_bitCount_0f7a4 1 (some .int), Cond.constant RJ6 265 (1431655765), Cond.constant RJ6 266 (858993459), Cond.constant RJ6 267 (252645135), Cond.methodLink RX6 120 yX2_levelOf]
def wsL_routeLength_r3 : List Cond := [Cond.instanceMethod yX2_levelOf, Cond.selects RX2 yX2_levelOf yX2_levelOf, Cond.initialized RX2, Cond.code yX2_levelOf cX2_levelOf 2 (some .int), Cond.fieldLink RX2 9 "FaultyCube$Safety" "levels" "[I", Cond.static yX6_read, Cond.code yX6_read cX6_read 2 (some .int), Cond.methodLink RX6 251 yX2_bestLevel, Cond.instanceMethod yX2_bestLevel, Cond.selects RX2 yX2_bestLevel yX2_bestLevel, Cond.code yX2_bestLevel cX2_bestLevel 4 (some .int), Cond.methodLink RX2 86 yX2_bestDimension, Cond.instanceMethod yX2_bestDimension, Cond.selects RX2 yX2_bestDimension yX2_bestDimension, Cond.code yX2_bestDimension cX2_bestDimension 6 (some .int), Cond.fieldLink RX2 22 "FaultyCube$Safety" "dimension" "I", Cond.static yX6_hasBit, Cond.code yX6_hasBit cX6_hasBit 2 (some .boolean), Cond.static yX6_neighbour, Cond.code yX6_neighbour cX6_neighbour 2 (some .int), Cond.methodLink RX2 83 yX2_levelOf, Cond.methodLink RX6 254 yX2_spareOf, Cond.instanceMethod yX2_spareOf, Cond.selects RX2 yX2_spareOf yX2_spareOf]
def wsL_routeLength_r4 : List Cond := [Cond.code yX2_spareOf cX2_spareOf 2 (some .int)]
def wsL_routeLength : List Cond := .codeWith yL_routeLength cL_routeLength 5 (some .int) [(0, 7, 10, 15), (0, 7, 16, 20)] :: ((wsL_routeLength_r1 ++ (wsL_routeLength_r2 ++ (wsL_routeLength_r3 ++ wsL_routeLength_r4))) ++ wsX60 ++ wsX30 ++ wsX20 ++ (vx_atS RX6 62 "java/lang/IllegalArgumentException" ["java/lang/RuntimeException", "java/lang/Exception"]).filter goodWord ++ (vx_atS RX6 95 "java/lang/IllegalStateException" ["java/lang/RuntimeException", "java/lang/Exception"]).filter goodWord)
def wsL_routeNode_r1 : List Cond := [Cond.classLink RL 15 "java/lang/IllegalArgumentException", Cond.classLink RL 20 "java/lang/IllegalStateException", Cond.methodLink RL 48 yX6_routeNode, Cond.instanceMethod yX6_routeNode, Cond.selects RX6 yX6_routeNode yX6_routeNode, Cond.initialized RX6, Cond.code yX6_routeNode cX6_routeNode 4 (some .int), Cond.classLink RX6 58 "java/lang/IllegalArgumentException", Cond.initialized "java/lang/IllegalArgumentException", Cond.methodLink RX6 73 yX6_requireNode, Cond.instanceMethod yX6_requireNode, Cond.selects RX6 yX6_requireNode yX6_requireNode, Cond.code yX6_requireNode cX6_requireNode 2 none, Cond.methodLink RX6 96 yX6_nodeCount, Cond.instanceMethod yX6_nodeCount, Cond.selects RX6 yX6_nodeCount yX6_nodeCount, Cond.code yX6_nodeCount cX6_nodeCount 1 (some .int), Cond.fieldLink RX6 10 "FaultyCube" "now" "LFaultyCube$Situation;", Cond.methodLink RX6 76 yX6_requireAlive, Cond.instanceMethod yX6_requireAlive, Cond.selects RX6 yX6_requireAlive yX6_requireAlive, Cond.code yX6_requireAlive cX6_requireAlive 2 none, Cond.classLink RX6 91 "java/lang/IllegalStateException", Cond.initialized "java/lang/IllegalStateException"]
def wsL_routeNode_r2 : List Cond := [Cond.methodLink RX6 87 yX6_contains, Cond.static yX6_contains, Cond.code yX6_contains cX6_contains 3 (some .boolean), Cond.methodLink RX6 135 yX6_lengthOfRoute, Cond.instanceMethod yX6_lengthOfRoute, Cond.selects RX6 yX6_lengthOfRoute yX6_lengthOfRoute, Cond.code yX6_lengthOfRoute cX6_lengthOfRoute 5 (some .int), Cond.methodLink RX6 132 yX6_decision, Cond.instanceMethod yX6_decision, Cond.selects RX6 yX6_decision yX6_decision, Cond.code yX6_decision cX6_decision 5 (some .int), Cond.fieldLink RX6 26 "FaultyCube" "safety" "LFaultyCube$Safety;", Cond.methodLink RX6 107 yJ6_bitCount_0f7a4, Cond.static yJ6_bitCount_0f7a4, Cond.initialized RJ6, Cond.code yJ6_bitCount_0f7a4 cJ6_bitCount_0f7a4 1 (some .int), Cond.constant RJ6 265 (1431655765), Cond.constant RJ6 266 (858993459), Cond.constant RJ6 267 (252645135), Cond.methodLink RX6 120 yX2_levelOf, Cond.instanceMethod yX2_levelOf, Cond.selects RX2 yX2_levelOf yX2_levelOf, Cond.initialized RX2, Cond.code yX2_levelOf cX2_levelOf 2 (some .int)]
def wsL_routeNode_r3 : List Cond := [Cond.fieldLink RX2 9 "FaultyCube$Safety" "levels" "[I", Cond.static yX6_read, Cond.code yX6_read cX6_read 2 (some .int), Cond.methodLink RX6 251 yX2_bestLevel, Cond.instanceMethod yX2_bestLevel, Cond.selects RX2 yX2_bestLevel yX2_bestLevel, Cond.code yX2_bestLevel cX2_bestLevel 4 (some .int), Cond.methodLink RX2 86 yX2_bestDimension, Cond.instanceMethod yX2_bestDimension, Cond.selects RX2 yX2_bestDimension yX2_bestDimension, Cond.code yX2_bestDimension cX2_bestDimension 6 (some .int), Cond.fieldLink RX2 22 "FaultyCube$Safety" "dimension" "I", Cond.static yX6_hasBit, Cond.code yX6_hasBit cX6_hasBit 2 (some .boolean), Cond.static yX6_neighbour, Cond.code yX6_neighbour cX6_neighbour 2 (some .int), Cond.methodLink RX2 83 yX2_levelOf, Cond.methodLink RX6 254 yX2_spareOf, Cond.instanceMethod yX2_spareOf, Cond.selects RX2 yX2_spareOf yX2_spareOf, Cond.code yX2_spareOf cX2_spareOf 2 (some .int), Cond.methodLink RX6 140 yX6_nodeOfRoute, Cond.instanceMethod yX6_nodeOfRoute, Cond.selects RX6 yX6_nodeOfRoute yX6_nodeOfRoute]
def wsL_routeNode_r4 : List Cond := [Cond.code yX6_nodeOfRoute cX6_nodeOfRoute 9 (some .int), Cond.methodLink RX6 257 yX2_bestDimension, Cond.methodLink RX6 260 yX6_neighbour]
def wsL_routeNode : List Cond := .codeWith yL_routeNode cL_routeNode 6 (some .int) [(0, 9, 12, 15), (0, 9, 18, 20)] :: ((wsL_routeNode_r1 ++ (wsL_routeNode_r2 ++ (wsL_routeNode_r3 ++ wsL_routeNode_r4))) ++ wsX60 ++ wsX30 ++ wsX20 ++ (vx_atS RX6 62 "java/lang/IllegalArgumentException" ["java/lang/RuntimeException", "java/lang/Exception"]).filter goodWord ++ (vx_atS RX6 95 "java/lang/IllegalStateException" ["java/lang/RuntimeException", "java/lang/Exception"]).filter goodWord)
def wsL_reach_r1 : List Cond := [Cond.classLink RL 15 "java/lang/IllegalArgumentException", Cond.classLink RL 20 "java/lang/IllegalStateException", Cond.methodLink RL 52 yX6_reach, Cond.instanceMethod yX6_reach, Cond.selects RX6 yX6_reach yX6_reach, Cond.initialized RX6, Cond.code yX6_reach cX6_reach 5 (some .int), Cond.classLink RX6 58 "java/lang/IllegalArgumentException", Cond.initialized "java/lang/IllegalArgumentException", Cond.fieldLink RX6 10 "FaultyCube" "now" "LFaultyCube$Situation;", Cond.methodLink RX6 73 yX6_requireNode, Cond.instanceMethod yX6_requireNode, Cond.selects RX6 yX6_requireNode yX6_requireNode, Cond.code yX6_requireNode cX6_requireNode 2 none, Cond.methodLink RX6 96 yX6_nodeCount, Cond.instanceMethod yX6_nodeCount, Cond.selects RX6 yX6_nodeCount yX6_nodeCount, Cond.code yX6_nodeCount cX6_nodeCount 1 (some .int), Cond.methodLink RX6 76 yX6_requireAlive, Cond.instanceMethod yX6_requireAlive, Cond.selects RX6 yX6_requireAlive yX6_requireAlive, Cond.code yX6_requireAlive cX6_requireAlive 2 none, Cond.classLink RX6 91 "java/lang/IllegalStateException", Cond.initialized "java/lang/IllegalStateException"]
def wsL_reach_r2 : List Cond := [Cond.methodLink RX6 87 yX6_contains, Cond.static yX6_contains, Cond.code yX6_contains cX6_contains 3 (some .boolean), Cond.methodLink RX6 132 yX6_decision, Cond.instanceMethod yX6_decision, Cond.selects RX6 yX6_decision yX6_decision, Cond.code yX6_decision cX6_decision 5 (some .int), Cond.fieldLink RX6 26 "FaultyCube" "safety" "LFaultyCube$Safety;", Cond.methodLink RX6 107 yJ6_bitCount_0f7a4, Cond.static yJ6_bitCount_0f7a4, Cond.initialized RJ6, Cond.code yJ6_bitCount_0f7a4 cJ6_bitCount_0f7a4 1 (some .int), Cond.constant RJ6 265 (1431655765), Cond.constant RJ6 266 (858993459), Cond.constant RJ6 267 (252645135), Cond.methodLink RX6 120 yX2_levelOf, Cond.instanceMethod yX2_levelOf, Cond.selects RX2 yX2_levelOf yX2_levelOf, Cond.initialized RX2, Cond.code yX2_levelOf cX2_levelOf 2 (some .int), Cond.fieldLink RX2 9 "FaultyCube$Safety" "levels" "[I", Cond.static yX6_read, Cond.code yX6_read cX6_read 2 (some .int), Cond.methodLink RX6 251 yX2_bestLevel]
def wsL_reach_r3 : List Cond := [Cond.instanceMethod yX2_bestLevel, Cond.selects RX2 yX2_bestLevel yX2_bestLevel, Cond.code yX2_bestLevel cX2_bestLevel 4 (some .int), Cond.methodLink RX2 86 yX2_bestDimension, Cond.instanceMethod yX2_bestDimension, Cond.selects RX2 yX2_bestDimension yX2_bestDimension, Cond.code yX2_bestDimension cX2_bestDimension 6 (some .int), Cond.fieldLink RX2 22 "FaultyCube$Safety" "dimension" "I", Cond.static yX6_hasBit, Cond.code yX6_hasBit cX6_hasBit 2 (some .boolean), Cond.static yX6_neighbour, Cond.code yX6_neighbour cX6_neighbour 2 (some .int), Cond.methodLink RX2 83 yX2_levelOf, Cond.methodLink RX6 254 yX2_spareOf, Cond.instanceMethod yX2_spareOf, Cond.selects RX2 yX2_spareOf yX2_spareOf, Cond.code yX2_spareOf cX2_spareOf 2 (some .int)]
def wsL_reach : List Cond := .codeWith yL_reach cL_reach 5 (some .int) [(0, 7, 10, 15), (0, 7, 16, 20)] :: ((wsL_reach_r1 ++ (wsL_reach_r2 ++ wsL_reach_r3)) ++ wsX60 ++ wsX30 ++ wsX20 ++ (vx_atS RX6 62 "java/lang/IllegalArgumentException" ["java/lang/RuntimeException", "java/lang/Exception"]).filter goodWord ++ (vx_atS RX6 95 "java/lang/IllegalStateException" ["java/lang/RuntimeException", "java/lang/Exception"]).filter goodWord)
def wsL_broadcastTime_r1 : List Cond := [Cond.classLink RL 15 "java/lang/IllegalArgumentException", Cond.classLink RL 20 "java/lang/IllegalStateException", Cond.methodLink RL 55 yX6_broadcastTime, Cond.instanceMethod yX6_broadcastTime, Cond.selects RX6 yX6_broadcastTime yX6_broadcastTime, Cond.initialized RX6, Cond.code yX6_broadcastTime cX6_broadcastTime 3 (some .int), Cond.fieldLink RX6 33 "FaultyCube" "broadcast" "LFaultyCube$Broadcast;", Cond.fieldLink RX6 10 "FaultyCube" "now" "LFaultyCube$Situation;", Cond.fieldLink RX6 26 "FaultyCube" "safety" "LFaultyCube$Safety;", Cond.methodLink RX6 73 yX6_requireNode, Cond.instanceMethod yX6_requireNode, Cond.selects RX6 yX6_requireNode yX6_requireNode, Cond.code yX6_requireNode cX6_requireNode 2 none, Cond.classLink RX6 58 "java/lang/IllegalArgumentException", Cond.initialized "java/lang/IllegalArgumentException", Cond.methodLink RX6 96 yX6_nodeCount, Cond.instanceMethod yX6_nodeCount, Cond.selects RX6 yX6_nodeCount yX6_nodeCount, Cond.code yX6_nodeCount cX6_nodeCount 1 (some .int), Cond.methodLink RX6 76 yX6_requireAlive, Cond.instanceMethod yX6_requireAlive, Cond.selects RX6 yX6_requireAlive yX6_requireAlive, Cond.code yX6_requireAlive cX6_requireAlive 2 none]
def wsL_broadcastTime_r2 : List Cond := [Cond.classLink RX6 91 "java/lang/IllegalStateException", Cond.initialized "java/lang/IllegalStateException", Cond.methodLink RX6 87 yX6_contains, Cond.static yX6_contains, Cond.code yX6_contains cX6_contains 3 (some .boolean), Cond.methodLink RX6 146 yX0_run, Cond.instanceMethod yX0_run, Cond.selects RX0 yX0_run yX0_run, Cond.initialized RX0, Cond.code yX0_run cX0_run 6 none, Cond.fieldLink RX0 9 "FaultyCube$Broadcast" "times" "[I", Cond.fieldLink RX0 27 "FaultyCube$Broadcast" "receivers" "I", Cond.fieldLink RX0 18 "FaultyCube$Broadcast" "queue" "[I", Cond.methodLink RX0 21 yJ7_fill_53178, Cond.static yJ7_fill_53178, Cond.initialized RJ7, Cond.code yJ7_fill_53178 cJ7_fill_53178 4 none, Cond.methodLink RX0 31 yX2_spareOf, Cond.instanceMethod yX2_spareOf, Cond.selects RX2 yX2_spareOf yX2_spareOf, Cond.initialized RX2, Cond.code yX2_spareOf cX2_spareOf 2 (some .int), Cond.fieldLink RX2 22 "FaultyCube$Safety" "dimension" "I", Cond.methodLink RX0 37 yX0_receive]
def wsL_broadcastTime_r3 : List Cond := [Cond.instanceMethod yX0_receive, Cond.selects RX0 yX0_receive yX0_receive, Cond.code yX0_receive cX0_receive 4 none, Cond.fieldLink RX0 15 "FaultyCube$Broadcast" "lists" "[I", Cond.static yX6_write, Cond.code yX6_write cX6_write 3 none, Cond.static yX6_read, Cond.code yX6_read cX6_read 2 (some .int), Cond.methodLink RX0 45 yX0_passOn, Cond.instanceMethod yX0_passOn, Cond.selects RX0 yX0_passOn yX0_passOn, Cond.code yX0_passOn cX0_passOn 9 none, Cond.methodLink RX0 49 yX2_bestDimension, Cond.instanceMethod yX2_bestDimension, Cond.selects RX2 yX2_bestDimension yX2_bestDimension, Cond.code yX2_bestDimension cX2_bestDimension 6 (some .int), Cond.static yX6_hasBit, Cond.code yX6_hasBit cX6_hasBit 2 (some .boolean), Cond.static yX6_neighbour, Cond.code yX6_neighbour cX6_neighbour 2 (some .int), Cond.methodLink RX2 83 yX2_levelOf, Cond.instanceMethod yX2_levelOf, Cond.selects RX2 yX2_levelOf yX2_levelOf, Cond.code yX2_levelOf cX2_levelOf 2 (some .int)]
def wsL_broadcastTime_r4 : List Cond := [Cond.fieldLink RX2 9 "FaultyCube$Safety" "levels" "[I", Cond.methodLink RX0 60 yX0_timeOf, Cond.instanceMethod yX0_timeOf, Cond.selects RX0 yX0_timeOf yX0_timeOf, Cond.code yX0_timeOf cX0_timeOf 2 (some .int), Cond.methodLink RX6 150 yX0_timeOf]
def wsL_broadcastTime : List Cond := .codeWith yL_broadcastTime cL_broadcastTime 5 (some .int) [(0, 7, 10, 15), (0, 7, 16, 20)] :: ((wsL_broadcastTime_r1 ++ (wsL_broadcastTime_r2 ++ (wsL_broadcastTime_r3 ++ wsL_broadcastTime_r4))) ++ wsX60 ++ wsX30 ++ wsX00 ++ wsX20 ++ (vx_atS RX6 62 "java/lang/IllegalArgumentException" ["java/lang/RuntimeException", "java/lang/Exception"]).filter goodWord ++ (vx_atS RX6 95 "java/lang/IllegalStateException" ["java/lang/RuntimeException", "java/lang/Exception"]).filter goodWord)
def wsL_broadcastSize_r1 : List Cond := [Cond.classLink RL 15 "java/lang/IllegalArgumentException", Cond.classLink RL 20 "java/lang/IllegalStateException", Cond.methodLink RL 58 yX6_broadcastSize, Cond.instanceMethod yX6_broadcastSize, Cond.selects RX6 yX6_broadcastSize yX6_broadcastSize, Cond.initialized RX6, Cond.code yX6_broadcastSize cX6_broadcastSize 2 (some .int), Cond.fieldLink RX6 33 "FaultyCube" "broadcast" "LFaultyCube$Broadcast;", Cond.fieldLink RX6 10 "FaultyCube" "now" "LFaultyCube$Situation;", Cond.fieldLink RX6 26 "FaultyCube" "safety" "LFaultyCube$Safety;", Cond.methodLink RX6 73 yX6_requireNode, Cond.instanceMethod yX6_requireNode, Cond.selects RX6 yX6_requireNode yX6_requireNode, Cond.code yX6_requireNode cX6_requireNode 2 none, Cond.classLink RX6 58 "java/lang/IllegalArgumentException", Cond.initialized "java/lang/IllegalArgumentException", Cond.methodLink RX6 96 yX6_nodeCount, Cond.instanceMethod yX6_nodeCount, Cond.selects RX6 yX6_nodeCount yX6_nodeCount, Cond.code yX6_nodeCount cX6_nodeCount 1 (some .int), Cond.methodLink RX6 76 yX6_requireAlive, Cond.instanceMethod yX6_requireAlive, Cond.selects RX6 yX6_requireAlive yX6_requireAlive, Cond.code yX6_requireAlive cX6_requireAlive 2 none]
def wsL_broadcastSize_r2 : List Cond := [Cond.classLink RX6 91 "java/lang/IllegalStateException", Cond.initialized "java/lang/IllegalStateException", Cond.methodLink RX6 87 yX6_contains, Cond.static yX6_contains, Cond.code yX6_contains cX6_contains 3 (some .boolean), Cond.methodLink RX6 146 yX0_run, Cond.instanceMethod yX0_run, Cond.selects RX0 yX0_run yX0_run, Cond.initialized RX0, Cond.code yX0_run cX0_run 6 none, Cond.fieldLink RX0 9 "FaultyCube$Broadcast" "times" "[I", Cond.fieldLink RX0 27 "FaultyCube$Broadcast" "receivers" "I", Cond.fieldLink RX0 18 "FaultyCube$Broadcast" "queue" "[I", Cond.methodLink RX0 21 yJ7_fill_53178, Cond.static yJ7_fill_53178, Cond.initialized RJ7, Cond.code yJ7_fill_53178 cJ7_fill_53178 4 none, Cond.methodLink RX0 31 yX2_spareOf, Cond.instanceMethod yX2_spareOf, Cond.selects RX2 yX2_spareOf yX2_spareOf, Cond.initialized RX2, Cond.code yX2_spareOf cX2_spareOf 2 (some .int), Cond.fieldLink RX2 22 "FaultyCube$Safety" "dimension" "I", Cond.methodLink RX0 37 yX0_receive]
def wsL_broadcastSize_r3 : List Cond := [Cond.instanceMethod yX0_receive, Cond.selects RX0 yX0_receive yX0_receive, Cond.code yX0_receive cX0_receive 4 none, Cond.fieldLink RX0 15 "FaultyCube$Broadcast" "lists" "[I", Cond.static yX6_write, Cond.code yX6_write cX6_write 3 none, Cond.static yX6_read, Cond.code yX6_read cX6_read 2 (some .int), Cond.methodLink RX0 45 yX0_passOn, Cond.instanceMethod yX0_passOn, Cond.selects RX0 yX0_passOn yX0_passOn, Cond.code yX0_passOn cX0_passOn 9 none, Cond.methodLink RX0 49 yX2_bestDimension, Cond.instanceMethod yX2_bestDimension, Cond.selects RX2 yX2_bestDimension yX2_bestDimension, Cond.code yX2_bestDimension cX2_bestDimension 6 (some .int), Cond.static yX6_hasBit, Cond.code yX6_hasBit cX6_hasBit 2 (some .boolean), Cond.static yX6_neighbour, Cond.code yX6_neighbour cX6_neighbour 2 (some .int), Cond.methodLink RX2 83 yX2_levelOf, Cond.instanceMethod yX2_levelOf, Cond.selects RX2 yX2_levelOf yX2_levelOf, Cond.code yX2_levelOf cX2_levelOf 2 (some .int)]
def wsL_broadcastSize_r4 : List Cond := [Cond.fieldLink RX2 9 "FaultyCube$Safety" "levels" "[I", Cond.methodLink RX0 60 yX0_timeOf, Cond.instanceMethod yX0_timeOf, Cond.selects RX0 yX0_timeOf yX0_timeOf, Cond.code yX0_timeOf cX0_timeOf 2 (some .int)]
def wsL_broadcastSize : List Cond := .codeWith yL_broadcastSize cL_broadcastSize 4 (some .int) [(0, 6, 9, 15), (0, 6, 14, 20)] :: ((wsL_broadcastSize_r1 ++ (wsL_broadcastSize_r2 ++ (wsL_broadcastSize_r3 ++ wsL_broadcastSize_r4))) ++ wsX60 ++ wsX30 ++ wsX00 ++ wsX20 ++ (vx_atS RX6 62 "java/lang/IllegalArgumentException" ["java/lang/RuntimeException", "java/lang/Exception"]).filter goodWord ++ (vx_atS RX6 95 "java/lang/IllegalStateException" ["java/lang/RuntimeException", "java/lang/Exception"]).filter goodWord)
def wsL_freeSubcubes_r1 : List Cond := [Cond.classLink RL 15 "java/lang/IllegalArgumentException", Cond.methodLink RL 61 yX6_freeSubcubes, Cond.instanceMethod yX6_freeSubcubes, Cond.selects RX6 yX6_freeSubcubes yX6_freeSubcubes, Cond.initialized RX6, Cond.code yX6_freeSubcubes cX6_freeSubcubes 4 (some .int), Cond.classLink RX6 58 "java/lang/IllegalArgumentException", Cond.initialized "java/lang/IllegalArgumentException", Cond.fieldLink RX6 10 "FaultyCube" "now" "LFaultyCube$Situation;", Cond.methodLink RX6 96 yX6_nodeCount, Cond.instanceMethod yX6_nodeCount, Cond.selects RX6 yX6_nodeCount yX6_nodeCount, Cond.code yX6_nodeCount cX6_nodeCount 1 (some .int), Cond.methodLink RX6 107 yJ6_bitCount_0f7a4, Cond.static yJ6_bitCount_0f7a4, Cond.initialized RJ6, Cond.code yJ6_bitCount_0f7a4 cJ6_bitCount_0f7a4 1 (some .int), Cond.constant RJ6 265 (1431655765), Cond.constant RJ6 266 (858993459), Cond.constant RJ6 267 (252645135), Cond.methodLink RX6 158 yX6_freeBases, Cond.instanceMethod yX6_freeBases, Cond.selects RX6 yX6_freeBases yX6_freeBases, Cond.code yX6_freeBases cX6_freeBases 5 (some .long)]
def wsL_freeSubcubes_r2 : List Cond := [Cond.methodLink RX6 263 yX6_hasBit, Cond.static yX6_hasBit, Cond.code yX6_hasBit cX6_hasBit 2 (some .boolean), Cond.methodLink RX6 267 yX6_lowNodes, Cond.static yX6_lowNodes, Cond.code yX6_lowNodes cX6_lowNodes 1 (some .long), Cond.fieldLink RX6 270 "FaultyCube" "LOW_NODES" "[J", Cond.methodLink RX6 100 yJ13_bitCount_95d88, Cond.static yJ13_bitCount_95d88, Cond.initialized RJ13, Cond.code yJ13_bitCount_95d88 cJ13_bitCount_95d88 2 (some .int), Cond.constantLong RJ13 314 (6148914691236517205), Cond.constantLong RJ13 316 (3689348814741910323), Cond.constantLong RJ13 318 (1085102592571150095)]
def wsL_freeSubcubes : List Cond := .codeWith yL_freeSubcubes cL_freeSubcubes 4 (some .int) [(0, 6, 9, 15)] :: ((wsL_freeSubcubes_r1 ++ wsL_freeSubcubes_r2) ++ wsX60 ++ wsX30 ++ (vx_atS RX6 62 "java/lang/IllegalArgumentException" ["java/lang/RuntimeException", "java/lang/Exception"]).filter goodWord)
def wsL_disjointPaths_r1 : List Cond := [Cond.classLink RL 15 "java/lang/IllegalArgumentException", Cond.classLink RL 20 "java/lang/IllegalStateException", Cond.methodLink RL 64 yX6_disjointPaths, Cond.instanceMethod yX6_disjointPaths, Cond.selects RX6 yX6_disjointPaths yX6_disjointPaths, Cond.initialized RX6, Cond.code yX6_disjointPaths cX6_disjointPaths 3 (some .int), Cond.classLink RX6 58 "java/lang/IllegalArgumentException", Cond.initialized "java/lang/IllegalArgumentException", Cond.fieldLink RX6 40 "FaultyCube" "packing" "LFaultyCube$PathPacking;", Cond.fieldLink RX6 10 "FaultyCube" "now" "LFaultyCube$Situation;", Cond.methodLink RX6 73 yX6_requireNode, Cond.instanceMethod yX6_requireNode, Cond.selects RX6 yX6_requireNode yX6_requireNode, Cond.code yX6_requireNode cX6_requireNode 2 none, Cond.methodLink RX6 96 yX6_nodeCount, Cond.instanceMethod yX6_nodeCount, Cond.selects RX6 yX6_nodeCount yX6_nodeCount, Cond.code yX6_nodeCount cX6_nodeCount 1 (some .int), Cond.methodLink RX6 76 yX6_requireAlive, Cond.instanceMethod yX6_requireAlive, Cond.selects RX6 yX6_requireAlive yX6_requireAlive, Cond.code yX6_requireAlive cX6_requireAlive 2 none, Cond.classLink RX6 91 "java/lang/IllegalStateException"]
def wsL_disjointPaths_r2 : List Cond := [Cond.initialized "java/lang/IllegalStateException", Cond.methodLink RX6 87 yX6_contains, Cond.static yX6_contains, Cond.code yX6_contains cX6_contains 3 (some .boolean), Cond.methodLink RX6 167 yX1_largest, Cond.instanceMethod yX1_largest, Cond.selects RX1 yX1_largest yX1_largest, Cond.initialized RX1, Cond.code yX1_largest cX1_largest 8 (some .int), Cond.fieldLink RX1 21 "FaultyCube$PathPacking" "source" "I", Cond.fieldLink RX1 25 "FaultyCube$PathPacking" "goal" "I", Cond.fieldLink RX1 28 "FaultyCube$PathPacking" "dimension" "I", Cond.fieldLink RX1 31 "FaultyCube$PathPacking" "alive" "J", Cond.fieldLink RX1 9 "FaultyCube$PathPacking" "leaving" "[I", Cond.methodLink RX1 35 yJ7_fill_53178, Cond.static yJ7_fill_53178, Cond.initialized RJ7, Cond.code yJ7_fill_53178 cJ7_fill_53178 4 none, Cond.methodLink RX1 41 yX1_findsPath, Cond.instanceMethod yX1_findsPath, Cond.selects RX1 yX1_findsPath yX1_findsPath, Cond.code yX1_findsPath cX1_findsPath 3 (some .boolean), Cond.fieldLink RX1 15 "FaultyCube$PathPacking" "cameFrom" "[I", Cond.fieldLink RX1 48 "FaultyCube$PathPacking" "found" "I"]
def wsL_disjointPaths_r3 : List Cond := [Cond.fieldLink RX1 18 "FaultyCube$PathPacking" "queue" "[I", Cond.methodLink RX1 51 yX1_exit, Cond.static yX1_exit, Cond.code yX1_exit cX1_exit 1 (some .int), Cond.methodLink RX1 55 yX1_discover, Cond.instanceMethod yX1_discover, Cond.selects RX1 yX1_discover yX1_discover, Cond.code yX1_discover cX1_discover 3 none, Cond.static yX6_read, Cond.code yX6_read cX6_read 2 (some .int), Cond.static yX6_write, Cond.code yX6_write cX6_write 3 none, Cond.methodLink RX1 59 yX1_entry, Cond.static yX1_entry, Cond.code yX1_entry cX1_entry 1 (some .int), Cond.methodLink RX1 62 yX1_searchFromEntry, Cond.instanceMethod yX1_searchFromEntry, Cond.selects RX1 yX1_searchFromEntry yX1_searchFromEntry, Cond.code yX1_searchFromEntry cX1_searchFromEntry 4 none, Cond.static yX6_neighbour, Cond.code yX6_neighbour cX6_neighbour 2 (some .int), Cond.static yX6_hasBit, Cond.code yX6_hasBit cX6_hasBit 2 (some .boolean), Cond.methodLink RX1 66 yX1_searchFromExit]
def wsL_disjointPaths_r4 : List Cond := [Cond.instanceMethod yX1_searchFromExit, Cond.selects RX1 yX1_searchFromExit yX1_searchFromExit, Cond.code yX1_searchFromExit cX1_searchFromExit 5 none, Cond.methodLink RX1 45 yX1_addPath, Cond.instanceMethod yX1_addPath, Cond.selects RX1 yX1_addPath yX1_addPath, Cond.code yX1_addPath cX1_addPath 6 none]
def wsL_disjointPaths : List Cond := .codeWith yL_disjointPaths cL_disjointPaths 5 (some .int) [(0, 7, 10, 15), (0, 7, 16, 20)] :: ((wsL_disjointPaths_r1 ++ (wsL_disjointPaths_r2 ++ (wsL_disjointPaths_r3 ++ wsL_disjointPaths_r4))) ++ wsX60 ++ wsX30 ++ wsX10 ++ (vx_atS RX6 62 "java/lang/IllegalArgumentException" ["java/lang/RuntimeException", "java/lang/Exception"]).filter goodWord ++ (vx_atS RX6 95 "java/lang/IllegalStateException" ["java/lang/RuntimeException", "java/lang/Exception"]).filter goodWord)
def wsL_send_r1 : List Cond := [Cond.classLink RL 15 "java/lang/IllegalArgumentException", Cond.classLink RL 20 "java/lang/IllegalStateException", Cond.methodLink RL 67 yX6_send, Cond.instanceMethod yX6_send, Cond.selects RX6 yX6_send yX6_send, Cond.initialized RX6, Cond.code yX6_send cX6_send 3 (some .int), Cond.classLink RX6 91 "java/lang/IllegalStateException", Cond.initialized "java/lang/IllegalStateException", Cond.fieldLink RX6 10 "FaultyCube" "now" "LFaultyCube$Situation;", Cond.fieldLink RX6 19 "FaultyCube" "past" "LFaultyCube$UndoStack;", Cond.methodLink RX6 112 yX6_requireLivingPair, Cond.instanceMethod yX6_requireLivingPair, Cond.selects RX6 yX6_requireLivingPair yX6_requireLivingPair, Cond.code yX6_requireLivingPair cX6_requireLivingPair 3 none, Cond.methodLink RX6 73 yX6_requireNode, Cond.instanceMethod yX6_requireNode, Cond.selects RX6 yX6_requireNode yX6_requireNode, Cond.code yX6_requireNode cX6_requireNode 2 none, Cond.classLink RX6 58 "java/lang/IllegalArgumentException", Cond.initialized "java/lang/IllegalArgumentException", Cond.methodLink RX6 96 yX6_nodeCount, Cond.instanceMethod yX6_nodeCount, Cond.selects RX6 yX6_nodeCount yX6_nodeCount]
def wsL_send_r2 : List Cond := [Cond.code yX6_nodeCount cX6_nodeCount 1 (some .int), Cond.methodLink RX6 76 yX6_requireAlive, Cond.instanceMethod yX6_requireAlive, Cond.selects RX6 yX6_requireAlive yX6_requireAlive, Cond.code yX6_requireAlive cX6_requireAlive 2 none, Cond.methodLink RX6 87 yX6_contains, Cond.static yX6_contains, Cond.code yX6_contains cX6_contains 3 (some .boolean), Cond.methodLink RX6 69 yX5_save, Cond.instanceMethod yX5_save, Cond.selects RX5 yX5_save yX5_save, Cond.initialized RX5, Cond.code yX5_save cX5_save 3 none, Cond.fieldLink RX5 18 "FaultyCube$UndoStack" "next" "I", Cond.fieldLink RX5 30 "FaultyCube$UndoStack" "size" "I", Cond.methodLink RX5 33 Lib.Math.min.name, Cond.static Lib.Math.min.name, Cond.initialized "java/lang/Math", Cond.code Lib.Math.min.name Lib.Math.min.code 2 (some .int), Cond.methodLink RX5 22 yX5_slotAt, Cond.instanceMethod yX5_slotAt, Cond.selects RX5 yX5_slotAt yX5_slotAt, Cond.code yX5_slotAt cX5_slotAt 2 (some (.object "FaultyCube$Situation")), Cond.fieldLink RX5 11 "FaultyCube$UndoStack" "ring" "[LFaultyCube$Situation;"]
def wsL_send_r3 : List Cond := [Cond.methodLink RX5 26 yX3_copyFrom, Cond.instanceMethod yX3_copyFrom, Cond.selects RX3 yX3_copyFrom yX3_copyFrom, Cond.initialized RX3, Cond.code yX3_copyFrom cX3_copyFrom 2 none, Cond.fieldLink RX3 27 "FaultyCube$Situation" "dimension" "I", Cond.fieldLink RX3 33 "FaultyCube$Situation" "alive" "J", Cond.fieldLink RX3 37 "FaultyCube$Situation" "steps" "I", Cond.fieldLink RX3 40 "FaultyCube$Situation" "messages" "I", Cond.fieldLink RX3 9 "FaultyCube$Situation" "states" "[I", Cond.methodLink RX3 43 arraycopyName, Cond.native arraycopyName, Cond.static arraycopyName, Cond.initialized "java/lang/System", Cond.fieldLink RX3 15 "FaultyCube$Situation" "positions" "[I", Cond.fieldLink RX3 18 "FaultyCube$Situation" "goals" "[I", Cond.fieldLink RX3 21 "FaultyCube$Situation" "moveCounts" "[I", Cond.fieldLink RX3 24 "FaultyCube$Situation" "detourCounts" "[I", Cond.methodLink RX6 176 yX3_addMessage, Cond.instanceMethod yX3_addMessage, Cond.selects RX3 yX3_addMessage yX3_addMessage, Cond.code yX3_addMessage cX3_addMessage 4 (some .int), Cond.static yX6_write, Cond.code yX6_write cX6_write 3 none]
def wsL_send : List Cond := .codeWith yL_send cL_send 5 (some .int) [(0, 7, 10, 15), (0, 7, 16, 20)] :: ((wsL_send_r1 ++ (wsL_send_r2 ++ wsL_send_r3)) ++ wsX60 ++ wsX30 ++ wsX50 ++ (vx_atS RX6 95 "java/lang/IllegalStateException" ["java/lang/RuntimeException", "java/lang/Exception"]).filter goodWord ++ (vx_atS RX6 62 "java/lang/IllegalArgumentException" ["java/lang/RuntimeException", "java/lang/Exception"]).filter goodWord)
def wsL_step_r1 : List Cond := [Cond.classLink RL 15 "java/lang/IllegalArgumentException", Cond.methodLink RL 70 yX6_step, Cond.instanceMethod yX6_step, Cond.selects RX6 yX6_step yX6_step, Cond.initialized RX6, Cond.code yX6_step cX6_step 4 (some .int), Cond.classLink RX6 58 "java/lang/IllegalArgumentException", Cond.initialized "java/lang/IllegalArgumentException", Cond.fieldLink RX6 19 "FaultyCube" "past" "LFaultyCube$UndoStack;", Cond.fieldLink RX6 10 "FaultyCube" "now" "LFaultyCube$Situation;", Cond.fieldLink RX6 47 "FaultyCube" "traffic" "LFaultyCube$Traffic;", Cond.fieldLink RX6 26 "FaultyCube" "safety" "LFaultyCube$Safety;", Cond.methodLink RX6 69 yX5_save, Cond.instanceMethod yX5_save, Cond.selects RX5 yX5_save yX5_save, Cond.initialized RX5, Cond.code yX5_save cX5_save 3 none, Cond.fieldLink RX5 18 "FaultyCube$UndoStack" "next" "I", Cond.fieldLink RX5 30 "FaultyCube$UndoStack" "size" "I", Cond.methodLink RX5 33 Lib.Math.min.name, Cond.static Lib.Math.min.name, Cond.initialized "java/lang/Math", Cond.code Lib.Math.min.name Lib.Math.min.code 2 (some .int), Cond.methodLink RX5 22 yX5_slotAt]
def wsL_step_r2 : List Cond := [Cond.instanceMethod yX5_slotAt, Cond.selects RX5 yX5_slotAt yX5_slotAt, Cond.code yX5_slotAt cX5_slotAt 2 (some (.object "FaultyCube$Situation")), Cond.fieldLink RX5 11 "FaultyCube$UndoStack" "ring" "[LFaultyCube$Situation;", Cond.methodLink RX5 26 yX3_copyFrom, Cond.instanceMethod yX3_copyFrom, Cond.selects RX3 yX3_copyFrom yX3_copyFrom, Cond.initialized RX3, Cond.code yX3_copyFrom cX3_copyFrom 2 none, Cond.fieldLink RX3 27 "FaultyCube$Situation" "dimension" "I", Cond.fieldLink RX3 33 "FaultyCube$Situation" "alive" "J", Cond.fieldLink RX3 37 "FaultyCube$Situation" "steps" "I", Cond.fieldLink RX3 40 "FaultyCube$Situation" "messages" "I", Cond.fieldLink RX3 9 "FaultyCube$Situation" "states" "[I", Cond.methodLink RX3 43 arraycopyName, Cond.native arraycopyName, Cond.static arraycopyName, Cond.initialized "java/lang/System", Cond.fieldLink RX3 15 "FaultyCube$Situation" "positions" "[I", Cond.fieldLink RX3 18 "FaultyCube$Situation" "goals" "[I", Cond.fieldLink RX3 21 "FaultyCube$Situation" "moveCounts" "[I", Cond.fieldLink RX3 24 "FaultyCube$Situation" "detourCounts" "[I", Cond.methodLink RX6 181 yX4_oneStep, Cond.instanceMethod yX4_oneStep]
def wsL_step_r3 : List Cond := [Cond.selects RX4 yX4_oneStep yX4_oneStep, Cond.initialized RX4, Cond.code yX4_oneStep cX4_oneStep 5 (some .int), Cond.fieldLink RX4 9 "FaultyCube$Traffic" "usedWays" "[I", Cond.methodLink RX4 15 yJ7_fill_53178, Cond.static yJ7_fill_53178, Cond.initialized RJ7, Cond.code yJ7_fill_53178 cJ7_fill_53178 4 none, Cond.static yX6_read, Cond.code yX6_read cX6_read 2 (some .int), Cond.methodLink RX4 34 yX4_moved, Cond.instanceMethod yX4_moved, Cond.selects RX4 yX4_moved yX4_moved, Cond.code yX4_moved cX4_moved 9 (some .boolean), Cond.methodLink RX4 47 yX2_bestLevel, Cond.instanceMethod yX2_bestLevel, Cond.selects RX2 yX2_bestLevel yX2_bestLevel, Cond.initialized RX2, Cond.code yX2_bestLevel cX2_bestLevel 4 (some .int), Cond.methodLink RX2 86 yX2_bestDimension, Cond.instanceMethod yX2_bestDimension, Cond.selects RX2 yX2_bestDimension yX2_bestDimension, Cond.code yX2_bestDimension cX2_bestDimension 6 (some .int), Cond.fieldLink RX2 22 "FaultyCube$Safety" "dimension" "I"]
def wsL_step_r4 : List Cond := [Cond.static yX6_hasBit, Cond.code yX6_hasBit cX6_hasBit 2 (some .boolean), Cond.static yX6_neighbour, Cond.code yX6_neighbour cX6_neighbour 2 (some .int), Cond.methodLink RX2 83 yX2_levelOf, Cond.instanceMethod yX2_levelOf, Cond.selects RX2 yX2_levelOf yX2_levelOf, Cond.code yX2_levelOf cX2_levelOf 2 (some .int), Cond.fieldLink RX2 9 "FaultyCube$Safety" "levels" "[I", Cond.methodLink RX4 53 yX2_spareOf, Cond.instanceMethod yX2_spareOf, Cond.selects RX2 yX2_spareOf yX2_spareOf, Cond.code yX2_spareOf cX2_spareOf 2 (some .int), Cond.methodLink RX4 60 yX2_bestDimension, Cond.static yX6_write, Cond.code yX6_write cX6_write 3 none, Cond.methodLink RX4 74 yX4_move, Cond.instanceMethod yX4_move, Cond.selects RX4 yX4_move yX4_move, Cond.code yX4_move cX4_move 5 none]
def wsL_step : List Cond := .codeWith yL_step cL_step 4 (some .int) [(0, 6, 9, 15)] :: ((wsL_step_r1 ++ (wsL_step_r2 ++ (wsL_step_r3 ++ wsL_step_r4))) ++ wsX60 ++ wsX50 ++ wsX30 ++ wsX40 ++ wsX20 ++ (vx_atS RX6 62 "java/lang/IllegalArgumentException" ["java/lang/RuntimeException", "java/lang/Exception"]).filter goodWord)
def wsL_state : List Cond := .codeWith yL_state cL_state 4 (some .int) [(0, 6, 9, 15)] :: ([.classLink RL 15 "java/lang/IllegalArgumentException", .methodLink RL 73 yX6_state, .instanceMethod yX6_state, .selects RX6 yX6_state yX6_state, .initialized RX6, .code yX6_state cX6_state 2 (some .int), .fieldLink RX6 10 "FaultyCube" "now" "LFaultyCube$Situation;", .methodLink RX6 185 yX6_requireMessage, .instanceMethod yX6_requireMessage, .selects RX6 yX6_requireMessage yX6_requireMessage, .code yX6_requireMessage cX6_requireMessage 2 none, .classLink RX6 58 "java/lang/IllegalArgumentException", .initialized "java/lang/IllegalArgumentException", .methodLink RX6 192 yX6_read, .static yX6_read, .code yX6_read cX6_read 2 (some .int)] ++ wsX60 ++ wsX30 ++ (vx_atS RX6 62 "java/lang/IllegalArgumentException" ["java/lang/RuntimeException", "java/lang/Exception"]).filter goodWord)
def wsL_position : List Cond := .codeWith yL_position cL_position 4 (some .int) [(0, 6, 9, 15)] :: ([.classLink RL 15 "java/lang/IllegalArgumentException", .methodLink RL 76 yX6_position, .instanceMethod yX6_position, .selects RX6 yX6_position yX6_position, .initialized RX6, .code yX6_position cX6_position 2 (some .int), .fieldLink RX6 10 "FaultyCube" "now" "LFaultyCube$Situation;", .methodLink RX6 185 yX6_requireMessage, .instanceMethod yX6_requireMessage, .selects RX6 yX6_requireMessage yX6_requireMessage, .code yX6_requireMessage cX6_requireMessage 2 none, .classLink RX6 58 "java/lang/IllegalArgumentException", .initialized "java/lang/IllegalArgumentException", .methodLink RX6 192 yX6_read, .static yX6_read, .code yX6_read cX6_read 2 (some .int)] ++ wsX60 ++ wsX30 ++ (vx_atS RX6 62 "java/lang/IllegalArgumentException" ["java/lang/RuntimeException", "java/lang/Exception"]).filter goodWord)
def wsL_moves : List Cond := .codeWith yL_moves cL_moves 4 (some .int) [(0, 6, 9, 15)] :: ([.classLink RL 15 "java/lang/IllegalArgumentException", .methodLink RL 79 yX6_moves, .instanceMethod yX6_moves, .selects RX6 yX6_moves yX6_moves, .initialized RX6, .code yX6_moves cX6_moves 2 (some .int), .fieldLink RX6 10 "FaultyCube" "now" "LFaultyCube$Situation;", .methodLink RX6 185 yX6_requireMessage, .instanceMethod yX6_requireMessage, .selects RX6 yX6_requireMessage yX6_requireMessage, .code yX6_requireMessage cX6_requireMessage 2 none, .classLink RX6 58 "java/lang/IllegalArgumentException", .initialized "java/lang/IllegalArgumentException", .methodLink RX6 192 yX6_read, .static yX6_read, .code yX6_read cX6_read 2 (some .int)] ++ wsX60 ++ wsX30 ++ (vx_atS RX6 62 "java/lang/IllegalArgumentException" ["java/lang/RuntimeException", "java/lang/Exception"]).filter goodWord)
def wsL_count : List Cond := .codeWith yL_count cL_count 4 (some .int) [(0, 6, 9, 15)] :: ([.classLink RL 15 "java/lang/IllegalArgumentException", .methodLink RL 82 yX6_count, .instanceMethod yX6_count, .selects RX6 yX6_count yX6_count, .initialized RX6, .code yX6_count cX6_count 4 (some .int), .classLink RX6 58 "java/lang/IllegalArgumentException", .initialized "java/lang/IllegalArgumentException", .fieldLink RX6 10 "FaultyCube" "now" "LFaultyCube$Situation;", .methodLink RX6 192 yX6_read, .static yX6_read, .code yX6_read cX6_read 2 (some .int)] ++ wsX60 ++ wsX30 ++ (vx_atS RX6 62 "java/lang/IllegalArgumentException" ["java/lang/RuntimeException", "java/lang/Exception"]).filter goodWord)
def wsL_undo_r1 : List Cond := [Cond.classLink RL 20 "java/lang/IllegalStateException", Cond.methodLink RL 85 yX6_undo, Cond.instanceMethod yX6_undo, Cond.selects RX6 yX6_undo yX6_undo, Cond.initialized RX6, Cond.code yX6_undo cX6_undo 1 (some .int), Cond.classLink RX6 91 "java/lang/IllegalStateException", Cond.initialized "java/lang/IllegalStateException", Cond.fieldLink RX6 19 "FaultyCube" "past" "LFaultyCube$UndoStack;", Cond.fieldLink RX6 10 "FaultyCube" "now" "LFaultyCube$Situation;", Cond.methodLink RX6 209 yX5_restoreInto, Cond.instanceMethod yX5_restoreInto, Cond.selects RX5 yX5_restoreInto yX5_restoreInto, Cond.initialized RX5, Cond.code yX5_restoreInto cX5_restoreInto 4 none, Cond.fieldLink RX5 18 "FaultyCube$UndoStack" "next" "I", Cond.fieldLink RX5 30 "FaultyCube$UndoStack" "size" "I", Cond.methodLink RX5 22 yX5_slotAt, Cond.instanceMethod yX5_slotAt, Cond.selects RX5 yX5_slotAt yX5_slotAt, Cond.code yX5_slotAt cX5_slotAt 2 (some (.object "FaultyCube$Situation")), Cond.fieldLink RX5 11 "FaultyCube$UndoStack" "ring" "[LFaultyCube$Situation;", Cond.methodLink RX5 26 yX3_copyFrom, Cond.instanceMethod yX3_copyFrom]
def wsL_undo_r2 : List Cond := [Cond.selects RX3 yX3_copyFrom yX3_copyFrom, Cond.initialized RX3, Cond.code yX3_copyFrom cX3_copyFrom 2 none, Cond.fieldLink RX3 27 "FaultyCube$Situation" "dimension" "I", Cond.fieldLink RX3 33 "FaultyCube$Situation" "alive" "J", Cond.fieldLink RX3 37 "FaultyCube$Situation" "steps" "I", Cond.fieldLink RX3 40 "FaultyCube$Situation" "messages" "I", Cond.fieldLink RX3 9 "FaultyCube$Situation" "states" "[I", Cond.methodLink RX3 43 arraycopyName, Cond.native arraycopyName, Cond.static arraycopyName, Cond.initialized "java/lang/System", Cond.fieldLink RX3 15 "FaultyCube$Situation" "positions" "[I", Cond.fieldLink RX3 18 "FaultyCube$Situation" "goals" "[I", Cond.fieldLink RX3 21 "FaultyCube$Situation" "moveCounts" "[I", Cond.fieldLink RX3 24 "FaultyCube$Situation" "detourCounts" "[I", Cond.methodLink RX6 55 yX6_refreshSafety, Cond.instanceMethod yX6_refreshSafety, Cond.selects RX6 yX6_refreshSafety yX6_refreshSafety, Cond.code yX6_refreshSafety cX6_refreshSafety 1 none, Cond.fieldLink RX6 26 "FaultyCube" "safety" "LFaultyCube$Safety;", Cond.methodLink RX6 241 yX2_find, Cond.instanceMethod yX2_find, Cond.selects RX2 yX2_find yX2_find]
def wsL_undo_r3 : List Cond := [Cond.initialized RX2, Cond.code yX2_find cX2_find 6 none, Cond.fieldLink RX2 22 "FaultyCube$Safety" "dimension" "I", Cond.fieldLink RX2 30 "FaultyCube$Safety" "changingRounds" "I", Cond.methodLink RX2 26 yX2_startLevels, Cond.instanceMethod yX2_startLevels, Cond.selects RX2 yX2_startLevels yX2_startLevels, Cond.code yX2_startLevels cX2_startLevels 4 none, Cond.fieldLink RX2 9 "FaultyCube$Safety" "levels" "[I", Cond.static yX6_contains, Cond.code yX6_contains cX6_contains 3 (some .boolean), Cond.static yX6_write, Cond.code yX6_write cX6_write 3 none, Cond.methodLink RX2 33 yX2_roundChanges, Cond.instanceMethod yX2_roundChanges, Cond.selects RX2 yX2_roundChanges yX2_roundChanges, Cond.code yX2_roundChanges cX2_roundChanges 6 (some .boolean), Cond.fieldLink RX2 15 "FaultyCube$Safety" "levelsBefore" "[I", Cond.methodLink RX2 48 arraycopyName, Cond.methodLink RX2 54 yX2_levelAfterRound, Cond.instanceMethod yX2_levelAfterRound, Cond.selects RX2 yX2_levelAfterRound yX2_levelAfterRound, Cond.code yX2_levelAfterRound cX2_levelAfterRound 3 (some .int), Cond.methodLink RX2 62 yX2_neighboursBelow]
def wsL_undo_r4 : List Cond := [Cond.instanceMethod yX2_neighboursBelow, Cond.selects RX2 yX2_neighboursBelow yX2_neighboursBelow, Cond.code yX2_neighboursBelow cX2_neighboursBelow 5 (some .int), Cond.static yX6_neighbour, Cond.code yX6_neighbour cX6_neighbour 2 (some .int), Cond.static yX6_read, Cond.code yX6_read cX6_read 2 (some .int), Cond.methodLink RX2 37 yX2_findVectors, Cond.instanceMethod yX2_findVectors, Cond.selects RX2 yX2_findVectors yX2_findVectors, Cond.code yX2_findVectors cX2_findVectors 6 none, Cond.fieldLink RX2 18 "FaultyCube$Safety" "vectorSets" "[J", Cond.methodLink RX2 69 yJ7_fill_d0a16, Cond.static yJ7_fill_d0a16, Cond.initialized RJ7, Cond.code yJ7_fill_d0a16 cJ7_fill_d0a16 5 none, Cond.methodLink RX2 75 yX2_withNeighboursAbove, Cond.instanceMethod yX2_withNeighboursAbove, Cond.selects RX2 yX2_withNeighboursAbove yX2_withNeighboursAbove, Cond.code yX2_withNeighboursAbove cX2_withNeighboursAbove 9 (some .long)]
def wsL_undo : List Cond := .codeWith yL_undo cL_undo 3 (some .int) [(0, 5, 8, 20)] :: ((wsL_undo_r1 ++ (wsL_undo_r2 ++ (wsL_undo_r3 ++ wsL_undo_r4))) ++ wsX60 ++ wsX50 ++ wsX30 ++ wsX20 ++ (vx_atS RX6 95 "java/lang/IllegalStateException" ["java/lang/RuntimeException", "java/lang/Exception"]).filter goodWord)
def wsL_areLevels_r1 : List Cond := [Cond.methodLink RL 89 yX6_rounds, Cond.instanceMethod yX6_rounds, Cond.selects RX6 yX6_rounds yX6_rounds, Cond.initialized RX6, Cond.code yX6_rounds cX6_rounds 1 (some .int), Cond.fieldLink RX6 26 "FaultyCube" "safety" "LFaultyCube$Safety;", Cond.methodLink RL 92 yL_level, Cond.static yL_level, Cond.initialized RL, Cond.codeWith yL_level cL_level 4 (some .int) [(0, 6, 9, 15)], Cond.classLink RL 15 "java/lang/IllegalArgumentException", Cond.methodLink RL 36 yX6_level, Cond.instanceMethod yX6_level, Cond.selects RX6 yX6_level yX6_level, Cond.code yX6_level cX6_level 2 (some .int), Cond.methodLink RX6 73 yX6_requireNode, Cond.instanceMethod yX6_requireNode, Cond.selects RX6 yX6_requireNode yX6_requireNode, Cond.code yX6_requireNode cX6_requireNode 2 none, Cond.classLink RX6 58 "java/lang/IllegalArgumentException", Cond.initialized "java/lang/IllegalArgumentException", Cond.methodLink RX6 96 yX6_nodeCount, Cond.instanceMethod yX6_nodeCount, Cond.selects RX6 yX6_nodeCount yX6_nodeCount]
def wsL_areLevels_r2 : List Cond := [Cond.code yX6_nodeCount cX6_nodeCount 1 (some .int), Cond.fieldLink RX6 10 "FaultyCube" "now" "LFaultyCube$Situation;", Cond.methodLink RX6 120 yX2_levelOf, Cond.instanceMethod yX2_levelOf, Cond.selects RX2 yX2_levelOf yX2_levelOf, Cond.initialized RX2, Cond.code yX2_levelOf cX2_levelOf 2 (some .int), Cond.fieldLink RX2 9 "FaultyCube$Safety" "levels" "[I", Cond.static yX6_read, Cond.code yX6_read cX6_read 2 (some .int), Cond.methodLink RL 97 yL_isAlive, Cond.static yL_isAlive, Cond.codeWith yL_isAlive cL_isAlive 4 (some .int) [(0, 14, 17, 15)], Cond.methodLink RL 25 yX6_isAlive, Cond.instanceMethod yX6_isAlive, Cond.selects RX6 yX6_isAlive yX6_isAlive, Cond.code yX6_isAlive cX6_isAlive 2 (some .boolean), Cond.methodLink RX6 87 yX6_contains, Cond.static yX6_contains, Cond.code yX6_contains cX6_contains 3 (some .boolean), Cond.methodLink RL 99 yL_vectorBit, Cond.static yL_vectorBit, Cond.codeWith yL_vectorBit cL_vectorBit 5 (some .int) [(0, 7, 10, 15)], Cond.methodLink RL 39 yX6_vectorBit]
def wsL_areLevels_r3 : List Cond := [Cond.instanceMethod yX6_vectorBit, Cond.selects RX6 yX6_vectorBit yX6_vectorBit, Cond.code yX6_vectorBit cX6_vectorBit 3 (some .int), Cond.methodLink RX6 128 yX2_bitOf, Cond.instanceMethod yX2_bitOf, Cond.selects RX2 yX2_bitOf yX2_bitOf, Cond.code yX2_bitOf cX2_bitOf 4 (some .int), Cond.fieldLink RX2 18 "FaultyCube$Safety" "vectorSets" "[J", Cond.methodLink RL 102 yX6_safeNodes, Cond.instanceMethod yX6_safeNodes, Cond.selects RX6 yX6_safeNodes yX6_safeNodes, Cond.code yX6_safeNodes cX6_safeNodes 3 (some .int)]
def wsL_areLevels : List Cond := .code yL_areLevels cL_areLevels 9 (some .boolean) :: ((wsL_areLevels_r1 ++ (wsL_areLevels_r2 ++ wsL_areLevels_r3)) ++ wsX60 ++ wsX20 ++ wsX30 ++ (vx_atS RX6 62 "java/lang/IllegalArgumentException" ["java/lang/RuntimeException", "java/lang/Exception"]).filter goodWord)
def wsL_isRoute_r1 : List Cond := [Cond.methodLink RL 105 yL_distance, Cond.static yL_distance, Cond.initialized RL, Cond.codeWith yL_distance cL_distance 5 (some .int) [(0, 7, 10, 15)], Cond.classLink RL 15 "java/lang/IllegalArgumentException", Cond.methodLink RL 29 yX6_distance, Cond.instanceMethod yX6_distance, Cond.selects RX6 yX6_distance yX6_distance, Cond.initialized RX6, Cond.code yX6_distance cX6_distance 3 (some .int), Cond.methodLink RX6 73 yX6_requireNode, Cond.instanceMethod yX6_requireNode, Cond.selects RX6 yX6_requireNode yX6_requireNode, Cond.code yX6_requireNode cX6_requireNode 2 none, Cond.classLink RX6 58 "java/lang/IllegalArgumentException", Cond.initialized "java/lang/IllegalArgumentException", Cond.methodLink RX6 96 yX6_nodeCount, Cond.instanceMethod yX6_nodeCount, Cond.selects RX6 yX6_nodeCount yX6_nodeCount, Cond.code yX6_nodeCount cX6_nodeCount 1 (some .int), Cond.fieldLink RX6 10 "FaultyCube" "now" "LFaultyCube$Situation;", Cond.methodLink RX6 107 yJ6_bitCount_0f7a4, Cond.static yJ6_bitCount_0f7a4, Cond.initialized RJ6]
def wsL_isRoute_r2 : List Cond := [Cond.code yJ6_bitCount_0f7a4 cJ6_bitCount_0f7a4 1 (some .int), Cond.constant RJ6 265 (1431655765), Cond.constant RJ6 266 (858993459), Cond.constant RJ6 267 (252645135), Cond.methodLink RL 107 yL_shortest, Cond.static yL_shortest, Cond.codeWith yL_shortest cL_shortest 5 (some .int) [(0, 7, 10, 15), (0, 7, 16, 20)], Cond.classLink RL 20 "java/lang/IllegalStateException", Cond.methodLink RL 33 yX6_shortest, Cond.instanceMethod yX6_shortest, Cond.selects RX6 yX6_shortest yX6_shortest, Cond.code yX6_shortest cX6_shortest 6 (some .int), Cond.methodLink RX6 112 yX6_requireLivingPair, Cond.instanceMethod yX6_requireLivingPair, Cond.selects RX6 yX6_requireLivingPair yX6_requireLivingPair, Cond.code yX6_requireLivingPair cX6_requireLivingPair 3 none, Cond.methodLink RX6 76 yX6_requireAlive, Cond.instanceMethod yX6_requireAlive, Cond.selects RX6 yX6_requireAlive yX6_requireAlive, Cond.code yX6_requireAlive cX6_requireAlive 2 none, Cond.classLink RX6 91 "java/lang/IllegalStateException", Cond.initialized "java/lang/IllegalStateException", Cond.methodLink RX6 87 yX6_contains, Cond.static yX6_contains]
def wsL_isRoute_r3 : List Cond := [Cond.code yX6_contains cX6_contains 3 (some .boolean), Cond.methodLink RX6 116 yX6_neighboursOfSet, Cond.static yX6_neighboursOfSet, Cond.code yX6_neighboursOfSet cX6_neighboursOfSet 8 (some .long), Cond.methodLink RX6 267 yX6_lowNodes, Cond.static yX6_lowNodes, Cond.code yX6_lowNodes cX6_lowNodes 1 (some .long), Cond.fieldLink RX6 270 "FaultyCube" "LOW_NODES" "[J", Cond.methodLink RL 97 yL_isAlive, Cond.static yL_isAlive, Cond.codeWith yL_isAlive cL_isAlive 4 (some .int) [(0, 14, 17, 15)], Cond.methodLink RL 25 yX6_isAlive, Cond.instanceMethod yX6_isAlive, Cond.selects RX6 yX6_isAlive yX6_isAlive, Cond.code yX6_isAlive cX6_isAlive 2 (some .boolean), Cond.methodLink RL 109 yL_decide, Cond.static yL_decide, Cond.codeWith yL_decide cL_decide 5 (some .int) [(0, 7, 10, 15), (0, 7, 16, 20)], Cond.methodLink RL 42 yX6_decide, Cond.instanceMethod yX6_decide, Cond.selects RX6 yX6_decide yX6_decide, Cond.code yX6_decide cX6_decide 3 (some .int), Cond.methodLink RX6 132 yX6_decision, Cond.instanceMethod yX6_decision]
def wsL_isRoute_r4 : List Cond := [Cond.selects RX6 yX6_decision yX6_decision, Cond.code yX6_decision cX6_decision 5 (some .int), Cond.fieldLink RX6 26 "FaultyCube" "safety" "LFaultyCube$Safety;", Cond.methodLink RX6 120 yX2_levelOf, Cond.instanceMethod yX2_levelOf, Cond.selects RX2 yX2_levelOf yX2_levelOf, Cond.initialized RX2, Cond.code yX2_levelOf cX2_levelOf 2 (some .int), Cond.fieldLink RX2 9 "FaultyCube$Safety" "levels" "[I", Cond.static yX6_read, Cond.code yX6_read cX6_read 2 (some .int), Cond.methodLink RX6 251 yX2_bestLevel, Cond.instanceMethod yX2_bestLevel, Cond.selects RX2 yX2_bestLevel yX2_bestLevel, Cond.code yX2_bestLevel cX2_bestLevel 4 (some .int), Cond.methodLink RX2 86 yX2_bestDimension, Cond.instanceMethod yX2_bestDimension, Cond.selects RX2 yX2_bestDimension yX2_bestDimension, Cond.code yX2_bestDimension cX2_bestDimension 6 (some .int), Cond.fieldLink RX2 22 "FaultyCube$Safety" "dimension" "I", Cond.static yX6_hasBit, Cond.code yX6_hasBit cX6_hasBit 2 (some .boolean), Cond.static yX6_neighbour, Cond.code yX6_neighbour cX6_neighbour 2 (some .int)]
def wsL_isRoute_r5 : List Cond := [Cond.methodLink RX2 83 yX2_levelOf, Cond.methodLink RX6 254 yX2_spareOf, Cond.instanceMethod yX2_spareOf, Cond.selects RX2 yX2_spareOf yX2_spareOf, Cond.code yX2_spareOf cX2_spareOf 2 (some .int), Cond.methodLink RL 111 yL_routeLength, Cond.static yL_routeLength, Cond.codeWith yL_routeLength cL_routeLength 5 (some .int) [(0, 7, 10, 15), (0, 7, 16, 20)], Cond.methodLink RL 45 yX6_routeLength, Cond.instanceMethod yX6_routeLength, Cond.selects RX6 yX6_routeLength yX6_routeLength, Cond.code yX6_routeLength cX6_routeLength 3 (some .int), Cond.methodLink RX6 135 yX6_lengthOfRoute, Cond.instanceMethod yX6_lengthOfRoute, Cond.selects RX6 yX6_lengthOfRoute yX6_lengthOfRoute, Cond.code yX6_lengthOfRoute cX6_lengthOfRoute 5 (some .int), Cond.methodLink RL 113 yL_ones, Cond.static yL_ones, Cond.code yL_ones cL_ones 3 (some .int), Cond.methodLink RL 116 yL_routeNode, Cond.static yL_routeNode, Cond.codeWith yL_routeNode cL_routeNode 6 (some .int) [(0, 9, 12, 15), (0, 9, 18, 20)], Cond.methodLink RL 48 yX6_routeNode, Cond.instanceMethod yX6_routeNode]
def wsL_isRoute_r6 : List Cond := [Cond.selects RX6 yX6_routeNode yX6_routeNode, Cond.code yX6_routeNode cX6_routeNode 4 (some .int), Cond.methodLink RX6 140 yX6_nodeOfRoute, Cond.instanceMethod yX6_nodeOfRoute, Cond.selects RX6 yX6_nodeOfRoute yX6_nodeOfRoute, Cond.code yX6_nodeOfRoute cX6_nodeOfRoute 9 (some .int), Cond.methodLink RX6 257 yX2_bestDimension, Cond.methodLink RX6 260 yX6_neighbour]
def wsL_isRoute : List Cond := .code yL_isRoute cL_isRoute 10 (some .boolean) :: ((wsL_isRoute_r1 ++ (wsL_isRoute_r2 ++ (wsL_isRoute_r3 ++ (wsL_isRoute_r4 ++ (wsL_isRoute_r5 ++ wsL_isRoute_r6))))) ++ wsX60 ++ wsX30 ++ wsX20 ++ (vx_atS RX6 62 "java/lang/IllegalArgumentException" ["java/lang/RuntimeException", "java/lang/Exception"]).filter goodWord ++ (vx_atS RX6 95 "java/lang/IllegalStateException" ["java/lang/RuntimeException", "java/lang/Exception"]).filter goodWord)
def wsL_alive : List Cond := .code yL_alive cL_alive 4 (some .int) :: ([.methodLink RL 97 yL_isAlive, .static yL_isAlive, .initialized RL, .codeWith yL_isAlive cL_isAlive 4 (some .int) [(0, 14, 17, 15)], .classLink RL 15 "java/lang/IllegalArgumentException", .methodLink RL 25 yX6_isAlive, .instanceMethod yX6_isAlive, .selects RX6 yX6_isAlive yX6_isAlive, .initialized RX6, .code yX6_isAlive cX6_isAlive 2 (some .boolean), .fieldLink RX6 10 "FaultyCube" "now" "LFaultyCube$Situation;", .methodLink RX6 73 yX6_requireNode, .instanceMethod yX6_requireNode, .selects RX6 yX6_requireNode yX6_requireNode, .code yX6_requireNode cX6_requireNode 2 none, .classLink RX6 58 "java/lang/IllegalArgumentException", .initialized "java/lang/IllegalArgumentException", .methodLink RX6 96 yX6_nodeCount, .instanceMethod yX6_nodeCount, .selects RX6 yX6_nodeCount yX6_nodeCount, .code yX6_nodeCount cX6_nodeCount 1 (some .int), .methodLink RX6 87 yX6_contains, .static yX6_contains, .code yX6_contains cX6_contains 3 (some .boolean)] ++ wsX60 ++ wsX30 ++ (vx_atS RX6 62 "java/lang/IllegalArgumentException" ["java/lang/RuntimeException", "java/lang/Exception"]).filter goodWord)
def wsL_isBroadcast_r1 : List Cond := [Cond.methodLink RL 119 yL_broadcastTime, Cond.static yL_broadcastTime, Cond.initialized RL, Cond.codeWith yL_broadcastTime cL_broadcastTime 5 (some .int) [(0, 7, 10, 15), (0, 7, 16, 20)], Cond.classLink RL 15 "java/lang/IllegalArgumentException", Cond.classLink RL 20 "java/lang/IllegalStateException", Cond.methodLink RL 55 yX6_broadcastTime, Cond.instanceMethod yX6_broadcastTime, Cond.selects RX6 yX6_broadcastTime yX6_broadcastTime, Cond.initialized RX6, Cond.code yX6_broadcastTime cX6_broadcastTime 3 (some .int), Cond.fieldLink RX6 33 "FaultyCube" "broadcast" "LFaultyCube$Broadcast;", Cond.fieldLink RX6 10 "FaultyCube" "now" "LFaultyCube$Situation;", Cond.fieldLink RX6 26 "FaultyCube" "safety" "LFaultyCube$Safety;", Cond.methodLink RX6 73 yX6_requireNode, Cond.instanceMethod yX6_requireNode, Cond.selects RX6 yX6_requireNode yX6_requireNode, Cond.code yX6_requireNode cX6_requireNode 2 none, Cond.classLink RX6 58 "java/lang/IllegalArgumentException", Cond.initialized "java/lang/IllegalArgumentException", Cond.methodLink RX6 96 yX6_nodeCount, Cond.instanceMethod yX6_nodeCount, Cond.selects RX6 yX6_nodeCount yX6_nodeCount, Cond.code yX6_nodeCount cX6_nodeCount 1 (some .int)]
def wsL_isBroadcast_r2 : List Cond := [Cond.methodLink RX6 76 yX6_requireAlive, Cond.instanceMethod yX6_requireAlive, Cond.selects RX6 yX6_requireAlive yX6_requireAlive, Cond.code yX6_requireAlive cX6_requireAlive 2 none, Cond.classLink RX6 91 "java/lang/IllegalStateException", Cond.initialized "java/lang/IllegalStateException", Cond.methodLink RX6 87 yX6_contains, Cond.static yX6_contains, Cond.code yX6_contains cX6_contains 3 (some .boolean), Cond.methodLink RX6 146 yX0_run, Cond.instanceMethod yX0_run, Cond.selects RX0 yX0_run yX0_run, Cond.initialized RX0, Cond.code yX0_run cX0_run 6 none, Cond.fieldLink RX0 9 "FaultyCube$Broadcast" "times" "[I", Cond.fieldLink RX0 27 "FaultyCube$Broadcast" "receivers" "I", Cond.fieldLink RX0 18 "FaultyCube$Broadcast" "queue" "[I", Cond.methodLink RX0 21 yJ7_fill_53178, Cond.static yJ7_fill_53178, Cond.initialized RJ7, Cond.code yJ7_fill_53178 cJ7_fill_53178 4 none, Cond.methodLink RX0 31 yX2_spareOf, Cond.instanceMethod yX2_spareOf, Cond.selects RX2 yX2_spareOf yX2_spareOf]
def wsL_isBroadcast_r3 : List Cond := [Cond.initialized RX2, Cond.code yX2_spareOf cX2_spareOf 2 (some .int), Cond.fieldLink RX2 22 "FaultyCube$Safety" "dimension" "I", Cond.methodLink RX0 37 yX0_receive, Cond.instanceMethod yX0_receive, Cond.selects RX0 yX0_receive yX0_receive, Cond.code yX0_receive cX0_receive 4 none, Cond.fieldLink RX0 15 "FaultyCube$Broadcast" "lists" "[I", Cond.static yX6_write, Cond.code yX6_write cX6_write 3 none, Cond.static yX6_read, Cond.code yX6_read cX6_read 2 (some .int), Cond.methodLink RX0 45 yX0_passOn, Cond.instanceMethod yX0_passOn, Cond.selects RX0 yX0_passOn yX0_passOn, Cond.code yX0_passOn cX0_passOn 9 none, Cond.methodLink RX0 49 yX2_bestDimension, Cond.instanceMethod yX2_bestDimension, Cond.selects RX2 yX2_bestDimension yX2_bestDimension, Cond.code yX2_bestDimension cX2_bestDimension 6 (some .int), Cond.static yX6_hasBit, Cond.code yX6_hasBit cX6_hasBit 2 (some .boolean), Cond.static yX6_neighbour, Cond.code yX6_neighbour cX6_neighbour 2 (some .int)]
def wsL_isBroadcast_r4 : List Cond := [Cond.methodLink RX2 83 yX2_levelOf, Cond.instanceMethod yX2_levelOf, Cond.selects RX2 yX2_levelOf yX2_levelOf, Cond.code yX2_levelOf cX2_levelOf 2 (some .int), Cond.fieldLink RX2 9 "FaultyCube$Safety" "levels" "[I", Cond.methodLink RX0 60 yX0_timeOf, Cond.instanceMethod yX0_timeOf, Cond.selects RX0 yX0_timeOf yX0_timeOf, Cond.code yX0_timeOf cX0_timeOf 2 (some .int), Cond.methodLink RX6 150 yX0_timeOf, Cond.methodLink RL 113 yL_ones, Cond.static yL_ones, Cond.code yL_ones cL_ones 3 (some .int), Cond.methodLink RL 97 yL_isAlive, Cond.static yL_isAlive, Cond.codeWith yL_isAlive cL_isAlive 4 (some .int) [(0, 14, 17, 15)], Cond.methodLink RL 25 yX6_isAlive, Cond.instanceMethod yX6_isAlive, Cond.selects RX6 yX6_isAlive yX6_isAlive, Cond.code yX6_isAlive cX6_isAlive 2 (some .boolean), Cond.methodLink RL 121 yL_broadcastSize, Cond.static yL_broadcastSize, Cond.codeWith yL_broadcastSize cL_broadcastSize 4 (some .int) [(0, 6, 9, 15), (0, 6, 14, 20)], Cond.methodLink RL 58 yX6_broadcastSize]
def wsL_isBroadcast_r5 : List Cond := [Cond.instanceMethod yX6_broadcastSize, Cond.selects RX6 yX6_broadcastSize yX6_broadcastSize, Cond.code yX6_broadcastSize cX6_broadcastSize 2 (some .int), Cond.methodLink RL 123 yL_reach, Cond.static yL_reach, Cond.codeWith yL_reach cL_reach 5 (some .int) [(0, 7, 10, 15), (0, 7, 16, 20)], Cond.methodLink RL 52 yX6_reach, Cond.instanceMethod yX6_reach, Cond.selects RX6 yX6_reach yX6_reach, Cond.code yX6_reach cX6_reach 5 (some .int), Cond.methodLink RX6 132 yX6_decision, Cond.instanceMethod yX6_decision, Cond.selects RX6 yX6_decision yX6_decision, Cond.code yX6_decision cX6_decision 5 (some .int), Cond.methodLink RX6 107 yJ6_bitCount_0f7a4, Cond.static yJ6_bitCount_0f7a4, Cond.initialized RJ6, Cond.code yJ6_bitCount_0f7a4 cJ6_bitCount_0f7a4 1 (some .int), Cond.constant RJ6 265 (1431655765), Cond.constant RJ6 266 (858993459), Cond.constant RJ6 267 (252645135), Cond.methodLink RX6 120 yX2_levelOf, Cond.methodLink RX6 251 yX2_bestLevel, Cond.instanceMethod yX2_bestLevel]
def wsL_isBroadcast_r6 : List Cond := [Cond.selects RX2 yX2_bestLevel yX2_bestLevel, Cond.code yX2_bestLevel cX2_bestLevel 4 (some .int), Cond.methodLink RX2 86 yX2_bestDimension, Cond.methodLink RX6 254 yX2_spareOf, Cond.methodLink RL 125 yL_alive, Cond.static yL_alive, Cond.code yL_alive cL_alive 4 (some .int)]
def wsL_isBroadcast : List Cond := .code yL_isBroadcast cL_isBroadcast 7 (some .boolean) :: ((wsL_isBroadcast_r1 ++ (wsL_isBroadcast_r2 ++ (wsL_isBroadcast_r3 ++ (wsL_isBroadcast_r4 ++ (wsL_isBroadcast_r5 ++ wsL_isBroadcast_r6))))) ++ wsX60 ++ wsX30 ++ wsX00 ++ wsX20 ++ (vx_atS RX6 62 "java/lang/IllegalArgumentException" ["java/lang/RuntimeException", "java/lang/Exception"]).filter goodWord ++ (vx_atS RX6 95 "java/lang/IllegalStateException" ["java/lang/RuntimeException", "java/lang/Exception"]).filter goodWord)
def wsL_arePaths_r1 : List Cond := [Cond.methodLink RL 128 yL_disjointPaths, Cond.static yL_disjointPaths, Cond.initialized RL, Cond.codeWith yL_disjointPaths cL_disjointPaths 5 (some .int) [(0, 7, 10, 15), (0, 7, 16, 20)], Cond.classLink RL 15 "java/lang/IllegalArgumentException", Cond.classLink RL 20 "java/lang/IllegalStateException", Cond.methodLink RL 64 yX6_disjointPaths, Cond.instanceMethod yX6_disjointPaths, Cond.selects RX6 yX6_disjointPaths yX6_disjointPaths, Cond.initialized RX6, Cond.code yX6_disjointPaths cX6_disjointPaths 3 (some .int), Cond.classLink RX6 58 "java/lang/IllegalArgumentException", Cond.initialized "java/lang/IllegalArgumentException", Cond.fieldLink RX6 40 "FaultyCube" "packing" "LFaultyCube$PathPacking;", Cond.fieldLink RX6 10 "FaultyCube" "now" "LFaultyCube$Situation;", Cond.methodLink RX6 73 yX6_requireNode, Cond.instanceMethod yX6_requireNode, Cond.selects RX6 yX6_requireNode yX6_requireNode, Cond.code yX6_requireNode cX6_requireNode 2 none, Cond.methodLink RX6 96 yX6_nodeCount, Cond.instanceMethod yX6_nodeCount, Cond.selects RX6 yX6_nodeCount yX6_nodeCount, Cond.code yX6_nodeCount cX6_nodeCount 1 (some .int), Cond.methodLink RX6 76 yX6_requireAlive]
def wsL_arePaths_r2 : List Cond := [Cond.instanceMethod yX6_requireAlive, Cond.selects RX6 yX6_requireAlive yX6_requireAlive, Cond.code yX6_requireAlive cX6_requireAlive 2 none, Cond.classLink RX6 91 "java/lang/IllegalStateException", Cond.initialized "java/lang/IllegalStateException", Cond.methodLink RX6 87 yX6_contains, Cond.static yX6_contains, Cond.code yX6_contains cX6_contains 3 (some .boolean), Cond.methodLink RX6 167 yX1_largest, Cond.instanceMethod yX1_largest, Cond.selects RX1 yX1_largest yX1_largest, Cond.initialized RX1, Cond.code yX1_largest cX1_largest 8 (some .int), Cond.fieldLink RX1 21 "FaultyCube$PathPacking" "source" "I", Cond.fieldLink RX1 25 "FaultyCube$PathPacking" "goal" "I", Cond.fieldLink RX1 28 "FaultyCube$PathPacking" "dimension" "I", Cond.fieldLink RX1 31 "FaultyCube$PathPacking" "alive" "J", Cond.fieldLink RX1 9 "FaultyCube$PathPacking" "leaving" "[I", Cond.methodLink RX1 35 yJ7_fill_53178, Cond.static yJ7_fill_53178, Cond.initialized RJ7, Cond.code yJ7_fill_53178 cJ7_fill_53178 4 none, Cond.methodLink RX1 41 yX1_findsPath, Cond.instanceMethod yX1_findsPath]
def wsL_arePaths_r3 : List Cond := [Cond.selects RX1 yX1_findsPath yX1_findsPath, Cond.code yX1_findsPath cX1_findsPath 3 (some .boolean), Cond.fieldLink RX1 15 "FaultyCube$PathPacking" "cameFrom" "[I", Cond.fieldLink RX1 48 "FaultyCube$PathPacking" "found" "I", Cond.fieldLink RX1 18 "FaultyCube$PathPacking" "queue" "[I", Cond.methodLink RX1 51 yX1_exit, Cond.static yX1_exit, Cond.code yX1_exit cX1_exit 1 (some .int), Cond.methodLink RX1 55 yX1_discover, Cond.instanceMethod yX1_discover, Cond.selects RX1 yX1_discover yX1_discover, Cond.code yX1_discover cX1_discover 3 none, Cond.static yX6_read, Cond.code yX6_read cX6_read 2 (some .int), Cond.static yX6_write, Cond.code yX6_write cX6_write 3 none, Cond.methodLink RX1 59 yX1_entry, Cond.static yX1_entry, Cond.code yX1_entry cX1_entry 1 (some .int), Cond.methodLink RX1 62 yX1_searchFromEntry, Cond.instanceMethod yX1_searchFromEntry, Cond.selects RX1 yX1_searchFromEntry yX1_searchFromEntry, Cond.code yX1_searchFromEntry cX1_searchFromEntry 4 none, Cond.static yX6_neighbour]
def wsL_arePaths_r4 : List Cond := [Cond.code yX6_neighbour cX6_neighbour 2 (some .int), Cond.static yX6_hasBit, Cond.code yX6_hasBit cX6_hasBit 2 (some .boolean), Cond.methodLink RX1 66 yX1_searchFromExit, Cond.instanceMethod yX1_searchFromExit, Cond.selects RX1 yX1_searchFromExit yX1_searchFromExit, Cond.code yX1_searchFromExit cX1_searchFromExit 5 none, Cond.methodLink RX1 45 yX1_addPath, Cond.instanceMethod yX1_addPath, Cond.selects RX1 yX1_addPath yX1_addPath, Cond.code yX1_addPath cX1_addPath 6 none, Cond.methodLink RL 97 yL_isAlive, Cond.static yL_isAlive, Cond.codeWith yL_isAlive cL_isAlive 4 (some .int) [(0, 14, 17, 15)], Cond.methodLink RL 25 yX6_isAlive, Cond.instanceMethod yX6_isAlive, Cond.selects RX6 yX6_isAlive yX6_isAlive, Cond.code yX6_isAlive cX6_isAlive 2 (some .boolean), Cond.methodLink RL 107 yL_shortest, Cond.static yL_shortest, Cond.codeWith yL_shortest cL_shortest 5 (some .int) [(0, 7, 10, 15), (0, 7, 16, 20)], Cond.methodLink RL 33 yX6_shortest, Cond.instanceMethod yX6_shortest, Cond.selects RX6 yX6_shortest yX6_shortest]
def wsL_arePaths_r5 : List Cond := [Cond.code yX6_shortest cX6_shortest 6 (some .int), Cond.methodLink RX6 112 yX6_requireLivingPair, Cond.instanceMethod yX6_requireLivingPair, Cond.selects RX6 yX6_requireLivingPair yX6_requireLivingPair, Cond.code yX6_requireLivingPair cX6_requireLivingPair 3 none, Cond.methodLink RX6 116 yX6_neighboursOfSet, Cond.static yX6_neighboursOfSet, Cond.code yX6_neighboursOfSet cX6_neighboursOfSet 8 (some .long), Cond.methodLink RX6 267 yX6_lowNodes, Cond.static yX6_lowNodes, Cond.code yX6_lowNodes cX6_lowNodes 1 (some .long), Cond.fieldLink RX6 270 "FaultyCube" "LOW_NODES" "[J", Cond.methodLink RL 125 yL_alive, Cond.static yL_alive, Cond.code yL_alive cL_alive 4 (some .int)]
def wsL_arePaths : List Cond := .code yL_arePaths cL_arePaths 8 (some .boolean) :: ((wsL_arePaths_r1 ++ (wsL_arePaths_r2 ++ (wsL_arePaths_r3 ++ (wsL_arePaths_r4 ++ wsL_arePaths_r5)))) ++ wsX60 ++ wsX30 ++ wsX10 ++ (vx_atS RX6 62 "java/lang/IllegalArgumentException" ["java/lang/RuntimeException", "java/lang/Exception"]).filter goodWord ++ (vx_atS RX6 95 "java/lang/IllegalStateException" ["java/lang/RuntimeException", "java/lang/Exception"]).filter goodWord)
def wsL_areSubcubes_r1 : List Cond := [Cond.methodLink RL 125 yL_alive, Cond.static yL_alive, Cond.initialized RL, Cond.code yL_alive cL_alive 4 (some .int), Cond.methodLink RL 97 yL_isAlive, Cond.static yL_isAlive, Cond.codeWith yL_isAlive cL_isAlive 4 (some .int) [(0, 14, 17, 15)], Cond.classLink RL 15 "java/lang/IllegalArgumentException", Cond.methodLink RL 25 yX6_isAlive, Cond.instanceMethod yX6_isAlive, Cond.selects RX6 yX6_isAlive yX6_isAlive, Cond.initialized RX6, Cond.code yX6_isAlive cX6_isAlive 2 (some .boolean), Cond.fieldLink RX6 10 "FaultyCube" "now" "LFaultyCube$Situation;", Cond.methodLink RX6 73 yX6_requireNode, Cond.instanceMethod yX6_requireNode, Cond.selects RX6 yX6_requireNode yX6_requireNode, Cond.code yX6_requireNode cX6_requireNode 2 none, Cond.classLink RX6 58 "java/lang/IllegalArgumentException", Cond.initialized "java/lang/IllegalArgumentException", Cond.methodLink RX6 96 yX6_nodeCount, Cond.instanceMethod yX6_nodeCount, Cond.selects RX6 yX6_nodeCount yX6_nodeCount, Cond.code yX6_nodeCount cX6_nodeCount 1 (some .int)]
def wsL_areSubcubes_r2 : List Cond := [Cond.methodLink RX6 87 yX6_contains, Cond.static yX6_contains, Cond.code yX6_contains cX6_contains 3 (some .boolean), Cond.methodLink RL 130 yX6_largestSubcube, Cond.instanceMethod yX6_largestSubcube, Cond.selects RX6 yX6_largestSubcube yX6_largestSubcube, Cond.code yX6_largestSubcube cX6_largestSubcube 6 (some .int), Cond.methodLink RX6 158 yX6_freeBases, Cond.instanceMethod yX6_freeBases, Cond.selects RX6 yX6_freeBases yX6_freeBases, Cond.code yX6_freeBases cX6_freeBases 5 (some .long), Cond.methodLink RX6 263 yX6_hasBit, Cond.static yX6_hasBit, Cond.code yX6_hasBit cX6_hasBit 2 (some .boolean), Cond.methodLink RX6 267 yX6_lowNodes, Cond.static yX6_lowNodes, Cond.code yX6_lowNodes cX6_lowNodes 1 (some .long), Cond.fieldLink RX6 270 "FaultyCube" "LOW_NODES" "[J", Cond.methodLink RX6 107 yJ6_bitCount_0f7a4, Cond.static yJ6_bitCount_0f7a4, Cond.initialized RJ6, Cond.code yJ6_bitCount_0f7a4 cJ6_bitCount_0f7a4 1 (some .int), Cond.constant RJ6 265 (1431655765), Cond.constant RJ6 266 (858993459)]
def wsL_areSubcubes_r3 : List Cond := [Cond.constant RJ6 267 (252645135), Cond.methodLink RX6 162 yX6_leastNode, Cond.static yX6_leastNode, Cond.code yX6_leastNode cX6_leastNode 2 (some .int), Cond.methodLink RX6 100 yJ13_bitCount_95d88, Cond.static yJ13_bitCount_95d88, Cond.initialized RJ13, Cond.code yJ13_bitCount_95d88 cJ13_bitCount_95d88 2 (some .int), Cond.constantLong RJ13 314 (6148914691236517205), Cond.constantLong RJ13 316 (3689348814741910323), Cond.constantLong RJ13 318 (1085102592571150095), Cond.methodLink RL 133 yL_freeSubcubes, Cond.static yL_freeSubcubes, Cond.codeWith yL_freeSubcubes cL_freeSubcubes 4 (some .int) [(0, 6, 9, 15)], Cond.methodLink RL 61 yX6_freeSubcubes, Cond.instanceMethod yX6_freeSubcubes, Cond.selects RX6 yX6_freeSubcubes yX6_freeSubcubes, Cond.code yX6_freeSubcubes cX6_freeSubcubes 4 (some .int), Cond.methodLink RL 113 yL_ones, Cond.static yL_ones, Cond.code yL_ones cL_ones 3 (some .int)]
def wsL_areSubcubes : List Cond := .code yL_areSubcubes cL_areSubcubes 8 (some .boolean) :: ((wsL_areSubcubes_r1 ++ (wsL_areSubcubes_r2 ++ wsL_areSubcubes_r3)) ++ wsX60 ++ wsX30 ++ (vx_atS RX6 62 "java/lang/IllegalArgumentException" ["java/lang/RuntimeException", "java/lang/Exception"]).filter goodWord)
def wsL_print_r1 : List Cond := [Cond.constantLong RL 135 (31), Cond.methodLink RL 89 yX6_rounds, Cond.instanceMethod yX6_rounds, Cond.selects RX6 yX6_rounds yX6_rounds, Cond.initialized RX6, Cond.code yX6_rounds cX6_rounds 1 (some .int), Cond.fieldLink RX6 26 "FaultyCube" "safety" "LFaultyCube$Safety;", Cond.methodLink RL 102 yX6_safeNodes, Cond.instanceMethod yX6_safeNodes, Cond.selects RX6 yX6_safeNodes yX6_safeNodes, Cond.code yX6_safeNodes cX6_safeNodes 3 (some .int), Cond.fieldLink RX6 10 "FaultyCube" "now" "LFaultyCube$Situation;", Cond.methodLink RX6 96 yX6_nodeCount, Cond.instanceMethod yX6_nodeCount, Cond.selects RX6 yX6_nodeCount yX6_nodeCount, Cond.code yX6_nodeCount cX6_nodeCount 1 (some .int), Cond.methodLink RX6 120 yX2_levelOf, Cond.instanceMethod yX2_levelOf, Cond.selects RX2 yX2_levelOf yX2_levelOf, Cond.initialized RX2, Cond.code yX2_levelOf cX2_levelOf 2 (some .int), Cond.fieldLink RX2 9 "FaultyCube$Safety" "levels" "[I", Cond.static yX6_read, Cond.code yX6_read cX6_read 2 (some .int)]
def wsL_print_r2 : List Cond := [Cond.methodLink RL 130 yX6_largestSubcube, Cond.instanceMethod yX6_largestSubcube, Cond.selects RX6 yX6_largestSubcube yX6_largestSubcube, Cond.code yX6_largestSubcube cX6_largestSubcube 6 (some .int), Cond.methodLink RX6 158 yX6_freeBases, Cond.instanceMethod yX6_freeBases, Cond.selects RX6 yX6_freeBases yX6_freeBases, Cond.code yX6_freeBases cX6_freeBases 5 (some .long), Cond.methodLink RX6 263 yX6_hasBit, Cond.static yX6_hasBit, Cond.code yX6_hasBit cX6_hasBit 2 (some .boolean), Cond.methodLink RX6 267 yX6_lowNodes, Cond.static yX6_lowNodes, Cond.code yX6_lowNodes cX6_lowNodes 1 (some .long), Cond.fieldLink RX6 270 "FaultyCube" "LOW_NODES" "[J", Cond.methodLink RX6 107 yJ6_bitCount_0f7a4, Cond.static yJ6_bitCount_0f7a4, Cond.initialized RJ6, Cond.code yJ6_bitCount_0f7a4 cJ6_bitCount_0f7a4 1 (some .int), Cond.constant RJ6 265 (1431655765), Cond.constant RJ6 266 (858993459), Cond.constant RJ6 267 (252645135), Cond.methodLink RX6 162 yX6_leastNode, Cond.static yX6_leastNode]
def wsL_print_r3 : List Cond := [Cond.code yX6_leastNode cX6_leastNode 2 (some .int), Cond.methodLink RX6 100 yJ13_bitCount_95d88, Cond.static yJ13_bitCount_95d88, Cond.initialized RJ13, Cond.code yJ13_bitCount_95d88 cJ13_bitCount_95d88 2 (some .int), Cond.constantLong RJ13 314 (6148914691236517205), Cond.constantLong RJ13 316 (3689348814741910323), Cond.constantLong RJ13 318 (1085102592571150095), Cond.methodLink RL 92 yL_level, Cond.static yL_level, Cond.initialized RL, Cond.codeWith yL_level cL_level 4 (some .int) [(0, 6, 9, 15)], Cond.classLink RL 15 "java/lang/IllegalArgumentException", Cond.methodLink RL 36 yX6_level, Cond.instanceMethod yX6_level, Cond.selects RX6 yX6_level yX6_level, Cond.code yX6_level cX6_level 2 (some .int), Cond.methodLink RX6 73 yX6_requireNode, Cond.instanceMethod yX6_requireNode, Cond.selects RX6 yX6_requireNode yX6_requireNode, Cond.code yX6_requireNode cX6_requireNode 2 none, Cond.classLink RX6 58 "java/lang/IllegalArgumentException", Cond.initialized "java/lang/IllegalArgumentException", Cond.methodLink RL 137 yL_state]
def wsL_print_r4 : List Cond := [Cond.static yL_state, Cond.codeWith yL_state cL_state 4 (some .int) [(0, 6, 9, 15)], Cond.methodLink RL 73 yX6_state, Cond.instanceMethod yX6_state, Cond.selects RX6 yX6_state yX6_state, Cond.code yX6_state cX6_state 2 (some .int), Cond.methodLink RX6 185 yX6_requireMessage, Cond.instanceMethod yX6_requireMessage, Cond.selects RX6 yX6_requireMessage yX6_requireMessage, Cond.code yX6_requireMessage cX6_requireMessage 2 none, Cond.methodLink RX6 192 yX6_read, Cond.methodLink RL 139 yL_position, Cond.static yL_position, Cond.codeWith yL_position cL_position 4 (some .int) [(0, 6, 9, 15)], Cond.methodLink RL 76 yX6_position, Cond.instanceMethod yX6_position, Cond.selects RX6 yX6_position yX6_position, Cond.code yX6_position cX6_position 2 (some .int), Cond.methodLink RL 141 yL_moves, Cond.static yL_moves, Cond.codeWith yL_moves cL_moves 4 (some .int) [(0, 6, 9, 15)], Cond.methodLink RL 79 yX6_moves, Cond.instanceMethod yX6_moves, Cond.selects RX6 yX6_moves yX6_moves]
def wsL_print_r5 : List Cond := [Cond.code yX6_moves cX6_moves 2 (some .int)]
def wsL_print : List Cond := .code yL_print cL_print 5 (some .long) :: ((wsL_print_r1 ++ (wsL_print_r2 ++ (wsL_print_r3 ++ (wsL_print_r4 ++ wsL_print_r5)))) ++ wsX60 ++ wsX20 ++ wsX30 ++ (vx_atS RX6 62 "java/lang/IllegalArgumentException" ["java/lang/RuntimeException", "java/lang/Exception"]).filter goodWord)
def wsL_refused_r1 : List Cond := [Cond.methodLink RL 143 yL_print, Cond.static yL_print, Cond.initialized RL, Cond.code yL_print cL_print 5 (some .long), Cond.constantLong RL 135 (31), Cond.methodLink RL 89 yX6_rounds, Cond.instanceMethod yX6_rounds, Cond.selects RX6 yX6_rounds yX6_rounds, Cond.initialized RX6, Cond.code yX6_rounds cX6_rounds 1 (some .int), Cond.fieldLink RX6 26 "FaultyCube" "safety" "LFaultyCube$Safety;", Cond.methodLink RL 102 yX6_safeNodes, Cond.instanceMethod yX6_safeNodes, Cond.selects RX6 yX6_safeNodes yX6_safeNodes, Cond.code yX6_safeNodes cX6_safeNodes 3 (some .int), Cond.fieldLink RX6 10 "FaultyCube" "now" "LFaultyCube$Situation;", Cond.methodLink RX6 96 yX6_nodeCount, Cond.instanceMethod yX6_nodeCount, Cond.selects RX6 yX6_nodeCount yX6_nodeCount, Cond.code yX6_nodeCount cX6_nodeCount 1 (some .int), Cond.methodLink RX6 120 yX2_levelOf, Cond.instanceMethod yX2_levelOf, Cond.selects RX2 yX2_levelOf yX2_levelOf, Cond.initialized RX2]
def wsL_refused_r2 : List Cond := [Cond.code yX2_levelOf cX2_levelOf 2 (some .int), Cond.fieldLink RX2 9 "FaultyCube$Safety" "levels" "[I", Cond.static yX6_read, Cond.code yX6_read cX6_read 2 (some .int), Cond.methodLink RL 130 yX6_largestSubcube, Cond.instanceMethod yX6_largestSubcube, Cond.selects RX6 yX6_largestSubcube yX6_largestSubcube, Cond.code yX6_largestSubcube cX6_largestSubcube 6 (some .int), Cond.methodLink RX6 158 yX6_freeBases, Cond.instanceMethod yX6_freeBases, Cond.selects RX6 yX6_freeBases yX6_freeBases, Cond.code yX6_freeBases cX6_freeBases 5 (some .long), Cond.methodLink RX6 263 yX6_hasBit, Cond.static yX6_hasBit, Cond.code yX6_hasBit cX6_hasBit 2 (some .boolean), Cond.methodLink RX6 267 yX6_lowNodes, Cond.static yX6_lowNodes, Cond.code yX6_lowNodes cX6_lowNodes 1 (some .long), Cond.fieldLink RX6 270 "FaultyCube" "LOW_NODES" "[J", Cond.methodLink RX6 107 yJ6_bitCount_0f7a4, Cond.static yJ6_bitCount_0f7a4, Cond.initialized RJ6, Cond.code yJ6_bitCount_0f7a4 cJ6_bitCount_0f7a4 1 (some .int), Cond.constant RJ6 265 (1431655765)]
def wsL_refused_r3 : List Cond := [Cond.constant RJ6 266 (858993459), Cond.constant RJ6 267 (252645135), Cond.methodLink RX6 162 yX6_leastNode, Cond.static yX6_leastNode, Cond.code yX6_leastNode cX6_leastNode 2 (some .int), Cond.methodLink RX6 100 yJ13_bitCount_95d88, Cond.static yJ13_bitCount_95d88, Cond.initialized RJ13, Cond.code yJ13_bitCount_95d88 cJ13_bitCount_95d88 2 (some .int), Cond.constantLong RJ13 314 (6148914691236517205), Cond.constantLong RJ13 316 (3689348814741910323), Cond.constantLong RJ13 318 (1085102592571150095), Cond.methodLink RL 92 yL_level, Cond.static yL_level, Cond.codeWith yL_level cL_level 4 (some .int) [(0, 6, 9, 15)], Cond.classLink RL 15 "java/lang/IllegalArgumentException", Cond.methodLink RL 36 yX6_level, Cond.instanceMethod yX6_level, Cond.selects RX6 yX6_level yX6_level, Cond.code yX6_level cX6_level 2 (some .int), Cond.methodLink RX6 73 yX6_requireNode, Cond.instanceMethod yX6_requireNode, Cond.selects RX6 yX6_requireNode yX6_requireNode, Cond.code yX6_requireNode cX6_requireNode 2 none]
def wsL_refused_r4 : List Cond := [Cond.classLink RX6 58 "java/lang/IllegalArgumentException", Cond.initialized "java/lang/IllegalArgumentException", Cond.methodLink RL 137 yL_state, Cond.static yL_state, Cond.codeWith yL_state cL_state 4 (some .int) [(0, 6, 9, 15)], Cond.methodLink RL 73 yX6_state, Cond.instanceMethod yX6_state, Cond.selects RX6 yX6_state yX6_state, Cond.code yX6_state cX6_state 2 (some .int), Cond.methodLink RX6 185 yX6_requireMessage, Cond.instanceMethod yX6_requireMessage, Cond.selects RX6 yX6_requireMessage yX6_requireMessage, Cond.code yX6_requireMessage cX6_requireMessage 2 none, Cond.methodLink RX6 192 yX6_read, Cond.methodLink RL 139 yL_position, Cond.static yL_position, Cond.codeWith yL_position cL_position 4 (some .int) [(0, 6, 9, 15)], Cond.methodLink RL 76 yX6_position, Cond.instanceMethod yX6_position, Cond.selects RX6 yX6_position yX6_position, Cond.code yX6_position cX6_position 2 (some .int), Cond.methodLink RL 141 yL_moves, Cond.static yL_moves, Cond.codeWith yL_moves cL_moves 4 (some .int) [(0, 6, 9, 15)]]
def wsL_refused_r5 : List Cond := [Cond.methodLink RL 79 yX6_moves, Cond.instanceMethod yX6_moves, Cond.selects RX6 yX6_moves yX6_moves, Cond.code yX6_moves cX6_moves 2 (some .int), Cond.methodLink RL 147 yL_setDimension, Cond.static yL_setDimension, Cond.codeWith yL_setDimension cL_setDimension 4 (some .int) [(0, 6, 9, 15)], Cond.methodLink RL 9 yX6_setDimension, Cond.instanceMethod yX6_setDimension, Cond.selects RX6 yX6_setDimension yX6_setDimension, Cond.code yX6_setDimension cX6_setDimension 3 (some .int), Cond.fieldLink RX6 19 "FaultyCube" "past" "LFaultyCube$UndoStack;", Cond.methodLink RX6 69 yX5_save, Cond.instanceMethod yX5_save, Cond.selects RX5 yX5_save yX5_save, Cond.initialized RX5, Cond.code yX5_save cX5_save 3 none, Cond.fieldLink RX5 18 "FaultyCube$UndoStack" "next" "I", Cond.fieldLink RX5 30 "FaultyCube$UndoStack" "size" "I", Cond.methodLink RX5 33 Lib.Math.min.name, Cond.static Lib.Math.min.name, Cond.initialized "java/lang/Math", Cond.code Lib.Math.min.name Lib.Math.min.code 2 (some .int), Cond.methodLink RX5 22 yX5_slotAt]
def wsL_refused_r6 : List Cond := [Cond.instanceMethod yX5_slotAt, Cond.selects RX5 yX5_slotAt yX5_slotAt, Cond.code yX5_slotAt cX5_slotAt 2 (some (.object "FaultyCube$Situation")), Cond.fieldLink RX5 11 "FaultyCube$UndoStack" "ring" "[LFaultyCube$Situation;", Cond.methodLink RX5 26 yX3_copyFrom, Cond.instanceMethod yX3_copyFrom, Cond.selects RX3 yX3_copyFrom yX3_copyFrom, Cond.initialized RX3, Cond.code yX3_copyFrom cX3_copyFrom 2 none, Cond.fieldLink RX3 27 "FaultyCube$Situation" "dimension" "I", Cond.fieldLink RX3 33 "FaultyCube$Situation" "alive" "J", Cond.fieldLink RX3 37 "FaultyCube$Situation" "steps" "I", Cond.fieldLink RX3 40 "FaultyCube$Situation" "messages" "I", Cond.fieldLink RX3 9 "FaultyCube$Situation" "states" "[I", Cond.methodLink RX3 43 arraycopyName, Cond.native arraycopyName, Cond.static arraycopyName, Cond.initialized "java/lang/System", Cond.fieldLink RX3 15 "FaultyCube$Situation" "positions" "[I", Cond.fieldLink RX3 18 "FaultyCube$Situation" "goals" "[I", Cond.fieldLink RX3 21 "FaultyCube$Situation" "moveCounts" "[I", Cond.fieldLink RX3 24 "FaultyCube$Situation" "detourCounts" "[I", Cond.methodLink RX6 51 yX3_restart, Cond.instanceMethod yX3_restart]
def wsL_refused_r7 : List Cond := [Cond.selects RX3 yX3_restart yX3_restart, Cond.code yX3_restart cX3_restart 2 none, Cond.constantLong RX3 31 (-1), Cond.methodLink RX6 55 yX6_refreshSafety, Cond.instanceMethod yX6_refreshSafety, Cond.selects RX6 yX6_refreshSafety yX6_refreshSafety, Cond.code yX6_refreshSafety cX6_refreshSafety 1 none, Cond.methodLink RX6 241 yX2_find, Cond.instanceMethod yX2_find, Cond.selects RX2 yX2_find yX2_find, Cond.code yX2_find cX2_find 6 none, Cond.fieldLink RX2 22 "FaultyCube$Safety" "dimension" "I", Cond.fieldLink RX2 30 "FaultyCube$Safety" "changingRounds" "I", Cond.methodLink RX2 26 yX2_startLevels, Cond.instanceMethod yX2_startLevels, Cond.selects RX2 yX2_startLevels yX2_startLevels, Cond.code yX2_startLevels cX2_startLevels 4 none, Cond.static yX6_contains, Cond.code yX6_contains cX6_contains 3 (some .boolean), Cond.static yX6_write, Cond.code yX6_write cX6_write 3 none, Cond.methodLink RX2 33 yX2_roundChanges, Cond.instanceMethod yX2_roundChanges, Cond.selects RX2 yX2_roundChanges yX2_roundChanges]
def wsL_refused_r8 : List Cond := [Cond.code yX2_roundChanges cX2_roundChanges 6 (some .boolean), Cond.fieldLink RX2 15 "FaultyCube$Safety" "levelsBefore" "[I", Cond.methodLink RX2 48 arraycopyName, Cond.methodLink RX2 54 yX2_levelAfterRound, Cond.instanceMethod yX2_levelAfterRound, Cond.selects RX2 yX2_levelAfterRound yX2_levelAfterRound, Cond.code yX2_levelAfterRound cX2_levelAfterRound 3 (some .int), Cond.methodLink RX2 62 yX2_neighboursBelow, Cond.instanceMethod yX2_neighboursBelow, Cond.selects RX2 yX2_neighboursBelow yX2_neighboursBelow, Cond.code yX2_neighboursBelow cX2_neighboursBelow 5 (some .int), Cond.static yX6_neighbour, Cond.code yX6_neighbour cX6_neighbour 2 (some .int), Cond.methodLink RX2 37 yX2_findVectors, Cond.instanceMethod yX2_findVectors, Cond.selects RX2 yX2_findVectors yX2_findVectors, Cond.code yX2_findVectors cX2_findVectors 6 none, Cond.fieldLink RX2 18 "FaultyCube$Safety" "vectorSets" "[J", Cond.methodLink RX2 69 yJ7_fill_d0a16, Cond.static yJ7_fill_d0a16, Cond.initialized RJ7, Cond.code yJ7_fill_d0a16 cJ7_fill_d0a16 5 none, Cond.methodLink RX2 75 yX2_withNeighboursAbove, Cond.instanceMethod yX2_withNeighboursAbove]
def wsL_refused_r9 : List Cond := [Cond.selects RX2 yX2_withNeighboursAbove yX2_withNeighboursAbove, Cond.code yX2_withNeighboursAbove cX2_withNeighboursAbove 9 (some .long), Cond.methodLink RL 149 yL_kill, Cond.static yL_kill, Cond.codeWith yL_kill cL_kill 4 (some .int) [(0, 6, 9, 15), (0, 6, 14, 20)], Cond.classLink RL 20 "java/lang/IllegalStateException", Cond.methodLink RL 17 yX6_kill, Cond.instanceMethod yX6_kill, Cond.selects RX6 yX6_kill yX6_kill, Cond.code yX6_kill cX6_kill 3 (some .int), Cond.methodLink RX6 76 yX6_requireAlive, Cond.instanceMethod yX6_requireAlive, Cond.selects RX6 yX6_requireAlive yX6_requireAlive, Cond.code yX6_requireAlive cX6_requireAlive 2 none, Cond.classLink RX6 91 "java/lang/IllegalStateException", Cond.initialized "java/lang/IllegalStateException", Cond.methodLink RX6 87 yX6_contains, Cond.methodLink RX6 79 yX3_letDie, Cond.instanceMethod yX3_letDie, Cond.selects RX3 yX3_letDie yX3_letDie, Cond.code yX3_letDie cX3_letDie 6 (some .int), Cond.methodLink RL 151 yL_revive, Cond.static yL_revive, Cond.codeWith yL_revive cL_revive 4 (some .int) [(0, 6, 9, 15), (0, 6, 14, 20)]]
def wsL_refused_r10 : List Cond := [Cond.methodLink RL 22 yX6_revive, Cond.instanceMethod yX6_revive, Cond.selects RX6 yX6_revive yX6_revive, Cond.code yX6_revive cX6_revive 2 (some .int), Cond.methodLink RL 105 yL_distance, Cond.static yL_distance, Cond.codeWith yL_distance cL_distance 5 (some .int) [(0, 7, 10, 15)], Cond.methodLink RL 29 yX6_distance, Cond.instanceMethod yX6_distance, Cond.selects RX6 yX6_distance yX6_distance, Cond.code yX6_distance cX6_distance 3 (some .int), Cond.methodLink RL 99 yL_vectorBit, Cond.static yL_vectorBit, Cond.codeWith yL_vectorBit cL_vectorBit 5 (some .int) [(0, 7, 10, 15)], Cond.methodLink RL 39 yX6_vectorBit, Cond.instanceMethod yX6_vectorBit, Cond.selects RX6 yX6_vectorBit yX6_vectorBit, Cond.code yX6_vectorBit cX6_vectorBit 3 (some .int), Cond.methodLink RX6 128 yX2_bitOf, Cond.instanceMethod yX2_bitOf, Cond.selects RX2 yX2_bitOf yX2_bitOf, Cond.code yX2_bitOf cX2_bitOf 4 (some .int), Cond.methodLink RL 116 yL_routeNode, Cond.static yL_routeNode]
def wsL_refused_r11 : List Cond := [Cond.codeWith yL_routeNode cL_routeNode 6 (some .int) [(0, 9, 12, 15), (0, 9, 18, 20)], Cond.methodLink RL 48 yX6_routeNode, Cond.instanceMethod yX6_routeNode, Cond.selects RX6 yX6_routeNode yX6_routeNode, Cond.code yX6_routeNode cX6_routeNode 4 (some .int), Cond.methodLink RX6 135 yX6_lengthOfRoute, Cond.instanceMethod yX6_lengthOfRoute, Cond.selects RX6 yX6_lengthOfRoute yX6_lengthOfRoute, Cond.code yX6_lengthOfRoute cX6_lengthOfRoute 5 (some .int), Cond.methodLink RX6 132 yX6_decision, Cond.instanceMethod yX6_decision, Cond.selects RX6 yX6_decision yX6_decision, Cond.code yX6_decision cX6_decision 5 (some .int), Cond.methodLink RX6 251 yX2_bestLevel, Cond.instanceMethod yX2_bestLevel, Cond.selects RX2 yX2_bestLevel yX2_bestLevel, Cond.code yX2_bestLevel cX2_bestLevel 4 (some .int), Cond.methodLink RX2 86 yX2_bestDimension, Cond.instanceMethod yX2_bestDimension, Cond.selects RX2 yX2_bestDimension yX2_bestDimension, Cond.code yX2_bestDimension cX2_bestDimension 6 (some .int), Cond.methodLink RX2 83 yX2_levelOf, Cond.methodLink RX6 254 yX2_spareOf, Cond.instanceMethod yX2_spareOf]
def wsL_refused_r12 : List Cond := [Cond.selects RX2 yX2_spareOf yX2_spareOf, Cond.code yX2_spareOf cX2_spareOf 2 (some .int), Cond.methodLink RX6 140 yX6_nodeOfRoute, Cond.instanceMethod yX6_nodeOfRoute, Cond.selects RX6 yX6_nodeOfRoute yX6_nodeOfRoute, Cond.code yX6_nodeOfRoute cX6_nodeOfRoute 9 (some .int), Cond.methodLink RX6 257 yX2_bestDimension, Cond.methodLink RX6 260 yX6_neighbour, Cond.methodLink RL 123 yL_reach, Cond.static yL_reach, Cond.codeWith yL_reach cL_reach 5 (some .int) [(0, 7, 10, 15), (0, 7, 16, 20)], Cond.methodLink RL 52 yX6_reach, Cond.instanceMethod yX6_reach, Cond.selects RX6 yX6_reach yX6_reach, Cond.code yX6_reach cX6_reach 5 (some .int), Cond.methodLink RL 133 yL_freeSubcubes, Cond.static yL_freeSubcubes, Cond.codeWith yL_freeSubcubes cL_freeSubcubes 4 (some .int) [(0, 6, 9, 15)], Cond.methodLink RL 61 yX6_freeSubcubes, Cond.instanceMethod yX6_freeSubcubes, Cond.selects RX6 yX6_freeSubcubes yX6_freeSubcubes, Cond.code yX6_freeSubcubes cX6_freeSubcubes 4 (some .int), Cond.methodLink RL 128 yL_disjointPaths, Cond.static yL_disjointPaths]
def wsL_refused_r13 : List Cond := [Cond.codeWith yL_disjointPaths cL_disjointPaths 5 (some .int) [(0, 7, 10, 15), (0, 7, 16, 20)], Cond.methodLink RL 64 yX6_disjointPaths, Cond.instanceMethod yX6_disjointPaths, Cond.selects RX6 yX6_disjointPaths yX6_disjointPaths, Cond.code yX6_disjointPaths cX6_disjointPaths 3 (some .int), Cond.fieldLink RX6 40 "FaultyCube" "packing" "LFaultyCube$PathPacking;", Cond.methodLink RX6 167 yX1_largest, Cond.instanceMethod yX1_largest, Cond.selects RX1 yX1_largest yX1_largest, Cond.initialized RX1, Cond.code yX1_largest cX1_largest 8 (some .int), Cond.fieldLink RX1 21 "FaultyCube$PathPacking" "source" "I", Cond.fieldLink RX1 25 "FaultyCube$PathPacking" "goal" "I", Cond.fieldLink RX1 28 "FaultyCube$PathPacking" "dimension" "I", Cond.fieldLink RX1 31 "FaultyCube$PathPacking" "alive" "J", Cond.fieldLink RX1 9 "FaultyCube$PathPacking" "leaving" "[I", Cond.methodLink RX1 35 yJ7_fill_53178, Cond.static yJ7_fill_53178, Cond.code yJ7_fill_53178 cJ7_fill_53178 4 none, Cond.methodLink RX1 41 yX1_findsPath, Cond.instanceMethod yX1_findsPath, Cond.selects RX1 yX1_findsPath yX1_findsPath, Cond.code yX1_findsPath cX1_findsPath 3 (some .boolean), Cond.fieldLink RX1 15 "FaultyCube$PathPacking" "cameFrom" "[I"]
def wsL_refused_r14 : List Cond := [Cond.fieldLink RX1 48 "FaultyCube$PathPacking" "found" "I", Cond.fieldLink RX1 18 "FaultyCube$PathPacking" "queue" "[I", Cond.methodLink RX1 51 yX1_exit, Cond.static yX1_exit, Cond.code yX1_exit cX1_exit 1 (some .int), Cond.methodLink RX1 55 yX1_discover, Cond.instanceMethod yX1_discover, Cond.selects RX1 yX1_discover yX1_discover, Cond.code yX1_discover cX1_discover 3 none, Cond.methodLink RX1 59 yX1_entry, Cond.static yX1_entry, Cond.code yX1_entry cX1_entry 1 (some .int), Cond.methodLink RX1 62 yX1_searchFromEntry, Cond.instanceMethod yX1_searchFromEntry, Cond.selects RX1 yX1_searchFromEntry yX1_searchFromEntry, Cond.code yX1_searchFromEntry cX1_searchFromEntry 4 none, Cond.methodLink RX1 66 yX1_searchFromExit, Cond.instanceMethod yX1_searchFromExit, Cond.selects RX1 yX1_searchFromExit yX1_searchFromExit, Cond.code yX1_searchFromExit cX1_searchFromExit 5 none, Cond.methodLink RX1 45 yX1_addPath, Cond.instanceMethod yX1_addPath, Cond.selects RX1 yX1_addPath yX1_addPath, Cond.code yX1_addPath cX1_addPath 6 none]
def wsL_refused_r15 : List Cond := [Cond.methodLink RL 153 yL_send, Cond.static yL_send, Cond.codeWith yL_send cL_send 5 (some .int) [(0, 7, 10, 15), (0, 7, 16, 20)], Cond.methodLink RL 67 yX6_send, Cond.instanceMethod yX6_send, Cond.selects RX6 yX6_send yX6_send, Cond.code yX6_send cX6_send 3 (some .int), Cond.methodLink RX6 112 yX6_requireLivingPair, Cond.instanceMethod yX6_requireLivingPair, Cond.selects RX6 yX6_requireLivingPair yX6_requireLivingPair, Cond.code yX6_requireLivingPair cX6_requireLivingPair 3 none, Cond.methodLink RX6 176 yX3_addMessage, Cond.instanceMethod yX3_addMessage, Cond.selects RX3 yX3_addMessage yX3_addMessage, Cond.code yX3_addMessage cX3_addMessage 4 (some .int), Cond.methodLink RL 155 yL_step, Cond.static yL_step, Cond.codeWith yL_step cL_step 4 (some .int) [(0, 6, 9, 15)], Cond.methodLink RL 70 yX6_step, Cond.instanceMethod yX6_step, Cond.selects RX6 yX6_step yX6_step, Cond.code yX6_step cX6_step 4 (some .int), Cond.fieldLink RX6 47 "FaultyCube" "traffic" "LFaultyCube$Traffic;", Cond.methodLink RX6 181 yX4_oneStep]
def wsL_refused_r16 : List Cond := [Cond.instanceMethod yX4_oneStep, Cond.selects RX4 yX4_oneStep yX4_oneStep, Cond.initialized RX4, Cond.code yX4_oneStep cX4_oneStep 5 (some .int), Cond.fieldLink RX4 9 "FaultyCube$Traffic" "usedWays" "[I", Cond.methodLink RX4 15 yJ7_fill_53178, Cond.methodLink RX4 34 yX4_moved, Cond.instanceMethod yX4_moved, Cond.selects RX4 yX4_moved yX4_moved, Cond.code yX4_moved cX4_moved 9 (some .boolean), Cond.methodLink RX4 47 yX2_bestLevel, Cond.methodLink RX4 53 yX2_spareOf, Cond.methodLink RX4 60 yX2_bestDimension, Cond.methodLink RX4 74 yX4_move, Cond.instanceMethod yX4_move, Cond.selects RX4 yX4_move yX4_move, Cond.code yX4_move cX4_move 5 none, Cond.methodLink RL 157 yL_count, Cond.static yL_count, Cond.codeWith yL_count cL_count 4 (some .int) [(0, 6, 9, 15)], Cond.methodLink RL 82 yX6_count, Cond.instanceMethod yX6_count, Cond.selects RX6 yX6_count yX6_count, Cond.code yX6_count cX6_count 4 (some .int)]
def wsL_refused : List Cond := .code yL_refused cL_refused 6 (some .boolean) :: ((wsL_refused_r1 ++ (wsL_refused_r2 ++ (wsL_refused_r3 ++ (wsL_refused_r4 ++ (wsL_refused_r5 ++ (wsL_refused_r6 ++ (wsL_refused_r7 ++ (wsL_refused_r8 ++ (wsL_refused_r9 ++ (wsL_refused_r10 ++ (wsL_refused_r11 ++ (wsL_refused_r12 ++ (wsL_refused_r13 ++ (wsL_refused_r14 ++ (wsL_refused_r15 ++ wsL_refused_r16))))))))))))))) ++ wsX60 ++ wsX20 ++ wsX30 ++ wsX50 ++ wsX10 ++ wsX40 ++ (vx_atS RX6 62 "java/lang/IllegalArgumentException" ["java/lang/RuntimeException", "java/lang/Exception"]).filter goodWord ++ (vx_atS RX6 95 "java/lang/IllegalStateException" ["java/lang/RuntimeException", "java/lang/Exception"]).filter goodWord)
def wsL_law0_r1 : List Cond := [Cond.classLink RL 10 RX6, Cond.instantiable RX6 6, Cond.initialized RX6, Cond.arrayClass .int, Cond.methodLink RL 159 yX6_init, Cond.instanceMethod yX6_init, Cond.code yX6_init cX6_init 1 none, Cond.methodLink RX6 1 objectInit, Cond.instanceMethod objectInit, Cond.code objectInit ⟨#[0xb1]⟩ 1 none, Cond.classLink RX6 7 RX3, Cond.instantiable RX3 9, Cond.initialized RX3, Cond.fieldLink RX6 10 "FaultyCube" "now" "LFaultyCube$Situation;", Cond.classLink RX6 16 RX5, Cond.instantiable RX5 3, Cond.initialized RX5, Cond.fieldLink RX6 19 "FaultyCube" "past" "LFaultyCube$UndoStack;", Cond.classLink RX6 23 RX2, Cond.instantiable RX2 5, Cond.initialized RX2, Cond.fieldLink RX6 26 "FaultyCube" "safety" "LFaultyCube$Safety;", Cond.classLink RX6 30 RX0, Cond.instantiable RX0 4]
def wsL_law0_r2 : List Cond := [Cond.initialized RX0, Cond.fieldLink RX6 33 "FaultyCube" "broadcast" "LFaultyCube$Broadcast;", Cond.classLink RX6 37 RX1, Cond.instantiable RX1 8, Cond.initialized RX1, Cond.fieldLink RX6 40 "FaultyCube" "packing" "LFaultyCube$PathPacking;", Cond.classLink RX6 44 RX4, Cond.instantiable RX4 1, Cond.initialized RX4, Cond.fieldLink RX6 47 "FaultyCube" "traffic" "LFaultyCube$Traffic;", Cond.instanceMethod yX3_init, Cond.code yX3_init cX3_init 1 none, Cond.methodLink RX3 3 objectInit, Cond.fieldLink RX3 9 "FaultyCube$Situation" "states" "[I", Cond.fieldLink RX3 15 "FaultyCube$Situation" "positions" "[I", Cond.fieldLink RX3 18 "FaultyCube$Situation" "goals" "[I", Cond.fieldLink RX3 21 "FaultyCube$Situation" "moveCounts" "[I", Cond.fieldLink RX3 24 "FaultyCube$Situation" "detourCounts" "[I", Cond.methodLink RX6 18 yX5_init, Cond.instanceMethod yX5_init, Cond.code yX5_init cX5_init 2 none, Cond.methodLink RX5 3 objectInit, Cond.classLink RX5 9 RX3, Cond.fieldLink RX5 11 "FaultyCube$UndoStack" "ring" "[LFaultyCube$Situation;"]
def wsL_law0_r3 : List Cond := [Cond.instanceMethod yX2_init, Cond.code yX2_init cX2_init 1 none, Cond.methodLink RX2 3 objectInit, Cond.fieldLink RX2 9 "FaultyCube$Safety" "levels" "[I", Cond.fieldLink RX2 15 "FaultyCube$Safety" "levelsBefore" "[I", Cond.arrayClass .long, Cond.fieldLink RX2 18 "FaultyCube$Safety" "vectorSets" "[J", Cond.instanceMethod yX0_init, Cond.code yX0_init cX0_init 1 none, Cond.methodLink RX0 3 objectInit, Cond.fieldLink RX0 9 "FaultyCube$Broadcast" "times" "[I", Cond.fieldLink RX0 15 "FaultyCube$Broadcast" "lists" "[I", Cond.fieldLink RX0 18 "FaultyCube$Broadcast" "queue" "[I", Cond.instanceMethod yX1_init, Cond.code yX1_init cX1_init 1 none, Cond.methodLink RX1 3 objectInit, Cond.fieldLink RX1 9 "FaultyCube$PathPacking" "leaving" "[I", Cond.fieldLink RX1 15 "FaultyCube$PathPacking" "cameFrom" "[I", Cond.fieldLink RX1 18 "FaultyCube$PathPacking" "queue" "[I", Cond.instanceMethod yX4_init, Cond.code yX4_init cX4_init 1 none, Cond.methodLink RX4 3 objectInit, Cond.fieldLink RX4 9 "FaultyCube$Traffic" "usedWays" "[I", Cond.methodLink RX6 51 yX3_restart]
def wsL_law0_r4 : List Cond := [Cond.instanceMethod yX3_restart, Cond.selects RX3 yX3_restart yX3_restart, Cond.code yX3_restart cX3_restart 2 none, Cond.fieldLink RX3 27 "FaultyCube$Situation" "dimension" "I", Cond.constantLong RX3 31 (-1), Cond.fieldLink RX3 33 "FaultyCube$Situation" "alive" "J", Cond.fieldLink RX3 37 "FaultyCube$Situation" "steps" "I", Cond.fieldLink RX3 40 "FaultyCube$Situation" "messages" "I", Cond.methodLink RX6 55 yX6_refreshSafety, Cond.instanceMethod yX6_refreshSafety, Cond.selects RX6 yX6_refreshSafety yX6_refreshSafety, Cond.code yX6_refreshSafety cX6_refreshSafety 1 none, Cond.methodLink RX6 241 yX2_find, Cond.instanceMethod yX2_find, Cond.selects RX2 yX2_find yX2_find, Cond.code yX2_find cX2_find 6 none, Cond.fieldLink RX2 22 "FaultyCube$Safety" "dimension" "I", Cond.fieldLink RX2 30 "FaultyCube$Safety" "changingRounds" "I", Cond.methodLink RX2 26 yX2_startLevels, Cond.instanceMethod yX2_startLevels, Cond.selects RX2 yX2_startLevels yX2_startLevels, Cond.code yX2_startLevels cX2_startLevels 4 none, Cond.static yX6_contains, Cond.code yX6_contains cX6_contains 3 (some .boolean)]
def wsL_law0_r5 : List Cond := [Cond.static yX6_write, Cond.code yX6_write cX6_write 3 none, Cond.methodLink RX2 33 yX2_roundChanges, Cond.instanceMethod yX2_roundChanges, Cond.selects RX2 yX2_roundChanges yX2_roundChanges, Cond.code yX2_roundChanges cX2_roundChanges 6 (some .boolean), Cond.methodLink RX2 48 arraycopyName, Cond.native arraycopyName, Cond.static arraycopyName, Cond.initialized "java/lang/System", Cond.methodLink RX2 54 yX2_levelAfterRound, Cond.instanceMethod yX2_levelAfterRound, Cond.selects RX2 yX2_levelAfterRound yX2_levelAfterRound, Cond.code yX2_levelAfterRound cX2_levelAfterRound 3 (some .int), Cond.methodLink RX2 62 yX2_neighboursBelow, Cond.instanceMethod yX2_neighboursBelow, Cond.selects RX2 yX2_neighboursBelow yX2_neighboursBelow, Cond.code yX2_neighboursBelow cX2_neighboursBelow 5 (some .int), Cond.static yX6_neighbour, Cond.code yX6_neighbour cX6_neighbour 2 (some .int), Cond.static yX6_read, Cond.code yX6_read cX6_read 2 (some .int), Cond.methodLink RX2 37 yX2_findVectors, Cond.instanceMethod yX2_findVectors]
def wsL_law0_r6 : List Cond := [Cond.selects RX2 yX2_findVectors yX2_findVectors, Cond.code yX2_findVectors cX2_findVectors 6 none, Cond.methodLink RX2 69 yJ7_fill_d0a16, Cond.static yJ7_fill_d0a16, Cond.initialized RJ7, Cond.code yJ7_fill_d0a16 cJ7_fill_d0a16 5 none, Cond.methodLink RX2 75 yX2_withNeighboursAbove, Cond.instanceMethod yX2_withNeighboursAbove, Cond.selects RX2 yX2_withNeighboursAbove yX2_withNeighboursAbove, Cond.code yX2_withNeighboursAbove cX2_withNeighboursAbove 9 (some .long), Cond.methodLink RL 160 yL_cell, Cond.static yL_cell, Cond.initialized RL, Cond.code yL_cell cL_cell 2 (some .int), Cond.constant RL 7 (916318735), Cond.methodLink RL 164 yL_low, Cond.static yL_low, Cond.code yL_low cL_low 2 (some .int), Cond.constant RL 8 (2147483647), Cond.methodLink RL 167 yL_undo, Cond.static yL_undo, Cond.codeWith yL_undo cL_undo 3 (some .int) [(0, 5, 8, 20)], Cond.classLink RL 20 "java/lang/IllegalStateException", Cond.methodLink RL 85 yX6_undo]
def wsL_law0_r7 : List Cond := [Cond.instanceMethod yX6_undo, Cond.selects RX6 yX6_undo yX6_undo, Cond.code yX6_undo cX6_undo 1 (some .int), Cond.classLink RX6 91 "java/lang/IllegalStateException", Cond.initialized "java/lang/IllegalStateException", Cond.methodLink RX6 209 yX5_restoreInto, Cond.instanceMethod yX5_restoreInto, Cond.selects RX5 yX5_restoreInto yX5_restoreInto, Cond.code yX5_restoreInto cX5_restoreInto 4 none, Cond.fieldLink RX5 18 "FaultyCube$UndoStack" "next" "I", Cond.fieldLink RX5 30 "FaultyCube$UndoStack" "size" "I", Cond.methodLink RX5 22 yX5_slotAt, Cond.instanceMethod yX5_slotAt, Cond.selects RX5 yX5_slotAt yX5_slotAt, Cond.code yX5_slotAt cX5_slotAt 2 (some (.object "FaultyCube$Situation")), Cond.methodLink RX5 26 yX3_copyFrom, Cond.instanceMethod yX3_copyFrom, Cond.selects RX3 yX3_copyFrom yX3_copyFrom, Cond.code yX3_copyFrom cX3_copyFrom 2 none, Cond.methodLink RX3 43 arraycopyName, Cond.methodLink RL 147 yL_setDimension, Cond.static yL_setDimension, Cond.codeWith yL_setDimension cL_setDimension 4 (some .int) [(0, 6, 9, 15)], Cond.classLink RL 15 "java/lang/IllegalArgumentException"]
def wsL_law0_r8 : List Cond := [Cond.methodLink RL 9 yX6_setDimension, Cond.instanceMethod yX6_setDimension, Cond.selects RX6 yX6_setDimension yX6_setDimension, Cond.code yX6_setDimension cX6_setDimension 3 (some .int), Cond.classLink RX6 58 "java/lang/IllegalArgumentException", Cond.initialized "java/lang/IllegalArgumentException", Cond.methodLink RX6 69 yX5_save, Cond.instanceMethod yX5_save, Cond.selects RX5 yX5_save yX5_save, Cond.code yX5_save cX5_save 3 none, Cond.methodLink RX5 33 Lib.Math.min.name, Cond.static Lib.Math.min.name, Cond.initialized "java/lang/Math", Cond.code Lib.Math.min.name Lib.Math.min.code 2 (some .int), Cond.methodLink RL 170 yL_refused, Cond.static yL_refused, Cond.code yL_refused cL_refused 6 (some .boolean), Cond.methodLink RL 143 yL_print, Cond.static yL_print, Cond.code yL_print cL_print 5 (some .long), Cond.constantLong RL 135 (31), Cond.methodLink RL 89 yX6_rounds, Cond.instanceMethod yX6_rounds, Cond.selects RX6 yX6_rounds yX6_rounds]
def wsL_law0_r9 : List Cond := [Cond.code yX6_rounds cX6_rounds 1 (some .int), Cond.methodLink RL 102 yX6_safeNodes, Cond.instanceMethod yX6_safeNodes, Cond.selects RX6 yX6_safeNodes yX6_safeNodes, Cond.code yX6_safeNodes cX6_safeNodes 3 (some .int), Cond.methodLink RX6 96 yX6_nodeCount, Cond.instanceMethod yX6_nodeCount, Cond.selects RX6 yX6_nodeCount yX6_nodeCount, Cond.code yX6_nodeCount cX6_nodeCount 1 (some .int), Cond.methodLink RX6 120 yX2_levelOf, Cond.instanceMethod yX2_levelOf, Cond.selects RX2 yX2_levelOf yX2_levelOf, Cond.code yX2_levelOf cX2_levelOf 2 (some .int), Cond.methodLink RL 130 yX6_largestSubcube, Cond.instanceMethod yX6_largestSubcube, Cond.selects RX6 yX6_largestSubcube yX6_largestSubcube, Cond.code yX6_largestSubcube cX6_largestSubcube 6 (some .int), Cond.methodLink RX6 158 yX6_freeBases, Cond.instanceMethod yX6_freeBases, Cond.selects RX6 yX6_freeBases yX6_freeBases, Cond.code yX6_freeBases cX6_freeBases 5 (some .long), Cond.methodLink RX6 263 yX6_hasBit, Cond.static yX6_hasBit, Cond.code yX6_hasBit cX6_hasBit 2 (some .boolean)]
def wsL_law0_r10 : List Cond := [Cond.methodLink RX6 267 yX6_lowNodes, Cond.static yX6_lowNodes, Cond.code yX6_lowNodes cX6_lowNodes 1 (some .long), Cond.fieldLink RX6 270 "FaultyCube" "LOW_NODES" "[J", Cond.methodLink RX6 107 yJ6_bitCount_0f7a4, Cond.static yJ6_bitCount_0f7a4, Cond.initialized RJ6, Cond.code yJ6_bitCount_0f7a4 cJ6_bitCount_0f7a4 1 (some .int), Cond.constant RJ6 265 (1431655765), Cond.constant RJ6 266 (858993459), Cond.constant RJ6 267 (252645135), Cond.methodLink RX6 162 yX6_leastNode, Cond.static yX6_leastNode, Cond.code yX6_leastNode cX6_leastNode 2 (some .int), Cond.methodLink RX6 100 yJ13_bitCount_95d88, Cond.static yJ13_bitCount_95d88, Cond.initialized RJ13, Cond.code yJ13_bitCount_95d88 cJ13_bitCount_95d88 2 (some .int), Cond.constantLong RJ13 314 (6148914691236517205), Cond.constantLong RJ13 316 (3689348814741910323), Cond.constantLong RJ13 318 (1085102592571150095), Cond.methodLink RL 92 yL_level, Cond.static yL_level, Cond.codeWith yL_level cL_level 4 (some .int) [(0, 6, 9, 15)]]
def wsL_law0_r11 : List Cond := [Cond.methodLink RL 36 yX6_level, Cond.instanceMethod yX6_level, Cond.selects RX6 yX6_level yX6_level, Cond.code yX6_level cX6_level 2 (some .int), Cond.methodLink RX6 73 yX6_requireNode, Cond.instanceMethod yX6_requireNode, Cond.selects RX6 yX6_requireNode yX6_requireNode, Cond.code yX6_requireNode cX6_requireNode 2 none, Cond.methodLink RL 137 yL_state, Cond.static yL_state, Cond.codeWith yL_state cL_state 4 (some .int) [(0, 6, 9, 15)], Cond.methodLink RL 73 yX6_state, Cond.instanceMethod yX6_state, Cond.selects RX6 yX6_state yX6_state, Cond.code yX6_state cX6_state 2 (some .int), Cond.methodLink RX6 185 yX6_requireMessage, Cond.instanceMethod yX6_requireMessage, Cond.selects RX6 yX6_requireMessage yX6_requireMessage, Cond.code yX6_requireMessage cX6_requireMessage 2 none, Cond.methodLink RX6 192 yX6_read, Cond.methodLink RL 139 yL_position, Cond.static yL_position, Cond.codeWith yL_position cL_position 4 (some .int) [(0, 6, 9, 15)], Cond.methodLink RL 76 yX6_position]
def wsL_law0_r12 : List Cond := [Cond.instanceMethod yX6_position, Cond.selects RX6 yX6_position yX6_position, Cond.code yX6_position cX6_position 2 (some .int), Cond.methodLink RL 141 yL_moves, Cond.static yL_moves, Cond.codeWith yL_moves cL_moves 4 (some .int) [(0, 6, 9, 15)], Cond.methodLink RL 79 yX6_moves, Cond.instanceMethod yX6_moves, Cond.selects RX6 yX6_moves yX6_moves, Cond.code yX6_moves cX6_moves 2 (some .int), Cond.methodLink RL 149 yL_kill, Cond.static yL_kill, Cond.codeWith yL_kill cL_kill 4 (some .int) [(0, 6, 9, 15), (0, 6, 14, 20)], Cond.methodLink RL 17 yX6_kill, Cond.instanceMethod yX6_kill, Cond.selects RX6 yX6_kill yX6_kill, Cond.code yX6_kill cX6_kill 3 (some .int), Cond.methodLink RX6 76 yX6_requireAlive, Cond.instanceMethod yX6_requireAlive, Cond.selects RX6 yX6_requireAlive yX6_requireAlive, Cond.code yX6_requireAlive cX6_requireAlive 2 none, Cond.methodLink RX6 87 yX6_contains, Cond.methodLink RX6 79 yX3_letDie, Cond.instanceMethod yX3_letDie]
def wsL_law0_r13 : List Cond := [Cond.selects RX3 yX3_letDie yX3_letDie, Cond.code yX3_letDie cX3_letDie 6 (some .int), Cond.methodLink RL 151 yL_revive, Cond.static yL_revive, Cond.codeWith yL_revive cL_revive 4 (some .int) [(0, 6, 9, 15), (0, 6, 14, 20)], Cond.methodLink RL 22 yX6_revive, Cond.instanceMethod yX6_revive, Cond.selects RX6 yX6_revive yX6_revive, Cond.code yX6_revive cX6_revive 2 (some .int), Cond.methodLink RL 105 yL_distance, Cond.static yL_distance, Cond.codeWith yL_distance cL_distance 5 (some .int) [(0, 7, 10, 15)], Cond.methodLink RL 29 yX6_distance, Cond.instanceMethod yX6_distance, Cond.selects RX6 yX6_distance yX6_distance, Cond.code yX6_distance cX6_distance 3 (some .int), Cond.methodLink RL 99 yL_vectorBit, Cond.static yL_vectorBit, Cond.codeWith yL_vectorBit cL_vectorBit 5 (some .int) [(0, 7, 10, 15)], Cond.methodLink RL 39 yX6_vectorBit, Cond.instanceMethod yX6_vectorBit, Cond.selects RX6 yX6_vectorBit yX6_vectorBit, Cond.code yX6_vectorBit cX6_vectorBit 3 (some .int), Cond.methodLink RX6 128 yX2_bitOf]
def wsL_law0_r14 : List Cond := [Cond.instanceMethod yX2_bitOf, Cond.selects RX2 yX2_bitOf yX2_bitOf, Cond.code yX2_bitOf cX2_bitOf 4 (some .int), Cond.methodLink RL 116 yL_routeNode, Cond.static yL_routeNode, Cond.codeWith yL_routeNode cL_routeNode 6 (some .int) [(0, 9, 12, 15), (0, 9, 18, 20)], Cond.methodLink RL 48 yX6_routeNode, Cond.instanceMethod yX6_routeNode, Cond.selects RX6 yX6_routeNode yX6_routeNode, Cond.code yX6_routeNode cX6_routeNode 4 (some .int), Cond.methodLink RX6 135 yX6_lengthOfRoute, Cond.instanceMethod yX6_lengthOfRoute, Cond.selects RX6 yX6_lengthOfRoute yX6_lengthOfRoute, Cond.code yX6_lengthOfRoute cX6_lengthOfRoute 5 (some .int), Cond.methodLink RX6 132 yX6_decision, Cond.instanceMethod yX6_decision, Cond.selects RX6 yX6_decision yX6_decision, Cond.code yX6_decision cX6_decision 5 (some .int), Cond.methodLink RX6 251 yX2_bestLevel, Cond.instanceMethod yX2_bestLevel, Cond.selects RX2 yX2_bestLevel yX2_bestLevel, Cond.code yX2_bestLevel cX2_bestLevel 4 (some .int), Cond.methodLink RX2 86 yX2_bestDimension, Cond.instanceMethod yX2_bestDimension]
def wsL_law0_r15 : List Cond := [Cond.selects RX2 yX2_bestDimension yX2_bestDimension, Cond.code yX2_bestDimension cX2_bestDimension 6 (some .int), Cond.methodLink RX2 83 yX2_levelOf, Cond.methodLink RX6 254 yX2_spareOf, Cond.instanceMethod yX2_spareOf, Cond.selects RX2 yX2_spareOf yX2_spareOf, Cond.code yX2_spareOf cX2_spareOf 2 (some .int), Cond.methodLink RX6 140 yX6_nodeOfRoute, Cond.instanceMethod yX6_nodeOfRoute, Cond.selects RX6 yX6_nodeOfRoute yX6_nodeOfRoute, Cond.code yX6_nodeOfRoute cX6_nodeOfRoute 9 (some .int), Cond.methodLink RX6 257 yX2_bestDimension, Cond.methodLink RX6 260 yX6_neighbour, Cond.methodLink RL 123 yL_reach, Cond.static yL_reach, Cond.codeWith yL_reach cL_reach 5 (some .int) [(0, 7, 10, 15), (0, 7, 16, 20)], Cond.methodLink RL 52 yX6_reach, Cond.instanceMethod yX6_reach, Cond.selects RX6 yX6_reach yX6_reach, Cond.code yX6_reach cX6_reach 5 (some .int), Cond.methodLink RL 133 yL_freeSubcubes, Cond.static yL_freeSubcubes, Cond.codeWith yL_freeSubcubes cL_freeSubcubes 4 (some .int) [(0, 6, 9, 15)], Cond.methodLink RL 61 yX6_freeSubcubes]
def wsL_law0_r16 : List Cond := [Cond.instanceMethod yX6_freeSubcubes, Cond.selects RX6 yX6_freeSubcubes yX6_freeSubcubes, Cond.code yX6_freeSubcubes cX6_freeSubcubes 4 (some .int), Cond.methodLink RL 128 yL_disjointPaths, Cond.static yL_disjointPaths, Cond.codeWith yL_disjointPaths cL_disjointPaths 5 (some .int) [(0, 7, 10, 15), (0, 7, 16, 20)], Cond.methodLink RL 64 yX6_disjointPaths, Cond.instanceMethod yX6_disjointPaths, Cond.selects RX6 yX6_disjointPaths yX6_disjointPaths, Cond.code yX6_disjointPaths cX6_disjointPaths 3 (some .int), Cond.methodLink RX6 167 yX1_largest, Cond.instanceMethod yX1_largest, Cond.selects RX1 yX1_largest yX1_largest, Cond.code yX1_largest cX1_largest 8 (some .int), Cond.fieldLink RX1 21 "FaultyCube$PathPacking" "source" "I", Cond.fieldLink RX1 25 "FaultyCube$PathPacking" "goal" "I", Cond.fieldLink RX1 28 "FaultyCube$PathPacking" "dimension" "I", Cond.fieldLink RX1 31 "FaultyCube$PathPacking" "alive" "J", Cond.methodLink RX1 35 yJ7_fill_53178, Cond.static yJ7_fill_53178, Cond.code yJ7_fill_53178 cJ7_fill_53178 4 none, Cond.methodLink RX1 41 yX1_findsPath, Cond.instanceMethod yX1_findsPath, Cond.selects RX1 yX1_findsPath yX1_findsPath]
def wsL_law0_r17 : List Cond := [Cond.code yX1_findsPath cX1_findsPath 3 (some .boolean), Cond.fieldLink RX1 48 "FaultyCube$PathPacking" "found" "I", Cond.methodLink RX1 51 yX1_exit, Cond.static yX1_exit, Cond.code yX1_exit cX1_exit 1 (some .int), Cond.methodLink RX1 55 yX1_discover, Cond.instanceMethod yX1_discover, Cond.selects RX1 yX1_discover yX1_discover, Cond.code yX1_discover cX1_discover 3 none, Cond.methodLink RX1 59 yX1_entry, Cond.static yX1_entry, Cond.code yX1_entry cX1_entry 1 (some .int), Cond.methodLink RX1 62 yX1_searchFromEntry, Cond.instanceMethod yX1_searchFromEntry, Cond.selects RX1 yX1_searchFromEntry yX1_searchFromEntry, Cond.code yX1_searchFromEntry cX1_searchFromEntry 4 none, Cond.methodLink RX1 66 yX1_searchFromExit, Cond.instanceMethod yX1_searchFromExit, Cond.selects RX1 yX1_searchFromExit yX1_searchFromExit, Cond.code yX1_searchFromExit cX1_searchFromExit 5 none, Cond.methodLink RX1 45 yX1_addPath, Cond.instanceMethod yX1_addPath, Cond.selects RX1 yX1_addPath yX1_addPath, Cond.code yX1_addPath cX1_addPath 6 none]
def wsL_law0_r18 : List Cond := [Cond.methodLink RL 153 yL_send, Cond.static yL_send, Cond.codeWith yL_send cL_send 5 (some .int) [(0, 7, 10, 15), (0, 7, 16, 20)], Cond.methodLink RL 67 yX6_send, Cond.instanceMethod yX6_send, Cond.selects RX6 yX6_send yX6_send, Cond.code yX6_send cX6_send 3 (some .int), Cond.methodLink RX6 112 yX6_requireLivingPair, Cond.instanceMethod yX6_requireLivingPair, Cond.selects RX6 yX6_requireLivingPair yX6_requireLivingPair, Cond.code yX6_requireLivingPair cX6_requireLivingPair 3 none, Cond.methodLink RX6 176 yX3_addMessage, Cond.instanceMethod yX3_addMessage, Cond.selects RX3 yX3_addMessage yX3_addMessage, Cond.code yX3_addMessage cX3_addMessage 4 (some .int), Cond.methodLink RL 155 yL_step, Cond.static yL_step, Cond.codeWith yL_step cL_step 4 (some .int) [(0, 6, 9, 15)], Cond.methodLink RL 70 yX6_step, Cond.instanceMethod yX6_step, Cond.selects RX6 yX6_step yX6_step, Cond.code yX6_step cX6_step 4 (some .int), Cond.methodLink RX6 181 yX4_oneStep, Cond.instanceMethod yX4_oneStep]
def wsL_law0_r19 : List Cond := [Cond.selects RX4 yX4_oneStep yX4_oneStep, Cond.code yX4_oneStep cX4_oneStep 5 (some .int), Cond.methodLink RX4 15 yJ7_fill_53178, Cond.methodLink RX4 34 yX4_moved, Cond.instanceMethod yX4_moved, Cond.selects RX4 yX4_moved yX4_moved, Cond.code yX4_moved cX4_moved 9 (some .boolean), Cond.methodLink RX4 47 yX2_bestLevel, Cond.methodLink RX4 53 yX2_spareOf, Cond.methodLink RX4 60 yX2_bestDimension, Cond.methodLink RX4 74 yX4_move, Cond.instanceMethod yX4_move, Cond.selects RX4 yX4_move yX4_move, Cond.code yX4_move cX4_move 5 none, Cond.methodLink RL 157 yL_count, Cond.static yL_count, Cond.codeWith yL_count cL_count 4 (some .int) [(0, 6, 9, 15)], Cond.methodLink RL 82 yX6_count, Cond.instanceMethod yX6_count, Cond.selects RX6 yX6_count yX6_count, Cond.code yX6_count cX6_count 4 (some .int), Cond.methodLink RL 97 yL_isAlive, Cond.static yL_isAlive, Cond.codeWith yL_isAlive cL_isAlive 4 (some .int) [(0, 14, 17, 15)]]
def wsL_law0_r20 : List Cond := [Cond.methodLink RL 25 yX6_isAlive, Cond.instanceMethod yX6_isAlive, Cond.selects RX6 yX6_isAlive yX6_isAlive, Cond.code yX6_isAlive cX6_isAlive 2 (some .boolean), Cond.methodLink RL 125 yL_alive, Cond.static yL_alive, Cond.code yL_alive cL_alive 4 (some .int), Cond.methodLink RL 113 yL_ones, Cond.static yL_ones, Cond.code yL_ones cL_ones 3 (some .int), Cond.methodLink RL 174 yL_isRoute, Cond.static yL_isRoute, Cond.code yL_isRoute cL_isRoute 10 (some .boolean), Cond.methodLink RL 107 yL_shortest, Cond.static yL_shortest, Cond.codeWith yL_shortest cL_shortest 5 (some .int) [(0, 7, 10, 15), (0, 7, 16, 20)], Cond.methodLink RL 33 yX6_shortest, Cond.instanceMethod yX6_shortest, Cond.selects RX6 yX6_shortest yX6_shortest, Cond.code yX6_shortest cX6_shortest 6 (some .int), Cond.methodLink RX6 116 yX6_neighboursOfSet, Cond.static yX6_neighboursOfSet, Cond.code yX6_neighboursOfSet cX6_neighboursOfSet 8 (some .long), Cond.methodLink RL 109 yL_decide]
def wsL_law0_r21 : List Cond := [Cond.static yL_decide, Cond.codeWith yL_decide cL_decide 5 (some .int) [(0, 7, 10, 15), (0, 7, 16, 20)], Cond.methodLink RL 42 yX6_decide, Cond.instanceMethod yX6_decide, Cond.selects RX6 yX6_decide yX6_decide, Cond.code yX6_decide cX6_decide 3 (some .int), Cond.methodLink RL 111 yL_routeLength, Cond.static yL_routeLength, Cond.codeWith yL_routeLength cL_routeLength 5 (some .int) [(0, 7, 10, 15), (0, 7, 16, 20)], Cond.methodLink RL 45 yX6_routeLength, Cond.instanceMethod yX6_routeLength, Cond.selects RX6 yX6_routeLength yX6_routeLength, Cond.code yX6_routeLength cX6_routeLength 3 (some .int), Cond.methodLink RL 178 yL_areLevels, Cond.static yL_areLevels, Cond.code yL_areLevels cL_areLevels 9 (some .boolean), Cond.methodLink RL 181 yL_areSubcubes, Cond.static yL_areSubcubes, Cond.code yL_areSubcubes cL_areSubcubes 8 (some .boolean), Cond.methodLink RL 184 yL_isBroadcast, Cond.static yL_isBroadcast, Cond.code yL_isBroadcast cL_isBroadcast 7 (some .boolean), Cond.methodLink RL 119 yL_broadcastTime, Cond.static yL_broadcastTime]
def wsL_law0_r22 : List Cond := [Cond.codeWith yL_broadcastTime cL_broadcastTime 5 (some .int) [(0, 7, 10, 15), (0, 7, 16, 20)], Cond.methodLink RL 55 yX6_broadcastTime, Cond.instanceMethod yX6_broadcastTime, Cond.selects RX6 yX6_broadcastTime yX6_broadcastTime, Cond.code yX6_broadcastTime cX6_broadcastTime 3 (some .int), Cond.methodLink RX6 146 yX0_run, Cond.instanceMethod yX0_run, Cond.selects RX0 yX0_run yX0_run, Cond.code yX0_run cX0_run 6 none, Cond.fieldLink RX0 27 "FaultyCube$Broadcast" "receivers" "I", Cond.methodLink RX0 21 yJ7_fill_53178, Cond.methodLink RX0 31 yX2_spareOf, Cond.methodLink RX0 37 yX0_receive, Cond.instanceMethod yX0_receive, Cond.selects RX0 yX0_receive yX0_receive, Cond.code yX0_receive cX0_receive 4 none, Cond.methodLink RX0 45 yX0_passOn, Cond.instanceMethod yX0_passOn, Cond.selects RX0 yX0_passOn yX0_passOn, Cond.code yX0_passOn cX0_passOn 9 none, Cond.methodLink RX0 49 yX2_bestDimension, Cond.methodLink RX0 60 yX0_timeOf, Cond.instanceMethod yX0_timeOf, Cond.selects RX0 yX0_timeOf yX0_timeOf]
def wsL_law0_r23 : List Cond := [Cond.code yX0_timeOf cX0_timeOf 2 (some .int), Cond.methodLink RX6 150 yX0_timeOf, Cond.methodLink RL 121 yL_broadcastSize, Cond.static yL_broadcastSize, Cond.codeWith yL_broadcastSize cL_broadcastSize 4 (some .int) [(0, 6, 9, 15), (0, 6, 14, 20)], Cond.methodLink RL 58 yX6_broadcastSize, Cond.instanceMethod yX6_broadcastSize, Cond.selects RX6 yX6_broadcastSize yX6_broadcastSize, Cond.code yX6_broadcastSize cX6_broadcastSize 2 (some .int), Cond.methodLink RL 187 yL_arePaths, Cond.static yL_arePaths, Cond.code yL_arePaths cL_arePaths 8 (some .boolean)]
def wsL_law0 : List Cond := (wsL_law0_r1 ++ (wsL_law0_r2 ++ (wsL_law0_r3 ++ (wsL_law0_r4 ++ (wsL_law0_r5 ++ (wsL_law0_r6 ++ (wsL_law0_r7 ++ (wsL_law0_r8 ++ (wsL_law0_r9 ++ (wsL_law0_r10 ++ (wsL_law0_r11 ++ (wsL_law0_r12 ++ (wsL_law0_r13 ++ (wsL_law0_r14 ++ (wsL_law0_r15 ++ (wsL_law0_r16 ++ (wsL_law0_r17 ++ (wsL_law0_r18 ++ (wsL_law0_r19 ++ (wsL_law0_r20 ++ (wsL_law0_r21 ++ (wsL_law0_r22 ++ wsL_law0_r23)))))))))))))))))))))) ++ wsX60 ++ wsX30 ++ wsX50 ++ wsX20 ++ wsX00 ++ wsX10 ++ wsX40 ++ ([] : List Cond)
theorem inJx145de : ∀ w ∈ wsJx145de0, w ∈ lw_tbl := by decide +kernel
theorem inJ6 : ∀ w ∈ wsJ60, w ∈ lw_tbl := by decide +kernel
theorem inJ13 : ∀ w ∈ wsJ130, w ∈ lw_tbl := by decide +kernel
theorem inJ9 : ∀ w ∈ wsJ90, w ∈ lw_tbl := by decide +kernel
theorem inJ0 : ∀ w ∈ wsJ00, w ∈ lw_tbl := by decide +kernel
theorem inJ10 : ∀ w ∈ wsJ100, w ∈ lw_tbl := by decide +kernel
theorem inJ7 : ∀ w ∈ wsJ70, w ∈ lw_tbl := by decide +kernel
theorem dX0_init_0 : decode cX0_init 0 = .ok (.aload_n 0, 1) := by decide +kernel
theorem dX0_init_1 : decode cX0_init 1 = .ok (.invokespecial 3, 3) := by decide +kernel
theorem dX0_init_4 : decode cX0_init 4 = .ok (.aload_n 0, 1) := by decide +kernel
theorem dX0_init_5 : decode cX0_init 5 = .ok (.bipush 64, 2) := by decide +kernel
theorem dX0_init_7 : decode cX0_init 7 = .ok (.newarray .int, 2) := by decide +kernel
theorem dX0_init_9 : decode cX0_init 9 = .ok (.putfield 9, 3) := by decide +kernel
theorem dX0_init_12 : decode cX0_init 12 = .ok (.aload_n 0, 1) := by decide +kernel
theorem dX0_init_13 : decode cX0_init 13 = .ok (.bipush 64, 2) := by decide +kernel
theorem dX0_init_15 : decode cX0_init 15 = .ok (.newarray .int, 2) := by decide +kernel
theorem dX0_init_17 : decode cX0_init 17 = .ok (.putfield 15, 3) := by decide +kernel
theorem dX0_init_20 : decode cX0_init 20 = .ok (.aload_n 0, 1) := by decide +kernel
theorem dX0_init_21 : decode cX0_init 21 = .ok (.bipush 64, 2) := by decide +kernel
theorem dX0_init_23 : decode cX0_init 23 = .ok (.newarray .int, 2) := by decide +kernel
theorem dX0_init_25 : decode cX0_init 25 = .ok (.putfield 18, 3) := by decide +kernel
theorem dX0_init_28 : decode cX0_init 28 = .ok (.return_, 1) := by decide +kernel
set_option maxRecDepth 20000 in
theorem ggX0_run_J7_fill_53178 : GoodIn wsX0_run wsJ7_fill_53178 := goodIn_r _ [7] (by decide +kernel) (by decide +kernel)
set_option maxRecDepth 20000 in
theorem gX0_run_J7_fill_53178 : GoodIn wsX0_run (va_wsS RX0 21 yJ7_fill_53178 wsJ7_fill_53178) := goodIn_app (goodIn_of _ (by decide +kernel)) ggX0_run_J7_fill_53178
set_option maxRecDepth 20000 in
theorem ggX0_run_X2_spareOf : GoodIn wsX0_run wsX2_spareOf := goodIn_r _ [12, 13, 52, 53, 54, 55, 56] (by decide +kernel) (by decide +kernel)
set_option maxRecDepth 20000 in
theorem gX0_run_X2_spareOf : GoodIn wsX0_run (wsV RX0 31 RX2 yX2_spareOf wsX2_spareOf) := goodIn_app (goodIn_of _ (by decide +kernel)) ggX0_run_X2_spareOf
set_option maxRecDepth 20000 in
theorem ggX0_run_X0_receive : GoodIn wsX0_run wsX0_receive := goodIn_r _ [18, 1, 19, 3, 2, 20, 21, 22, 48, 49, 50, 51] (by decide +kernel) (by decide +kernel)
set_option maxRecDepth 20000 in
theorem gX0_run_X0_receive : GoodIn wsX0_run (wsV RX0 37 RX0 yX0_receive wsX0_receive) := goodIn_app (goodIn_of _ (by decide +kernel)) ggX0_run_X0_receive
set_option maxRecDepth 20000 in
theorem ggX0_run_X6_read : GoodIn wsX0_run wsX6_read := goodIn_r _ [24] (by decide +kernel) (by decide +kernel)
set_option maxRecDepth 20000 in
theorem gX0_run_X6_read_n41 : GoodIn wsX0_run (wsX6_read) := ggX0_run_X6_read
set_option maxRecDepth 20000 in
theorem ggX0_run_X0_passOn : GoodIn wsX0_run wsX0_passOn := goodIn_r _ [28, 19, 23, 21, 24, 29, 30, 31, 11, 32, 13, 33, 34, 35, 36, 37, 38, 39, 40, 41, 42, 43, 44, 45, 46, 17, 47, 1, 14, 15, 16, 18, 3, 2, 20, 22, 48, 49, 50, 51, 52, 53, 54, 55, 56] (by decide +kernel) (by decide +kernel)
set_option maxRecDepth 20000 in
theorem gX0_run_X0_passOn : GoodIn wsX0_run (wsV RX0 45 RX0 yX0_passOn wsX0_passOn) := goodIn_app (goodIn_of _ (by decide +kernel)) ggX0_run_X0_passOn
theorem dX0_run_0 : decode cX0_run 0 = .ok (.aload_n 0, 1) := by decide +kernel
theorem dX0_run_1 : decode cX0_run 1 = .ok (.getfield 9, 3) := by decide +kernel
theorem dX0_run_4 : decode cX0_run 4 = .ok (.iconst (-1), 1) := by decide +kernel
theorem dX0_run_5 : decode cX0_run 5 = .ok (.invokestatic 21, 3) := by decide +kernel
theorem dX0_run_8 : decode cX0_run 8 = .ok (.aload_n 0, 1) := by decide +kernel
theorem dX0_run_9 : decode cX0_run 9 = .ok (.iconst 0, 1) := by decide +kernel
theorem dX0_run_10 : decode cX0_run 10 = .ok (.putfield 27, 3) := by decide +kernel
theorem dX0_run_13 : decode cX0_run 13 = .ok (.aload_n 0, 1) := by decide +kernel
theorem dX0_run_14 : decode cX0_run 14 = .ok (.iload_n 1, 1) := by decide +kernel
theorem dX0_run_15 : decode cX0_run 15 = .ok (.iconst 0, 1) := by decide +kernel
theorem dX0_run_16 : decode cX0_run 16 = .ok (.aload 4, 2) := by decide +kernel
theorem dX0_run_18 : decode cX0_run 18 = .ok (.iconst 0, 1) := by decide +kernel
theorem dX0_run_19 : decode cX0_run 19 = .ok (.invokevirtual 31, 3) := by decide +kernel
theorem dX0_run_22 : decode cX0_run 22 = .ok (.invokevirtual 37, 3) := by decide +kernel
theorem dX0_run_25 : decode cX0_run 25 = .ok (.iconst 0, 1) := by decide +kernel
theorem dX0_run_26 : decode cX0_run 26 = .ok (.istore 5, 2) := by decide +kernel
theorem dX0_run_28 : decode cX0_run 28 = .ok (.iload 5, 2) := by decide +kernel
theorem dX0_run_30 : decode cX0_run 30 = .ok (.aload_n 0, 1) := by decide +kernel
theorem dX0_run_31 : decode cX0_run 31 = .ok (.getfield 27, 3) := by decide +kernel
theorem dX0_run_34 : decode cX0_run 34 = .ok (.if_icmp .ge 32, 3) := by decide +kernel
theorem dX0_run_37 : decode cX0_run 37 = .ok (.iload 5, 2) := by decide +kernel
theorem dX0_run_39 : decode cX0_run 39 = .ok (.bipush 64, 2) := by decide +kernel
theorem dX0_run_41 : decode cX0_run 41 = .ok (.if_icmp .ge 25, 3) := by decide +kernel
theorem dX0_run_44 : decode cX0_run 44 = .ok (.aload_n 0, 1) := by decide +kernel
theorem dX0_run_45 : decode cX0_run 45 = .ok (.aload_n 0, 1) := by decide +kernel
theorem dX0_run_46 : decode cX0_run 46 = .ok (.getfield 18, 3) := by decide +kernel
theorem dX0_run_49 : decode cX0_run 49 = .ok (.iload 5, 2) := by decide +kernel
theorem dX0_run_51 : decode cX0_run 51 = .ok (.invokestatic 41, 3) := by decide +kernel
theorem dX0_run_54 : decode cX0_run 54 = .ok (.lload_n 2, 1) := by decide +kernel
theorem dX0_run_55 : decode cX0_run 55 = .ok (.aload 4, 2) := by decide +kernel
theorem dX0_run_57 : decode cX0_run 57 = .ok (.invokevirtual 45, 3) := by decide +kernel
theorem dX0_run_60 : decode cX0_run 60 = .ok (.iinc 5 1, 3) := by decide +kernel
theorem dX0_run_63 : decode cX0_run 63 = .ok (.goto (-35), 3) := by decide +kernel
theorem dX0_run_66 : decode cX0_run 66 = .ok (.return_, 1) := by decide +kernel
set_option maxRecDepth 20000 in
theorem ggX0_timeOf_X6_read : GoodIn wsX0_timeOf wsX6_read := goodIn_r _ [4] (by decide +kernel) (by decide +kernel)
set_option maxRecDepth 20000 in
theorem gX0_timeOf_X6_read_n41 : GoodIn wsX0_timeOf (wsX6_read) := ggX0_timeOf_X6_read
theorem dX0_timeOf_0 : decode cX0_timeOf 0 = .ok (.aload_n 0, 1) := by decide +kernel
theorem dX0_timeOf_1 : decode cX0_timeOf 1 = .ok (.getfield 9, 3) := by decide +kernel
theorem dX0_timeOf_4 : decode cX0_timeOf 4 = .ok (.iload_n 1, 1) := by decide +kernel
theorem dX0_timeOf_5 : decode cX0_timeOf 5 = .ok (.invokestatic 41, 3) := by decide +kernel
theorem dX0_timeOf_8 : decode cX0_timeOf 8 = .ok (.ireturn, 1) := by decide +kernel
set_option maxRecDepth 20000 in
theorem ggX0_passOn_X6_read : GoodIn wsX0_passOn wsX6_read := goodIn_r _ [4] (by decide +kernel) (by decide +kernel)
set_option maxRecDepth 20000 in
theorem gX0_passOn_X6_read_n41 : GoodIn wsX0_passOn (wsX6_read) := ggX0_passOn_X6_read
set_option maxRecDepth 20000 in
theorem ggX0_passOn_X2_bestDimension : GoodIn wsX0_passOn wsX2_bestDimension := goodIn_r _ [9, 10, 11, 3, 12, 13, 14, 15, 16, 17, 8, 18, 19, 2, 4, 40, 41, 42, 43, 44] (by decide +kernel) (by decide +kernel)
set_option maxRecDepth 20000 in
theorem gX0_passOn_X2_bestDimension : GoodIn wsX0_passOn (wsV RX0 49 RX2 yX2_bestDimension wsX2_bestDimension) := goodIn_app (goodIn_of _ (by decide +kernel)) ggX0_passOn_X2_bestDimension
set_option maxRecDepth 20000 in
theorem ggX0_passOn_X6_neighbour : GoodIn wsX0_passOn wsX6_neighbour := goodIn_r _ [14] (by decide +kernel) (by decide +kernel)
set_option maxRecDepth 20000 in
theorem gX0_passOn_X6_neighbour_n53 : GoodIn wsX0_passOn (wsX6_neighbour) := ggX0_passOn_X6_neighbour
set_option maxRecDepth 20000 in
theorem ggX0_passOn_X6_contains : GoodIn wsX0_passOn wsX6_contains := goodIn_r _ [21] (by decide +kernel) (by decide +kernel)
set_option maxRecDepth 20000 in
theorem gX0_passOn_X6_contains_n56 : GoodIn wsX0_passOn (wsX6_contains) := ggX0_passOn_X6_contains
set_option maxRecDepth 20000 in
theorem ggX0_passOn_X0_timeOf : GoodIn wsX0_passOn wsX0_timeOf := goodIn_r _ [26, 27, 2, 3, 4, 36, 37, 38, 39] (by decide +kernel) (by decide +kernel)
set_option maxRecDepth 20000 in
theorem gX0_passOn_X0_timeOf : GoodIn wsX0_passOn (wsV RX0 60 RX0 yX0_timeOf wsX0_timeOf) := goodIn_app (goodIn_of _ (by decide +kernel)) ggX0_passOn_X0_timeOf
set_option maxRecDepth 20000 in
theorem ggX0_passOn_X0_receive : GoodIn wsX0_passOn wsX0_receive := goodIn_r _ [31, 27, 1, 32, 33, 34, 3, 35, 36, 37, 38, 39] (by decide +kernel) (by decide +kernel)
set_option maxRecDepth 20000 in
theorem gX0_passOn_X0_receive : GoodIn wsX0_passOn (wsV RX0 37 RX0 yX0_receive wsX0_receive) := goodIn_app (goodIn_of _ (by decide +kernel)) ggX0_passOn_X0_receive
theorem dX0_passOn_0 : decode cX0_passOn 0 = .ok (.aload_n 0, 1) := by decide +kernel
theorem dX0_passOn_1 : decode cX0_passOn 1 = .ok (.getfield 15, 3) := by decide +kernel
theorem dX0_passOn_4 : decode cX0_passOn 4 = .ok (.iload_n 1, 1) := by decide +kernel
theorem dX0_passOn_5 : decode cX0_passOn 5 = .ok (.invokestatic 41, 3) := by decide +kernel
theorem dX0_passOn_8 : decode cX0_passOn 8 = .ok (.istore 5, 2) := by decide +kernel
theorem dX0_passOn_10 : decode cX0_passOn 10 = .ok (.iconst 0, 1) := by decide +kernel
theorem dX0_passOn_11 : decode cX0_passOn 11 = .ok (.istore 6, 2) := by decide +kernel
theorem dX0_passOn_13 : decode cX0_passOn 13 = .ok (.iload 6, 2) := by decide +kernel
theorem dX0_passOn_15 : decode cX0_passOn 15 = .ok (.bipush 6, 2) := by decide +kernel
theorem dX0_passOn_17 : decode cX0_passOn 17 = .ok (.if_icmp .ge 67, 3) := by decide +kernel
theorem dX0_passOn_20 : decode cX0_passOn 20 = .ok (.iload 5, 2) := by decide +kernel
theorem dX0_passOn_22 : decode cX0_passOn 22 = .ok (.ifCond .eq 62, 3) := by decide +kernel
theorem dX0_passOn_25 : decode cX0_passOn 25 = .ok (.aload 4, 2) := by decide +kernel
theorem dX0_passOn_27 : decode cX0_passOn 27 = .ok (.iload_n 1, 1) := by decide +kernel
theorem dX0_passOn_28 : decode cX0_passOn 28 = .ok (.iload 5, 2) := by decide +kernel
theorem dX0_passOn_30 : decode cX0_passOn 30 = .ok (.invokevirtual 49, 3) := by decide +kernel
theorem dX0_passOn_33 : decode cX0_passOn 33 = .ok (.istore 7, 2) := by decide +kernel
theorem dX0_passOn_35 : decode cX0_passOn 35 = .ok (.iload 5, 2) := by decide +kernel
theorem dX0_passOn_37 : decode cX0_passOn 37 = .ok (.iconst 1, 1) := by decide +kernel
theorem dX0_passOn_38 : decode cX0_passOn 38 = .ok (.iload 7, 2) := by decide +kernel
theorem dX0_passOn_40 : decode cX0_passOn 40 = .ok (.ishl, 1) := by decide +kernel
theorem dX0_passOn_41 : decode cX0_passOn 41 = .ok (.iconst (-1), 1) := by decide +kernel
theorem dX0_passOn_42 : decode cX0_passOn 42 = .ok (.ixor, 1) := by decide +kernel
theorem dX0_passOn_43 : decode cX0_passOn 43 = .ok (.iand, 1) := by decide +kernel
theorem dX0_passOn_44 : decode cX0_passOn 44 = .ok (.istore 5, 2) := by decide +kernel
theorem dX0_passOn_46 : decode cX0_passOn 46 = .ok (.iload_n 1, 1) := by decide +kernel
theorem dX0_passOn_47 : decode cX0_passOn 47 = .ok (.iload 7, 2) := by decide +kernel
theorem dX0_passOn_49 : decode cX0_passOn 49 = .ok (.invokestatic 53, 3) := by decide +kernel
theorem dX0_passOn_52 : decode cX0_passOn 52 = .ok (.istore 8, 2) := by decide +kernel
theorem dX0_passOn_54 : decode cX0_passOn 54 = .ok (.lload_n 2, 1) := by decide +kernel
theorem dX0_passOn_55 : decode cX0_passOn 55 = .ok (.iload 8, 2) := by decide +kernel
theorem dX0_passOn_57 : decode cX0_passOn 57 = .ok (.invokestatic 56, 3) := by decide +kernel
theorem dX0_passOn_60 : decode cX0_passOn 60 = .ok (.ifCond .eq 18, 3) := by decide +kernel
theorem dX0_passOn_63 : decode cX0_passOn 63 = .ok (.aload_n 0, 1) := by decide +kernel
theorem dX0_passOn_64 : decode cX0_passOn 64 = .ok (.iload 8, 2) := by decide +kernel
theorem dX0_passOn_66 : decode cX0_passOn 66 = .ok (.aload_n 0, 1) := by decide +kernel
theorem dX0_passOn_67 : decode cX0_passOn 67 = .ok (.iload_n 1, 1) := by decide +kernel
theorem dX0_passOn_68 : decode cX0_passOn 68 = .ok (.invokevirtual 60, 3) := by decide +kernel
theorem dX0_passOn_71 : decode cX0_passOn 71 = .ok (.iconst 1, 1) := by decide +kernel
theorem dX0_passOn_72 : decode cX0_passOn 72 = .ok (.iadd, 1) := by decide +kernel
theorem dX0_passOn_73 : decode cX0_passOn 73 = .ok (.iload 5, 2) := by decide +kernel
theorem dX0_passOn_75 : decode cX0_passOn 75 = .ok (.invokevirtual 37, 3) := by decide +kernel
theorem dX0_passOn_78 : decode cX0_passOn 78 = .ok (.iinc 6 1, 3) := by decide +kernel
theorem dX0_passOn_81 : decode cX0_passOn 81 = .ok (.goto (-68), 3) := by decide +kernel
theorem dX0_passOn_84 : decode cX0_passOn 84 = .ok (.return_, 1) := by decide +kernel
set_option maxRecDepth 20000 in
theorem ggX0_receive_X6_write : GoodIn wsX0_receive wsX6_write := goodIn_r _ [7] (by decide +kernel) (by decide +kernel)
set_option maxRecDepth 20000 in
theorem gX0_receive_X6_write_n63 : GoodIn wsX0_receive (wsX6_write) := ggX0_receive_X6_write
theorem dX0_receive_0 : decode cX0_receive 0 = .ok (.aload_n 0, 1) := by decide +kernel
theorem dX0_receive_1 : decode cX0_receive 1 = .ok (.getfield 9, 3) := by decide +kernel
theorem dX0_receive_4 : decode cX0_receive 4 = .ok (.iload_n 1, 1) := by decide +kernel
theorem dX0_receive_5 : decode cX0_receive 5 = .ok (.iload_n 2, 1) := by decide +kernel
theorem dX0_receive_6 : decode cX0_receive 6 = .ok (.invokestatic 63, 3) := by decide +kernel
theorem dX0_receive_9 : decode cX0_receive 9 = .ok (.aload_n 0, 1) := by decide +kernel
theorem dX0_receive_10 : decode cX0_receive 10 = .ok (.getfield 15, 3) := by decide +kernel
theorem dX0_receive_13 : decode cX0_receive 13 = .ok (.iload_n 1, 1) := by decide +kernel
theorem dX0_receive_14 : decode cX0_receive 14 = .ok (.iload_n 3, 1) := by decide +kernel
theorem dX0_receive_15 : decode cX0_receive 15 = .ok (.invokestatic 63, 3) := by decide +kernel
theorem dX0_receive_18 : decode cX0_receive 18 = .ok (.aload_n 0, 1) := by decide +kernel
theorem dX0_receive_19 : decode cX0_receive 19 = .ok (.getfield 18, 3) := by decide +kernel
theorem dX0_receive_22 : decode cX0_receive 22 = .ok (.aload_n 0, 1) := by decide +kernel
theorem dX0_receive_23 : decode cX0_receive 23 = .ok (.getfield 27, 3) := by decide +kernel
theorem dX0_receive_26 : decode cX0_receive 26 = .ok (.iload_n 1, 1) := by decide +kernel
theorem dX0_receive_27 : decode cX0_receive 27 = .ok (.invokestatic 63, 3) := by decide +kernel
theorem dX0_receive_30 : decode cX0_receive 30 = .ok (.aload_n 0, 1) := by decide +kernel
theorem dX0_receive_31 : decode cX0_receive 31 = .ok (.dup, 1) := by decide +kernel
theorem dX0_receive_32 : decode cX0_receive 32 = .ok (.getfield 27, 3) := by decide +kernel
theorem dX0_receive_35 : decode cX0_receive 35 = .ok (.iconst 1, 1) := by decide +kernel
theorem dX0_receive_36 : decode cX0_receive 36 = .ok (.iadd, 1) := by decide +kernel
theorem dX0_receive_37 : decode cX0_receive 37 = .ok (.putfield 27, 3) := by decide +kernel
theorem dX0_receive_40 : decode cX0_receive 40 = .ok (.return_, 1) := by decide +kernel
theorem dX1_init_0 : decode cX1_init 0 = .ok (.aload_n 0, 1) := by decide +kernel
theorem dX1_init_1 : decode cX1_init 1 = .ok (.invokespecial 3, 3) := by decide +kernel
theorem dX1_init_4 : decode cX1_init 4 = .ok (.aload_n 0, 1) := by decide +kernel
theorem dX1_init_5 : decode cX1_init 5 = .ok (.bipush 64, 2) := by decide +kernel
theorem dX1_init_7 : decode cX1_init 7 = .ok (.newarray .int, 2) := by decide +kernel
theorem dX1_init_9 : decode cX1_init 9 = .ok (.putfield 9, 3) := by decide +kernel
theorem dX1_init_12 : decode cX1_init 12 = .ok (.aload_n 0, 1) := by decide +kernel
theorem dX1_init_13 : decode cX1_init 13 = .ok (.sipush 128, 3) := by decide +kernel
theorem dX1_init_16 : decode cX1_init 16 = .ok (.newarray .int, 2) := by decide +kernel
theorem dX1_init_18 : decode cX1_init 18 = .ok (.putfield 15, 3) := by decide +kernel
theorem dX1_init_21 : decode cX1_init 21 = .ok (.aload_n 0, 1) := by decide +kernel
theorem dX1_init_22 : decode cX1_init 22 = .ok (.sipush 128, 3) := by decide +kernel
theorem dX1_init_25 : decode cX1_init 25 = .ok (.newarray .int, 2) := by decide +kernel
theorem dX1_init_27 : decode cX1_init 27 = .ok (.putfield 18, 3) := by decide +kernel
theorem dX1_init_30 : decode cX1_init 30 = .ok (.return_, 1) := by decide +kernel
set_option maxRecDepth 20000 in
theorem ggX1_largest_J7_fill_53178 : GoodIn wsX1_largest wsJ7_fill_53178 := goodIn_r _ [9] (by decide +kernel) (by decide +kernel)
set_option maxRecDepth 20000 in
theorem gX1_largest_J7_fill_53178 : GoodIn wsX1_largest (va_wsS RX1 35 yJ7_fill_53178 wsJ7_fill_53178) := goodIn_app (goodIn_of _ (by decide +kernel)) ggX1_largest_J7_fill_53178
set_option maxRecDepth 20000 in
theorem ggX1_largest_X1_findsPath : GoodIn wsX1_largest wsX1_findsPath := goodIn_r _ [14, 15, 16, 1, 17, 2, 6, 7, 8, 9, 18, 19, 13, 20, 21, 22, 23, 24, 25, 26, 27, 28, 29, 30, 31, 32, 33, 34, 35, 36, 5, 3, 37, 38, 39, 40, 41, 42, 43, 44, 4, 45, 46, 51, 52, 53, 54, 55, 56, 57, 58] (by decide +kernel) (by decide +kernel)
set_option maxRecDepth 20000 in
theorem gX1_largest_X1_findsPath : GoodIn wsX1_largest (wsV RX1 41 RX1 yX1_findsPath wsX1_findsPath) := goodIn_app (goodIn_of _ (by decide +kernel)) ggX1_largest_X1_findsPath
set_option maxRecDepth 20000 in
theorem ggX1_largest_X1_addPath : GoodIn wsX1_largest wsX1_addPath := goodIn_r _ [50, 2, 15, 1, 5, 30, 31, 13, 32, 18, 19, 20, 25, 26, 27, 28, 29, 51, 52, 53, 54, 55, 56, 57, 58] (by decide +kernel) (by decide +kernel)
set_option maxRecDepth 20000 in
theorem gX1_largest_X1_addPath : GoodIn wsX1_largest (wsV RX1 45 RX1 yX1_addPath wsX1_addPath) := goodIn_app (goodIn_of _ (by decide +kernel)) ggX1_largest_X1_addPath
theorem dX1_largest_0 : decode cX1_largest 0 = .ok (.aload_n 0, 1) := by decide +kernel
theorem dX1_largest_1 : decode cX1_largest 1 = .ok (.iload_n 1, 1) := by decide +kernel
theorem dX1_largest_2 : decode cX1_largest 2 = .ok (.putfield 21, 3) := by decide +kernel
theorem dX1_largest_5 : decode cX1_largest 5 = .ok (.aload_n 0, 1) := by decide +kernel
theorem dX1_largest_6 : decode cX1_largest 6 = .ok (.iload_n 2, 1) := by decide +kernel
theorem dX1_largest_7 : decode cX1_largest 7 = .ok (.putfield 25, 3) := by decide +kernel
theorem dX1_largest_10 : decode cX1_largest 10 = .ok (.aload_n 0, 1) := by decide +kernel
theorem dX1_largest_11 : decode cX1_largest 11 = .ok (.iload_n 3, 1) := by decide +kernel
theorem dX1_largest_12 : decode cX1_largest 12 = .ok (.putfield 28, 3) := by decide +kernel
theorem dX1_largest_15 : decode cX1_largest 15 = .ok (.aload_n 0, 1) := by decide +kernel
theorem dX1_largest_16 : decode cX1_largest 16 = .ok (.lload 4, 2) := by decide +kernel
theorem dX1_largest_18 : decode cX1_largest 18 = .ok (.putfield 31, 3) := by decide +kernel
theorem dX1_largest_21 : decode cX1_largest 21 = .ok (.aload_n 0, 1) := by decide +kernel
theorem dX1_largest_22 : decode cX1_largest 22 = .ok (.getfield 9, 3) := by decide +kernel
theorem dX1_largest_25 : decode cX1_largest 25 = .ok (.iconst 0, 1) := by decide +kernel
theorem dX1_largest_26 : decode cX1_largest 26 = .ok (.invokestatic 35, 3) := by decide +kernel
theorem dX1_largest_29 : decode cX1_largest 29 = .ok (.iconst 0, 1) := by decide +kernel
theorem dX1_largest_30 : decode cX1_largest 30 = .ok (.istore 6, 2) := by decide +kernel
theorem dX1_largest_32 : decode cX1_largest 32 = .ok (.iconst 0, 1) := by decide +kernel
theorem dX1_largest_33 : decode cX1_largest 33 = .ok (.istore 7, 2) := by decide +kernel
theorem dX1_largest_35 : decode cX1_largest 35 = .ok (.iload 7, 2) := by decide +kernel
theorem dX1_largest_37 : decode cX1_largest 37 = .ok (.bipush 6, 2) := by decide +kernel
theorem dX1_largest_39 : decode cX1_largest 39 = .ok (.if_icmp .ge 26, 3) := by decide +kernel
theorem dX1_largest_42 : decode cX1_largest 42 = .ok (.aload_n 0, 1) := by decide +kernel
theorem dX1_largest_43 : decode cX1_largest 43 = .ok (.invokevirtual 41, 3) := by decide +kernel
theorem dX1_largest_46 : decode cX1_largest 46 = .ok (.ifCond .ne 6, 3) := by decide +kernel
theorem dX1_largest_49 : decode cX1_largest 49 = .ok (.iload 6, 2) := by decide +kernel
theorem dX1_largest_51 : decode cX1_largest 51 = .ok (.ireturn, 1) := by decide +kernel
theorem dX1_largest_52 : decode cX1_largest 52 = .ok (.aload_n 0, 1) := by decide +kernel
theorem dX1_largest_53 : decode cX1_largest 53 = .ok (.invokevirtual 45, 3) := by decide +kernel
theorem dX1_largest_56 : decode cX1_largest 56 = .ok (.iinc 6 1, 3) := by decide +kernel
theorem dX1_largest_59 : decode cX1_largest 59 = .ok (.iinc 7 1, 3) := by decide +kernel
theorem dX1_largest_62 : decode cX1_largest 62 = .ok (.goto (-27), 3) := by decide +kernel
theorem dX1_largest_65 : decode cX1_largest 65 = .ok (.iload 6, 2) := by decide +kernel
theorem dX1_largest_67 : decode cX1_largest 67 = .ok (.ireturn, 1) := by decide +kernel
set_option maxRecDepth 20000 in
theorem ggX1_findsPath_J7_fill_53178 : GoodIn wsX1_findsPath wsJ7_fill_53178 := goodIn_r _ [9] (by decide +kernel) (by decide +kernel)
set_option maxRecDepth 20000 in
theorem gX1_findsPath_J7_fill_53178 : GoodIn wsX1_findsPath (va_wsS RX1 35 yJ7_fill_53178 wsJ7_fill_53178) := goodIn_app (goodIn_of _ (by decide +kernel)) ggX1_findsPath_J7_fill_53178
set_option maxRecDepth 20000 in
theorem ggX1_findsPath_X1_exit : GoodIn wsX1_findsPath wsX1_exit := goodIn_r _ [13] (by decide +kernel) (by decide +kernel)
set_option maxRecDepth 20000 in
theorem gX1_findsPath_X1_exit : GoodIn wsX1_findsPath (va_wsS RX1 51 yX1_exit wsX1_exit) := goodIn_app (goodIn_of _ (by decide +kernel)) ggX1_findsPath_X1_exit
set_option maxRecDepth 20000 in
theorem ggX1_findsPath_X1_discover : GoodIn wsX1_findsPath wsX1_discover := goodIn_r _ [17, 1, 4, 2, 18, 19, 20, 21, 22, 43, 44, 45, 46, 47, 48, 49, 50] (by decide +kernel) (by decide +kernel)
set_option maxRecDepth 20000 in
theorem gX1_findsPath_X1_discover : GoodIn wsX1_findsPath (wsV RX1 55 RX1 yX1_discover wsX1_discover) := goodIn_app (goodIn_of _ (by decide +kernel)) ggX1_findsPath_X1_discover
set_option maxRecDepth 20000 in
theorem ggX1_findsPath_X1_entry : GoodIn wsX1_findsPath wsX1_entry := goodIn_r _ [25] (by decide +kernel) (by decide +kernel)
set_option maxRecDepth 20000 in
theorem gX1_findsPath_X1_entry : GoodIn wsX1_findsPath (va_wsS RX1 59 yX1_entry wsX1_entry) := goodIn_app (goodIn_of _ (by decide +kernel)) ggX1_findsPath_X1_entry
set_option maxRecDepth 20000 in
theorem ggX1_findsPath_X1_searchFromEntry : GoodIn wsX1_findsPath wsX1_searchFromEntry := goodIn_r _ [29, 30, 31, 18, 19, 20, 10, 11, 12, 13, 23, 24, 25, 14, 15, 16, 17, 1, 4, 2, 21, 22, 32, 33, 34, 35, 43, 44, 45, 46, 47, 48, 49, 50] (by decide +kernel) (by decide +kernel)
set_option maxRecDepth 20000 in
theorem gX1_findsPath_X1_searchFromEntry : GoodIn wsX1_findsPath (wsV RX1 62 RX1 yX1_searchFromEntry wsX1_searchFromEntry) := goodIn_app (goodIn_of _ (by decide +kernel)) ggX1_findsPath_X1_searchFromEntry
set_option maxRecDepth 20000 in
theorem ggX1_findsPath_X1_searchFromExit : GoodIn wsX1_findsPath wsX1_searchFromExit := goodIn_r _ [39, 30, 31, 3, 40, 18, 19, 20, 32, 33, 34, 35, 41, 42, 23, 24, 12, 25, 10, 11, 13, 14, 15, 16, 17, 1, 4, 2, 21, 22, 43, 44, 45, 46, 47, 48, 49, 50] (by decide +kernel) (by decide +kernel)
set_option maxRecDepth 20000 in
theorem gX1_findsPath_X1_searchFromExit : GoodIn wsX1_findsPath (wsV RX1 66 RX1 yX1_searchFromExit wsX1_searchFromExit) := goodIn_app (goodIn_of _ (by decide +kernel)) ggX1_findsPath_X1_searchFromExit
theorem dX1_findsPath_0 : decode cX1_findsPath 0 = .ok (.aload_n 0, 1) := by decide +kernel
theorem dX1_findsPath_1 : decode cX1_findsPath 1 = .ok (.getfield 15, 3) := by decide +kernel
theorem dX1_findsPath_4 : decode cX1_findsPath 4 = .ok (.iconst (-1), 1) := by decide +kernel
theorem dX1_findsPath_5 : decode cX1_findsPath 5 = .ok (.invokestatic 35, 3) := by decide +kernel
theorem dX1_findsPath_8 : decode cX1_findsPath 8 = .ok (.aload_n 0, 1) := by decide +kernel
theorem dX1_findsPath_9 : decode cX1_findsPath 9 = .ok (.iconst 0, 1) := by decide +kernel
theorem dX1_findsPath_10 : decode cX1_findsPath 10 = .ok (.putfield 48, 3) := by decide +kernel
theorem dX1_findsPath_13 : decode cX1_findsPath 13 = .ok (.aload_n 0, 1) := by decide +kernel
theorem dX1_findsPath_14 : decode cX1_findsPath 14 = .ok (.aload_n 0, 1) := by decide +kernel
theorem dX1_findsPath_15 : decode cX1_findsPath 15 = .ok (.getfield 21, 3) := by decide +kernel
theorem dX1_findsPath_18 : decode cX1_findsPath 18 = .ok (.invokestatic 51, 3) := by decide +kernel
theorem dX1_findsPath_21 : decode cX1_findsPath 21 = .ok (.aload_n 0, 1) := by decide +kernel
theorem dX1_findsPath_22 : decode cX1_findsPath 22 = .ok (.getfield 21, 3) := by decide +kernel
theorem dX1_findsPath_25 : decode cX1_findsPath 25 = .ok (.invokestatic 51, 3) := by decide +kernel
theorem dX1_findsPath_28 : decode cX1_findsPath 28 = .ok (.invokevirtual 55, 3) := by decide +kernel
theorem dX1_findsPath_31 : decode cX1_findsPath 31 = .ok (.iconst 0, 1) := by decide +kernel
theorem dX1_findsPath_32 : decode cX1_findsPath 32 = .ok (.istore_n 1, 1) := by decide +kernel
theorem dX1_findsPath_33 : decode cX1_findsPath 33 = .ok (.iload_n 1, 1) := by decide +kernel
theorem dX1_findsPath_34 : decode cX1_findsPath 34 = .ok (.aload_n 0, 1) := by decide +kernel
theorem dX1_findsPath_35 : decode cX1_findsPath 35 = .ok (.getfield 48, 3) := by decide +kernel
theorem dX1_findsPath_38 : decode cX1_findsPath 38 = .ok (.if_icmp .ge 65, 3) := by decide +kernel
theorem dX1_findsPath_41 : decode cX1_findsPath 41 = .ok (.iload_n 1, 1) := by decide +kernel
theorem dX1_findsPath_42 : decode cX1_findsPath 42 = .ok (.aload_n 0, 1) := by decide +kernel
theorem dX1_findsPath_43 : decode cX1_findsPath 43 = .ok (.getfield 18, 3) := by decide +kernel
theorem dX1_findsPath_46 : decode cX1_findsPath 46 = .ok (.arraylength, 1) := by decide +kernel
theorem dX1_findsPath_47 : decode cX1_findsPath 47 = .ok (.if_icmp .ge 56, 3) := by decide +kernel
theorem dX1_findsPath_50 : decode cX1_findsPath 50 = .ok (.aload_n 0, 1) := by decide +kernel
theorem dX1_findsPath_51 : decode cX1_findsPath 51 = .ok (.getfield 18, 3) := by decide +kernel
theorem dX1_findsPath_54 : decode cX1_findsPath 54 = .ok (.iload_n 1, 1) := by decide +kernel
theorem dX1_findsPath_55 : decode cX1_findsPath 55 = .ok (.iaload, 1) := by decide +kernel
theorem dX1_findsPath_56 : decode cX1_findsPath 56 = .ok (.istore_n 2, 1) := by decide +kernel
theorem dX1_findsPath_57 : decode cX1_findsPath 57 = .ok (.iload_n 2, 1) := by decide +kernel
theorem dX1_findsPath_58 : decode cX1_findsPath 58 = .ok (.aload_n 0, 1) := by decide +kernel
theorem dX1_findsPath_59 : decode cX1_findsPath 59 = .ok (.getfield 25, 3) := by decide +kernel
theorem dX1_findsPath_62 : decode cX1_findsPath 62 = .ok (.invokestatic 59, 3) := by decide +kernel
theorem dX1_findsPath_65 : decode cX1_findsPath 65 = .ok (.if_icmp .ne 5, 3) := by decide +kernel
theorem dX1_findsPath_68 : decode cX1_findsPath 68 = .ok (.iconst 1, 1) := by decide +kernel
theorem dX1_findsPath_69 : decode cX1_findsPath 69 = .ok (.ireturn, 1) := by decide +kernel
theorem dX1_findsPath_70 : decode cX1_findsPath 70 = .ok (.iload_n 2, 1) := by decide +kernel
theorem dX1_findsPath_71 : decode cX1_findsPath 71 = .ok (.iload_n 2, 1) := by decide +kernel
theorem dX1_findsPath_72 : decode cX1_findsPath 72 = .ok (.iconst 2, 1) := by decide +kernel
theorem dX1_findsPath_73 : decode cX1_findsPath 73 = .ok (.idiv, 1) := by decide +kernel
theorem dX1_findsPath_74 : decode cX1_findsPath 74 = .ok (.invokestatic 59, 3) := by decide +kernel
theorem dX1_findsPath_77 : decode cX1_findsPath 77 = .ok (.if_icmp .ne 13, 3) := by decide +kernel
theorem dX1_findsPath_80 : decode cX1_findsPath 80 = .ok (.aload_n 0, 1) := by decide +kernel
theorem dX1_findsPath_81 : decode cX1_findsPath 81 = .ok (.iload_n 2, 1) := by decide +kernel
theorem dX1_findsPath_82 : decode cX1_findsPath 82 = .ok (.iconst 2, 1) := by decide +kernel
theorem dX1_findsPath_83 : decode cX1_findsPath 83 = .ok (.idiv, 1) := by decide +kernel
theorem dX1_findsPath_84 : decode cX1_findsPath 84 = .ok (.invokevirtual 62, 3) := by decide +kernel
theorem dX1_findsPath_87 : decode cX1_findsPath 87 = .ok (.goto 10, 3) := by decide +kernel
theorem dX1_findsPath_90 : decode cX1_findsPath 90 = .ok (.aload_n 0, 1) := by decide +kernel
theorem dX1_findsPath_91 : decode cX1_findsPath 91 = .ok (.iload_n 2, 1) := by decide +kernel
theorem dX1_findsPath_92 : decode cX1_findsPath 92 = .ok (.iconst 2, 1) := by decide +kernel
theorem dX1_findsPath_93 : decode cX1_findsPath 93 = .ok (.idiv, 1) := by decide +kernel
theorem dX1_findsPath_94 : decode cX1_findsPath 94 = .ok (.invokevirtual 66, 3) := by decide +kernel
theorem dX1_findsPath_97 : decode cX1_findsPath 97 = .ok (.iinc 1 1, 3) := by decide +kernel
theorem dX1_findsPath_100 : decode cX1_findsPath 100 = .ok (.goto (-67), 3) := by decide +kernel
theorem dX1_findsPath_103 : decode cX1_findsPath 103 = .ok (.iconst 0, 1) := by decide +kernel
theorem dX1_findsPath_104 : decode cX1_findsPath 104 = .ok (.ireturn, 1) := by decide +kernel
set_option maxRecDepth 20000 in
theorem ggX1_searchFromExit_X6_read : GoodIn wsX1_searchFromExit wsX6_read := goodIn_r _ [7] (by decide +kernel) (by decide +kernel)
set_option maxRecDepth 20000 in
theorem gX1_searchFromExit_X6_read_n69 : GoodIn wsX1_searchFromExit (wsX6_read) := ggX1_searchFromExit_X6_read
set_option maxRecDepth 20000 in
theorem ggX1_searchFromExit_X6_neighbour : GoodIn wsX1_searchFromExit wsX6_neighbour := goodIn_r _ [9] (by decide +kernel) (by decide +kernel)
set_option maxRecDepth 20000 in
theorem gX1_searchFromExit_X6_neighbour_n73 : GoodIn wsX1_searchFromExit (wsX6_neighbour) := ggX1_searchFromExit_X6_neighbour
set_option maxRecDepth 20000 in
theorem ggX1_searchFromExit_X6_hasBit : GoodIn wsX1_searchFromExit wsX6_hasBit := goodIn_r _ [11] (by decide +kernel) (by decide +kernel)
set_option maxRecDepth 20000 in
theorem gX1_searchFromExit_X6_hasBit_n77 : GoodIn wsX1_searchFromExit (wsX6_hasBit) := ggX1_searchFromExit_X6_hasBit
set_option maxRecDepth 20000 in
theorem ggX1_searchFromExit_X6_contains : GoodIn wsX1_searchFromExit wsX6_contains := goodIn_r _ [13] (by decide +kernel) (by decide +kernel)
set_option maxRecDepth 20000 in
theorem gX1_searchFromExit_X6_contains_n81 : GoodIn wsX1_searchFromExit (wsX6_contains) := ggX1_searchFromExit_X6_contains
set_option maxRecDepth 20000 in
theorem ggX1_searchFromExit_X1_entry : GoodIn wsX1_searchFromExit wsX1_entry := goodIn_r _ [17] (by decide +kernel) (by decide +kernel)
set_option maxRecDepth 20000 in
theorem gX1_searchFromExit_X1_entry : GoodIn wsX1_searchFromExit (va_wsS RX1 59 yX1_entry wsX1_entry) := goodIn_app (goodIn_of _ (by decide +kernel)) ggX1_searchFromExit_X1_entry
set_option maxRecDepth 20000 in
theorem ggX1_searchFromExit_X1_exit : GoodIn wsX1_searchFromExit wsX1_exit := goodIn_r _ [20] (by decide +kernel) (by decide +kernel)
set_option maxRecDepth 20000 in
theorem gX1_searchFromExit_X1_exit : GoodIn wsX1_searchFromExit (va_wsS RX1 51 yX1_exit wsX1_exit) := goodIn_app (goodIn_of _ (by decide +kernel)) ggX1_searchFromExit_X1_exit
set_option maxRecDepth 20000 in
theorem ggX1_searchFromExit_X1_discover : GoodIn wsX1_searchFromExit wsX1_discover := goodIn_r _ [24, 25, 26, 27, 5, 6, 7, 28, 29, 30, 31, 32, 33, 34, 35, 36, 37] (by decide +kernel) (by decide +kernel)
set_option maxRecDepth 20000 in
theorem gX1_searchFromExit_X1_discover : GoodIn wsX1_searchFromExit (wsV RX1 55 RX1 yX1_discover wsX1_discover) := goodIn_app (goodIn_of _ (by decide +kernel)) ggX1_searchFromExit_X1_discover
theorem dX1_searchFromExit_0 : decode cX1_searchFromExit 0 = .ok (.aload_n 0, 1) := by decide +kernel
theorem dX1_searchFromExit_1 : decode cX1_searchFromExit 1 = .ok (.getfield 9, 3) := by decide +kernel
theorem dX1_searchFromExit_4 : decode cX1_searchFromExit 4 = .ok (.iload_n 1, 1) := by decide +kernel
theorem dX1_searchFromExit_5 : decode cX1_searchFromExit 5 = .ok (.invokestatic 69, 3) := by decide +kernel
theorem dX1_searchFromExit_8 : decode cX1_searchFromExit 8 = .ok (.istore_n 2, 1) := by decide +kernel
theorem dX1_searchFromExit_9 : decode cX1_searchFromExit 9 = .ok (.iconst 0, 1) := by decide +kernel
theorem dX1_searchFromExit_10 : decode cX1_searchFromExit 10 = .ok (.istore_n 3, 1) := by decide +kernel
theorem dX1_searchFromExit_11 : decode cX1_searchFromExit 11 = .ok (.iload_n 3, 1) := by decide +kernel
theorem dX1_searchFromExit_12 : decode cX1_searchFromExit 12 = .ok (.aload_n 0, 1) := by decide +kernel
theorem dX1_searchFromExit_13 : decode cX1_searchFromExit 13 = .ok (.getfield 28, 3) := by decide +kernel
theorem dX1_searchFromExit_16 : decode cX1_searchFromExit 16 = .ok (.if_icmp .ge 58, 3) := by decide +kernel
theorem dX1_searchFromExit_19 : decode cX1_searchFromExit 19 = .ok (.iload_n 1, 1) := by decide +kernel
theorem dX1_searchFromExit_20 : decode cX1_searchFromExit 20 = .ok (.iload_n 3, 1) := by decide +kernel
theorem dX1_searchFromExit_21 : decode cX1_searchFromExit 21 = .ok (.invokestatic 73, 3) := by decide +kernel
theorem dX1_searchFromExit_24 : decode cX1_searchFromExit 24 = .ok (.istore 4, 2) := by decide +kernel
theorem dX1_searchFromExit_26 : decode cX1_searchFromExit 26 = .ok (.iload_n 2, 1) := by decide +kernel
theorem dX1_searchFromExit_27 : decode cX1_searchFromExit 27 = .ok (.iload_n 3, 1) := by decide +kernel
theorem dX1_searchFromExit_28 : decode cX1_searchFromExit 28 = .ok (.invokestatic 77, 3) := by decide +kernel
theorem dX1_searchFromExit_31 : decode cX1_searchFromExit 31 = .ok (.ifCond .ne 37, 3) := by decide +kernel
theorem dX1_searchFromExit_34 : decode cX1_searchFromExit 34 = .ok (.iload 4, 2) := by decide +kernel
theorem dX1_searchFromExit_36 : decode cX1_searchFromExit 36 = .ok (.aload_n 0, 1) := by decide +kernel
theorem dX1_searchFromExit_37 : decode cX1_searchFromExit 37 = .ok (.getfield 21, 3) := by decide +kernel
theorem dX1_searchFromExit_40 : decode cX1_searchFromExit 40 = .ok (.if_icmp .eq 28, 3) := by decide +kernel
theorem dX1_searchFromExit_43 : decode cX1_searchFromExit 43 = .ok (.aload_n 0, 1) := by decide +kernel
theorem dX1_searchFromExit_44 : decode cX1_searchFromExit 44 = .ok (.getfield 31, 3) := by decide +kernel
theorem dX1_searchFromExit_47 : decode cX1_searchFromExit 47 = .ok (.iload 4, 2) := by decide +kernel
theorem dX1_searchFromExit_49 : decode cX1_searchFromExit 49 = .ok (.invokestatic 81, 3) := by decide +kernel
theorem dX1_searchFromExit_52 : decode cX1_searchFromExit 52 = .ok (.ifCond .eq 16, 3) := by decide +kernel
theorem dX1_searchFromExit_55 : decode cX1_searchFromExit 55 = .ok (.aload_n 0, 1) := by decide +kernel
theorem dX1_searchFromExit_56 : decode cX1_searchFromExit 56 = .ok (.iload 4, 2) := by decide +kernel
theorem dX1_searchFromExit_58 : decode cX1_searchFromExit 58 = .ok (.invokestatic 59, 3) := by decide +kernel
theorem dX1_searchFromExit_61 : decode cX1_searchFromExit 61 = .ok (.iload_n 1, 1) := by decide +kernel
theorem dX1_searchFromExit_62 : decode cX1_searchFromExit 62 = .ok (.invokestatic 51, 3) := by decide +kernel
theorem dX1_searchFromExit_65 : decode cX1_searchFromExit 65 = .ok (.invokevirtual 55, 3) := by decide +kernel
theorem dX1_searchFromExit_68 : decode cX1_searchFromExit 68 = .ok (.iinc 3 1, 3) := by decide +kernel
theorem dX1_searchFromExit_71 : decode cX1_searchFromExit 71 = .ok (.goto (-60), 3) := by decide +kernel
theorem dX1_searchFromExit_74 : decode cX1_searchFromExit 74 = .ok (.iload_n 1, 1) := by decide +kernel
theorem dX1_searchFromExit_75 : decode cX1_searchFromExit 75 = .ok (.aload_n 0, 1) := by decide +kernel
theorem dX1_searchFromExit_76 : decode cX1_searchFromExit 76 = .ok (.getfield 21, 3) := by decide +kernel
theorem dX1_searchFromExit_79 : decode cX1_searchFromExit 79 = .ok (.if_icmp .eq 19, 3) := by decide +kernel
theorem dX1_searchFromExit_82 : decode cX1_searchFromExit 82 = .ok (.iload_n 2, 1) := by decide +kernel
theorem dX1_searchFromExit_83 : decode cX1_searchFromExit 83 = .ok (.ifCond .eq 15, 3) := by decide +kernel
theorem dX1_searchFromExit_86 : decode cX1_searchFromExit 86 = .ok (.aload_n 0, 1) := by decide +kernel
theorem dX1_searchFromExit_87 : decode cX1_searchFromExit 87 = .ok (.iload_n 1, 1) := by decide +kernel
theorem dX1_searchFromExit_88 : decode cX1_searchFromExit 88 = .ok (.invokestatic 59, 3) := by decide +kernel
theorem dX1_searchFromExit_91 : decode cX1_searchFromExit 91 = .ok (.iload_n 1, 1) := by decide +kernel
theorem dX1_searchFromExit_92 : decode cX1_searchFromExit 92 = .ok (.invokestatic 51, 3) := by decide +kernel
theorem dX1_searchFromExit_95 : decode cX1_searchFromExit 95 = .ok (.invokevirtual 55, 3) := by decide +kernel
theorem dX1_searchFromExit_98 : decode cX1_searchFromExit 98 = .ok (.return_, 1) := by decide +kernel
set_option maxRecDepth 20000 in
theorem ggX1_searchFromEntry_X6_read : GoodIn wsX1_searchFromEntry wsX6_read := goodIn_r _ [5] (by decide +kernel) (by decide +kernel)
set_option maxRecDepth 20000 in
theorem gX1_searchFromEntry_X6_read_n69 : GoodIn wsX1_searchFromEntry (wsX6_read) := ggX1_searchFromEntry_X6_read
set_option maxRecDepth 20000 in
theorem ggX1_searchFromEntry_X1_exit : GoodIn wsX1_searchFromEntry wsX1_exit := goodIn_r _ [9] (by decide +kernel) (by decide +kernel)
set_option maxRecDepth 20000 in
theorem gX1_searchFromEntry_X1_exit : GoodIn wsX1_searchFromEntry (va_wsS RX1 51 yX1_exit wsX1_exit) := goodIn_app (goodIn_of _ (by decide +kernel)) ggX1_searchFromEntry_X1_exit
set_option maxRecDepth 20000 in
theorem ggX1_searchFromEntry_X1_entry : GoodIn wsX1_searchFromEntry wsX1_entry := goodIn_r _ [12] (by decide +kernel) (by decide +kernel)
set_option maxRecDepth 20000 in
theorem gX1_searchFromEntry_X1_entry : GoodIn wsX1_searchFromEntry (va_wsS RX1 59 yX1_entry wsX1_entry) := goodIn_app (goodIn_of _ (by decide +kernel)) ggX1_searchFromEntry_X1_entry
set_option maxRecDepth 20000 in
theorem ggX1_searchFromEntry_X1_discover : GoodIn wsX1_searchFromEntry wsX1_discover := goodIn_r _ [16, 17, 18, 19, 3, 4, 5, 20, 21, 26, 27, 28, 29, 30, 31, 32, 33] (by decide +kernel) (by decide +kernel)
set_option maxRecDepth 20000 in
theorem gX1_searchFromEntry_X1_discover : GoodIn wsX1_searchFromEntry (wsV RX1 55 RX1 yX1_discover wsX1_discover) := goodIn_app (goodIn_of _ (by decide +kernel)) ggX1_searchFromEntry_X1_discover
set_option maxRecDepth 20000 in
theorem ggX1_searchFromEntry_X6_neighbour : GoodIn wsX1_searchFromEntry wsX6_neighbour := goodIn_r _ [23] (by decide +kernel) (by decide +kernel)
set_option maxRecDepth 20000 in
theorem gX1_searchFromEntry_X6_neighbour_n73 : GoodIn wsX1_searchFromEntry (wsX6_neighbour) := ggX1_searchFromEntry_X6_neighbour
set_option maxRecDepth 20000 in
theorem ggX1_searchFromEntry_X6_hasBit : GoodIn wsX1_searchFromEntry wsX6_hasBit := goodIn_r _ [25] (by decide +kernel) (by decide +kernel)
set_option maxRecDepth 20000 in
theorem gX1_searchFromEntry_X6_hasBit_n77 : GoodIn wsX1_searchFromEntry (wsX6_hasBit) := ggX1_searchFromEntry_X6_hasBit
theorem dX1_searchFromEntry_0 : decode cX1_searchFromEntry 0 = .ok (.aload_n 0, 1) := by decide +kernel
theorem dX1_searchFromEntry_1 : decode cX1_searchFromEntry 1 = .ok (.getfield 9, 3) := by decide +kernel
theorem dX1_searchFromEntry_4 : decode cX1_searchFromEntry 4 = .ok (.iload_n 1, 1) := by decide +kernel
theorem dX1_searchFromEntry_5 : decode cX1_searchFromEntry 5 = .ok (.invokestatic 69, 3) := by decide +kernel
theorem dX1_searchFromEntry_8 : decode cX1_searchFromEntry 8 = .ok (.ifCond .ne 15, 3) := by decide +kernel
theorem dX1_searchFromEntry_11 : decode cX1_searchFromEntry 11 = .ok (.aload_n 0, 1) := by decide +kernel
theorem dX1_searchFromEntry_12 : decode cX1_searchFromEntry 12 = .ok (.iload_n 1, 1) := by decide +kernel
theorem dX1_searchFromEntry_13 : decode cX1_searchFromEntry 13 = .ok (.invokestatic 51, 3) := by decide +kernel
theorem dX1_searchFromEntry_16 : decode cX1_searchFromEntry 16 = .ok (.iload_n 1, 1) := by decide +kernel
theorem dX1_searchFromEntry_17 : decode cX1_searchFromEntry 17 = .ok (.invokestatic 59, 3) := by decide +kernel
theorem dX1_searchFromEntry_20 : decode cX1_searchFromEntry 20 = .ok (.invokevirtual 55, 3) := by decide +kernel
theorem dX1_searchFromEntry_23 : decode cX1_searchFromEntry 23 = .ok (.iconst 0, 1) := by decide +kernel
theorem dX1_searchFromEntry_24 : decode cX1_searchFromEntry 24 = .ok (.istore_n 2, 1) := by decide +kernel
theorem dX1_searchFromEntry_25 : decode cX1_searchFromEntry 25 = .ok (.iload_n 2, 1) := by decide +kernel
theorem dX1_searchFromEntry_26 : decode cX1_searchFromEntry 26 = .ok (.aload_n 0, 1) := by decide +kernel
theorem dX1_searchFromEntry_27 : decode cX1_searchFromEntry 27 = .ok (.getfield 28, 3) := by decide +kernel
theorem dX1_searchFromEntry_30 : decode cX1_searchFromEntry 30 = .ok (.if_icmp .ge 42, 3) := by decide +kernel
theorem dX1_searchFromEntry_33 : decode cX1_searchFromEntry 33 = .ok (.iload_n 1, 1) := by decide +kernel
theorem dX1_searchFromEntry_34 : decode cX1_searchFromEntry 34 = .ok (.iload_n 2, 1) := by decide +kernel
theorem dX1_searchFromEntry_35 : decode cX1_searchFromEntry 35 = .ok (.invokestatic 73, 3) := by decide +kernel
theorem dX1_searchFromEntry_38 : decode cX1_searchFromEntry 38 = .ok (.istore_n 3, 1) := by decide +kernel
theorem dX1_searchFromEntry_39 : decode cX1_searchFromEntry 39 = .ok (.aload_n 0, 1) := by decide +kernel
theorem dX1_searchFromEntry_40 : decode cX1_searchFromEntry 40 = .ok (.getfield 9, 3) := by decide +kernel
theorem dX1_searchFromEntry_43 : decode cX1_searchFromEntry 43 = .ok (.iload_n 3, 1) := by decide +kernel
theorem dX1_searchFromEntry_44 : decode cX1_searchFromEntry 44 = .ok (.invokestatic 69, 3) := by decide +kernel
theorem dX1_searchFromEntry_47 : decode cX1_searchFromEntry 47 = .ok (.iload_n 2, 1) := by decide +kernel
theorem dX1_searchFromEntry_48 : decode cX1_searchFromEntry 48 = .ok (.invokestatic 77, 3) := by decide +kernel
theorem dX1_searchFromEntry_51 : decode cX1_searchFromEntry 51 = .ok (.ifCond .eq 15, 3) := by decide +kernel
theorem dX1_searchFromEntry_54 : decode cX1_searchFromEntry 54 = .ok (.aload_n 0, 1) := by decide +kernel
theorem dX1_searchFromEntry_55 : decode cX1_searchFromEntry 55 = .ok (.iload_n 3, 1) := by decide +kernel
theorem dX1_searchFromEntry_56 : decode cX1_searchFromEntry 56 = .ok (.invokestatic 51, 3) := by decide +kernel
theorem dX1_searchFromEntry_59 : decode cX1_searchFromEntry 59 = .ok (.iload_n 1, 1) := by decide +kernel
theorem dX1_searchFromEntry_60 : decode cX1_searchFromEntry 60 = .ok (.invokestatic 59, 3) := by decide +kernel
theorem dX1_searchFromEntry_63 : decode cX1_searchFromEntry 63 = .ok (.invokevirtual 55, 3) := by decide +kernel
theorem dX1_searchFromEntry_66 : decode cX1_searchFromEntry 66 = .ok (.iinc 2 1, 3) := by decide +kernel
theorem dX1_searchFromEntry_69 : decode cX1_searchFromEntry 69 = .ok (.goto (-44), 3) := by decide +kernel
theorem dX1_searchFromEntry_72 : decode cX1_searchFromEntry 72 = .ok (.return_, 1) := by decide +kernel
set_option maxRecDepth 20000 in
theorem ggX1_discover_X6_read : GoodIn wsX1_discover wsX6_read := goodIn_r _ [6] (by decide +kernel) (by decide +kernel)
set_option maxRecDepth 20000 in
theorem gX1_discover_X6_read_n69 : GoodIn wsX1_discover (wsX6_read) := ggX1_discover_X6_read
set_option maxRecDepth 20000 in
theorem ggX1_discover_X6_write : GoodIn wsX1_discover wsX6_write := goodIn_r _ [8] (by decide +kernel) (by decide +kernel)
set_option maxRecDepth 20000 in
theorem gX1_discover_X6_write_n85 : GoodIn wsX1_discover (wsX6_write) := ggX1_discover_X6_write
theorem dX1_discover_0 : decode cX1_discover 0 = .ok (.aload_n 0, 1) := by decide +kernel
theorem dX1_discover_1 : decode cX1_discover 1 = .ok (.getfield 15, 3) := by decide +kernel
theorem dX1_discover_4 : decode cX1_discover 4 = .ok (.iload_n 1, 1) := by decide +kernel
theorem dX1_discover_5 : decode cX1_discover 5 = .ok (.invokestatic 69, 3) := by decide +kernel
theorem dX1_discover_8 : decode cX1_discover 8 = .ok (.iconst (-1), 1) := by decide +kernel
theorem dX1_discover_9 : decode cX1_discover 9 = .ok (.if_icmp .ne 34, 3) := by decide +kernel
theorem dX1_discover_12 : decode cX1_discover 12 = .ok (.aload_n 0, 1) := by decide +kernel
theorem dX1_discover_13 : decode cX1_discover 13 = .ok (.getfield 15, 3) := by decide +kernel
theorem dX1_discover_16 : decode cX1_discover 16 = .ok (.iload_n 1, 1) := by decide +kernel
theorem dX1_discover_17 : decode cX1_discover 17 = .ok (.iload_n 2, 1) := by decide +kernel
theorem dX1_discover_18 : decode cX1_discover 18 = .ok (.invokestatic 85, 3) := by decide +kernel
theorem dX1_discover_21 : decode cX1_discover 21 = .ok (.aload_n 0, 1) := by decide +kernel
theorem dX1_discover_22 : decode cX1_discover 22 = .ok (.getfield 18, 3) := by decide +kernel
theorem dX1_discover_25 : decode cX1_discover 25 = .ok (.aload_n 0, 1) := by decide +kernel
theorem dX1_discover_26 : decode cX1_discover 26 = .ok (.getfield 48, 3) := by decide +kernel
theorem dX1_discover_29 : decode cX1_discover 29 = .ok (.iload_n 1, 1) := by decide +kernel
theorem dX1_discover_30 : decode cX1_discover 30 = .ok (.invokestatic 85, 3) := by decide +kernel
theorem dX1_discover_33 : decode cX1_discover 33 = .ok (.aload_n 0, 1) := by decide +kernel
theorem dX1_discover_34 : decode cX1_discover 34 = .ok (.dup, 1) := by decide +kernel
theorem dX1_discover_35 : decode cX1_discover 35 = .ok (.getfield 48, 3) := by decide +kernel
theorem dX1_discover_38 : decode cX1_discover 38 = .ok (.iconst 1, 1) := by decide +kernel
theorem dX1_discover_39 : decode cX1_discover 39 = .ok (.iadd, 1) := by decide +kernel
theorem dX1_discover_40 : decode cX1_discover 40 = .ok (.putfield 48, 3) := by decide +kernel
theorem dX1_discover_43 : decode cX1_discover 43 = .ok (.return_, 1) := by decide +kernel
set_option maxRecDepth 20000 in
theorem ggX1_addPath_X1_entry : GoodIn wsX1_addPath wsX1_entry := goodIn_r _ [8] (by decide +kernel) (by decide +kernel)
set_option maxRecDepth 20000 in
theorem gX1_addPath_X1_entry : GoodIn wsX1_addPath (va_wsS RX1 59 yX1_entry wsX1_entry) := goodIn_app (goodIn_of _ (by decide +kernel)) ggX1_addPath_X1_entry
set_option maxRecDepth 20000 in
theorem ggX1_addPath_X1_exit : GoodIn wsX1_addPath wsX1_exit := goodIn_r _ [11] (by decide +kernel) (by decide +kernel)
set_option maxRecDepth 20000 in
theorem gX1_addPath_X1_exit : GoodIn wsX1_addPath (va_wsS RX1 51 yX1_exit wsX1_exit) := goodIn_app (goodIn_of _ (by decide +kernel)) ggX1_addPath_X1_exit
set_option maxRecDepth 20000 in
theorem ggX1_addPath_X6_read : GoodIn wsX1_addPath wsX6_read := goodIn_r _ [14] (by decide +kernel) (by decide +kernel)
set_option maxRecDepth 20000 in
theorem gX1_addPath_X6_read_n69 : GoodIn wsX1_addPath (wsX6_read) := ggX1_addPath_X6_read
set_option maxRecDepth 20000 in
theorem ggX1_addPath_X6_write : GoodIn wsX1_addPath wsX6_write := goodIn_r _ [16] (by decide +kernel) (by decide +kernel)
set_option maxRecDepth 20000 in
theorem gX1_addPath_X6_write_n85 : GoodIn wsX1_addPath (wsX6_write) := ggX1_addPath_X6_write
theorem dX1_addPath_0 : decode cX1_addPath 0 = .ok (.aload_n 0, 1) := by decide +kernel
theorem dX1_addPath_1 : decode cX1_addPath 1 = .ok (.getfield 25, 3) := by decide +kernel
theorem dX1_addPath_4 : decode cX1_addPath 4 = .ok (.invokestatic 59, 3) := by decide +kernel
theorem dX1_addPath_7 : decode cX1_addPath 7 = .ok (.istore_n 1, 1) := by decide +kernel
theorem dX1_addPath_8 : decode cX1_addPath 8 = .ok (.iconst 0, 1) := by decide +kernel
theorem dX1_addPath_9 : decode cX1_addPath 9 = .ok (.istore_n 2, 1) := by decide +kernel
theorem dX1_addPath_10 : decode cX1_addPath 10 = .ok (.iload_n 2, 1) := by decide +kernel
theorem dX1_addPath_11 : decode cX1_addPath 11 = .ok (.aload_n 0, 1) := by decide +kernel
theorem dX1_addPath_12 : decode cX1_addPath 12 = .ok (.getfield 15, 3) := by decide +kernel
theorem dX1_addPath_15 : decode cX1_addPath 15 = .ok (.arraylength, 1) := by decide +kernel
theorem dX1_addPath_16 : decode cX1_addPath 16 = .ok (.if_icmp .ge 117, 3) := by decide +kernel
theorem dX1_addPath_19 : decode cX1_addPath 19 = .ok (.iload_n 1, 1) := by decide +kernel
theorem dX1_addPath_20 : decode cX1_addPath 20 = .ok (.aload_n 0, 1) := by decide +kernel
theorem dX1_addPath_21 : decode cX1_addPath 21 = .ok (.getfield 21, 3) := by decide +kernel
theorem dX1_addPath_24 : decode cX1_addPath 24 = .ok (.invokestatic 51, 3) := by decide +kernel
theorem dX1_addPath_27 : decode cX1_addPath 27 = .ok (.if_icmp .eq 106, 3) := by decide +kernel
theorem dX1_addPath_30 : decode cX1_addPath 30 = .ok (.aload_n 0, 1) := by decide +kernel
theorem dX1_addPath_31 : decode cX1_addPath 31 = .ok (.getfield 15, 3) := by decide +kernel
theorem dX1_addPath_34 : decode cX1_addPath 34 = .ok (.iload_n 1, 1) := by decide +kernel
theorem dX1_addPath_35 : decode cX1_addPath 35 = .ok (.invokestatic 69, 3) := by decide +kernel
theorem dX1_addPath_38 : decode cX1_addPath 38 = .ok (.istore_n 3, 1) := by decide +kernel
theorem dX1_addPath_39 : decode cX1_addPath 39 = .ok (.iload_n 1, 1) := by decide +kernel
theorem dX1_addPath_40 : decode cX1_addPath 40 = .ok (.iconst 2, 1) := by decide +kernel
theorem dX1_addPath_41 : decode cX1_addPath 41 = .ok (.idiv, 1) := by decide +kernel
theorem dX1_addPath_42 : decode cX1_addPath 42 = .ok (.istore 4, 2) := by decide +kernel
theorem dX1_addPath_44 : decode cX1_addPath 44 = .ok (.iload_n 3, 1) := by decide +kernel
theorem dX1_addPath_45 : decode cX1_addPath 45 = .ok (.iconst 2, 1) := by decide +kernel
theorem dX1_addPath_46 : decode cX1_addPath 46 = .ok (.idiv, 1) := by decide +kernel
theorem dX1_addPath_47 : decode cX1_addPath 47 = .ok (.istore 5, 2) := by decide +kernel
theorem dX1_addPath_49 : decode cX1_addPath 49 = .ok (.iload 4, 2) := by decide +kernel
theorem dX1_addPath_51 : decode cX1_addPath 51 = .ok (.iload 5, 2) := by decide +kernel
theorem dX1_addPath_53 : decode cX1_addPath 53 = .ok (.if_icmp .eq 39, 3) := by decide +kernel
theorem dX1_addPath_56 : decode cX1_addPath 56 = .ok (.iload_n 1, 1) := by decide +kernel
theorem dX1_addPath_57 : decode cX1_addPath 57 = .ok (.iload 4, 2) := by decide +kernel
theorem dX1_addPath_59 : decode cX1_addPath 59 = .ok (.invokestatic 59, 3) := by decide +kernel
theorem dX1_addPath_62 : decode cX1_addPath 62 = .ok (.if_icmp .ne 30, 3) := by decide +kernel
theorem dX1_addPath_65 : decode cX1_addPath 65 = .ok (.aload_n 0, 1) := by decide +kernel
theorem dX1_addPath_66 : decode cX1_addPath 66 = .ok (.getfield 9, 3) := by decide +kernel
theorem dX1_addPath_69 : decode cX1_addPath 69 = .ok (.iload 5, 2) := by decide +kernel
theorem dX1_addPath_71 : decode cX1_addPath 71 = .ok (.aload_n 0, 1) := by decide +kernel
theorem dX1_addPath_72 : decode cX1_addPath 72 = .ok (.getfield 9, 3) := by decide +kernel
theorem dX1_addPath_75 : decode cX1_addPath 75 = .ok (.iload 5, 2) := by decide +kernel
theorem dX1_addPath_77 : decode cX1_addPath 77 = .ok (.invokestatic 69, 3) := by decide +kernel
theorem dX1_addPath_80 : decode cX1_addPath 80 = .ok (.iload 4, 2) := by decide +kernel
theorem dX1_addPath_82 : decode cX1_addPath 82 = .ok (.iload 5, 2) := by decide +kernel
theorem dX1_addPath_84 : decode cX1_addPath 84 = .ok (.ixor, 1) := by decide +kernel
theorem dX1_addPath_85 : decode cX1_addPath 85 = .ok (.ior, 1) := by decide +kernel
theorem dX1_addPath_86 : decode cX1_addPath 86 = .ok (.invokestatic 85, 3) := by decide +kernel
theorem dX1_addPath_89 : decode cX1_addPath 89 = .ok (.goto 36, 3) := by decide +kernel
theorem dX1_addPath_92 : decode cX1_addPath 92 = .ok (.iload 4, 2) := by decide +kernel
theorem dX1_addPath_94 : decode cX1_addPath 94 = .ok (.iload 5, 2) := by decide +kernel
theorem dX1_addPath_96 : decode cX1_addPath 96 = .ok (.if_icmp .eq 29, 3) := by decide +kernel
theorem dX1_addPath_99 : decode cX1_addPath 99 = .ok (.aload_n 0, 1) := by decide +kernel
theorem dX1_addPath_100 : decode cX1_addPath 100 = .ok (.getfield 9, 3) := by decide +kernel
theorem dX1_addPath_103 : decode cX1_addPath 103 = .ok (.iload 4, 2) := by decide +kernel
theorem dX1_addPath_105 : decode cX1_addPath 105 = .ok (.aload_n 0, 1) := by decide +kernel
theorem dX1_addPath_106 : decode cX1_addPath 106 = .ok (.getfield 9, 3) := by decide +kernel
theorem dX1_addPath_109 : decode cX1_addPath 109 = .ok (.iload 4, 2) := by decide +kernel
theorem dX1_addPath_111 : decode cX1_addPath 111 = .ok (.invokestatic 69, 3) := by decide +kernel
theorem dX1_addPath_114 : decode cX1_addPath 114 = .ok (.iload 4, 2) := by decide +kernel
theorem dX1_addPath_116 : decode cX1_addPath 116 = .ok (.iload 5, 2) := by decide +kernel
theorem dX1_addPath_118 : decode cX1_addPath 118 = .ok (.ixor, 1) := by decide +kernel
theorem dX1_addPath_119 : decode cX1_addPath 119 = .ok (.iconst (-1), 1) := by decide +kernel
theorem dX1_addPath_120 : decode cX1_addPath 120 = .ok (.ixor, 1) := by decide +kernel
theorem dX1_addPath_121 : decode cX1_addPath 121 = .ok (.iand, 1) := by decide +kernel
theorem dX1_addPath_122 : decode cX1_addPath 122 = .ok (.invokestatic 85, 3) := by decide +kernel
theorem dX1_addPath_125 : decode cX1_addPath 125 = .ok (.iload_n 3, 1) := by decide +kernel
theorem dX1_addPath_126 : decode cX1_addPath 126 = .ok (.istore_n 1, 1) := by decide +kernel
theorem dX1_addPath_127 : decode cX1_addPath 127 = .ok (.iinc 2 1, 3) := by decide +kernel
theorem dX1_addPath_130 : decode cX1_addPath 130 = .ok (.goto (-120), 3) := by decide +kernel
theorem dX1_addPath_133 : decode cX1_addPath 133 = .ok (.return_, 1) := by decide +kernel
theorem dX1_entry_0 : decode cX1_entry 0 = .ok (.iconst 2, 1) := by decide +kernel
theorem dX1_entry_1 : decode cX1_entry 1 = .ok (.iload_n 0, 1) := by decide +kernel
theorem dX1_entry_2 : decode cX1_entry 2 = .ok (.imul, 1) := by decide +kernel
theorem dX1_entry_3 : decode cX1_entry 3 = .ok (.ireturn, 1) := by decide +kernel
theorem dX1_exit_0 : decode cX1_exit 0 = .ok (.iconst 2, 1) := by decide +kernel
theorem dX1_exit_1 : decode cX1_exit 1 = .ok (.iload_n 0, 1) := by decide +kernel
theorem dX1_exit_2 : decode cX1_exit 2 = .ok (.imul, 1) := by decide +kernel
theorem dX1_exit_3 : decode cX1_exit 3 = .ok (.iconst 1, 1) := by decide +kernel
theorem dX1_exit_4 : decode cX1_exit 4 = .ok (.iadd, 1) := by decide +kernel
theorem dX1_exit_5 : decode cX1_exit 5 = .ok (.ireturn, 1) := by decide +kernel
theorem dX2_init_0 : decode cX2_init 0 = .ok (.aload_n 0, 1) := by decide +kernel
theorem dX2_init_1 : decode cX2_init 1 = .ok (.invokespecial 3, 3) := by decide +kernel
theorem dX2_init_4 : decode cX2_init 4 = .ok (.aload_n 0, 1) := by decide +kernel
theorem dX2_init_5 : decode cX2_init 5 = .ok (.bipush 64, 2) := by decide +kernel
theorem dX2_init_7 : decode cX2_init 7 = .ok (.newarray .int, 2) := by decide +kernel
theorem dX2_init_9 : decode cX2_init 9 = .ok (.putfield 9, 3) := by decide +kernel
theorem dX2_init_12 : decode cX2_init 12 = .ok (.aload_n 0, 1) := by decide +kernel
theorem dX2_init_13 : decode cX2_init 13 = .ok (.bipush 64, 2) := by decide +kernel
theorem dX2_init_15 : decode cX2_init 15 = .ok (.newarray .int, 2) := by decide +kernel
theorem dX2_init_17 : decode cX2_init 17 = .ok (.putfield 15, 3) := by decide +kernel
theorem dX2_init_20 : decode cX2_init 20 = .ok (.aload_n 0, 1) := by decide +kernel
theorem dX2_init_21 : decode cX2_init 21 = .ok (.bipush 7, 2) := by decide +kernel
theorem dX2_init_23 : decode cX2_init 23 = .ok (.newarray .long, 2) := by decide +kernel
theorem dX2_init_25 : decode cX2_init 25 = .ok (.putfield 18, 3) := by decide +kernel
theorem dX2_init_28 : decode cX2_init 28 = .ok (.return_, 1) := by decide +kernel
set_option maxRecDepth 20000 in
theorem ggX2_find_X2_startLevels : GoodIn wsX2_find wsX2_startLevels := goodIn_r _ [7, 8, 1, 9, 10, 11, 12, 13, 48, 49, 50, 51, 52] (by decide +kernel) (by decide +kernel)
set_option maxRecDepth 20000 in
theorem gX2_find_X2_startLevels : GoodIn wsX2_find (wsV RX2 26 RX2 yX2_startLevels wsX2_startLevels) := goodIn_app (goodIn_of _ (by decide +kernel)) ggX2_find_X2_startLevels
set_option maxRecDepth 20000 in
theorem ggX2_find_X2_roundChanges : GoodIn wsX2_find wsX2_roundChanges := goodIn_r _ [17, 8, 18, 19, 20, 21, 22, 9, 10, 11, 23, 24, 25, 6, 26, 1, 27, 28, 29, 30, 31, 32, 33, 34, 12, 13, 48, 49, 50, 51, 52] (by decide +kernel) (by decide +kernel)
set_option maxRecDepth 20000 in
theorem gX2_find_X2_roundChanges : GoodIn wsX2_find (wsV RX2 33 RX2 yX2_roundChanges wsX2_roundChanges) := goodIn_app (goodIn_of _ (by decide +kernel)) ggX2_find_X2_roundChanges
set_option maxRecDepth 20000 in
theorem ggX2_find_X2_findVectors : GoodIn wsX2_find wsX2_findVectors := goodIn_r _ [38, 39, 1, 40, 41, 42, 43, 44, 45, 46, 6, 47, 31, 10, 32, 9, 11, 48, 49, 50, 51, 52] (by decide +kernel) (by decide +kernel)
set_option maxRecDepth 20000 in
theorem gX2_find_X2_findVectors : GoodIn wsX2_find (wsV RX2 37 RX2 yX2_findVectors wsX2_findVectors) := goodIn_app (goodIn_of _ (by decide +kernel)) ggX2_find_X2_findVectors
theorem dX2_find_0 : decode cX2_find 0 = .ok (.aload_n 0, 1) := by decide +kernel
theorem dX2_find_1 : decode cX2_find 1 = .ok (.iload_n 1, 1) := by decide +kernel
theorem dX2_find_2 : decode cX2_find 2 = .ok (.putfield 22, 3) := by decide +kernel
theorem dX2_find_5 : decode cX2_find 5 = .ok (.aload_n 0, 1) := by decide +kernel
theorem dX2_find_6 : decode cX2_find 6 = .ok (.lload_n 2, 1) := by decide +kernel
theorem dX2_find_7 : decode cX2_find 7 = .ok (.invokevirtual 26, 3) := by decide +kernel
theorem dX2_find_10 : decode cX2_find 10 = .ok (.aload_n 0, 1) := by decide +kernel
theorem dX2_find_11 : decode cX2_find 11 = .ok (.iconst 0, 1) := by decide +kernel
theorem dX2_find_12 : decode cX2_find 12 = .ok (.putfield 30, 3) := by decide +kernel
theorem dX2_find_15 : decode cX2_find 15 = .ok (.iconst 1, 1) := by decide +kernel
theorem dX2_find_16 : decode cX2_find 16 = .ok (.istore 4, 2) := by decide +kernel
theorem dX2_find_18 : decode cX2_find 18 = .ok (.iconst 0, 1) := by decide +kernel
theorem dX2_find_19 : decode cX2_find 19 = .ok (.istore 5, 2) := by decide +kernel
theorem dX2_find_21 : decode cX2_find 21 = .ok (.iload 5, 2) := by decide +kernel
theorem dX2_find_23 : decode cX2_find 23 = .ok (.sipush 385, 3) := by decide +kernel
theorem dX2_find_26 : decode cX2_find 26 = .ok (.if_icmp .ge 40, 3) := by decide +kernel
theorem dX2_find_29 : decode cX2_find 29 = .ok (.iload 4, 2) := by decide +kernel
theorem dX2_find_31 : decode cX2_find 31 = .ok (.ifCond .eq 35, 3) := by decide +kernel
theorem dX2_find_34 : decode cX2_find 34 = .ok (.aload_n 0, 1) := by decide +kernel
theorem dX2_find_35 : decode cX2_find 35 = .ok (.lload_n 2, 1) := by decide +kernel
theorem dX2_find_36 : decode cX2_find 36 = .ok (.invokevirtual 33, 3) := by decide +kernel
theorem dX2_find_39 : decode cX2_find 39 = .ok (.istore 4, 2) := by decide +kernel
theorem dX2_find_41 : decode cX2_find 41 = .ok (.aload_n 0, 1) := by decide +kernel
theorem dX2_find_42 : decode cX2_find 42 = .ok (.dup, 1) := by decide +kernel
theorem dX2_find_43 : decode cX2_find 43 = .ok (.getfield 30, 3) := by decide +kernel
theorem dX2_find_46 : decode cX2_find 46 = .ok (.iload 4, 2) := by decide +kernel
theorem dX2_find_48 : decode cX2_find 48 = .ok (.ifCond .eq 7, 3) := by decide +kernel
theorem dX2_find_51 : decode cX2_find 51 = .ok (.iconst 1, 1) := by decide +kernel
theorem dX2_find_52 : decode cX2_find 52 = .ok (.goto 4, 3) := by decide +kernel
theorem dX2_find_55 : decode cX2_find 55 = .ok (.iconst 0, 1) := by decide +kernel
theorem dX2_find_56 : decode cX2_find 56 = .ok (.iadd, 1) := by decide +kernel
theorem dX2_find_57 : decode cX2_find 57 = .ok (.putfield 30, 3) := by decide +kernel
theorem dX2_find_60 : decode cX2_find 60 = .ok (.iinc 5 1, 3) := by decide +kernel
theorem dX2_find_63 : decode cX2_find 63 = .ok (.goto (-42), 3) := by decide +kernel
theorem dX2_find_66 : decode cX2_find 66 = .ok (.aload_n 0, 1) := by decide +kernel
theorem dX2_find_67 : decode cX2_find 67 = .ok (.lload_n 2, 1) := by decide +kernel
theorem dX2_find_68 : decode cX2_find 68 = .ok (.invokevirtual 37, 3) := by decide +kernel
theorem dX2_find_71 : decode cX2_find 71 = .ok (.return_, 1) := by decide +kernel
set_option maxRecDepth 20000 in
theorem ggX2_startLevels_X6_contains : GoodIn wsX2_startLevels wsX6_contains := goodIn_r _ [5] (by decide +kernel) (by decide +kernel)
set_option maxRecDepth 20000 in
theorem gX2_startLevels_X6_contains_n40 : GoodIn wsX2_startLevels (wsX6_contains) := ggX2_startLevels_X6_contains
set_option maxRecDepth 20000 in
theorem ggX2_startLevels_X6_write : GoodIn wsX2_startLevels wsX6_write := goodIn_r _ [7] (by decide +kernel) (by decide +kernel)
set_option maxRecDepth 20000 in
theorem gX2_startLevels_X6_write_n44 : GoodIn wsX2_startLevels (wsX6_write) := ggX2_startLevels_X6_write
theorem dX2_startLevels_0 : decode cX2_startLevels 0 = .ok (.iconst 0, 1) := by decide +kernel
theorem dX2_startLevels_1 : decode cX2_startLevels 1 = .ok (.istore_n 3, 1) := by decide +kernel
theorem dX2_startLevels_2 : decode cX2_startLevels 2 = .ok (.iload_n 3, 1) := by decide +kernel
theorem dX2_startLevels_3 : decode cX2_startLevels 3 = .ok (.bipush 64, 2) := by decide +kernel
theorem dX2_startLevels_5 : decode cX2_startLevels 5 = .ok (.if_icmp .ge 33, 3) := by decide +kernel
theorem dX2_startLevels_8 : decode cX2_startLevels 8 = .ok (.aload_n 0, 1) := by decide +kernel
theorem dX2_startLevels_9 : decode cX2_startLevels 9 = .ok (.getfield 9, 3) := by decide +kernel
theorem dX2_startLevels_12 : decode cX2_startLevels 12 = .ok (.iload_n 3, 1) := by decide +kernel
theorem dX2_startLevels_13 : decode cX2_startLevels 13 = .ok (.lload_n 1, 1) := by decide +kernel
theorem dX2_startLevels_14 : decode cX2_startLevels 14 = .ok (.iload_n 3, 1) := by decide +kernel
theorem dX2_startLevels_15 : decode cX2_startLevels 15 = .ok (.invokestatic 40, 3) := by decide +kernel
theorem dX2_startLevels_18 : decode cX2_startLevels 18 = .ok (.ifCond .eq 10, 3) := by decide +kernel
theorem dX2_startLevels_21 : decode cX2_startLevels 21 = .ok (.aload_n 0, 1) := by decide +kernel
theorem dX2_startLevels_22 : decode cX2_startLevels 22 = .ok (.getfield 22, 3) := by decide +kernel
theorem dX2_startLevels_25 : decode cX2_startLevels 25 = .ok (.goto 4, 3) := by decide +kernel
theorem dX2_startLevels_28 : decode cX2_startLevels 28 = .ok (.iconst 0, 1) := by decide +kernel
theorem dX2_startLevels_29 : decode cX2_startLevels 29 = .ok (.invokestatic 44, 3) := by decide +kernel
theorem dX2_startLevels_32 : decode cX2_startLevels 32 = .ok (.iinc 3 1, 3) := by decide +kernel
theorem dX2_startLevels_35 : decode cX2_startLevels 35 = .ok (.goto (-33), 3) := by decide +kernel
theorem dX2_startLevels_38 : decode cX2_startLevels 38 = .ok (.return_, 1) := by decide +kernel
set_option maxRecDepth 20000 in
theorem ggX2_roundChanges_X6_contains : GoodIn wsX2_roundChanges wsX6_contains := goodIn_r _ [9] (by decide +kernel) (by decide +kernel)
set_option maxRecDepth 20000 in
theorem gX2_roundChanges_X6_contains_n40 : GoodIn wsX2_roundChanges (wsX6_contains) := ggX2_roundChanges_X6_contains
set_option maxRecDepth 20000 in
theorem ggX2_roundChanges_X2_levelAfterRound : GoodIn wsX2_roundChanges wsX2_levelAfterRound := goodIn_r _ [14, 15, 16, 17, 18, 13, 19, 2, 20, 8, 21, 22, 23, 26, 27, 28, 29, 30] (by decide +kernel) (by decide +kernel)
set_option maxRecDepth 20000 in
theorem gX2_roundChanges_X2_levelAfterRound : GoodIn wsX2_roundChanges (wsV RX2 54 RX2 yX2_levelAfterRound wsX2_levelAfterRound) := goodIn_app (goodIn_of _ (by decide +kernel)) ggX2_roundChanges_X2_levelAfterRound
set_option maxRecDepth 20000 in
theorem ggX2_roundChanges_X6_read : GoodIn wsX2_roundChanges wsX6_read := goodIn_r _ [23] (by decide +kernel) (by decide +kernel)
set_option maxRecDepth 20000 in
theorem gX2_roundChanges_X6_read_n58 : GoodIn wsX2_roundChanges (wsX6_read) := ggX2_roundChanges_X6_read
set_option maxRecDepth 20000 in
theorem ggX2_roundChanges_X6_write : GoodIn wsX2_roundChanges wsX6_write := goodIn_r _ [25] (by decide +kernel) (by decide +kernel)
set_option maxRecDepth 20000 in
theorem gX2_roundChanges_X6_write_n44 : GoodIn wsX2_roundChanges (wsX6_write) := ggX2_roundChanges_X6_write
theorem dX2_roundChanges_0 : decode cX2_roundChanges 0 = .ok (.aload_n 0, 1) := by decide +kernel
theorem dX2_roundChanges_1 : decode cX2_roundChanges 1 = .ok (.getfield 9, 3) := by decide +kernel
theorem dX2_roundChanges_4 : decode cX2_roundChanges 4 = .ok (.iconst 0, 1) := by decide +kernel
theorem dX2_roundChanges_5 : decode cX2_roundChanges 5 = .ok (.aload_n 0, 1) := by decide +kernel
theorem dX2_roundChanges_6 : decode cX2_roundChanges 6 = .ok (.getfield 15, 3) := by decide +kernel
theorem dX2_roundChanges_9 : decode cX2_roundChanges 9 = .ok (.iconst 0, 1) := by decide +kernel
theorem dX2_roundChanges_10 : decode cX2_roundChanges 10 = .ok (.bipush 64, 2) := by decide +kernel
theorem dX2_roundChanges_12 : decode cX2_roundChanges 12 = .ok (.invokestatic 48, 3) := by decide +kernel
theorem dX2_roundChanges_15 : decode cX2_roundChanges 15 = .ok (.iconst 0, 1) := by decide +kernel
theorem dX2_roundChanges_16 : decode cX2_roundChanges 16 = .ok (.istore_n 3, 1) := by decide +kernel
theorem dX2_roundChanges_17 : decode cX2_roundChanges 17 = .ok (.iconst 0, 1) := by decide +kernel
theorem dX2_roundChanges_18 : decode cX2_roundChanges 18 = .ok (.istore 4, 2) := by decide +kernel
theorem dX2_roundChanges_20 : decode cX2_roundChanges 20 = .ok (.iload 4, 2) := by decide +kernel
theorem dX2_roundChanges_22 : decode cX2_roundChanges 22 = .ok (.bipush 64, 2) := by decide +kernel
theorem dX2_roundChanges_24 : decode cX2_roundChanges 24 = .ok (.if_icmp .ge 53, 3) := by decide +kernel
theorem dX2_roundChanges_27 : decode cX2_roundChanges 27 = .ok (.lload_n 1, 1) := by decide +kernel
theorem dX2_roundChanges_28 : decode cX2_roundChanges 28 = .ok (.iload 4, 2) := by decide +kernel
theorem dX2_roundChanges_30 : decode cX2_roundChanges 30 = .ok (.invokestatic 40, 3) := by decide +kernel
theorem dX2_roundChanges_33 : decode cX2_roundChanges 33 = .ok (.ifCond .eq 38, 3) := by decide +kernel
theorem dX2_roundChanges_36 : decode cX2_roundChanges 36 = .ok (.aload_n 0, 1) := by decide +kernel
theorem dX2_roundChanges_37 : decode cX2_roundChanges 37 = .ok (.iload 4, 2) := by decide +kernel
theorem dX2_roundChanges_39 : decode cX2_roundChanges 39 = .ok (.invokevirtual 54, 3) := by decide +kernel
theorem dX2_roundChanges_42 : decode cX2_roundChanges 42 = .ok (.istore 5, 2) := by decide +kernel
theorem dX2_roundChanges_44 : decode cX2_roundChanges 44 = .ok (.iload 5, 2) := by decide +kernel
theorem dX2_roundChanges_46 : decode cX2_roundChanges 46 = .ok (.aload_n 0, 1) := by decide +kernel
theorem dX2_roundChanges_47 : decode cX2_roundChanges 47 = .ok (.getfield 15, 3) := by decide +kernel
theorem dX2_roundChanges_50 : decode cX2_roundChanges 50 = .ok (.iload 4, 2) := by decide +kernel
theorem dX2_roundChanges_52 : decode cX2_roundChanges 52 = .ok (.invokestatic 58, 3) := by decide +kernel
theorem dX2_roundChanges_55 : decode cX2_roundChanges 55 = .ok (.if_icmp .eq 5, 3) := by decide +kernel
theorem dX2_roundChanges_58 : decode cX2_roundChanges 58 = .ok (.iconst 1, 1) := by decide +kernel
theorem dX2_roundChanges_59 : decode cX2_roundChanges 59 = .ok (.istore_n 3, 1) := by decide +kernel
theorem dX2_roundChanges_60 : decode cX2_roundChanges 60 = .ok (.aload_n 0, 1) := by decide +kernel
theorem dX2_roundChanges_61 : decode cX2_roundChanges 61 = .ok (.getfield 9, 3) := by decide +kernel
theorem dX2_roundChanges_64 : decode cX2_roundChanges 64 = .ok (.iload 4, 2) := by decide +kernel
theorem dX2_roundChanges_66 : decode cX2_roundChanges 66 = .ok (.iload 5, 2) := by decide +kernel
theorem dX2_roundChanges_68 : decode cX2_roundChanges 68 = .ok (.invokestatic 44, 3) := by decide +kernel
theorem dX2_roundChanges_71 : decode cX2_roundChanges 71 = .ok (.iinc 4 1, 3) := by decide +kernel
theorem dX2_roundChanges_74 : decode cX2_roundChanges 74 = .ok (.goto (-54), 3) := by decide +kernel
theorem dX2_roundChanges_77 : decode cX2_roundChanges 77 = .ok (.iload_n 3, 1) := by decide +kernel
theorem dX2_roundChanges_78 : decode cX2_roundChanges 78 = .ok (.ireturn, 1) := by decide +kernel
set_option maxRecDepth 20000 in
theorem ggX2_levelAfterRound_X2_neighboursBelow : GoodIn wsX2_levelAfterRound wsX2_neighboursBelow := goodIn_r _ [6, 1, 7, 8, 9, 10, 11, 12, 13, 14, 15, 16, 17] (by decide +kernel) (by decide +kernel)
set_option maxRecDepth 20000 in
theorem gX2_levelAfterRound_X2_neighboursBelow : GoodIn wsX2_levelAfterRound (wsV RX2 62 RX2 yX2_neighboursBelow wsX2_neighboursBelow) := goodIn_app (goodIn_of _ (by decide +kernel)) ggX2_levelAfterRound_X2_neighboursBelow
theorem dX2_levelAfterRound_0 : decode cX2_levelAfterRound 0 = .ok (.iconst 0, 1) := by decide +kernel
theorem dX2_levelAfterRound_1 : decode cX2_levelAfterRound 1 = .ok (.istore_n 2, 1) := by decide +kernel
theorem dX2_levelAfterRound_2 : decode cX2_levelAfterRound 2 = .ok (.iload_n 2, 1) := by decide +kernel
theorem dX2_levelAfterRound_3 : decode cX2_levelAfterRound 3 = .ok (.aload_n 0, 1) := by decide +kernel
theorem dX2_levelAfterRound_4 : decode cX2_levelAfterRound 4 = .ok (.getfield 22, 3) := by decide +kernel
theorem dX2_levelAfterRound_7 : decode cX2_levelAfterRound 7 = .ok (.if_icmp .ge 21, 3) := by decide +kernel
theorem dX2_levelAfterRound_10 : decode cX2_levelAfterRound 10 = .ok (.aload_n 0, 1) := by decide +kernel
theorem dX2_levelAfterRound_11 : decode cX2_levelAfterRound 11 = .ok (.iload_n 1, 1) := by decide +kernel
theorem dX2_levelAfterRound_12 : decode cX2_levelAfterRound 12 = .ok (.iload_n 2, 1) := by decide +kernel
theorem dX2_levelAfterRound_13 : decode cX2_levelAfterRound 13 = .ok (.invokevirtual 62, 3) := by decide +kernel
theorem dX2_levelAfterRound_16 : decode cX2_levelAfterRound 16 = .ok (.iload_n 2, 1) := by decide +kernel
theorem dX2_levelAfterRound_17 : decode cX2_levelAfterRound 17 = .ok (.if_icmp .le 5, 3) := by decide +kernel
theorem dX2_levelAfterRound_20 : decode cX2_levelAfterRound 20 = .ok (.iload_n 2, 1) := by decide +kernel
theorem dX2_levelAfterRound_21 : decode cX2_levelAfterRound 21 = .ok (.ireturn, 1) := by decide +kernel
theorem dX2_levelAfterRound_22 : decode cX2_levelAfterRound 22 = .ok (.iinc 2 1, 3) := by decide +kernel
theorem dX2_levelAfterRound_25 : decode cX2_levelAfterRound 25 = .ok (.goto (-23), 3) := by decide +kernel
theorem dX2_levelAfterRound_28 : decode cX2_levelAfterRound 28 = .ok (.aload_n 0, 1) := by decide +kernel
theorem dX2_levelAfterRound_29 : decode cX2_levelAfterRound 29 = .ok (.getfield 22, 3) := by decide +kernel
theorem dX2_levelAfterRound_32 : decode cX2_levelAfterRound 32 = .ok (.ireturn, 1) := by decide +kernel
set_option maxRecDepth 20000 in
theorem ggX2_neighboursBelow_X6_neighbour : GoodIn wsX2_neighboursBelow wsX6_neighbour := goodIn_r _ [5] (by decide +kernel) (by decide +kernel)
set_option maxRecDepth 20000 in
theorem gX2_neighboursBelow_X6_neighbour_n66 : GoodIn wsX2_neighboursBelow (wsX6_neighbour) := ggX2_neighboursBelow_X6_neighbour
set_option maxRecDepth 20000 in
theorem ggX2_neighboursBelow_X6_read : GoodIn wsX2_neighboursBelow wsX6_read := goodIn_r _ [7] (by decide +kernel) (by decide +kernel)
set_option maxRecDepth 20000 in
theorem gX2_neighboursBelow_X6_read_n58 : GoodIn wsX2_neighboursBelow (wsX6_read) := ggX2_neighboursBelow_X6_read
theorem dX2_neighboursBelow_0 : decode cX2_neighboursBelow 0 = .ok (.iconst 0, 1) := by decide +kernel
theorem dX2_neighboursBelow_1 : decode cX2_neighboursBelow 1 = .ok (.istore_n 3, 1) := by decide +kernel
theorem dX2_neighboursBelow_2 : decode cX2_neighboursBelow 2 = .ok (.iconst 0, 1) := by decide +kernel
theorem dX2_neighboursBelow_3 : decode cX2_neighboursBelow 3 = .ok (.istore 4, 2) := by decide +kernel
theorem dX2_neighboursBelow_5 : decode cX2_neighboursBelow 5 = .ok (.iload 4, 2) := by decide +kernel
theorem dX2_neighboursBelow_7 : decode cX2_neighboursBelow 7 = .ok (.aload_n 0, 1) := by decide +kernel
theorem dX2_neighboursBelow_8 : decode cX2_neighboursBelow 8 = .ok (.getfield 22, 3) := by decide +kernel
theorem dX2_neighboursBelow_11 : decode cX2_neighboursBelow 11 = .ok (.if_icmp .ge 29, 3) := by decide +kernel
theorem dX2_neighboursBelow_14 : decode cX2_neighboursBelow 14 = .ok (.aload_n 0, 1) := by decide +kernel
theorem dX2_neighboursBelow_15 : decode cX2_neighboursBelow 15 = .ok (.getfield 15, 3) := by decide +kernel
theorem dX2_neighboursBelow_18 : decode cX2_neighboursBelow 18 = .ok (.iload_n 1, 1) := by decide +kernel
theorem dX2_neighboursBelow_19 : decode cX2_neighboursBelow 19 = .ok (.iload 4, 2) := by decide +kernel
theorem dX2_neighboursBelow_21 : decode cX2_neighboursBelow 21 = .ok (.invokestatic 66, 3) := by decide +kernel
theorem dX2_neighboursBelow_24 : decode cX2_neighboursBelow 24 = .ok (.invokestatic 58, 3) := by decide +kernel
theorem dX2_neighboursBelow_27 : decode cX2_neighboursBelow 27 = .ok (.iload_n 2, 1) := by decide +kernel
theorem dX2_neighboursBelow_28 : decode cX2_neighboursBelow 28 = .ok (.if_icmp .ge 6, 3) := by decide +kernel
theorem dX2_neighboursBelow_31 : decode cX2_neighboursBelow 31 = .ok (.iinc 3 1, 3) := by decide +kernel
theorem dX2_neighboursBelow_34 : decode cX2_neighboursBelow 34 = .ok (.iinc 4 1, 3) := by decide +kernel
theorem dX2_neighboursBelow_37 : decode cX2_neighboursBelow 37 = .ok (.goto (-32), 3) := by decide +kernel
theorem dX2_neighboursBelow_40 : decode cX2_neighboursBelow 40 = .ok (.iload_n 3, 1) := by decide +kernel
theorem dX2_neighboursBelow_41 : decode cX2_neighboursBelow 41 = .ok (.ireturn, 1) := by decide +kernel
set_option maxRecDepth 20000 in
theorem ggX2_findVectors_J7_fill_d0a16 : GoodIn wsX2_findVectors wsJ7_fill_d0a16 := goodIn_r _ [6] (by decide +kernel) (by decide +kernel)
set_option maxRecDepth 20000 in
theorem gX2_findVectors_J7_fill_d0a16 : GoodIn wsX2_findVectors (va_wsS RX2 69 yJ7_fill_d0a16 wsJ7_fill_d0a16) := goodIn_app (goodIn_of _ (by decide +kernel)) ggX2_findVectors_J7_fill_d0a16
set_option maxRecDepth 20000 in
theorem ggX2_findVectors_X2_withNeighboursAbove : GoodIn wsX2_findVectors wsX2_withNeighboursAbove := goodIn_r _ [11, 2, 12, 13, 14, 15, 16, 17, 18, 19, 20, 21] (by decide +kernel) (by decide +kernel)
set_option maxRecDepth 20000 in
theorem gX2_findVectors_X2_withNeighboursAbove : GoodIn wsX2_findVectors (wsV RX2 75 RX2 yX2_withNeighboursAbove wsX2_withNeighboursAbove) := goodIn_app (goodIn_of _ (by decide +kernel)) ggX2_findVectors_X2_withNeighboursAbove
theorem dX2_findVectors_0 : decode cX2_findVectors 0 = .ok (.aload_n 0, 1) := by decide +kernel
theorem dX2_findVectors_1 : decode cX2_findVectors 1 = .ok (.getfield 18, 3) := by decide +kernel
theorem dX2_findVectors_4 : decode cX2_findVectors 4 = .ok (.lconst 0, 1) := by decide +kernel
theorem dX2_findVectors_5 : decode cX2_findVectors 5 = .ok (.invokestatic 69, 3) := by decide +kernel
theorem dX2_findVectors_8 : decode cX2_findVectors 8 = .ok (.lload_n 1, 1) := by decide +kernel
theorem dX2_findVectors_9 : decode cX2_findVectors 9 = .ok (.lstore_n 3, 1) := by decide +kernel
theorem dX2_findVectors_10 : decode cX2_findVectors 10 = .ok (.iconst 1, 1) := by decide +kernel
theorem dX2_findVectors_11 : decode cX2_findVectors 11 = .ok (.istore 5, 2) := by decide +kernel
theorem dX2_findVectors_13 : decode cX2_findVectors 13 = .ok (.iload 5, 2) := by decide +kernel
theorem dX2_findVectors_15 : decode cX2_findVectors 15 = .ok (.aload_n 0, 1) := by decide +kernel
theorem dX2_findVectors_16 : decode cX2_findVectors 16 = .ok (.getfield 18, 3) := by decide +kernel
theorem dX2_findVectors_19 : decode cX2_findVectors 19 = .ok (.arraylength, 1) := by decide +kernel
theorem dX2_findVectors_20 : decode cX2_findVectors 20 = .ok (.if_icmp .ge 47, 3) := by decide +kernel
theorem dX2_findVectors_23 : decode cX2_findVectors 23 = .ok (.iload 5, 2) := by decide +kernel
theorem dX2_findVectors_25 : decode cX2_findVectors 25 = .ok (.aload_n 0, 1) := by decide +kernel
theorem dX2_findVectors_26 : decode cX2_findVectors 26 = .ok (.getfield 22, 3) := by decide +kernel
theorem dX2_findVectors_29 : decode cX2_findVectors 29 = .ok (.if_icmp .gt 38, 3) := by decide +kernel
theorem dX2_findVectors_32 : decode cX2_findVectors 32 = .ok (.iload 5, 2) := by decide +kernel
theorem dX2_findVectors_34 : decode cX2_findVectors 34 = .ok (.iconst 1, 1) := by decide +kernel
theorem dX2_findVectors_35 : decode cX2_findVectors 35 = .ok (.if_icmp .le 18, 3) := by decide +kernel
theorem dX2_findVectors_38 : decode cX2_findVectors 38 = .ok (.aload_n 0, 1) := by decide +kernel
theorem dX2_findVectors_39 : decode cX2_findVectors 39 = .ok (.lload_n 3, 1) := by decide +kernel
theorem dX2_findVectors_40 : decode cX2_findVectors 40 = .ok (.aload_n 0, 1) := by decide +kernel
theorem dX2_findVectors_41 : decode cX2_findVectors 41 = .ok (.getfield 22, 3) := by decide +kernel
theorem dX2_findVectors_44 : decode cX2_findVectors 44 = .ok (.iload 5, 2) := by decide +kernel
theorem dX2_findVectors_46 : decode cX2_findVectors 46 = .ok (.isub, 1) := by decide +kernel
theorem dX2_findVectors_47 : decode cX2_findVectors 47 = .ok (.invokevirtual 75, 3) := by decide +kernel
theorem dX2_findVectors_50 : decode cX2_findVectors 50 = .ok (.lload_n 1, 1) := by decide +kernel
theorem dX2_findVectors_51 : decode cX2_findVectors 51 = .ok (.land, 1) := by decide +kernel
theorem dX2_findVectors_52 : decode cX2_findVectors 52 = .ok (.lstore_n 3, 1) := by decide +kernel
theorem dX2_findVectors_53 : decode cX2_findVectors 53 = .ok (.aload_n 0, 1) := by decide +kernel
theorem dX2_findVectors_54 : decode cX2_findVectors 54 = .ok (.getfield 18, 3) := by decide +kernel
theorem dX2_findVectors_57 : decode cX2_findVectors 57 = .ok (.iload 5, 2) := by decide +kernel
theorem dX2_findVectors_59 : decode cX2_findVectors 59 = .ok (.lload_n 3, 1) := by decide +kernel
theorem dX2_findVectors_60 : decode cX2_findVectors 60 = .ok (.lastore, 1) := by decide +kernel
theorem dX2_findVectors_61 : decode cX2_findVectors 61 = .ok (.iinc 5 1, 3) := by decide +kernel
theorem dX2_findVectors_64 : decode cX2_findVectors 64 = .ok (.goto (-51), 3) := by decide +kernel
theorem dX2_findVectors_67 : decode cX2_findVectors 67 = .ok (.return_, 1) := by decide +kernel
set_option maxRecDepth 20000 in
theorem ggX2_withNeighboursAbove_X6_neighbour : GoodIn wsX2_withNeighboursAbove wsX6_neighbour := goodIn_r _ [4] (by decide +kernel) (by decide +kernel)
set_option maxRecDepth 20000 in
theorem gX2_withNeighboursAbove_X6_neighbour_n66 : GoodIn wsX2_withNeighboursAbove (wsX6_neighbour) := ggX2_withNeighboursAbove_X6_neighbour
set_option maxRecDepth 20000 in
theorem ggX2_withNeighboursAbove_X6_contains : GoodIn wsX2_withNeighboursAbove wsX6_contains := goodIn_r _ [6] (by decide +kernel) (by decide +kernel)
set_option maxRecDepth 20000 in
theorem gX2_withNeighboursAbove_X6_contains_n40 : GoodIn wsX2_withNeighboursAbove (wsX6_contains) := ggX2_withNeighboursAbove_X6_contains
theorem dX2_withNeighboursAbove_0 : decode cX2_withNeighboursAbove 0 = .ok (.lconst 0, 1) := by decide +kernel
theorem dX2_withNeighboursAbove_1 : decode cX2_withNeighboursAbove 1 = .ok (.lstore 4, 2) := by decide +kernel
theorem dX2_withNeighboursAbove_3 : decode cX2_withNeighboursAbove 3 = .ok (.iconst 0, 1) := by decide +kernel
theorem dX2_withNeighboursAbove_4 : decode cX2_withNeighboursAbove 4 = .ok (.istore 6, 2) := by decide +kernel
theorem dX2_withNeighboursAbove_6 : decode cX2_withNeighboursAbove 6 = .ok (.iload 6, 2) := by decide +kernel
theorem dX2_withNeighboursAbove_8 : decode cX2_withNeighboursAbove 8 = .ok (.bipush 64, 2) := by decide +kernel
theorem dX2_withNeighboursAbove_10 : decode cX2_withNeighboursAbove 10 = .ok (.if_icmp .ge 62, 3) := by decide +kernel
theorem dX2_withNeighboursAbove_13 : decode cX2_withNeighboursAbove 13 = .ok (.iconst 0, 1) := by decide +kernel
theorem dX2_withNeighboursAbove_14 : decode cX2_withNeighboursAbove 14 = .ok (.istore 7, 2) := by decide +kernel
theorem dX2_withNeighboursAbove_16 : decode cX2_withNeighboursAbove 16 = .ok (.iconst 0, 1) := by decide +kernel
theorem dX2_withNeighboursAbove_17 : decode cX2_withNeighboursAbove 17 = .ok (.istore 8, 2) := by decide +kernel
theorem dX2_withNeighboursAbove_19 : decode cX2_withNeighboursAbove 19 = .ok (.iload 8, 2) := by decide +kernel
theorem dX2_withNeighboursAbove_21 : decode cX2_withNeighboursAbove 21 = .ok (.aload_n 0, 1) := by decide +kernel
theorem dX2_withNeighboursAbove_22 : decode cX2_withNeighboursAbove 22 = .ok (.getfield 22, 3) := by decide +kernel
theorem dX2_withNeighboursAbove_25 : decode cX2_withNeighboursAbove 25 = .ok (.if_icmp .ge 26, 3) := by decide +kernel
theorem dX2_withNeighboursAbove_28 : decode cX2_withNeighboursAbove 28 = .ok (.lload_n 1, 1) := by decide +kernel
theorem dX2_withNeighboursAbove_29 : decode cX2_withNeighboursAbove 29 = .ok (.iload 6, 2) := by decide +kernel
theorem dX2_withNeighboursAbove_31 : decode cX2_withNeighboursAbove 31 = .ok (.iload 8, 2) := by decide +kernel
theorem dX2_withNeighboursAbove_33 : decode cX2_withNeighboursAbove 33 = .ok (.invokestatic 66, 3) := by decide +kernel
theorem dX2_withNeighboursAbove_36 : decode cX2_withNeighboursAbove 36 = .ok (.invokestatic 40, 3) := by decide +kernel
theorem dX2_withNeighboursAbove_39 : decode cX2_withNeighboursAbove 39 = .ok (.ifCond .eq 6, 3) := by decide +kernel
theorem dX2_withNeighboursAbove_42 : decode cX2_withNeighboursAbove 42 = .ok (.iinc 7 1, 3) := by decide +kernel
theorem dX2_withNeighboursAbove_45 : decode cX2_withNeighboursAbove 45 = .ok (.iinc 8 1, 3) := by decide +kernel
theorem dX2_withNeighboursAbove_48 : decode cX2_withNeighboursAbove 48 = .ok (.goto (-29), 3) := by decide +kernel
theorem dX2_withNeighboursAbove_51 : decode cX2_withNeighboursAbove 51 = .ok (.iload 7, 2) := by decide +kernel
theorem dX2_withNeighboursAbove_53 : decode cX2_withNeighboursAbove 53 = .ok (.iload_n 3, 1) := by decide +kernel
theorem dX2_withNeighboursAbove_54 : decode cX2_withNeighboursAbove 54 = .ok (.if_icmp .le 12, 3) := by decide +kernel
theorem dX2_withNeighboursAbove_57 : decode cX2_withNeighboursAbove 57 = .ok (.lload 4, 2) := by decide +kernel
theorem dX2_withNeighboursAbove_59 : decode cX2_withNeighboursAbove 59 = .ok (.lconst 1, 1) := by decide +kernel
theorem dX2_withNeighboursAbove_60 : decode cX2_withNeighboursAbove 60 = .ok (.iload 6, 2) := by decide +kernel
theorem dX2_withNeighboursAbove_62 : decode cX2_withNeighboursAbove 62 = .ok (.lshl, 1) := by decide +kernel
theorem dX2_withNeighboursAbove_63 : decode cX2_withNeighboursAbove 63 = .ok (.lor, 1) := by decide +kernel
theorem dX2_withNeighboursAbove_64 : decode cX2_withNeighboursAbove 64 = .ok (.lstore 4, 2) := by decide +kernel
theorem dX2_withNeighboursAbove_66 : decode cX2_withNeighboursAbove 66 = .ok (.iinc 6 1, 3) := by decide +kernel
theorem dX2_withNeighboursAbove_69 : decode cX2_withNeighboursAbove 69 = .ok (.goto (-63), 3) := by decide +kernel
theorem dX2_withNeighboursAbove_72 : decode cX2_withNeighboursAbove 72 = .ok (.lload 4, 2) := by decide +kernel
theorem dX2_withNeighboursAbove_74 : decode cX2_withNeighboursAbove 74 = .ok (.lreturn, 1) := by decide +kernel
set_option maxRecDepth 20000 in
theorem ggX2_levelOf_X6_read : GoodIn wsX2_levelOf wsX6_read := goodIn_r _ [4] (by decide +kernel) (by decide +kernel)
set_option maxRecDepth 20000 in
theorem gX2_levelOf_X6_read_n58 : GoodIn wsX2_levelOf (wsX6_read) := ggX2_levelOf_X6_read
theorem dX2_levelOf_0 : decode cX2_levelOf 0 = .ok (.aload_n 0, 1) := by decide +kernel
theorem dX2_levelOf_1 : decode cX2_levelOf 1 = .ok (.getfield 9, 3) := by decide +kernel
theorem dX2_levelOf_4 : decode cX2_levelOf 4 = .ok (.iload_n 1, 1) := by decide +kernel
theorem dX2_levelOf_5 : decode cX2_levelOf 5 = .ok (.invokestatic 58, 3) := by decide +kernel
theorem dX2_levelOf_8 : decode cX2_levelOf 8 = .ok (.ireturn, 1) := by decide +kernel
set_option maxRecDepth 20000 in
theorem ggX2_bitOf_X6_contains : GoodIn wsX2_bitOf wsX6_contains := goodIn_r _ [4] (by decide +kernel) (by decide +kernel)
set_option maxRecDepth 20000 in
theorem gX2_bitOf_X6_contains_n40 : GoodIn wsX2_bitOf (wsX6_contains) := ggX2_bitOf_X6_contains
theorem dX2_bitOf_0 : decode cX2_bitOf 0 = .ok (.iload_n 2, 1) := by decide +kernel
theorem dX2_bitOf_1 : decode cX2_bitOf 1 = .ok (.ifCond .lt 29, 3) := by decide +kernel
theorem dX2_bitOf_4 : decode cX2_bitOf 4 = .ok (.iload_n 2, 1) := by decide +kernel
theorem dX2_bitOf_5 : decode cX2_bitOf 5 = .ok (.aload_n 0, 1) := by decide +kernel
theorem dX2_bitOf_6 : decode cX2_bitOf 6 = .ok (.getfield 18, 3) := by decide +kernel
theorem dX2_bitOf_9 : decode cX2_bitOf 9 = .ok (.arraylength, 1) := by decide +kernel
theorem dX2_bitOf_10 : decode cX2_bitOf 10 = .ok (.if_icmp .ge 20, 3) := by decide +kernel
theorem dX2_bitOf_13 : decode cX2_bitOf 13 = .ok (.aload_n 0, 1) := by decide +kernel
theorem dX2_bitOf_14 : decode cX2_bitOf 14 = .ok (.getfield 18, 3) := by decide +kernel
theorem dX2_bitOf_17 : decode cX2_bitOf 17 = .ok (.iload_n 2, 1) := by decide +kernel
theorem dX2_bitOf_18 : decode cX2_bitOf 18 = .ok (.laload, 1) := by decide +kernel
theorem dX2_bitOf_19 : decode cX2_bitOf 19 = .ok (.iload_n 1, 1) := by decide +kernel
theorem dX2_bitOf_20 : decode cX2_bitOf 20 = .ok (.invokestatic 40, 3) := by decide +kernel
theorem dX2_bitOf_23 : decode cX2_bitOf 23 = .ok (.ifCond .eq 7, 3) := by decide +kernel
theorem dX2_bitOf_26 : decode cX2_bitOf 26 = .ok (.iconst 1, 1) := by decide +kernel
theorem dX2_bitOf_27 : decode cX2_bitOf 27 = .ok (.goto 4, 3) := by decide +kernel
theorem dX2_bitOf_30 : decode cX2_bitOf 30 = .ok (.iconst 0, 1) := by decide +kernel
theorem dX2_bitOf_31 : decode cX2_bitOf 31 = .ok (.istore_n 3, 1) := by decide +kernel
theorem dX2_bitOf_32 : decode cX2_bitOf 32 = .ok (.iload_n 3, 1) := by decide +kernel
theorem dX2_bitOf_33 : decode cX2_bitOf 33 = .ok (.ifCond .eq 7, 3) := by decide +kernel
theorem dX2_bitOf_36 : decode cX2_bitOf 36 = .ok (.iconst 1, 1) := by decide +kernel
theorem dX2_bitOf_37 : decode cX2_bitOf 37 = .ok (.goto 4, 3) := by decide +kernel
theorem dX2_bitOf_40 : decode cX2_bitOf 40 = .ok (.iconst 0, 1) := by decide +kernel
theorem dX2_bitOf_41 : decode cX2_bitOf 41 = .ok (.ireturn, 1) := by decide +kernel
theorem dX2_spareOf_0 : decode cX2_spareOf 0 = .ok (.iconst 1, 1) := by decide +kernel
theorem dX2_spareOf_1 : decode cX2_spareOf 1 = .ok (.aload_n 0, 1) := by decide +kernel
theorem dX2_spareOf_2 : decode cX2_spareOf 2 = .ok (.getfield 22, 3) := by decide +kernel
theorem dX2_spareOf_5 : decode cX2_spareOf 5 = .ok (.ishl, 1) := by decide +kernel
theorem dX2_spareOf_6 : decode cX2_spareOf 6 = .ok (.iconst 1, 1) := by decide +kernel
theorem dX2_spareOf_7 : decode cX2_spareOf 7 = .ok (.isub, 1) := by decide +kernel
theorem dX2_spareOf_8 : decode cX2_spareOf 8 = .ok (.iload_n 1, 1) := by decide +kernel
theorem dX2_spareOf_9 : decode cX2_spareOf 9 = .ok (.iconst (-1), 1) := by decide +kernel
theorem dX2_spareOf_10 : decode cX2_spareOf 10 = .ok (.ixor, 1) := by decide +kernel
theorem dX2_spareOf_11 : decode cX2_spareOf 11 = .ok (.iand, 1) := by decide +kernel
theorem dX2_spareOf_12 : decode cX2_spareOf 12 = .ok (.ireturn, 1) := by decide +kernel
set_option maxRecDepth 20000 in
theorem ggX2_bestDimension_X6_hasBit : GoodIn wsX2_bestDimension wsX6_hasBit := goodIn_r _ [4] (by decide +kernel) (by decide +kernel)
set_option maxRecDepth 20000 in
theorem gX2_bestDimension_X6_hasBit_n79 : GoodIn wsX2_bestDimension (wsX6_hasBit) := ggX2_bestDimension_X6_hasBit
set_option maxRecDepth 20000 in
theorem ggX2_bestDimension_X6_neighbour : GoodIn wsX2_bestDimension wsX6_neighbour := goodIn_r _ [6] (by decide +kernel) (by decide +kernel)
set_option maxRecDepth 20000 in
theorem gX2_bestDimension_X6_neighbour_n66 : GoodIn wsX2_bestDimension (wsX6_neighbour) := ggX2_bestDimension_X6_neighbour
set_option maxRecDepth 20000 in
theorem ggX2_bestDimension_X2_levelOf : GoodIn wsX2_bestDimension wsX2_levelOf := goodIn_r _ [11, 12, 13, 3, 14, 15, 16, 17, 18, 19] (by decide +kernel) (by decide +kernel)
set_option maxRecDepth 20000 in
theorem gX2_bestDimension_X2_levelOf : GoodIn wsX2_bestDimension (wsV RX2 83 RX2 yX2_levelOf wsX2_levelOf) := goodIn_app (goodIn_of _ (by decide +kernel)) ggX2_bestDimension_X2_levelOf
theorem dX2_bestDimension_0 : decode cX2_bestDimension 0 = .ok (.iconst (-1), 1) := by decide +kernel
theorem dX2_bestDimension_1 : decode cX2_bestDimension 1 = .ok (.istore_n 3, 1) := by decide +kernel
theorem dX2_bestDimension_2 : decode cX2_bestDimension 2 = .ok (.iconst (-1), 1) := by decide +kernel
theorem dX2_bestDimension_3 : decode cX2_bestDimension 3 = .ok (.istore 4, 2) := by decide +kernel
theorem dX2_bestDimension_5 : decode cX2_bestDimension 5 = .ok (.iconst 0, 1) := by decide +kernel
theorem dX2_bestDimension_6 : decode cX2_bestDimension 6 = .ok (.istore 5, 2) := by decide +kernel
theorem dX2_bestDimension_8 : decode cX2_bestDimension 8 = .ok (.iload 5, 2) := by decide +kernel
theorem dX2_bestDimension_10 : decode cX2_bestDimension 10 = .ok (.aload_n 0, 1) := by decide +kernel
theorem dX2_bestDimension_11 : decode cX2_bestDimension 11 = .ok (.getfield 22, 3) := by decide +kernel
theorem dX2_bestDimension_14 : decode cX2_bestDimension 14 = .ok (.if_icmp .ge 48, 3) := by decide +kernel
theorem dX2_bestDimension_17 : decode cX2_bestDimension 17 = .ok (.iload_n 2, 1) := by decide +kernel
theorem dX2_bestDimension_18 : decode cX2_bestDimension 18 = .ok (.iload 5, 2) := by decide +kernel
theorem dX2_bestDimension_20 : decode cX2_bestDimension 20 = .ok (.invokestatic 79, 3) := by decide +kernel
theorem dX2_bestDimension_23 : decode cX2_bestDimension 23 = .ok (.ifCond .eq 33, 3) := by decide +kernel
theorem dX2_bestDimension_26 : decode cX2_bestDimension 26 = .ok (.aload_n 0, 1) := by decide +kernel
theorem dX2_bestDimension_27 : decode cX2_bestDimension 27 = .ok (.iload_n 1, 1) := by decide +kernel
theorem dX2_bestDimension_28 : decode cX2_bestDimension 28 = .ok (.iload 5, 2) := by decide +kernel
theorem dX2_bestDimension_30 : decode cX2_bestDimension 30 = .ok (.invokestatic 66, 3) := by decide +kernel
theorem dX2_bestDimension_33 : decode cX2_bestDimension 33 = .ok (.invokevirtual 83, 3) := by decide +kernel
theorem dX2_bestDimension_36 : decode cX2_bestDimension 36 = .ok (.iload 4, 2) := by decide +kernel
theorem dX2_bestDimension_38 : decode cX2_bestDimension 38 = .ok (.if_icmp .le 18, 3) := by decide +kernel
theorem dX2_bestDimension_41 : decode cX2_bestDimension 41 = .ok (.iload 5, 2) := by decide +kernel
theorem dX2_bestDimension_43 : decode cX2_bestDimension 43 = .ok (.istore_n 3, 1) := by decide +kernel
theorem dX2_bestDimension_44 : decode cX2_bestDimension 44 = .ok (.aload_n 0, 1) := by decide +kernel
theorem dX2_bestDimension_45 : decode cX2_bestDimension 45 = .ok (.iload_n 1, 1) := by decide +kernel
theorem dX2_bestDimension_46 : decode cX2_bestDimension 46 = .ok (.iload 5, 2) := by decide +kernel
theorem dX2_bestDimension_48 : decode cX2_bestDimension 48 = .ok (.invokestatic 66, 3) := by decide +kernel
theorem dX2_bestDimension_51 : decode cX2_bestDimension 51 = .ok (.invokevirtual 83, 3) := by decide +kernel
theorem dX2_bestDimension_54 : decode cX2_bestDimension 54 = .ok (.istore 4, 2) := by decide +kernel
theorem dX2_bestDimension_56 : decode cX2_bestDimension 56 = .ok (.iinc 5 1, 3) := by decide +kernel
theorem dX2_bestDimension_59 : decode cX2_bestDimension 59 = .ok (.goto (-51), 3) := by decide +kernel
theorem dX2_bestDimension_62 : decode cX2_bestDimension 62 = .ok (.iload_n 3, 1) := by decide +kernel
theorem dX2_bestDimension_63 : decode cX2_bestDimension 63 = .ok (.ireturn, 1) := by decide +kernel
set_option maxRecDepth 20000 in
theorem ggX2_bestLevel_X2_bestDimension : GoodIn wsX2_bestLevel wsX2_bestDimension := goodIn_r _ [5, 6, 7, 8, 9, 10, 11, 12, 13, 14, 4, 15, 16, 17, 18, 19, 20, 21, 22, 23] (by decide +kernel) (by decide +kernel)
set_option maxRecDepth 20000 in
theorem gX2_bestLevel_X2_bestDimension : GoodIn wsX2_bestLevel (wsV RX2 86 RX2 yX2_bestDimension wsX2_bestDimension) := goodIn_app (goodIn_of _ (by decide +kernel)) ggX2_bestLevel_X2_bestDimension
set_option maxRecDepth 20000 in
theorem ggX2_bestLevel_X6_neighbour : GoodIn wsX2_bestLevel wsX6_neighbour := goodIn_r _ [11] (by decide +kernel) (by decide +kernel)
set_option maxRecDepth 20000 in
theorem gX2_bestLevel_X6_neighbour_n66 : GoodIn wsX2_bestLevel (wsX6_neighbour) := ggX2_bestLevel_X6_neighbour
set_option maxRecDepth 20000 in
theorem ggX2_bestLevel_X2_levelOf : GoodIn wsX2_bestLevel wsX2_levelOf := goodIn_r _ [15, 16, 17, 8, 18, 19, 20, 21, 22, 23] (by decide +kernel) (by decide +kernel)
set_option maxRecDepth 20000 in
theorem gX2_bestLevel_X2_levelOf : GoodIn wsX2_bestLevel (wsV RX2 83 RX2 yX2_levelOf wsX2_levelOf) := goodIn_app (goodIn_of _ (by decide +kernel)) ggX2_bestLevel_X2_levelOf
theorem dX2_bestLevel_0 : decode cX2_bestLevel 0 = .ok (.aload_n 0, 1) := by decide +kernel
theorem dX2_bestLevel_1 : decode cX2_bestLevel 1 = .ok (.iload_n 1, 1) := by decide +kernel
theorem dX2_bestLevel_2 : decode cX2_bestLevel 2 = .ok (.iload_n 2, 1) := by decide +kernel
theorem dX2_bestLevel_3 : decode cX2_bestLevel 3 = .ok (.invokevirtual 86, 3) := by decide +kernel
theorem dX2_bestLevel_6 : decode cX2_bestLevel 6 = .ok (.istore_n 3, 1) := by decide +kernel
theorem dX2_bestLevel_7 : decode cX2_bestLevel 7 = .ok (.iload_n 3, 1) := by decide +kernel
theorem dX2_bestLevel_8 : decode cX2_bestLevel 8 = .ok (.iconst (-1), 1) := by decide +kernel
theorem dX2_bestLevel_9 : decode cX2_bestLevel 9 = .ok (.if_icmp .ne 7, 3) := by decide +kernel
theorem dX2_bestLevel_12 : decode cX2_bestLevel 12 = .ok (.iconst (-1), 1) := by decide +kernel
theorem dX2_bestLevel_13 : decode cX2_bestLevel 13 = .ok (.goto 12, 3) := by decide +kernel
theorem dX2_bestLevel_16 : decode cX2_bestLevel 16 = .ok (.aload_n 0, 1) := by decide +kernel
theorem dX2_bestLevel_17 : decode cX2_bestLevel 17 = .ok (.iload_n 1, 1) := by decide +kernel
theorem dX2_bestLevel_18 : decode cX2_bestLevel 18 = .ok (.iload_n 3, 1) := by decide +kernel
theorem dX2_bestLevel_19 : decode cX2_bestLevel 19 = .ok (.invokestatic 66, 3) := by decide +kernel
theorem dX2_bestLevel_22 : decode cX2_bestLevel 22 = .ok (.invokevirtual 83, 3) := by decide +kernel
theorem dX2_bestLevel_25 : decode cX2_bestLevel 25 = .ok (.ireturn, 1) := by decide +kernel
theorem dX3_init_0 : decode cX3_init 0 = .ok (.aload_n 0, 1) := by decide +kernel
theorem dX3_init_1 : decode cX3_init 1 = .ok (.invokespecial 3, 3) := by decide +kernel
theorem dX3_init_4 : decode cX3_init 4 = .ok (.aload_n 0, 1) := by decide +kernel
theorem dX3_init_5 : decode cX3_init 5 = .ok (.bipush 24, 2) := by decide +kernel
theorem dX3_init_7 : decode cX3_init 7 = .ok (.newarray .int, 2) := by decide +kernel
theorem dX3_init_9 : decode cX3_init 9 = .ok (.putfield 9, 3) := by decide +kernel
theorem dX3_init_12 : decode cX3_init 12 = .ok (.aload_n 0, 1) := by decide +kernel
theorem dX3_init_13 : decode cX3_init 13 = .ok (.bipush 24, 2) := by decide +kernel
theorem dX3_init_15 : decode cX3_init 15 = .ok (.newarray .int, 2) := by decide +kernel
theorem dX3_init_17 : decode cX3_init 17 = .ok (.putfield 15, 3) := by decide +kernel
theorem dX3_init_20 : decode cX3_init 20 = .ok (.aload_n 0, 1) := by decide +kernel
theorem dX3_init_21 : decode cX3_init 21 = .ok (.bipush 24, 2) := by decide +kernel
theorem dX3_init_23 : decode cX3_init 23 = .ok (.newarray .int, 2) := by decide +kernel
theorem dX3_init_25 : decode cX3_init 25 = .ok (.putfield 18, 3) := by decide +kernel
theorem dX3_init_28 : decode cX3_init 28 = .ok (.aload_n 0, 1) := by decide +kernel
theorem dX3_init_29 : decode cX3_init 29 = .ok (.bipush 24, 2) := by decide +kernel
theorem dX3_init_31 : decode cX3_init 31 = .ok (.newarray .int, 2) := by decide +kernel
theorem dX3_init_33 : decode cX3_init 33 = .ok (.putfield 21, 3) := by decide +kernel
theorem dX3_init_36 : decode cX3_init 36 = .ok (.aload_n 0, 1) := by decide +kernel
theorem dX3_init_37 : decode cX3_init 37 = .ok (.bipush 24, 2) := by decide +kernel
theorem dX3_init_39 : decode cX3_init 39 = .ok (.newarray .int, 2) := by decide +kernel
theorem dX3_init_41 : decode cX3_init 41 = .ok (.putfield 24, 3) := by decide +kernel
theorem dX3_init_44 : decode cX3_init 44 = .ok (.return_, 1) := by decide +kernel
theorem dX3_restart_0 : decode cX3_restart 0 = .ok (.aload_n 0, 1) := by decide +kernel
theorem dX3_restart_1 : decode cX3_restart 1 = .ok (.iload_n 1, 1) := by decide +kernel
theorem dX3_restart_2 : decode cX3_restart 2 = .ok (.putfield 27, 3) := by decide +kernel
theorem dX3_restart_5 : decode cX3_restart 5 = .ok (.aload_n 0, 1) := by decide +kernel
theorem dX3_restart_6 : decode cX3_restart 6 = .ok (.ldc2_w 31, 3) := by decide +kernel
theorem dX3_restart_9 : decode cX3_restart 9 = .ok (.bipush 64, 2) := by decide +kernel
theorem dX3_restart_11 : decode cX3_restart 11 = .ok (.iconst 1, 1) := by decide +kernel
theorem dX3_restart_12 : decode cX3_restart 12 = .ok (.iload_n 1, 1) := by decide +kernel
theorem dX3_restart_13 : decode cX3_restart 13 = .ok (.ishl, 1) := by decide +kernel
theorem dX3_restart_14 : decode cX3_restart 14 = .ok (.isub, 1) := by decide +kernel
theorem dX3_restart_15 : decode cX3_restart 15 = .ok (.lushr, 1) := by decide +kernel
theorem dX3_restart_16 : decode cX3_restart 16 = .ok (.putfield 33, 3) := by decide +kernel
theorem dX3_restart_19 : decode cX3_restart 19 = .ok (.aload_n 0, 1) := by decide +kernel
theorem dX3_restart_20 : decode cX3_restart 20 = .ok (.iconst 0, 1) := by decide +kernel
theorem dX3_restart_21 : decode cX3_restart 21 = .ok (.putfield 37, 3) := by decide +kernel
theorem dX3_restart_24 : decode cX3_restart 24 = .ok (.aload_n 0, 1) := by decide +kernel
theorem dX3_restart_25 : decode cX3_restart 25 = .ok (.iconst 0, 1) := by decide +kernel
theorem dX3_restart_26 : decode cX3_restart 26 = .ok (.putfield 40, 3) := by decide +kernel
theorem dX3_restart_29 : decode cX3_restart 29 = .ok (.return_, 1) := by decide +kernel
theorem dX3_copyFrom_0 : decode cX3_copyFrom 0 = .ok (.aload_n 0, 1) := by decide +kernel
theorem dX3_copyFrom_1 : decode cX3_copyFrom 1 = .ok (.aload_n 1, 1) := by decide +kernel
theorem dX3_copyFrom_2 : decode cX3_copyFrom 2 = .ok (.getfield 27, 3) := by decide +kernel
theorem dX3_copyFrom_5 : decode cX3_copyFrom 5 = .ok (.putfield 27, 3) := by decide +kernel
theorem dX3_copyFrom_8 : decode cX3_copyFrom 8 = .ok (.aload_n 0, 1) := by decide +kernel
theorem dX3_copyFrom_9 : decode cX3_copyFrom 9 = .ok (.aload_n 1, 1) := by decide +kernel
theorem dX3_copyFrom_10 : decode cX3_copyFrom 10 = .ok (.getfield 33, 3) := by decide +kernel
theorem dX3_copyFrom_13 : decode cX3_copyFrom 13 = .ok (.putfield 33, 3) := by decide +kernel
theorem dX3_copyFrom_16 : decode cX3_copyFrom 16 = .ok (.aload_n 0, 1) := by decide +kernel
theorem dX3_copyFrom_17 : decode cX3_copyFrom 17 = .ok (.aload_n 1, 1) := by decide +kernel
theorem dX3_copyFrom_18 : decode cX3_copyFrom 18 = .ok (.getfield 37, 3) := by decide +kernel
theorem dX3_copyFrom_21 : decode cX3_copyFrom 21 = .ok (.putfield 37, 3) := by decide +kernel
theorem dX3_copyFrom_24 : decode cX3_copyFrom 24 = .ok (.aload_n 0, 1) := by decide +kernel
theorem dX3_copyFrom_25 : decode cX3_copyFrom 25 = .ok (.aload_n 1, 1) := by decide +kernel
theorem dX3_copyFrom_26 : decode cX3_copyFrom 26 = .ok (.getfield 40, 3) := by decide +kernel
theorem dX3_copyFrom_29 : decode cX3_copyFrom 29 = .ok (.putfield 40, 3) := by decide +kernel
theorem dX3_copyFrom_32 : decode cX3_copyFrom 32 = .ok (.aload_n 1, 1) := by decide +kernel
theorem dX3_copyFrom_33 : decode cX3_copyFrom 33 = .ok (.getfield 9, 3) := by decide +kernel
theorem dX3_copyFrom_36 : decode cX3_copyFrom 36 = .ok (.iconst 0, 1) := by decide +kernel
theorem dX3_copyFrom_37 : decode cX3_copyFrom 37 = .ok (.aload_n 0, 1) := by decide +kernel
theorem dX3_copyFrom_38 : decode cX3_copyFrom 38 = .ok (.getfield 9, 3) := by decide +kernel
theorem dX3_copyFrom_41 : decode cX3_copyFrom 41 = .ok (.iconst 0, 1) := by decide +kernel
theorem dX3_copyFrom_42 : decode cX3_copyFrom 42 = .ok (.bipush 24, 2) := by decide +kernel
theorem dX3_copyFrom_44 : decode cX3_copyFrom 44 = .ok (.invokestatic 43, 3) := by decide +kernel
theorem dX3_copyFrom_47 : decode cX3_copyFrom 47 = .ok (.aload_n 1, 1) := by decide +kernel
theorem dX3_copyFrom_48 : decode cX3_copyFrom 48 = .ok (.getfield 15, 3) := by decide +kernel
theorem dX3_copyFrom_51 : decode cX3_copyFrom 51 = .ok (.iconst 0, 1) := by decide +kernel
theorem dX3_copyFrom_52 : decode cX3_copyFrom 52 = .ok (.aload_n 0, 1) := by decide +kernel
theorem dX3_copyFrom_53 : decode cX3_copyFrom 53 = .ok (.getfield 15, 3) := by decide +kernel
theorem dX3_copyFrom_56 : decode cX3_copyFrom 56 = .ok (.iconst 0, 1) := by decide +kernel
theorem dX3_copyFrom_57 : decode cX3_copyFrom 57 = .ok (.bipush 24, 2) := by decide +kernel
theorem dX3_copyFrom_59 : decode cX3_copyFrom 59 = .ok (.invokestatic 43, 3) := by decide +kernel
theorem dX3_copyFrom_62 : decode cX3_copyFrom 62 = .ok (.aload_n 1, 1) := by decide +kernel
theorem dX3_copyFrom_63 : decode cX3_copyFrom 63 = .ok (.getfield 18, 3) := by decide +kernel
theorem dX3_copyFrom_66 : decode cX3_copyFrom 66 = .ok (.iconst 0, 1) := by decide +kernel
theorem dX3_copyFrom_67 : decode cX3_copyFrom 67 = .ok (.aload_n 0, 1) := by decide +kernel
theorem dX3_copyFrom_68 : decode cX3_copyFrom 68 = .ok (.getfield 18, 3) := by decide +kernel
theorem dX3_copyFrom_71 : decode cX3_copyFrom 71 = .ok (.iconst 0, 1) := by decide +kernel
theorem dX3_copyFrom_72 : decode cX3_copyFrom 72 = .ok (.bipush 24, 2) := by decide +kernel
theorem dX3_copyFrom_74 : decode cX3_copyFrom 74 = .ok (.invokestatic 43, 3) := by decide +kernel
theorem dX3_copyFrom_77 : decode cX3_copyFrom 77 = .ok (.aload_n 1, 1) := by decide +kernel
theorem dX3_copyFrom_78 : decode cX3_copyFrom 78 = .ok (.getfield 21, 3) := by decide +kernel
theorem dX3_copyFrom_81 : decode cX3_copyFrom 81 = .ok (.iconst 0, 1) := by decide +kernel
theorem dX3_copyFrom_82 : decode cX3_copyFrom 82 = .ok (.aload_n 0, 1) := by decide +kernel
theorem dX3_copyFrom_83 : decode cX3_copyFrom 83 = .ok (.getfield 21, 3) := by decide +kernel
theorem dX3_copyFrom_86 : decode cX3_copyFrom 86 = .ok (.iconst 0, 1) := by decide +kernel
theorem dX3_copyFrom_87 : decode cX3_copyFrom 87 = .ok (.bipush 24, 2) := by decide +kernel
theorem dX3_copyFrom_89 : decode cX3_copyFrom 89 = .ok (.invokestatic 43, 3) := by decide +kernel
theorem dX3_copyFrom_92 : decode cX3_copyFrom 92 = .ok (.aload_n 1, 1) := by decide +kernel
theorem dX3_copyFrom_93 : decode cX3_copyFrom 93 = .ok (.getfield 24, 3) := by decide +kernel
theorem dX3_copyFrom_96 : decode cX3_copyFrom 96 = .ok (.iconst 0, 1) := by decide +kernel
theorem dX3_copyFrom_97 : decode cX3_copyFrom 97 = .ok (.aload_n 0, 1) := by decide +kernel
theorem dX3_copyFrom_98 : decode cX3_copyFrom 98 = .ok (.getfield 24, 3) := by decide +kernel
theorem dX3_copyFrom_101 : decode cX3_copyFrom 101 = .ok (.iconst 0, 1) := by decide +kernel
theorem dX3_copyFrom_102 : decode cX3_copyFrom 102 = .ok (.bipush 24, 2) := by decide +kernel
theorem dX3_copyFrom_104 : decode cX3_copyFrom 104 = .ok (.invokestatic 43, 3) := by decide +kernel
theorem dX3_copyFrom_107 : decode cX3_copyFrom 107 = .ok (.return_, 1) := by decide +kernel
set_option maxRecDepth 20000 in
theorem ggX3_addMessage_X6_write : GoodIn wsX3_addMessage wsX6_write := goodIn_r _ [9] (by decide +kernel) (by decide +kernel)
set_option maxRecDepth 20000 in
theorem gX3_addMessage_X6_write_n49 : GoodIn wsX3_addMessage (wsX6_write) := ggX3_addMessage_X6_write
theorem dX3_addMessage_0 : decode cX3_addMessage 0 = .ok (.aload_n 0, 1) := by decide +kernel
theorem dX3_addMessage_1 : decode cX3_addMessage 1 = .ok (.getfield 40, 3) := by decide +kernel
theorem dX3_addMessage_4 : decode cX3_addMessage 4 = .ok (.istore_n 3, 1) := by decide +kernel
theorem dX3_addMessage_5 : decode cX3_addMessage 5 = .ok (.aload_n 0, 1) := by decide +kernel
theorem dX3_addMessage_6 : decode cX3_addMessage 6 = .ok (.getfield 9, 3) := by decide +kernel
theorem dX3_addMessage_9 : decode cX3_addMessage 9 = .ok (.iload_n 3, 1) := by decide +kernel
theorem dX3_addMessage_10 : decode cX3_addMessage 10 = .ok (.iload_n 1, 1) := by decide +kernel
theorem dX3_addMessage_11 : decode cX3_addMessage 11 = .ok (.iload_n 2, 1) := by decide +kernel
theorem dX3_addMessage_12 : decode cX3_addMessage 12 = .ok (.if_icmp .ne 7, 3) := by decide +kernel
theorem dX3_addMessage_15 : decode cX3_addMessage 15 = .ok (.iconst 1, 1) := by decide +kernel
theorem dX3_addMessage_16 : decode cX3_addMessage 16 = .ok (.goto 4, 3) := by decide +kernel
theorem dX3_addMessage_19 : decode cX3_addMessage 19 = .ok (.iconst 0, 1) := by decide +kernel
theorem dX3_addMessage_20 : decode cX3_addMessage 20 = .ok (.invokestatic 49, 3) := by decide +kernel
theorem dX3_addMessage_23 : decode cX3_addMessage 23 = .ok (.aload_n 0, 1) := by decide +kernel
theorem dX3_addMessage_24 : decode cX3_addMessage 24 = .ok (.getfield 15, 3) := by decide +kernel
theorem dX3_addMessage_27 : decode cX3_addMessage 27 = .ok (.iload_n 3, 1) := by decide +kernel
theorem dX3_addMessage_28 : decode cX3_addMessage 28 = .ok (.iload_n 1, 1) := by decide +kernel
theorem dX3_addMessage_29 : decode cX3_addMessage 29 = .ok (.invokestatic 49, 3) := by decide +kernel
theorem dX3_addMessage_32 : decode cX3_addMessage 32 = .ok (.aload_n 0, 1) := by decide +kernel
theorem dX3_addMessage_33 : decode cX3_addMessage 33 = .ok (.getfield 18, 3) := by decide +kernel
theorem dX3_addMessage_36 : decode cX3_addMessage 36 = .ok (.iload_n 3, 1) := by decide +kernel
theorem dX3_addMessage_37 : decode cX3_addMessage 37 = .ok (.iload_n 2, 1) := by decide +kernel
theorem dX3_addMessage_38 : decode cX3_addMessage 38 = .ok (.invokestatic 49, 3) := by decide +kernel
theorem dX3_addMessage_41 : decode cX3_addMessage 41 = .ok (.aload_n 0, 1) := by decide +kernel
theorem dX3_addMessage_42 : decode cX3_addMessage 42 = .ok (.getfield 21, 3) := by decide +kernel
theorem dX3_addMessage_45 : decode cX3_addMessage 45 = .ok (.iload_n 3, 1) := by decide +kernel
theorem dX3_addMessage_46 : decode cX3_addMessage 46 = .ok (.iconst 0, 1) := by decide +kernel
theorem dX3_addMessage_47 : decode cX3_addMessage 47 = .ok (.invokestatic 49, 3) := by decide +kernel
theorem dX3_addMessage_50 : decode cX3_addMessage 50 = .ok (.aload_n 0, 1) := by decide +kernel
theorem dX3_addMessage_51 : decode cX3_addMessage 51 = .ok (.getfield 24, 3) := by decide +kernel
theorem dX3_addMessage_54 : decode cX3_addMessage 54 = .ok (.iload_n 3, 1) := by decide +kernel
theorem dX3_addMessage_55 : decode cX3_addMessage 55 = .ok (.iconst 0, 1) := by decide +kernel
theorem dX3_addMessage_56 : decode cX3_addMessage 56 = .ok (.invokestatic 49, 3) := by decide +kernel
theorem dX3_addMessage_59 : decode cX3_addMessage 59 = .ok (.aload_n 0, 1) := by decide +kernel
theorem dX3_addMessage_60 : decode cX3_addMessage 60 = .ok (.dup, 1) := by decide +kernel
theorem dX3_addMessage_61 : decode cX3_addMessage 61 = .ok (.getfield 40, 3) := by decide +kernel
theorem dX3_addMessage_64 : decode cX3_addMessage 64 = .ok (.iconst 1, 1) := by decide +kernel
theorem dX3_addMessage_65 : decode cX3_addMessage 65 = .ok (.iadd, 1) := by decide +kernel
theorem dX3_addMessage_66 : decode cX3_addMessage 66 = .ok (.putfield 40, 3) := by decide +kernel
theorem dX3_addMessage_69 : decode cX3_addMessage 69 = .ok (.iload_n 3, 1) := by decide +kernel
theorem dX3_addMessage_70 : decode cX3_addMessage 70 = .ok (.ireturn, 1) := by decide +kernel
set_option maxRecDepth 20000 in
theorem ggX3_letDie_X6_read : GoodIn wsX3_letDie wsX6_read := goodIn_r _ [9] (by decide +kernel) (by decide +kernel)
set_option maxRecDepth 20000 in
theorem gX3_letDie_X6_read_n53 : GoodIn wsX3_letDie (wsX6_read) := ggX3_letDie_X6_read
set_option maxRecDepth 20000 in
theorem ggX3_letDie_X6_contains : GoodIn wsX3_letDie wsX6_contains := goodIn_r _ [11] (by decide +kernel) (by decide +kernel)
set_option maxRecDepth 20000 in
theorem gX3_letDie_X6_contains_n57 : GoodIn wsX3_letDie (wsX6_contains) := ggX3_letDie_X6_contains
set_option maxRecDepth 20000 in
theorem ggX3_letDie_X6_write : GoodIn wsX3_letDie wsX6_write := goodIn_r _ [13] (by decide +kernel) (by decide +kernel)
set_option maxRecDepth 20000 in
theorem gX3_letDie_X6_write_n49 : GoodIn wsX3_letDie (wsX6_write) := ggX3_letDie_X6_write
theorem dX3_letDie_0 : decode cX3_letDie 0 = .ok (.aload_n 0, 1) := by decide +kernel
theorem dX3_letDie_1 : decode cX3_letDie 1 = .ok (.dup, 1) := by decide +kernel
theorem dX3_letDie_2 : decode cX3_letDie 2 = .ok (.getfield 33, 3) := by decide +kernel
theorem dX3_letDie_5 : decode cX3_letDie 5 = .ok (.lload_n 1, 1) := by decide +kernel
theorem dX3_letDie_6 : decode cX3_letDie 6 = .ok (.ldc2_w 31, 3) := by decide +kernel
theorem dX3_letDie_9 : decode cX3_letDie 9 = .ok (.lxor, 1) := by decide +kernel
theorem dX3_letDie_10 : decode cX3_letDie 10 = .ok (.land, 1) := by decide +kernel
theorem dX3_letDie_11 : decode cX3_letDie 11 = .ok (.putfield 33, 3) := by decide +kernel
theorem dX3_letDie_14 : decode cX3_letDie 14 = .ok (.iconst 0, 1) := by decide +kernel
theorem dX3_letDie_15 : decode cX3_letDie 15 = .ok (.istore_n 3, 1) := by decide +kernel
theorem dX3_letDie_16 : decode cX3_letDie 16 = .ok (.iconst 0, 1) := by decide +kernel
theorem dX3_letDie_17 : decode cX3_letDie 17 = .ok (.istore 4, 2) := by decide +kernel
theorem dX3_letDie_19 : decode cX3_letDie 19 = .ok (.iload 4, 2) := by decide +kernel
theorem dX3_letDie_21 : decode cX3_letDie 21 = .ok (.aload_n 0, 1) := by decide +kernel
theorem dX3_letDie_22 : decode cX3_letDie 22 = .ok (.getfield 40, 3) := by decide +kernel
theorem dX3_letDie_25 : decode cX3_letDie 25 = .ok (.if_icmp .ge 78, 3) := by decide +kernel
theorem dX3_letDie_28 : decode cX3_letDie 28 = .ok (.lload_n 1, 1) := by decide +kernel
theorem dX3_letDie_29 : decode cX3_letDie 29 = .ok (.aload_n 0, 1) := by decide +kernel
theorem dX3_letDie_30 : decode cX3_letDie 30 = .ok (.getfield 15, 3) := by decide +kernel
theorem dX3_letDie_33 : decode cX3_letDie 33 = .ok (.iload 4, 2) := by decide +kernel
theorem dX3_letDie_35 : decode cX3_letDie 35 = .ok (.invokestatic 53, 3) := by decide +kernel
theorem dX3_letDie_38 : decode cX3_letDie 38 = .ok (.invokestatic 57, 3) := by decide +kernel
theorem dX3_letDie_41 : decode cX3_letDie 41 = .ok (.ifCond .ne 19, 3) := by decide +kernel
theorem dX3_letDie_44 : decode cX3_letDie 44 = .ok (.lload_n 1, 1) := by decide +kernel
theorem dX3_letDie_45 : decode cX3_letDie 45 = .ok (.aload_n 0, 1) := by decide +kernel
theorem dX3_letDie_46 : decode cX3_letDie 46 = .ok (.getfield 18, 3) := by decide +kernel
theorem dX3_letDie_49 : decode cX3_letDie 49 = .ok (.iload 4, 2) := by decide +kernel
theorem dX3_letDie_51 : decode cX3_letDie 51 = .ok (.invokestatic 53, 3) := by decide +kernel
theorem dX3_letDie_54 : decode cX3_letDie 54 = .ok (.invokestatic 57, 3) := by decide +kernel
theorem dX3_letDie_57 : decode cX3_letDie 57 = .ok (.ifCond .eq 7, 3) := by decide +kernel
theorem dX3_letDie_60 : decode cX3_letDie 60 = .ok (.iconst 1, 1) := by decide +kernel
theorem dX3_letDie_61 : decode cX3_letDie 61 = .ok (.goto 4, 3) := by decide +kernel
theorem dX3_letDie_64 : decode cX3_letDie 64 = .ok (.iconst 0, 1) := by decide +kernel
theorem dX3_letDie_65 : decode cX3_letDie 65 = .ok (.istore 5, 2) := by decide +kernel
theorem dX3_letDie_67 : decode cX3_letDie 67 = .ok (.iload 5, 2) := by decide +kernel
theorem dX3_letDie_69 : decode cX3_letDie 69 = .ok (.ifCond .eq 28, 3) := by decide +kernel
theorem dX3_letDie_72 : decode cX3_letDie 72 = .ok (.aload_n 0, 1) := by decide +kernel
theorem dX3_letDie_73 : decode cX3_letDie 73 = .ok (.getfield 9, 3) := by decide +kernel
theorem dX3_letDie_76 : decode cX3_letDie 76 = .ok (.iload 4, 2) := by decide +kernel
theorem dX3_letDie_78 : decode cX3_letDie 78 = .ok (.invokestatic 53, 3) := by decide +kernel
theorem dX3_letDie_81 : decode cX3_letDie 81 = .ok (.ifCond .ne 16, 3) := by decide +kernel
theorem dX3_letDie_84 : decode cX3_letDie 84 = .ok (.aload_n 0, 1) := by decide +kernel
theorem dX3_letDie_85 : decode cX3_letDie 85 = .ok (.getfield 9, 3) := by decide +kernel
theorem dX3_letDie_88 : decode cX3_letDie 88 = .ok (.iload 4, 2) := by decide +kernel
theorem dX3_letDie_90 : decode cX3_letDie 90 = .ok (.iconst 2, 1) := by decide +kernel
theorem dX3_letDie_91 : decode cX3_letDie 91 = .ok (.invokestatic 49, 3) := by decide +kernel
theorem dX3_letDie_94 : decode cX3_letDie 94 = .ok (.iinc 3 1, 3) := by decide +kernel
theorem dX3_letDie_97 : decode cX3_letDie 97 = .ok (.iinc 4 1, 3) := by decide +kernel
theorem dX3_letDie_100 : decode cX3_letDie 100 = .ok (.goto (-81), 3) := by decide +kernel
theorem dX3_letDie_103 : decode cX3_letDie 103 = .ok (.iload_n 3, 1) := by decide +kernel
theorem dX3_letDie_104 : decode cX3_letDie 104 = .ok (.ireturn, 1) := by decide +kernel
theorem dX4_init_0 : decode cX4_init 0 = .ok (.aload_n 0, 1) := by decide +kernel
theorem dX4_init_1 : decode cX4_init 1 = .ok (.invokespecial 3, 3) := by decide +kernel
theorem dX4_init_4 : decode cX4_init 4 = .ok (.aload_n 0, 1) := by decide +kernel
theorem dX4_init_5 : decode cX4_init 5 = .ok (.bipush 64, 2) := by decide +kernel
theorem dX4_init_7 : decode cX4_init 7 = .ok (.newarray .int, 2) := by decide +kernel
theorem dX4_init_9 : decode cX4_init 9 = .ok (.putfield 9, 3) := by decide +kernel
theorem dX4_init_12 : decode cX4_init 12 = .ok (.return_, 1) := by decide +kernel
set_option maxRecDepth 20000 in
theorem ggX4_oneStep_J7_fill_53178 : GoodIn wsX4_oneStep wsJ7_fill_53178 := goodIn_r _ [5] (by decide +kernel) (by decide +kernel)
set_option maxRecDepth 20000 in
theorem gX4_oneStep_J7_fill_53178 : GoodIn wsX4_oneStep (va_wsS RX4 15 yJ7_fill_53178 wsJ7_fill_53178) := goodIn_app (goodIn_of _ (by decide +kernel)) ggX4_oneStep_J7_fill_53178
set_option maxRecDepth 20000 in
theorem ggX4_oneStep_X6_read : GoodIn wsX4_oneStep wsX6_read := goodIn_r _ [8] (by decide +kernel) (by decide +kernel)
set_option maxRecDepth 20000 in
theorem gX4_oneStep_X6_read_n30 : GoodIn wsX4_oneStep (wsX6_read) := ggX4_oneStep_X6_read
set_option maxRecDepth 20000 in
theorem ggX4_oneStep_X4_moved : GoodIn wsX4_oneStep wsX4_moved := goodIn_r _ [13, 1, 6, 7, 8, 14, 15, 16, 17, 18, 19, 20, 21, 22, 23, 24, 25, 26, 27, 28, 29, 30, 31, 32, 33, 34, 35, 36, 37, 38, 39, 40, 41, 42, 12, 43, 45, 46, 47, 48, 49, 50, 51, 52, 53, 44, 54, 55, 56, 57, 58] (by decide +kernel) (by decide +kernel)
set_option maxRecDepth 20000 in
theorem gX4_oneStep_X4_moved : GoodIn wsX4_oneStep (wsV RX4 34 RX4 yX4_moved wsX4_moved) := goodIn_app (goodIn_of _ (by decide +kernel)) ggX4_oneStep_X4_moved
theorem dX4_oneStep_0 : decode cX4_oneStep 0 = .ok (.aload_n 0, 1) := by decide +kernel
theorem dX4_oneStep_1 : decode cX4_oneStep 1 = .ok (.getfield 9, 3) := by decide +kernel
theorem dX4_oneStep_4 : decode cX4_oneStep 4 = .ok (.iconst 0, 1) := by decide +kernel
theorem dX4_oneStep_5 : decode cX4_oneStep 5 = .ok (.invokestatic 15, 3) := by decide +kernel
theorem dX4_oneStep_8 : decode cX4_oneStep 8 = .ok (.iconst 0, 1) := by decide +kernel
theorem dX4_oneStep_9 : decode cX4_oneStep 9 = .ok (.istore_n 3, 1) := by decide +kernel
theorem dX4_oneStep_10 : decode cX4_oneStep 10 = .ok (.iconst 0, 1) := by decide +kernel
theorem dX4_oneStep_11 : decode cX4_oneStep 11 = .ok (.istore 4, 2) := by decide +kernel
theorem dX4_oneStep_13 : decode cX4_oneStep 13 = .ok (.iload 4, 2) := by decide +kernel
theorem dX4_oneStep_15 : decode cX4_oneStep 15 = .ok (.aload_n 1, 1) := by decide +kernel
theorem dX4_oneStep_16 : decode cX4_oneStep 16 = .ok (.getfield 21, 3) := by decide +kernel
theorem dX4_oneStep_19 : decode cX4_oneStep 19 = .ok (.if_icmp .ge 35, 3) := by decide +kernel
theorem dX4_oneStep_22 : decode cX4_oneStep 22 = .ok (.aload_n 1, 1) := by decide +kernel
theorem dX4_oneStep_23 : decode cX4_oneStep 23 = .ok (.getfield 27, 3) := by decide +kernel
theorem dX4_oneStep_26 : decode cX4_oneStep 26 = .ok (.iload 4, 2) := by decide +kernel
theorem dX4_oneStep_28 : decode cX4_oneStep 28 = .ok (.invokestatic 30, 3) := by decide +kernel
theorem dX4_oneStep_31 : decode cX4_oneStep 31 = .ok (.ifCond .ne 17, 3) := by decide +kernel
theorem dX4_oneStep_34 : decode cX4_oneStep 34 = .ok (.aload_n 0, 1) := by decide +kernel
theorem dX4_oneStep_35 : decode cX4_oneStep 35 = .ok (.iload 4, 2) := by decide +kernel
theorem dX4_oneStep_37 : decode cX4_oneStep 37 = .ok (.aload_n 1, 1) := by decide +kernel
theorem dX4_oneStep_38 : decode cX4_oneStep 38 = .ok (.aload_n 2, 1) := by decide +kernel
theorem dX4_oneStep_39 : decode cX4_oneStep 39 = .ok (.invokevirtual 34, 3) := by decide +kernel
theorem dX4_oneStep_42 : decode cX4_oneStep 42 = .ok (.ifCond .eq 6, 3) := by decide +kernel
theorem dX4_oneStep_45 : decode cX4_oneStep 45 = .ok (.iinc 3 1, 3) := by decide +kernel
theorem dX4_oneStep_48 : decode cX4_oneStep 48 = .ok (.iinc 4 1, 3) := by decide +kernel
theorem dX4_oneStep_51 : decode cX4_oneStep 51 = .ok (.goto (-38), 3) := by decide +kernel
theorem dX4_oneStep_54 : decode cX4_oneStep 54 = .ok (.aload_n 1, 1) := by decide +kernel
theorem dX4_oneStep_55 : decode cX4_oneStep 55 = .ok (.dup, 1) := by decide +kernel
theorem dX4_oneStep_56 : decode cX4_oneStep 56 = .ok (.getfield 38, 3) := by decide +kernel
theorem dX4_oneStep_59 : decode cX4_oneStep 59 = .ok (.iconst 1, 1) := by decide +kernel
theorem dX4_oneStep_60 : decode cX4_oneStep 60 = .ok (.iadd, 1) := by decide +kernel
theorem dX4_oneStep_61 : decode cX4_oneStep 61 = .ok (.putfield 38, 3) := by decide +kernel
theorem dX4_oneStep_64 : decode cX4_oneStep 64 = .ok (.iload_n 3, 1) := by decide +kernel
theorem dX4_oneStep_65 : decode cX4_oneStep 65 = .ok (.ireturn, 1) := by decide +kernel
set_option maxRecDepth 20000 in
theorem ggX4_moved_X6_read : GoodIn wsX4_moved wsX6_read := goodIn_r _ [4] (by decide +kernel) (by decide +kernel)
set_option maxRecDepth 20000 in
theorem gX4_moved_X6_read_n30 : GoodIn wsX4_moved (wsX6_read) := ggX4_moved_X6_read
set_option maxRecDepth 20000 in
theorem ggX4_moved_X2_bestLevel : GoodIn wsX4_moved wsX2_bestLevel := goodIn_r _ [9, 10, 11, 12, 8, 13, 14, 15, 3, 16, 17, 18, 19, 20, 21, 22, 23, 2, 4, 46, 47, 48, 49, 50] (by decide +kernel) (by decide +kernel)
set_option maxRecDepth 20000 in
theorem gX4_moved_X2_bestLevel : GoodIn wsX4_moved (wsV RX4 47 RX2 yX2_bestLevel wsX2_bestLevel) := goodIn_app (goodIn_of _ (by decide +kernel)) ggX4_moved_X2_bestLevel
set_option maxRecDepth 20000 in
theorem ggX4_moved_X2_spareOf : GoodIn wsX4_moved wsX2_spareOf := goodIn_r _ [27, 14, 46, 47, 48, 49, 50] (by decide +kernel) (by decide +kernel)
set_option maxRecDepth 20000 in
theorem gX4_moved_X2_spareOf : GoodIn wsX4_moved (wsV RX4 53 RX2 yX2_spareOf wsX2_spareOf) := goodIn_app (goodIn_of _ (by decide +kernel)) ggX4_moved_X2_spareOf
set_option maxRecDepth 20000 in
theorem ggX4_moved_X2_bestDimension : GoodIn wsX4_moved wsX2_bestDimension := goodIn_r _ [13, 14, 15, 3, 16, 17, 18, 19, 20, 21, 8, 22, 23, 2, 4, 46, 47, 48, 49, 50] (by decide +kernel) (by decide +kernel)
set_option maxRecDepth 20000 in
theorem gX4_moved_X2_bestDimension : GoodIn wsX4_moved (wsV RX4 60 RX2 yX2_bestDimension wsX2_bestDimension) := goodIn_app (goodIn_of _ (by decide +kernel)) ggX4_moved_X2_bestDimension
set_option maxRecDepth 20000 in
theorem ggX4_moved_X6_hasBit : GoodIn wsX4_moved wsX6_hasBit := goodIn_r _ [16] (by decide +kernel) (by decide +kernel)
set_option maxRecDepth 20000 in
theorem gX4_moved_X6_hasBit_n63 : GoodIn wsX4_moved (wsX6_hasBit) := ggX4_moved_X6_hasBit
set_option maxRecDepth 20000 in
theorem ggX4_moved_X6_write : GoodIn wsX4_moved wsX6_write := goodIn_r _ [30] (by decide +kernel) (by decide +kernel)
set_option maxRecDepth 20000 in
theorem gX4_moved_X6_write_n67 : GoodIn wsX4_moved (wsX6_write) := ggX4_moved_X6_write
set_option maxRecDepth 20000 in
theorem ggX4_moved_X6_neighbour : GoodIn wsX4_moved wsX6_neighbour := goodIn_r _ [18] (by decide +kernel) (by decide +kernel)
set_option maxRecDepth 20000 in
theorem gX4_moved_X6_neighbour_n71 : GoodIn wsX4_moved (wsX6_neighbour) := ggX4_moved_X6_neighbour
set_option maxRecDepth 20000 in
theorem ggX4_moved_X4_move : GoodIn wsX4_moved wsX4_move := goodIn_r _ [35, 29, 3, 30, 2, 4, 36, 37, 38, 39, 40, 41, 42, 43, 44] (by decide +kernel) (by decide +kernel)
set_option maxRecDepth 20000 in
theorem gX4_moved_X4_move : GoodIn wsX4_moved (wsV RX4 74 RX4 yX4_move wsX4_move) := goodIn_app (goodIn_of _ (by decide +kernel)) ggX4_moved_X4_move
theorem dX4_moved_0 : decode cX4_moved 0 = .ok (.aload_n 2, 1) := by decide +kernel
theorem dX4_moved_1 : decode cX4_moved 1 = .ok (.getfield 41, 3) := by decide +kernel
theorem dX4_moved_4 : decode cX4_moved 4 = .ok (.iload_n 1, 1) := by decide +kernel
theorem dX4_moved_5 : decode cX4_moved 5 = .ok (.invokestatic 30, 3) := by decide +kernel
theorem dX4_moved_8 : decode cX4_moved 8 = .ok (.istore 4, 2) := by decide +kernel
theorem dX4_moved_10 : decode cX4_moved 10 = .ok (.iload 4, 2) := by decide +kernel
theorem dX4_moved_12 : decode cX4_moved 12 = .ok (.aload_n 2, 1) := by decide +kernel
theorem dX4_moved_13 : decode cX4_moved 13 = .ok (.getfield 44, 3) := by decide +kernel
theorem dX4_moved_16 : decode cX4_moved 16 = .ok (.iload_n 1, 1) := by decide +kernel
theorem dX4_moved_17 : decode cX4_moved 17 = .ok (.invokestatic 30, 3) := by decide +kernel
theorem dX4_moved_20 : decode cX4_moved 20 = .ok (.ixor, 1) := by decide +kernel
theorem dX4_moved_21 : decode cX4_moved 21 = .ok (.istore 5, 2) := by decide +kernel
theorem dX4_moved_23 : decode cX4_moved 23 = .ok (.aload_n 3, 1) := by decide +kernel
theorem dX4_moved_24 : decode cX4_moved 24 = .ok (.iload 4, 2) := by decide +kernel
theorem dX4_moved_26 : decode cX4_moved 26 = .ok (.iload 5, 2) := by decide +kernel
theorem dX4_moved_28 : decode cX4_moved 28 = .ok (.invokevirtual 47, 3) := by decide +kernel
theorem dX4_moved_31 : decode cX4_moved 31 = .ok (.iconst 1, 1) := by decide +kernel
theorem dX4_moved_32 : decode cX4_moved 32 = .ok (.if_icmp .ge 7, 3) := by decide +kernel
theorem dX4_moved_35 : decode cX4_moved 35 = .ok (.iconst 1, 1) := by decide +kernel
theorem dX4_moved_36 : decode cX4_moved 36 = .ok (.goto 4, 3) := by decide +kernel
theorem dX4_moved_39 : decode cX4_moved 39 = .ok (.iconst 0, 1) := by decide +kernel
theorem dX4_moved_40 : decode cX4_moved 40 = .ok (.istore 6, 2) := by decide +kernel
theorem dX4_moved_42 : decode cX4_moved 42 = .ok (.iload 6, 2) := by decide +kernel
theorem dX4_moved_44 : decode cX4_moved 44 = .ok (.ifCond .eq 12, 3) := by decide +kernel
theorem dX4_moved_47 : decode cX4_moved 47 = .ok (.aload_n 3, 1) := by decide +kernel
theorem dX4_moved_48 : decode cX4_moved 48 = .ok (.iload 5, 2) := by decide +kernel
theorem dX4_moved_50 : decode cX4_moved 50 = .ok (.invokevirtual 53, 3) := by decide +kernel
theorem dX4_moved_53 : decode cX4_moved 53 = .ok (.goto 5, 3) := by decide +kernel
theorem dX4_moved_56 : decode cX4_moved 56 = .ok (.iload 5, 2) := by decide +kernel
theorem dX4_moved_58 : decode cX4_moved 58 = .ok (.istore 7, 2) := by decide +kernel
theorem dX4_moved_60 : decode cX4_moved 60 = .ok (.iload 6, 2) := by decide +kernel
theorem dX4_moved_62 : decode cX4_moved 62 = .ok (.ifCond .eq 15, 3) := by decide +kernel
theorem dX4_moved_65 : decode cX4_moved 65 = .ok (.aload_n 2, 1) := by decide +kernel
theorem dX4_moved_66 : decode cX4_moved 66 = .ok (.getfield 57, 3) := by decide +kernel
theorem dX4_moved_69 : decode cX4_moved 69 = .ok (.iload_n 1, 1) := by decide +kernel
theorem dX4_moved_70 : decode cX4_moved 70 = .ok (.invokestatic 30, 3) := by decide +kernel
theorem dX4_moved_73 : decode cX4_moved 73 = .ok (.iconst 2, 1) := by decide +kernel
theorem dX4_moved_74 : decode cX4_moved 74 = .ok (.if_icmp .ge 15, 3) := by decide +kernel
theorem dX4_moved_77 : decode cX4_moved 77 = .ok (.aload_n 3, 1) := by decide +kernel
theorem dX4_moved_78 : decode cX4_moved 78 = .ok (.iload 4, 2) := by decide +kernel
theorem dX4_moved_80 : decode cX4_moved 80 = .ok (.iload 7, 2) := by decide +kernel
theorem dX4_moved_82 : decode cX4_moved 82 = .ok (.invokevirtual 47, 3) := by decide +kernel
theorem dX4_moved_85 : decode cX4_moved 85 = .ok (.iconst 1, 1) := by decide +kernel
theorem dX4_moved_86 : decode cX4_moved 86 = .ok (.if_icmp .ge 5, 3) := by decide +kernel
theorem dX4_moved_89 : decode cX4_moved 89 = .ok (.iconst 0, 1) := by decide +kernel
theorem dX4_moved_90 : decode cX4_moved 90 = .ok (.ireturn, 1) := by decide +kernel
theorem dX4_moved_91 : decode cX4_moved 91 = .ok (.aload_n 3, 1) := by decide +kernel
theorem dX4_moved_92 : decode cX4_moved 92 = .ok (.iload 4, 2) := by decide +kernel
theorem dX4_moved_94 : decode cX4_moved 94 = .ok (.iload 7, 2) := by decide +kernel
theorem dX4_moved_96 : decode cX4_moved 96 = .ok (.invokevirtual 60, 3) := by decide +kernel
theorem dX4_moved_99 : decode cX4_moved 99 = .ok (.istore 8, 2) := by decide +kernel
theorem dX4_moved_101 : decode cX4_moved 101 = .ok (.aload_n 0, 1) := by decide +kernel
theorem dX4_moved_102 : decode cX4_moved 102 = .ok (.getfield 9, 3) := by decide +kernel
theorem dX4_moved_105 : decode cX4_moved 105 = .ok (.iload 4, 2) := by decide +kernel
theorem dX4_moved_107 : decode cX4_moved 107 = .ok (.invokestatic 30, 3) := by decide +kernel
theorem dX4_moved_110 : decode cX4_moved 110 = .ok (.iload 8, 2) := by decide +kernel
theorem dX4_moved_112 : decode cX4_moved 112 = .ok (.invokestatic 63, 3) := by decide +kernel
theorem dX4_moved_115 : decode cX4_moved 115 = .ok (.ifCond .eq 5, 3) := by decide +kernel
theorem dX4_moved_118 : decode cX4_moved 118 = .ok (.iconst 0, 1) := by decide +kernel
theorem dX4_moved_119 : decode cX4_moved 119 = .ok (.ireturn, 1) := by decide +kernel
theorem dX4_moved_120 : decode cX4_moved 120 = .ok (.aload_n 0, 1) := by decide +kernel
theorem dX4_moved_121 : decode cX4_moved 121 = .ok (.getfield 9, 3) := by decide +kernel
theorem dX4_moved_124 : decode cX4_moved 124 = .ok (.iload 4, 2) := by decide +kernel
theorem dX4_moved_126 : decode cX4_moved 126 = .ok (.aload_n 0, 1) := by decide +kernel
theorem dX4_moved_127 : decode cX4_moved 127 = .ok (.getfield 9, 3) := by decide +kernel
theorem dX4_moved_130 : decode cX4_moved 130 = .ok (.iload 4, 2) := by decide +kernel
theorem dX4_moved_132 : decode cX4_moved 132 = .ok (.invokestatic 30, 3) := by decide +kernel
theorem dX4_moved_135 : decode cX4_moved 135 = .ok (.iconst 1, 1) := by decide +kernel
theorem dX4_moved_136 : decode cX4_moved 136 = .ok (.iload 8, 2) := by decide +kernel
theorem dX4_moved_138 : decode cX4_moved 138 = .ok (.ishl, 1) := by decide +kernel
theorem dX4_moved_139 : decode cX4_moved 139 = .ok (.ior, 1) := by decide +kernel
theorem dX4_moved_140 : decode cX4_moved 140 = .ok (.invokestatic 67, 3) := by decide +kernel
theorem dX4_moved_143 : decode cX4_moved 143 = .ok (.aload_n 0, 1) := by decide +kernel
theorem dX4_moved_144 : decode cX4_moved 144 = .ok (.iload_n 1, 1) := by decide +kernel
theorem dX4_moved_145 : decode cX4_moved 145 = .ok (.iload 4, 2) := by decide +kernel
theorem dX4_moved_147 : decode cX4_moved 147 = .ok (.iload 8, 2) := by decide +kernel
theorem dX4_moved_149 : decode cX4_moved 149 = .ok (.invokestatic 71, 3) := by decide +kernel
theorem dX4_moved_152 : decode cX4_moved 152 = .ok (.iload 6, 2) := by decide +kernel
theorem dX4_moved_154 : decode cX4_moved 154 = .ok (.aload_n 2, 1) := by decide +kernel
theorem dX4_moved_155 : decode cX4_moved 155 = .ok (.invokevirtual 74, 3) := by decide +kernel
theorem dX4_moved_158 : decode cX4_moved 158 = .ok (.iconst 1, 1) := by decide +kernel
theorem dX4_moved_159 : decode cX4_moved 159 = .ok (.ireturn, 1) := by decide +kernel
set_option maxRecDepth 20000 in
theorem ggX4_move_X6_write : GoodIn wsX4_move wsX6_write := goodIn_r _ [3] (by decide +kernel) (by decide +kernel)
set_option maxRecDepth 20000 in
theorem gX4_move_X6_write_n67 : GoodIn wsX4_move (wsX6_write) := ggX4_move_X6_write
set_option maxRecDepth 20000 in
theorem ggX4_move_X6_read : GoodIn wsX4_move wsX6_read := goodIn_r _ [5] (by decide +kernel) (by decide +kernel)
set_option maxRecDepth 20000 in
theorem gX4_move_X6_read_n30 : GoodIn wsX4_move (wsX6_read) := ggX4_move_X6_read
theorem dX4_move_0 : decode cX4_move 0 = .ok (.aload 4, 2) := by decide +kernel
theorem dX4_move_2 : decode cX4_move 2 = .ok (.getfield 41, 3) := by decide +kernel
theorem dX4_move_5 : decode cX4_move 5 = .ok (.iload_n 1, 1) := by decide +kernel
theorem dX4_move_6 : decode cX4_move 6 = .ok (.iload_n 2, 1) := by decide +kernel
theorem dX4_move_7 : decode cX4_move 7 = .ok (.invokestatic 67, 3) := by decide +kernel
theorem dX4_move_10 : decode cX4_move 10 = .ok (.aload 4, 2) := by decide +kernel
theorem dX4_move_12 : decode cX4_move 12 = .ok (.getfield 78, 3) := by decide +kernel
theorem dX4_move_15 : decode cX4_move 15 = .ok (.iload_n 1, 1) := by decide +kernel
theorem dX4_move_16 : decode cX4_move 16 = .ok (.aload 4, 2) := by decide +kernel
theorem dX4_move_18 : decode cX4_move 18 = .ok (.getfield 78, 3) := by decide +kernel
theorem dX4_move_21 : decode cX4_move 21 = .ok (.iload_n 1, 1) := by decide +kernel
theorem dX4_move_22 : decode cX4_move 22 = .ok (.invokestatic 30, 3) := by decide +kernel
theorem dX4_move_25 : decode cX4_move 25 = .ok (.iconst 1, 1) := by decide +kernel
theorem dX4_move_26 : decode cX4_move 26 = .ok (.iadd, 1) := by decide +kernel
theorem dX4_move_27 : decode cX4_move 27 = .ok (.invokestatic 67, 3) := by decide +kernel
theorem dX4_move_30 : decode cX4_move 30 = .ok (.iload_n 3, 1) := by decide +kernel
theorem dX4_move_31 : decode cX4_move 31 = .ok (.ifCond .eq 23, 3) := by decide +kernel
theorem dX4_move_34 : decode cX4_move 34 = .ok (.aload 4, 2) := by decide +kernel
theorem dX4_move_36 : decode cX4_move 36 = .ok (.getfield 57, 3) := by decide +kernel
theorem dX4_move_39 : decode cX4_move 39 = .ok (.iload_n 1, 1) := by decide +kernel
theorem dX4_move_40 : decode cX4_move 40 = .ok (.aload 4, 2) := by decide +kernel
theorem dX4_move_42 : decode cX4_move 42 = .ok (.getfield 57, 3) := by decide +kernel
theorem dX4_move_45 : decode cX4_move 45 = .ok (.iload_n 1, 1) := by decide +kernel
theorem dX4_move_46 : decode cX4_move 46 = .ok (.invokestatic 30, 3) := by decide +kernel
theorem dX4_move_49 : decode cX4_move 49 = .ok (.iconst 1, 1) := by decide +kernel
theorem dX4_move_50 : decode cX4_move 50 = .ok (.iadd, 1) := by decide +kernel
theorem dX4_move_51 : decode cX4_move 51 = .ok (.invokestatic 67, 3) := by decide +kernel
theorem dX4_move_54 : decode cX4_move 54 = .ok (.iload_n 2, 1) := by decide +kernel
theorem dX4_move_55 : decode cX4_move 55 = .ok (.aload 4, 2) := by decide +kernel
theorem dX4_move_57 : decode cX4_move 57 = .ok (.getfield 44, 3) := by decide +kernel
theorem dX4_move_60 : decode cX4_move 60 = .ok (.iload_n 1, 1) := by decide +kernel
theorem dX4_move_61 : decode cX4_move 61 = .ok (.invokestatic 30, 3) := by decide +kernel
theorem dX4_move_64 : decode cX4_move 64 = .ok (.if_icmp .ne 13, 3) := by decide +kernel
theorem dX4_move_67 : decode cX4_move 67 = .ok (.aload 4, 2) := by decide +kernel
theorem dX4_move_69 : decode cX4_move 69 = .ok (.getfield 27, 3) := by decide +kernel
theorem dX4_move_72 : decode cX4_move 72 = .ok (.iload_n 1, 1) := by decide +kernel
theorem dX4_move_73 : decode cX4_move 73 = .ok (.iconst 1, 1) := by decide +kernel
theorem dX4_move_74 : decode cX4_move 74 = .ok (.invokestatic 67, 3) := by decide +kernel
theorem dX4_move_77 : decode cX4_move 77 = .ok (.return_, 1) := by decide +kernel
set_option maxRecDepth 20000 in
theorem ggX5_init_X3_init : GoodIn wsX5_init wsX3_init := goodIn_r _ [9, 10, 2, 3, 11, 12, 13, 14, 15, 16, 20, 21, 22, 23, 24, 25, 26, 27, 28] (by decide +kernel) (by decide +kernel)
set_option maxRecDepth 20000 in
theorem gX5_init_X3_init_n17 : GoodIn wsX5_init (wsX3_init) := ggX5_init_X3_init
theorem dX5_init_0 : decode cX5_init 0 = .ok (.aload_n 0, 1) := by decide +kernel
theorem dX5_init_1 : decode cX5_init 1 = .ok (.invokespecial 3, 3) := by decide +kernel
theorem dX5_init_4 : decode cX5_init 4 = .ok (.aload_n 0, 1) := by decide +kernel
theorem dX5_init_5 : decode cX5_init 5 = .ok (.iconst 4, 1) := by decide +kernel
theorem dX5_init_6 : decode cX5_init 6 = .ok (.anewarray 9, 3) := by decide +kernel
theorem dX5_init_9 : decode cX5_init 9 = .ok (.putfield 11, 3) := by decide +kernel
theorem dX5_init_12 : decode cX5_init 12 = .ok (.iconst 0, 1) := by decide +kernel
theorem dX5_init_13 : decode cX5_init 13 = .ok (.istore_n 1, 1) := by decide +kernel
theorem dX5_init_14 : decode cX5_init 14 = .ok (.iload_n 1, 1) := by decide +kernel
theorem dX5_init_15 : decode cX5_init 15 = .ok (.aload_n 0, 1) := by decide +kernel
theorem dX5_init_16 : decode cX5_init 16 = .ok (.getfield 11, 3) := by decide +kernel
theorem dX5_init_19 : decode cX5_init 19 = .ok (.arraylength, 1) := by decide +kernel
theorem dX5_init_20 : decode cX5_init 20 = .ok (.if_icmp .ge 22, 3) := by decide +kernel
theorem dX5_init_23 : decode cX5_init 23 = .ok (.aload_n 0, 1) := by decide +kernel
theorem dX5_init_24 : decode cX5_init 24 = .ok (.getfield 11, 3) := by decide +kernel
theorem dX5_init_27 : decode cX5_init 27 = .ok (.iload_n 1, 1) := by decide +kernel
theorem dX5_init_28 : decode cX5_init 28 = .ok (.new 9, 3) := by decide +kernel
theorem dX5_init_31 : decode cX5_init 31 = .ok (.dup, 1) := by decide +kernel
theorem dX5_init_32 : decode cX5_init 32 = .ok (.invokespecial 17, 3) := by decide +kernel
theorem dX5_init_35 : decode cX5_init 35 = .ok (.aastore, 1) := by decide +kernel
theorem dX5_init_36 : decode cX5_init 36 = .ok (.iinc 1 1, 3) := by decide +kernel
theorem dX5_init_39 : decode cX5_init 39 = .ok (.goto (-25), 3) := by decide +kernel
theorem dX5_init_42 : decode cX5_init 42 = .ok (.return_, 1) := by decide +kernel
set_option maxRecDepth 20000 in
theorem ggX5_save_X5_slotAt : GoodIn wsX5_save wsX5_slotAt := goodIn_r _ [11, 12, 31, 32, 33] (by decide +kernel) (by decide +kernel)
set_option maxRecDepth 20000 in
theorem gX5_save_X5_slotAt : GoodIn wsX5_save (wsV RX5 22 RX5 yX5_slotAt wsX5_slotAt) := goodIn_app (goodIn_of _ (by decide +kernel)) ggX5_save_X5_slotAt
set_option maxRecDepth 20000 in
theorem ggX5_save_X3_copyFrom : GoodIn wsX5_save wsX3_copyFrom := goodIn_r _ [17, 18, 19, 20, 21, 22, 23, 24, 25, 26, 27, 28, 29, 30, 34, 35, 36, 37, 38, 39, 40, 41, 42] (by decide +kernel) (by decide +kernel)
set_option maxRecDepth 20000 in
theorem gX5_save_X3_copyFrom : GoodIn wsX5_save (wsV RX5 26 RX3 yX3_copyFrom wsX3_copyFrom) := goodIn_app (goodIn_of _ (by decide +kernel)) ggX5_save_X3_copyFrom
theorem dX5_save_0 : decode cX5_save 0 = .ok (.aload_n 0, 1) := by decide +kernel
theorem dX5_save_1 : decode cX5_save 1 = .ok (.aload_n 0, 1) := by decide +kernel
theorem dX5_save_2 : decode cX5_save 2 = .ok (.getfield 18, 3) := by decide +kernel
theorem dX5_save_5 : decode cX5_save 5 = .ok (.invokevirtual 22, 3) := by decide +kernel
theorem dX5_save_8 : decode cX5_save 8 = .ok (.astore_n 2, 1) := by decide +kernel
theorem dX5_save_9 : decode cX5_save 9 = .ok (.aload_n 2, 1) := by decide +kernel
theorem dX5_save_10 : decode cX5_save 10 = .ok (.ifnull 34, 3) := by decide +kernel
theorem dX5_save_13 : decode cX5_save 13 = .ok (.aload_n 2, 1) := by decide +kernel
theorem dX5_save_14 : decode cX5_save 14 = .ok (.aload_n 1, 1) := by decide +kernel
theorem dX5_save_15 : decode cX5_save 15 = .ok (.invokevirtual 26, 3) := by decide +kernel
theorem dX5_save_18 : decode cX5_save 18 = .ok (.aload_n 0, 1) := by decide +kernel
theorem dX5_save_19 : decode cX5_save 19 = .ok (.aload_n 0, 1) := by decide +kernel
theorem dX5_save_20 : decode cX5_save 20 = .ok (.getfield 18, 3) := by decide +kernel
theorem dX5_save_23 : decode cX5_save 23 = .ok (.iconst 1, 1) := by decide +kernel
theorem dX5_save_24 : decode cX5_save 24 = .ok (.iadd, 1) := by decide +kernel
theorem dX5_save_25 : decode cX5_save 25 = .ok (.iconst 4, 1) := by decide +kernel
theorem dX5_save_26 : decode cX5_save 26 = .ok (.irem, 1) := by decide +kernel
theorem dX5_save_27 : decode cX5_save 27 = .ok (.putfield 18, 3) := by decide +kernel
theorem dX5_save_30 : decode cX5_save 30 = .ok (.aload_n 0, 1) := by decide +kernel
theorem dX5_save_31 : decode cX5_save 31 = .ok (.aload_n 0, 1) := by decide +kernel
theorem dX5_save_32 : decode cX5_save 32 = .ok (.getfield 30, 3) := by decide +kernel
theorem dX5_save_35 : decode cX5_save 35 = .ok (.iconst 1, 1) := by decide +kernel
theorem dX5_save_36 : decode cX5_save 36 = .ok (.iadd, 1) := by decide +kernel
theorem dX5_save_37 : decode cX5_save 37 = .ok (.iconst 4, 1) := by decide +kernel
theorem dX5_save_38 : decode cX5_save 38 = .ok (.invokestatic 33, 3) := by decide +kernel
theorem dX5_save_41 : decode cX5_save 41 = .ok (.putfield 30, 3) := by decide +kernel
theorem dX5_save_44 : decode cX5_save 44 = .ok (.return_, 1) := by decide +kernel
set_option maxRecDepth 20000 in
theorem ggX5_restoreInto_X5_slotAt : GoodIn wsX5_restoreInto wsX5_slotAt := goodIn_r _ [7, 8, 27, 28, 29] (by decide +kernel) (by decide +kernel)
set_option maxRecDepth 20000 in
theorem gX5_restoreInto_X5_slotAt : GoodIn wsX5_restoreInto (wsV RX5 22 RX5 yX5_slotAt wsX5_slotAt) := goodIn_app (goodIn_of _ (by decide +kernel)) ggX5_restoreInto_X5_slotAt
set_option maxRecDepth 20000 in
theorem ggX5_restoreInto_X3_copyFrom : GoodIn wsX5_restoreInto wsX3_copyFrom := goodIn_r _ [13, 14, 15, 16, 17, 18, 19, 20, 21, 22, 23, 24, 25, 26, 30, 31, 32, 33, 34, 35, 36, 37, 38] (by decide +kernel) (by decide +kernel)
set_option maxRecDepth 20000 in
theorem gX5_restoreInto_X3_copyFrom : GoodIn wsX5_restoreInto (wsV RX5 26 RX3 yX3_copyFrom wsX3_copyFrom) := goodIn_app (goodIn_of _ (by decide +kernel)) ggX5_restoreInto_X3_copyFrom
theorem dX5_restoreInto_0 : decode cX5_restoreInto 0 = .ok (.aload_n 0, 1) := by decide +kernel
theorem dX5_restoreInto_1 : decode cX5_restoreInto 1 = .ok (.getfield 18, 3) := by decide +kernel
theorem dX5_restoreInto_4 : decode cX5_restoreInto 4 = .ok (.iconst 4, 1) := by decide +kernel
theorem dX5_restoreInto_5 : decode cX5_restoreInto 5 = .ok (.iadd, 1) := by decide +kernel
theorem dX5_restoreInto_6 : decode cX5_restoreInto 6 = .ok (.iconst 1, 1) := by decide +kernel
theorem dX5_restoreInto_7 : decode cX5_restoreInto 7 = .ok (.isub, 1) := by decide +kernel
theorem dX5_restoreInto_8 : decode cX5_restoreInto 8 = .ok (.iconst 4, 1) := by decide +kernel
theorem dX5_restoreInto_9 : decode cX5_restoreInto 9 = .ok (.irem, 1) := by decide +kernel
theorem dX5_restoreInto_10 : decode cX5_restoreInto 10 = .ok (.istore_n 2, 1) := by decide +kernel
theorem dX5_restoreInto_11 : decode cX5_restoreInto 11 = .ok (.aload_n 0, 1) := by decide +kernel
theorem dX5_restoreInto_12 : decode cX5_restoreInto 12 = .ok (.iload_n 2, 1) := by decide +kernel
theorem dX5_restoreInto_13 : decode cX5_restoreInto 13 = .ok (.invokevirtual 22, 3) := by decide +kernel
theorem dX5_restoreInto_16 : decode cX5_restoreInto 16 = .ok (.astore_n 3, 1) := by decide +kernel
theorem dX5_restoreInto_17 : decode cX5_restoreInto 17 = .ok (.aload_n 3, 1) := by decide +kernel
theorem dX5_restoreInto_18 : decode cX5_restoreInto 18 = .ok (.ifnull 30, 3) := by decide +kernel
theorem dX5_restoreInto_21 : decode cX5_restoreInto 21 = .ok (.aload_n 0, 1) := by decide +kernel
theorem dX5_restoreInto_22 : decode cX5_restoreInto 22 = .ok (.getfield 30, 3) := by decide +kernel
theorem dX5_restoreInto_25 : decode cX5_restoreInto 25 = .ok (.ifCond .le 23, 3) := by decide +kernel
theorem dX5_restoreInto_28 : decode cX5_restoreInto 28 = .ok (.aload_n 1, 1) := by decide +kernel
theorem dX5_restoreInto_29 : decode cX5_restoreInto 29 = .ok (.aload_n 3, 1) := by decide +kernel
theorem dX5_restoreInto_30 : decode cX5_restoreInto 30 = .ok (.invokevirtual 26, 3) := by decide +kernel
theorem dX5_restoreInto_33 : decode cX5_restoreInto 33 = .ok (.aload_n 0, 1) := by decide +kernel
theorem dX5_restoreInto_34 : decode cX5_restoreInto 34 = .ok (.iload_n 2, 1) := by decide +kernel
theorem dX5_restoreInto_35 : decode cX5_restoreInto 35 = .ok (.putfield 18, 3) := by decide +kernel
theorem dX5_restoreInto_38 : decode cX5_restoreInto 38 = .ok (.aload_n 0, 1) := by decide +kernel
theorem dX5_restoreInto_39 : decode cX5_restoreInto 39 = .ok (.dup, 1) := by decide +kernel
theorem dX5_restoreInto_40 : decode cX5_restoreInto 40 = .ok (.getfield 30, 3) := by decide +kernel
theorem dX5_restoreInto_43 : decode cX5_restoreInto 43 = .ok (.iconst 1, 1) := by decide +kernel
theorem dX5_restoreInto_44 : decode cX5_restoreInto 44 = .ok (.isub, 1) := by decide +kernel
theorem dX5_restoreInto_45 : decode cX5_restoreInto 45 = .ok (.putfield 30, 3) := by decide +kernel
theorem dX5_restoreInto_48 : decode cX5_restoreInto 48 = .ok (.return_, 1) := by decide +kernel
theorem dX5_slotAt_0 : decode cX5_slotAt 0 = .ok (.iload_n 1, 1) := by decide +kernel
theorem dX5_slotAt_1 : decode cX5_slotAt 1 = .ok (.ifCond .lt 21, 3) := by decide +kernel
theorem dX5_slotAt_4 : decode cX5_slotAt 4 = .ok (.iload_n 1, 1) := by decide +kernel
theorem dX5_slotAt_5 : decode cX5_slotAt 5 = .ok (.aload_n 0, 1) := by decide +kernel
theorem dX5_slotAt_6 : decode cX5_slotAt 6 = .ok (.getfield 11, 3) := by decide +kernel
theorem dX5_slotAt_9 : decode cX5_slotAt 9 = .ok (.arraylength, 1) := by decide +kernel
theorem dX5_slotAt_10 : decode cX5_slotAt 10 = .ok (.if_icmp .ge 12, 3) := by decide +kernel
theorem dX5_slotAt_13 : decode cX5_slotAt 13 = .ok (.aload_n 0, 1) := by decide +kernel
theorem dX5_slotAt_14 : decode cX5_slotAt 14 = .ok (.getfield 11, 3) := by decide +kernel
theorem dX5_slotAt_17 : decode cX5_slotAt 17 = .ok (.iload_n 1, 1) := by decide +kernel
theorem dX5_slotAt_18 : decode cX5_slotAt 18 = .ok (.aaload, 1) := by decide +kernel
theorem dX5_slotAt_19 : decode cX5_slotAt 19 = .ok (.goto 4, 3) := by decide +kernel
theorem dX5_slotAt_22 : decode cX5_slotAt 22 = .ok (.aconst_null, 1) := by decide +kernel
theorem dX5_slotAt_23 : decode cX5_slotAt 23 = .ok (.areturn, 1) := by decide +kernel
set_option maxRecDepth 20000 in
theorem ggX6_init_X3_init : GoodIn wsX6_init wsX3_init := goodIn_r _ [29, 30, 2, 3, 31, 32, 33, 34, 35, 36, 126, 127, 128, 129, 130, 131, 132, 133, 134] (by decide +kernel) (by decide +kernel)
set_option maxRecDepth 20000 in
theorem gX6_init_X3_init_n9 : GoodIn wsX6_init (wsX3_init) := ggX6_init_X3_init
set_option maxRecDepth 20000 in
theorem ggX6_init_X5_init : GoodIn wsX6_init wsX5_init := goodIn_r _ [39, 40, 2, 3, 41, 42, 5, 6, 28, 29, 30, 31, 32, 33, 34, 35, 36, 141, 142, 143, 126, 127, 128, 129, 130, 131, 132, 133, 134] (by decide +kernel) (by decide +kernel)
set_option maxRecDepth 20000 in
theorem gX6_init_X5_init : GoodIn wsX6_init (wsX5_init) := ggX6_init_X5_init
set_option maxRecDepth 20000 in
theorem ggX6_init_X2_init : GoodIn wsX6_init wsX2_init := goodIn_r _ [44, 45, 2, 3, 31, 46, 47, 48, 49, 144, 145, 146, 147, 148] (by decide +kernel) (by decide +kernel)
set_option maxRecDepth 20000 in
theorem gX6_init_X2_init_n25 : GoodIn wsX6_init (wsX2_init) := ggX6_init_X2_init
set_option maxRecDepth 20000 in
theorem ggX6_init_X0_init : GoodIn wsX6_init wsX0_init := goodIn_r _ [51, 52, 2, 3, 31, 53, 54, 55, 149, 150, 151, 152] (by decide +kernel) (by decide +kernel)
set_option maxRecDepth 20000 in
theorem gX6_init_X0_init_n32 : GoodIn wsX6_init (wsX0_init) := ggX6_init_X0_init
set_option maxRecDepth 20000 in
theorem ggX6_init_X1_init : GoodIn wsX6_init wsX1_init := goodIn_r _ [57, 58, 2, 3, 31, 59, 60, 61, 153, 154, 155, 156, 157, 158, 159, 160] (by decide +kernel) (by decide +kernel)
set_option maxRecDepth 20000 in
theorem gX6_init_X1_init_n39 : GoodIn wsX6_init (wsX1_init) := ggX6_init_X1_init
set_option maxRecDepth 20000 in
theorem ggX6_init_X4_init : GoodIn wsX6_init wsX4_init := goodIn_r _ [63, 64, 2, 3, 31, 65, 161] (by decide +kernel) (by decide +kernel)
set_option maxRecDepth 20000 in
theorem gX6_init_X4_init_n46 : GoodIn wsX6_init (wsX4_init) := ggX6_init_X4_init
set_option maxRecDepth 20000 in
theorem ggX6_init_X3_restart : GoodIn wsX6_init wsX3_restart := goodIn_r _ [69, 70, 71, 72, 73, 74, 126, 127, 128, 129, 130, 131, 132, 133, 134] (by decide +kernel) (by decide +kernel)
set_option maxRecDepth 20000 in
theorem gX6_init_X3_restart : GoodIn wsX6_init (wsV RX6 51 RX3 yX3_restart wsX3_restart) := goodIn_app (goodIn_of _ (by decide +kernel)) ggX6_init_X3_restart
set_option maxRecDepth 20000 in
theorem ggX6_init_X6_refreshSafety : GoodIn wsX6_init wsX6_refreshSafety := goodIn_r _ [79, 15, 7, 80, 81, 82, 14, 83, 84, 85, 86, 87, 88, 89, 46, 90, 78, 91, 92, 93, 94, 95, 96, 97, 47, 98, 99, 100, 101, 102, 103, 104, 105, 106, 107, 108, 109, 110, 111, 112, 113, 114, 115, 116, 117, 49, 118, 119, 120, 121, 122, 123, 124, 125, 135, 136, 137, 138, 139, 140, 126, 127, 128, 129, 130, 131, 132, 133, 134, 144, 145, 146, 147, 148] (by decide +kernel) (by decide +kernel)
set_option maxRecDepth 20000 in
theorem gX6_init_X6_refreshSafety : GoodIn wsX6_init (wsV RX6 55 RX6 yX6_refreshSafety wsX6_refreshSafety) := goodIn_app (goodIn_of _ (by decide +kernel)) ggX6_init_X6_refreshSafety
theorem dX6_init_0 : decode cX6_init 0 = .ok (.aload_n 0, 1) := by decide +kernel
theorem dX6_init_1 : decode cX6_init 1 = .ok (.invokespecial 1, 3) := by decide +kernel
theorem dX6_init_4 : decode cX6_init 4 = .ok (.aload_n 0, 1) := by decide +kernel
theorem dX6_init_5 : decode cX6_init 5 = .ok (.new 7, 3) := by decide +kernel
theorem dX6_init_8 : decode cX6_init 8 = .ok (.dup, 1) := by decide +kernel
theorem dX6_init_9 : decode cX6_init 9 = .ok (.invokespecial 9, 3) := by decide +kernel
theorem dX6_init_12 : decode cX6_init 12 = .ok (.putfield 10, 3) := by decide +kernel
theorem dX6_init_15 : decode cX6_init 15 = .ok (.aload_n 0, 1) := by decide +kernel
theorem dX6_init_16 : decode cX6_init 16 = .ok (.new 16, 3) := by decide +kernel
theorem dX6_init_19 : decode cX6_init 19 = .ok (.dup, 1) := by decide +kernel
theorem dX6_init_20 : decode cX6_init 20 = .ok (.invokespecial 18, 3) := by decide +kernel
theorem dX6_init_23 : decode cX6_init 23 = .ok (.putfield 19, 3) := by decide +kernel
theorem dX6_init_26 : decode cX6_init 26 = .ok (.aload_n 0, 1) := by decide +kernel
theorem dX6_init_27 : decode cX6_init 27 = .ok (.new 23, 3) := by decide +kernel
theorem dX6_init_30 : decode cX6_init 30 = .ok (.dup, 1) := by decide +kernel
theorem dX6_init_31 : decode cX6_init 31 = .ok (.invokespecial 25, 3) := by decide +kernel
theorem dX6_init_34 : decode cX6_init 34 = .ok (.putfield 26, 3) := by decide +kernel
theorem dX6_init_37 : decode cX6_init 37 = .ok (.aload_n 0, 1) := by decide +kernel
theorem dX6_init_38 : decode cX6_init 38 = .ok (.new 30, 3) := by decide +kernel
theorem dX6_init_41 : decode cX6_init 41 = .ok (.dup, 1) := by decide +kernel
theorem dX6_init_42 : decode cX6_init 42 = .ok (.invokespecial 32, 3) := by decide +kernel
theorem dX6_init_45 : decode cX6_init 45 = .ok (.putfield 33, 3) := by decide +kernel
theorem dX6_init_48 : decode cX6_init 48 = .ok (.aload_n 0, 1) := by decide +kernel
theorem dX6_init_49 : decode cX6_init 49 = .ok (.new 37, 3) := by decide +kernel
theorem dX6_init_52 : decode cX6_init 52 = .ok (.dup, 1) := by decide +kernel
theorem dX6_init_53 : decode cX6_init 53 = .ok (.invokespecial 39, 3) := by decide +kernel
theorem dX6_init_56 : decode cX6_init 56 = .ok (.putfield 40, 3) := by decide +kernel
theorem dX6_init_59 : decode cX6_init 59 = .ok (.aload_n 0, 1) := by decide +kernel
theorem dX6_init_60 : decode cX6_init 60 = .ok (.new 44, 3) := by decide +kernel
theorem dX6_init_63 : decode cX6_init 63 = .ok (.dup, 1) := by decide +kernel
theorem dX6_init_64 : decode cX6_init 64 = .ok (.invokespecial 46, 3) := by decide +kernel
theorem dX6_init_67 : decode cX6_init 67 = .ok (.putfield 47, 3) := by decide +kernel
theorem dX6_init_70 : decode cX6_init 70 = .ok (.aload_n 0, 1) := by decide +kernel
theorem dX6_init_71 : decode cX6_init 71 = .ok (.getfield 10, 3) := by decide +kernel
theorem dX6_init_74 : decode cX6_init 74 = .ok (.iconst 4, 1) := by decide +kernel
theorem dX6_init_75 : decode cX6_init 75 = .ok (.invokevirtual 51, 3) := by decide +kernel
theorem dX6_init_78 : decode cX6_init 78 = .ok (.aload_n 0, 1) := by decide +kernel
theorem dX6_init_79 : decode cX6_init 79 = .ok (.invokevirtual 55, 3) := by decide +kernel
theorem dX6_init_82 : decode cX6_init 82 = .ok (.return_, 1) := by decide +kernel
set_option maxRecDepth 20000 in
theorem ggX6_setDimension_X5_save : GoodIn wsX6_setDimension wsX5_save := goodIn_r _ [9, 10, 11, 12, 13, 14, 15, 16, 17, 18, 8, 19, 20, 21, 22, 23, 24, 25, 26, 27, 28, 29, 30, 31, 32, 33, 34, 35, 36, 37, 38, 112, 113, 114, 103, 104, 105, 106, 107, 108, 109, 110, 111] (by decide +kernel) (by decide +kernel)
set_option maxRecDepth 20000 in
theorem gX6_setDimension_X5_save : GoodIn wsX6_setDimension (wsV RX6 69 RX5 yX5_save wsX5_save) := goodIn_app (goodIn_of _ (by decide +kernel)) ggX6_setDimension_X5_save
set_option maxRecDepth 20000 in
theorem ggX6_setDimension_X3_restart : GoodIn wsX6_setDimension wsX3_restart := goodIn_r _ [42, 26, 43, 27, 28, 29, 103, 104, 105, 106, 107, 108, 109, 110, 111] (by decide +kernel) (by decide +kernel)
set_option maxRecDepth 20000 in
theorem gX6_setDimension_X3_restart : GoodIn wsX6_setDimension (wsV RX6 51 RX3 yX3_restart wsX3_restart) := goodIn_app (goodIn_of _ (by decide +kernel)) ggX6_setDimension_X3_restart
set_option maxRecDepth 20000 in
theorem ggX6_setDimension_X6_refreshSafety : GoodIn wsX6_setDimension wsX6_refreshSafety := goodIn_r _ [48, 49, 3, 50, 51, 52, 53, 54, 55, 56, 57, 58, 59, 60, 61, 62, 47, 63, 64, 65, 66, 67, 68, 69, 70, 71, 32, 33, 34, 72, 73, 74, 75, 76, 77, 78, 79, 80, 81, 82, 83, 84, 85, 86, 87, 88, 89, 90, 91, 92, 93, 94, 95, 96, 97, 98, 99, 100, 101, 102, 103, 104, 105, 106, 107, 108, 109, 110, 111, 115, 116, 117, 118, 119] (by decide +kernel) (by decide +kernel)
set_option maxRecDepth 20000 in
theorem gX6_setDimension_X6_refreshSafety : GoodIn wsX6_setDimension (wsV RX6 55 RX6 yX6_refreshSafety wsX6_refreshSafety) := goodIn_app (goodIn_of _ (by decide +kernel)) ggX6_setDimension_X6_refreshSafety
theorem dX6_setDimension_0 : decode cX6_setDimension 0 = .ok (.iload_n 1, 1) := by decide +kernel
theorem dX6_setDimension_1 : decode cX6_setDimension 1 = .ok (.iconst 1, 1) := by decide +kernel
theorem dX6_setDimension_2 : decode cX6_setDimension 2 = .ok (.if_icmp .lt 9, 3) := by decide +kernel
theorem dX6_setDimension_5 : decode cX6_setDimension 5 = .ok (.iload_n 1, 1) := by decide +kernel
theorem dX6_setDimension_6 : decode cX6_setDimension 6 = .ok (.bipush 6, 2) := by decide +kernel
theorem dX6_setDimension_8 : decode cX6_setDimension 8 = .ok (.if_icmp .le 13, 3) := by decide +kernel
theorem dX6_setDimension_11 : decode cX6_setDimension 11 = .ok (.new 58, 3) := by decide +kernel
theorem dX6_setDimension_14 : decode cX6_setDimension 14 = .ok (.dup, 1) := by decide +kernel
theorem dX6_setDimension_15 : decode cX6_setDimension 15 = .ok (.ldc 60, 2) := by decide +kernel
theorem dX6_setDimension_17 : decode cX6_setDimension 17 = .ok (.invokespecial 62, 3) := by decide +kernel
theorem dX6_setDimension_20 : decode cX6_setDimension 20 = .ok (.athrow, 1) := by decide +kernel
theorem dX6_setDimension_21 : decode cX6_setDimension 21 = .ok (.aload_n 0, 1) := by decide +kernel
theorem dX6_setDimension_22 : decode cX6_setDimension 22 = .ok (.getfield 10, 3) := by decide +kernel
theorem dX6_setDimension_25 : decode cX6_setDimension 25 = .ok (.getfield 65, 3) := by decide +kernel
theorem dX6_setDimension_28 : decode cX6_setDimension 28 = .ok (.istore_n 2, 1) := by decide +kernel
theorem dX6_setDimension_29 : decode cX6_setDimension 29 = .ok (.aload_n 0, 1) := by decide +kernel
theorem dX6_setDimension_30 : decode cX6_setDimension 30 = .ok (.getfield 19, 3) := by decide +kernel
theorem dX6_setDimension_33 : decode cX6_setDimension 33 = .ok (.aload_n 0, 1) := by decide +kernel
theorem dX6_setDimension_34 : decode cX6_setDimension 34 = .ok (.getfield 10, 3) := by decide +kernel
theorem dX6_setDimension_37 : decode cX6_setDimension 37 = .ok (.invokevirtual 69, 3) := by decide +kernel
theorem dX6_setDimension_40 : decode cX6_setDimension 40 = .ok (.aload_n 0, 1) := by decide +kernel
theorem dX6_setDimension_41 : decode cX6_setDimension 41 = .ok (.getfield 10, 3) := by decide +kernel
theorem dX6_setDimension_44 : decode cX6_setDimension 44 = .ok (.iload_n 1, 1) := by decide +kernel
theorem dX6_setDimension_45 : decode cX6_setDimension 45 = .ok (.invokevirtual 51, 3) := by decide +kernel
theorem dX6_setDimension_48 : decode cX6_setDimension 48 = .ok (.aload_n 0, 1) := by decide +kernel
theorem dX6_setDimension_49 : decode cX6_setDimension 49 = .ok (.invokevirtual 55, 3) := by decide +kernel
theorem dX6_setDimension_52 : decode cX6_setDimension 52 = .ok (.iload_n 2, 1) := by decide +kernel
theorem dX6_setDimension_53 : decode cX6_setDimension 53 = .ok (.ireturn, 1) := by decide +kernel
set_option maxRecDepth 20000 in
theorem ggX6_kill_X6_requireNode : GoodIn wsX6_kill wsX6_requireNode := goodIn_ca (goodIn_r _ [7, 8, 9, 10, 11, 12, 6, 13, 2, 112, 113, 114, 115, 116, 117, 118, 119, 120, 121, 122, 123, 124, 125, 126] (by decide +kernel) (by decide +kernel)) (goodIn_sub (fun _ h => List.mem_cons_of_mem _ (List.mem_append_left _ (List.mem_append_right _ h))) (by decide +kernel))
set_option maxRecDepth 20000 in
theorem gX6_kill_X6_requireNode : GoodIn wsX6_kill (wsV RX6 73 RX6 yX6_requireNode wsX6_requireNode) := goodIn_app (goodIn_of _ (by decide +kernel)) ggX6_kill_X6_requireNode
set_option maxRecDepth 20000 in
theorem ggX6_kill_X6_requireAlive : GoodIn wsX6_kill wsX6_requireAlive := goodIn_ca (goodIn_r _ [17, 18, 19, 2, 20, 21, 6, 22, 112, 113, 114, 115, 116, 117, 118, 119, 120, 121, 122, 123, 124, 125, 126] (by decide +kernel) (by decide +kernel)) (goodIn_sub (fun _ h => List.mem_cons_of_mem _ (List.mem_append_right _ h)) (by decide +kernel))
set_option maxRecDepth 20000 in
theorem gX6_kill_X6_requireAlive : GoodIn wsX6_kill (wsV RX6 76 RX6 yX6_requireAlive wsX6_requireAlive) := goodIn_app (goodIn_of _ (by decide +kernel)) ggX6_kill_X6_requireAlive
set_option maxRecDepth 20000 in
theorem ggX6_kill_X5_save : GoodIn wsX6_kill wsX5_save := goodIn_r _ [27, 28, 29, 30, 31, 32, 33, 34, 35, 36, 26, 37, 38, 39, 40, 41, 42, 43, 44, 45, 46, 47, 48, 49, 50, 51, 52, 53, 54, 55, 56, 127, 128, 129, 118, 119, 120, 121, 122, 123, 124, 125, 126] (by decide +kernel) (by decide +kernel)
set_option maxRecDepth 20000 in
theorem gX6_kill_X5_save : GoodIn wsX6_kill (wsV RX6 69 RX5 yX5_save wsX5_save) := goodIn_app (goodIn_of _ (by decide +kernel)) ggX6_kill_X5_save
set_option maxRecDepth 20000 in
theorem ggX6_kill_X3_letDie : GoodIn wsX6_kill wsX3_letDie := goodIn_r _ [60, 45, 61, 47, 53, 54, 48, 62, 6, 63, 21, 22, 64, 65, 118, 119, 120, 121, 122, 123, 124, 125, 126] (by decide +kernel) (by decide +kernel)
set_option maxRecDepth 20000 in
theorem gX6_kill_X3_letDie : GoodIn wsX6_kill (wsV RX6 79 RX3 yX3_letDie wsX3_letDie) := goodIn_app (goodIn_of _ (by decide +kernel)) ggX6_kill_X3_letDie
set_option maxRecDepth 20000 in
theorem ggX6_kill_X6_refreshSafety : GoodIn wsX6_kill wsX6_refreshSafety := goodIn_r _ [69, 70, 2, 71, 72, 73, 74, 75, 76, 77, 78, 79, 80, 81, 82, 21, 6, 22, 64, 65, 83, 84, 85, 86, 87, 88, 50, 51, 52, 89, 90, 91, 92, 93, 94, 95, 96, 97, 98, 62, 63, 99, 100, 101, 102, 103, 104, 105, 106, 107, 108, 109, 110, 111, 112, 113, 114, 115, 116, 117, 118, 119, 120, 121, 122, 123, 124, 125, 126, 130, 131, 132, 133, 134] (by decide +kernel) (by decide +kernel)
set_option maxRecDepth 20000 in
theorem gX6_kill_X6_refreshSafety : GoodIn wsX6_kill (wsV RX6 55 RX6 yX6_refreshSafety wsX6_refreshSafety) := goodIn_app (goodIn_of _ (by decide +kernel)) ggX6_kill_X6_refreshSafety
theorem dX6_kill_0 : decode cX6_kill 0 = .ok (.aload_n 0, 1) := by decide +kernel
theorem dX6_kill_1 : decode cX6_kill 1 = .ok (.iload_n 1, 1) := by decide +kernel
theorem dX6_kill_2 : decode cX6_kill 2 = .ok (.invokevirtual 73, 3) := by decide +kernel
theorem dX6_kill_5 : decode cX6_kill 5 = .ok (.aload_n 0, 1) := by decide +kernel
theorem dX6_kill_6 : decode cX6_kill 6 = .ok (.iload_n 1, 1) := by decide +kernel
theorem dX6_kill_7 : decode cX6_kill 7 = .ok (.invokevirtual 76, 3) := by decide +kernel
theorem dX6_kill_10 : decode cX6_kill 10 = .ok (.aload_n 0, 1) := by decide +kernel
theorem dX6_kill_11 : decode cX6_kill 11 = .ok (.getfield 19, 3) := by decide +kernel
theorem dX6_kill_14 : decode cX6_kill 14 = .ok (.aload_n 0, 1) := by decide +kernel
theorem dX6_kill_15 : decode cX6_kill 15 = .ok (.getfield 10, 3) := by decide +kernel
theorem dX6_kill_18 : decode cX6_kill 18 = .ok (.invokevirtual 69, 3) := by decide +kernel
theorem dX6_kill_21 : decode cX6_kill 21 = .ok (.aload_n 0, 1) := by decide +kernel
theorem dX6_kill_22 : decode cX6_kill 22 = .ok (.getfield 10, 3) := by decide +kernel
theorem dX6_kill_25 : decode cX6_kill 25 = .ok (.lconst 1, 1) := by decide +kernel
theorem dX6_kill_26 : decode cX6_kill 26 = .ok (.iload_n 1, 1) := by decide +kernel
theorem dX6_kill_27 : decode cX6_kill 27 = .ok (.lshl, 1) := by decide +kernel
theorem dX6_kill_28 : decode cX6_kill 28 = .ok (.invokevirtual 79, 3) := by decide +kernel
theorem dX6_kill_31 : decode cX6_kill 31 = .ok (.istore_n 2, 1) := by decide +kernel
theorem dX6_kill_32 : decode cX6_kill 32 = .ok (.aload_n 0, 1) := by decide +kernel
theorem dX6_kill_33 : decode cX6_kill 33 = .ok (.invokevirtual 55, 3) := by decide +kernel
theorem dX6_kill_36 : decode cX6_kill 36 = .ok (.iload_n 2, 1) := by decide +kernel
theorem dX6_kill_37 : decode cX6_kill 37 = .ok (.ireturn, 1) := by decide +kernel
set_option maxRecDepth 20000 in
theorem ggX6_revive_X6_requireNode : GoodIn wsX6_revive wsX6_requireNode := goodIn_ca (goodIn_r _ [9, 10, 11, 12, 13, 14, 8, 15, 3, 110, 111, 112, 113, 114, 115, 116, 117, 118, 119, 120, 121, 122, 123, 124] (by decide +kernel) (by decide +kernel)) (goodIn_sub (fun _ h => List.mem_cons_of_mem _ (List.mem_append_right _ h)) (by decide +kernel))
set_option maxRecDepth 20000 in
theorem gX6_revive_X6_requireNode : GoodIn wsX6_revive (wsV RX6 73 RX6 yX6_requireNode wsX6_requireNode) := goodIn_app (goodIn_of _ (by decide +kernel)) ggX6_revive_X6_requireNode
set_option maxRecDepth 20000 in
theorem ggX6_revive_X6_contains : GoodIn wsX6_revive wsX6_contains := goodIn_r _ [18] (by decide +kernel) (by decide +kernel)
set_option maxRecDepth 20000 in
theorem gX6_revive_X6_contains : GoodIn wsX6_revive (va_wsS RX6 87 yX6_contains wsX6_contains) := goodIn_app (goodIn_of _ (by decide +kernel)) ggX6_revive_X6_contains
set_option maxRecDepth 20000 in
theorem ggX6_revive_X5_save : GoodIn wsX6_revive wsX5_save := goodIn_r _ [23, 24, 25, 26, 27, 28, 29, 30, 31, 32, 22, 33, 34, 35, 36, 37, 38, 39, 40, 41, 42, 43, 44, 45, 46, 47, 48, 49, 50, 51, 52, 125, 126, 127, 116, 117, 118, 119, 120, 121, 122, 123, 124] (by decide +kernel) (by decide +kernel)
set_option maxRecDepth 20000 in
theorem gX6_revive_X5_save : GoodIn wsX6_revive (wsV RX6 69 RX5 yX5_save wsX5_save) := goodIn_app (goodIn_of _ (by decide +kernel)) ggX6_revive_X5_save
set_option maxRecDepth 20000 in
theorem ggX6_revive_X6_refreshSafety : GoodIn wsX6_revive wsX6_refreshSafety := goodIn_r _ [56, 57, 3, 58, 59, 60, 61, 62, 63, 64, 65, 66, 67, 68, 69, 17, 8, 18, 70, 71, 72, 73, 74, 75, 76, 77, 46, 47, 48, 78, 79, 80, 81, 82, 83, 84, 85, 86, 87, 88, 89, 90, 91, 92, 93, 94, 95, 96, 97, 98, 99, 100, 101, 102, 110, 111, 112, 113, 114, 115, 116, 117, 118, 119, 120, 121, 122, 123, 124, 128, 129, 130, 131, 132] (by decide +kernel) (by decide +kernel)
set_option maxRecDepth 20000 in
theorem gX6_revive_X6_refreshSafety : GoodIn wsX6_revive (wsV RX6 55 RX6 yX6_refreshSafety wsX6_refreshSafety) := goodIn_app (goodIn_of _ (by decide +kernel)) ggX6_revive_X6_refreshSafety
set_option maxRecDepth 20000 in
theorem ggX6_revive_X6_nodeCount : GoodIn wsX6_revive wsX6_nodeCount := goodIn_r _ [15, 3, 110, 111, 112, 113, 114, 115, 116, 117, 118, 119, 120, 121, 122, 123, 124] (by decide +kernel) (by decide +kernel)
set_option maxRecDepth 20000 in
theorem gX6_revive_X6_nodeCount : GoodIn wsX6_revive (wsV RX6 96 RX6 yX6_nodeCount wsX6_nodeCount) := goodIn_app (goodIn_of _ (by decide +kernel)) ggX6_revive_X6_nodeCount
set_option maxRecDepth 20000 in
theorem ggX6_revive_J13_bitCount_95d88 : GoodIn wsX6_revive wsJ13_bitCount_95d88 := goodIn_r _ [106, 107, 108, 109] (by decide +kernel) (by decide +kernel)
set_option maxRecDepth 20000 in
theorem gX6_revive_J13_bitCount_95d88 : GoodIn wsX6_revive (va_wsS RX6 100 yJ13_bitCount_95d88 wsJ13_bitCount_95d88) := goodIn_app (goodIn_of _ (by decide +kernel)) ggX6_revive_J13_bitCount_95d88
theorem dX6_revive_0 : decode cX6_revive 0 = .ok (.aload_n 0, 1) := by decide +kernel
theorem dX6_revive_1 : decode cX6_revive 1 = .ok (.iload_n 1, 1) := by decide +kernel
theorem dX6_revive_2 : decode cX6_revive 2 = .ok (.invokevirtual 73, 3) := by decide +kernel
theorem dX6_revive_5 : decode cX6_revive 5 = .ok (.aload_n 0, 1) := by decide +kernel
theorem dX6_revive_6 : decode cX6_revive 6 = .ok (.getfield 10, 3) := by decide +kernel
theorem dX6_revive_9 : decode cX6_revive 9 = .ok (.getfield 83, 3) := by decide +kernel
theorem dX6_revive_12 : decode cX6_revive 12 = .ok (.iload_n 1, 1) := by decide +kernel
theorem dX6_revive_13 : decode cX6_revive 13 = .ok (.invokestatic 87, 3) := by decide +kernel
theorem dX6_revive_16 : decode cX6_revive 16 = .ok (.ifCond .eq 13, 3) := by decide +kernel
theorem dX6_revive_19 : decode cX6_revive 19 = .ok (.new 91, 3) := by decide +kernel
theorem dX6_revive_22 : decode cX6_revive 22 = .ok (.dup, 1) := by decide +kernel
theorem dX6_revive_23 : decode cX6_revive 23 = .ok (.ldc 93, 2) := by decide +kernel
theorem dX6_revive_25 : decode cX6_revive 25 = .ok (.invokespecial 95, 3) := by decide +kernel
theorem dX6_revive_28 : decode cX6_revive 28 = .ok (.athrow, 1) := by decide +kernel
theorem dX6_revive_29 : decode cX6_revive 29 = .ok (.aload_n 0, 1) := by decide +kernel
theorem dX6_revive_30 : decode cX6_revive 30 = .ok (.getfield 19, 3) := by decide +kernel
theorem dX6_revive_33 : decode cX6_revive 33 = .ok (.aload_n 0, 1) := by decide +kernel
theorem dX6_revive_34 : decode cX6_revive 34 = .ok (.getfield 10, 3) := by decide +kernel
theorem dX6_revive_37 : decode cX6_revive 37 = .ok (.invokevirtual 69, 3) := by decide +kernel
theorem dX6_revive_40 : decode cX6_revive 40 = .ok (.aload_n 0, 1) := by decide +kernel
theorem dX6_revive_41 : decode cX6_revive 41 = .ok (.getfield 10, 3) := by decide +kernel
theorem dX6_revive_44 : decode cX6_revive 44 = .ok (.dup, 1) := by decide +kernel
theorem dX6_revive_45 : decode cX6_revive 45 = .ok (.getfield 83, 3) := by decide +kernel
theorem dX6_revive_48 : decode cX6_revive 48 = .ok (.lconst 1, 1) := by decide +kernel
theorem dX6_revive_49 : decode cX6_revive 49 = .ok (.iload_n 1, 1) := by decide +kernel
theorem dX6_revive_50 : decode cX6_revive 50 = .ok (.lshl, 1) := by decide +kernel
theorem dX6_revive_51 : decode cX6_revive 51 = .ok (.lor, 1) := by decide +kernel
theorem dX6_revive_52 : decode cX6_revive 52 = .ok (.putfield 83, 3) := by decide +kernel
theorem dX6_revive_55 : decode cX6_revive 55 = .ok (.aload_n 0, 1) := by decide +kernel
theorem dX6_revive_56 : decode cX6_revive 56 = .ok (.invokevirtual 55, 3) := by decide +kernel
theorem dX6_revive_59 : decode cX6_revive 59 = .ok (.aload_n 0, 1) := by decide +kernel
theorem dX6_revive_60 : decode cX6_revive 60 = .ok (.invokevirtual 96, 3) := by decide +kernel
theorem dX6_revive_63 : decode cX6_revive 63 = .ok (.aload_n 0, 1) := by decide +kernel
theorem dX6_revive_64 : decode cX6_revive 64 = .ok (.getfield 10, 3) := by decide +kernel
theorem dX6_revive_67 : decode cX6_revive 67 = .ok (.getfield 83, 3) := by decide +kernel
theorem dX6_revive_70 : decode cX6_revive 70 = .ok (.invokestatic 100, 3) := by decide +kernel
theorem dX6_revive_73 : decode cX6_revive 73 = .ok (.isub, 1) := by decide +kernel
theorem dX6_revive_74 : decode cX6_revive 74 = .ok (.ireturn, 1) := by decide +kernel
set_option maxRecDepth 20000 in
theorem ggX6_isAlive_X6_requireNode : GoodIn wsX6_isAlive wsX6_requireNode := goodIn_ca (goodIn_r _ [6, 7, 8, 9, 10, 11, 5, 12, 1, 16, 17, 18, 19, 20, 21, 22, 23, 24, 25, 26, 27, 28, 29, 30] (by decide +kernel) (by decide +kernel)) (goodIn_sub (fun _ h => List.mem_cons_of_mem _ (List.mem_append_right _ h)) (by decide +kernel))
set_option maxRecDepth 20000 in
theorem gX6_isAlive_X6_requireNode : GoodIn wsX6_isAlive (wsV RX6 73 RX6 yX6_requireNode wsX6_requireNode) := goodIn_app (goodIn_of _ (by decide +kernel)) ggX6_isAlive_X6_requireNode
set_option maxRecDepth 20000 in
theorem ggX6_isAlive_X6_contains : GoodIn wsX6_isAlive wsX6_contains := goodIn_r _ [15] (by decide +kernel) (by decide +kernel)
set_option maxRecDepth 20000 in
theorem gX6_isAlive_X6_contains : GoodIn wsX6_isAlive (va_wsS RX6 87 yX6_contains wsX6_contains) := goodIn_app (goodIn_of _ (by decide +kernel)) ggX6_isAlive_X6_contains
theorem dX6_isAlive_0 : decode cX6_isAlive 0 = .ok (.aload_n 0, 1) := by decide +kernel
theorem dX6_isAlive_1 : decode cX6_isAlive 1 = .ok (.iload_n 1, 1) := by decide +kernel
theorem dX6_isAlive_2 : decode cX6_isAlive 2 = .ok (.invokevirtual 73, 3) := by decide +kernel
theorem dX6_isAlive_5 : decode cX6_isAlive 5 = .ok (.aload_n 0, 1) := by decide +kernel
theorem dX6_isAlive_6 : decode cX6_isAlive 6 = .ok (.getfield 10, 3) := by decide +kernel
theorem dX6_isAlive_9 : decode cX6_isAlive 9 = .ok (.getfield 83, 3) := by decide +kernel
theorem dX6_isAlive_12 : decode cX6_isAlive 12 = .ok (.iload_n 1, 1) := by decide +kernel
theorem dX6_isAlive_13 : decode cX6_isAlive 13 = .ok (.invokestatic 87, 3) := by decide +kernel
theorem dX6_isAlive_16 : decode cX6_isAlive 16 = .ok (.ireturn, 1) := by decide +kernel
set_option maxRecDepth 20000 in
theorem ggX6_distance_X6_requireNode : GoodIn wsX6_distance wsX6_requireNode := goodIn_ca (goodIn_r _ [5, 6, 7, 8, 9, 10, 4, 11, 12, 20, 21, 22, 23, 24, 25, 26, 27, 28, 29, 30, 31, 32, 33, 34] (by decide +kernel) (by decide +kernel)) (goodIn_sub (fun _ h => List.mem_cons_of_mem _ (List.mem_append_right _ h)) (by decide +kernel))
set_option maxRecDepth 20000 in
theorem gX6_distance_X6_requireNode : GoodIn wsX6_distance (wsV RX6 73 RX6 yX6_requireNode wsX6_requireNode) := goodIn_app (goodIn_of _ (by decide +kernel)) ggX6_distance_X6_requireNode
set_option maxRecDepth 20000 in
theorem ggX6_distance_J6_bitCount_0f7a4 : GoodIn wsX6_distance wsJ6_bitCount_0f7a4 := goodIn_r _ [16, 17, 18, 19] (by decide +kernel) (by decide +kernel)
set_option maxRecDepth 20000 in
theorem gX6_distance_J6_bitCount_0f7a4 : GoodIn wsX6_distance (va_wsS RX6 107 yJ6_bitCount_0f7a4 wsJ6_bitCount_0f7a4) := goodIn_app (goodIn_of _ (by decide +kernel)) ggX6_distance_J6_bitCount_0f7a4
theorem dX6_distance_0 : decode cX6_distance 0 = .ok (.aload_n 0, 1) := by decide +kernel
theorem dX6_distance_1 : decode cX6_distance 1 = .ok (.iload_n 1, 1) := by decide +kernel
theorem dX6_distance_2 : decode cX6_distance 2 = .ok (.invokevirtual 73, 3) := by decide +kernel
theorem dX6_distance_5 : decode cX6_distance 5 = .ok (.aload_n 0, 1) := by decide +kernel
theorem dX6_distance_6 : decode cX6_distance 6 = .ok (.iload_n 2, 1) := by decide +kernel
theorem dX6_distance_7 : decode cX6_distance 7 = .ok (.invokevirtual 73, 3) := by decide +kernel
theorem dX6_distance_10 : decode cX6_distance 10 = .ok (.iload_n 1, 1) := by decide +kernel
theorem dX6_distance_11 : decode cX6_distance 11 = .ok (.iload_n 2, 1) := by decide +kernel
theorem dX6_distance_12 : decode cX6_distance 12 = .ok (.ixor, 1) := by decide +kernel
theorem dX6_distance_13 : decode cX6_distance 13 = .ok (.invokestatic 107, 3) := by decide +kernel
theorem dX6_distance_16 : decode cX6_distance 16 = .ok (.ireturn, 1) := by decide +kernel
set_option maxRecDepth 20000 in
theorem ggX6_shortest_X6_requireLivingPair : GoodIn wsX6_shortest wsX6_requireLivingPair := goodIn_ca (goodIn_ca (goodIn_r _ [6, 7, 8, 9, 5, 10, 11, 12, 13, 14, 15, 16, 1, 17, 18, 19, 20, 21, 22, 23, 24, 25, 33, 34, 35, 36, 37, 38, 39, 40, 41, 42, 43, 44, 45, 46, 47] (by decide +kernel) (by decide +kernel)) (goodIn_sub (fun _ h => List.mem_cons_of_mem _ (List.mem_append_left _ (List.mem_append_right _ h))) (by decide +kernel))) (goodIn_sub (fun _ h => List.mem_cons_of_mem _ (List.mem_append_right _ h)) (by decide +kernel))
set_option maxRecDepth 20000 in
theorem gX6_shortest_X6_requireLivingPair : GoodIn wsX6_shortest (wsV RX6 112 RX6 yX6_requireLivingPair wsX6_requireLivingPair) := goodIn_app (goodIn_of _ (by decide +kernel)) ggX6_shortest_X6_requireLivingPair
set_option maxRecDepth 20000 in
theorem ggX6_shortest_X6_contains : GoodIn wsX6_shortest wsX6_contains := goodIn_r _ [25] (by decide +kernel) (by decide +kernel)
set_option maxRecDepth 20000 in
theorem gX6_shortest_X6_contains : GoodIn wsX6_shortest (va_wsS RX6 87 yX6_contains wsX6_contains) := goodIn_app (goodIn_of _ (by decide +kernel)) ggX6_shortest_X6_contains
set_option maxRecDepth 20000 in
theorem ggX6_shortest_X6_neighboursOfSet : GoodIn wsX6_shortest wsX6_neighboursOfSet := goodIn_r _ [28, 29, 30, 5, 31, 32] (by decide +kernel) (by decide +kernel)
set_option maxRecDepth 20000 in
theorem gX6_shortest_X6_neighboursOfSet : GoodIn wsX6_shortest (va_wsS RX6 116 yX6_neighboursOfSet wsX6_neighboursOfSet) := goodIn_app (goodIn_of _ (by decide +kernel)) ggX6_shortest_X6_neighboursOfSet
theorem dX6_shortest_0 : decode cX6_shortest 0 = .ok (.aload_n 0, 1) := by decide +kernel
theorem dX6_shortest_1 : decode cX6_shortest 1 = .ok (.iload_n 1, 1) := by decide +kernel
theorem dX6_shortest_2 : decode cX6_shortest 2 = .ok (.iload_n 2, 1) := by decide +kernel
theorem dX6_shortest_3 : decode cX6_shortest 3 = .ok (.invokevirtual 112, 3) := by decide +kernel
theorem dX6_shortest_6 : decode cX6_shortest 6 = .ok (.lconst 1, 1) := by decide +kernel
theorem dX6_shortest_7 : decode cX6_shortest 7 = .ok (.iload_n 1, 1) := by decide +kernel
theorem dX6_shortest_8 : decode cX6_shortest 8 = .ok (.lshl, 1) := by decide +kernel
theorem dX6_shortest_9 : decode cX6_shortest 9 = .ok (.lstore_n 3, 1) := by decide +kernel
theorem dX6_shortest_10 : decode cX6_shortest 10 = .ok (.iconst 0, 1) := by decide +kernel
theorem dX6_shortest_11 : decode cX6_shortest 11 = .ok (.istore 5, 2) := by decide +kernel
theorem dX6_shortest_13 : decode cX6_shortest 13 = .ok (.iload 5, 2) := by decide +kernel
theorem dX6_shortest_15 : decode cX6_shortest 15 = .ok (.bipush 64, 2) := by decide +kernel
theorem dX6_shortest_17 : decode cX6_shortest 17 = .ok (.if_icmp .ge 42, 3) := by decide +kernel
theorem dX6_shortest_20 : decode cX6_shortest 20 = .ok (.lload_n 3, 1) := by decide +kernel
theorem dX6_shortest_21 : decode cX6_shortest 21 = .ok (.iload_n 2, 1) := by decide +kernel
theorem dX6_shortest_22 : decode cX6_shortest 22 = .ok (.invokestatic 87, 3) := by decide +kernel
theorem dX6_shortest_25 : decode cX6_shortest 25 = .ok (.ifCond .eq 6, 3) := by decide +kernel
theorem dX6_shortest_28 : decode cX6_shortest 28 = .ok (.iload 5, 2) := by decide +kernel
theorem dX6_shortest_30 : decode cX6_shortest 30 = .ok (.ireturn, 1) := by decide +kernel
theorem dX6_shortest_31 : decode cX6_shortest 31 = .ok (.lload_n 3, 1) := by decide +kernel
theorem dX6_shortest_32 : decode cX6_shortest 32 = .ok (.lload_n 3, 1) := by decide +kernel
theorem dX6_shortest_33 : decode cX6_shortest 33 = .ok (.aload_n 0, 1) := by decide +kernel
theorem dX6_shortest_34 : decode cX6_shortest 34 = .ok (.getfield 10, 3) := by decide +kernel
theorem dX6_shortest_37 : decode cX6_shortest 37 = .ok (.getfield 65, 3) := by decide +kernel
theorem dX6_shortest_40 : decode cX6_shortest 40 = .ok (.invokestatic 116, 3) := by decide +kernel
theorem dX6_shortest_43 : decode cX6_shortest 43 = .ok (.aload_n 0, 1) := by decide +kernel
theorem dX6_shortest_44 : decode cX6_shortest 44 = .ok (.getfield 10, 3) := by decide +kernel
theorem dX6_shortest_47 : decode cX6_shortest 47 = .ok (.getfield 83, 3) := by decide +kernel
theorem dX6_shortest_50 : decode cX6_shortest 50 = .ok (.land, 1) := by decide +kernel
theorem dX6_shortest_51 : decode cX6_shortest 51 = .ok (.lor, 1) := by decide +kernel
theorem dX6_shortest_52 : decode cX6_shortest 52 = .ok (.lstore_n 3, 1) := by decide +kernel
theorem dX6_shortest_53 : decode cX6_shortest 53 = .ok (.iinc 5 1, 3) := by decide +kernel
theorem dX6_shortest_56 : decode cX6_shortest 56 = .ok (.goto (-43), 3) := by decide +kernel
theorem dX6_shortest_59 : decode cX6_shortest 59 = .ok (.iconst (-1), 1) := by decide +kernel
theorem dX6_shortest_60 : decode cX6_shortest 60 = .ok (.ireturn, 1) := by decide +kernel
set_option maxRecDepth 20000 in
theorem ggX6_level_X6_requireNode : GoodIn wsX6_level wsX6_requireNode := goodIn_ca (goodIn_r _ [6, 7, 8, 9, 10, 11, 5, 12, 13, 22, 23, 24, 25, 26, 27, 28, 29, 30, 31, 32, 33, 34, 35, 36] (by decide +kernel) (by decide +kernel)) (goodIn_sub (fun _ h => List.mem_cons_of_mem _ (List.mem_append_right _ h)) (by decide +kernel))
set_option maxRecDepth 20000 in
theorem gX6_level_X6_requireNode : GoodIn wsX6_level (wsV RX6 73 RX6 yX6_requireNode wsX6_requireNode) := goodIn_app (goodIn_of _ (by decide +kernel)) ggX6_level_X6_requireNode
set_option maxRecDepth 20000 in
theorem ggX6_level_X2_levelOf : GoodIn wsX6_level wsX2_levelOf := goodIn_r _ [18, 19, 20, 5, 21, 37, 38, 39, 40, 41] (by decide +kernel) (by decide +kernel)
set_option maxRecDepth 20000 in
theorem gX6_level_X2_levelOf : GoodIn wsX6_level (wsV RX6 120 RX2 yX2_levelOf wsX2_levelOf) := goodIn_app (goodIn_of _ (by decide +kernel)) ggX6_level_X2_levelOf
theorem dX6_level_0 : decode cX6_level 0 = .ok (.aload_n 0, 1) := by decide +kernel
theorem dX6_level_1 : decode cX6_level 1 = .ok (.iload_n 1, 1) := by decide +kernel
theorem dX6_level_2 : decode cX6_level 2 = .ok (.invokevirtual 73, 3) := by decide +kernel
theorem dX6_level_5 : decode cX6_level 5 = .ok (.aload_n 0, 1) := by decide +kernel
theorem dX6_level_6 : decode cX6_level 6 = .ok (.getfield 26, 3) := by decide +kernel
theorem dX6_level_9 : decode cX6_level 9 = .ok (.iload_n 1, 1) := by decide +kernel
theorem dX6_level_10 : decode cX6_level 10 = .ok (.invokevirtual 120, 3) := by decide +kernel
theorem dX6_level_13 : decode cX6_level 13 = .ok (.ireturn, 1) := by decide +kernel
theorem dX6_rounds_0 : decode cX6_rounds 0 = .ok (.aload_n 0, 1) := by decide +kernel
theorem dX6_rounds_1 : decode cX6_rounds 1 = .ok (.getfield 26, 3) := by decide +kernel
theorem dX6_rounds_4 : decode cX6_rounds 4 = .ok (.getfield 123, 3) := by decide +kernel
theorem dX6_rounds_7 : decode cX6_rounds 7 = .ok (.ireturn, 1) := by decide +kernel
set_option maxRecDepth 20000 in
theorem ggX6_safeNodes_X6_nodeCount : GoodIn wsX6_safeNodes wsX6_nodeCount := goodIn_r _ [7, 2, 16, 17, 18, 19, 20, 21, 22, 23, 24, 25, 26, 27, 28, 29, 30] (by decide +kernel) (by decide +kernel)
set_option maxRecDepth 20000 in
theorem gX6_safeNodes_X6_nodeCount : GoodIn wsX6_safeNodes (wsV RX6 96 RX6 yX6_nodeCount wsX6_nodeCount) := goodIn_app (goodIn_of _ (by decide +kernel)) ggX6_safeNodes_X6_nodeCount
set_option maxRecDepth 20000 in
theorem ggX6_safeNodes_X2_levelOf : GoodIn wsX6_safeNodes wsX2_levelOf := goodIn_r _ [12, 13, 14, 6, 15, 31, 32, 33, 34, 35] (by decide +kernel) (by decide +kernel)
set_option maxRecDepth 20000 in
theorem gX6_safeNodes_X2_levelOf : GoodIn wsX6_safeNodes (wsV RX6 120 RX2 yX2_levelOf wsX2_levelOf) := goodIn_app (goodIn_of _ (by decide +kernel)) ggX6_safeNodes_X2_levelOf
theorem dX6_safeNodes_0 : decode cX6_safeNodes 0 = .ok (.iconst 0, 1) := by decide +kernel
theorem dX6_safeNodes_1 : decode cX6_safeNodes 1 = .ok (.istore_n 1, 1) := by decide +kernel
theorem dX6_safeNodes_2 : decode cX6_safeNodes 2 = .ok (.iconst 0, 1) := by decide +kernel
theorem dX6_safeNodes_3 : decode cX6_safeNodes 3 = .ok (.istore_n 2, 1) := by decide +kernel
theorem dX6_safeNodes_4 : decode cX6_safeNodes 4 = .ok (.iload_n 2, 1) := by decide +kernel
theorem dX6_safeNodes_5 : decode cX6_safeNodes 5 = .ok (.aload_n 0, 1) := by decide +kernel
theorem dX6_safeNodes_6 : decode cX6_safeNodes 6 = .ok (.invokevirtual 96, 3) := by decide +kernel
theorem dX6_safeNodes_9 : decode cX6_safeNodes 9 = .ok (.if_icmp .ge 30, 3) := by decide +kernel
theorem dX6_safeNodes_12 : decode cX6_safeNodes 12 = .ok (.aload_n 0, 1) := by decide +kernel
theorem dX6_safeNodes_13 : decode cX6_safeNodes 13 = .ok (.getfield 26, 3) := by decide +kernel
theorem dX6_safeNodes_16 : decode cX6_safeNodes 16 = .ok (.iload_n 2, 1) := by decide +kernel
theorem dX6_safeNodes_17 : decode cX6_safeNodes 17 = .ok (.invokevirtual 120, 3) := by decide +kernel
theorem dX6_safeNodes_20 : decode cX6_safeNodes 20 = .ok (.aload_n 0, 1) := by decide +kernel
theorem dX6_safeNodes_21 : decode cX6_safeNodes 21 = .ok (.getfield 10, 3) := by decide +kernel
theorem dX6_safeNodes_24 : decode cX6_safeNodes 24 = .ok (.getfield 65, 3) := by decide +kernel
theorem dX6_safeNodes_27 : decode cX6_safeNodes 27 = .ok (.if_icmp .ne 6, 3) := by decide +kernel
theorem dX6_safeNodes_30 : decode cX6_safeNodes 30 = .ok (.iinc 1 1, 3) := by decide +kernel
theorem dX6_safeNodes_33 : decode cX6_safeNodes 33 = .ok (.iinc 2 1, 3) := by decide +kernel
theorem dX6_safeNodes_36 : decode cX6_safeNodes 36 = .ok (.goto (-32), 3) := by decide +kernel
theorem dX6_safeNodes_39 : decode cX6_safeNodes 39 = .ok (.iload_n 1, 1) := by decide +kernel
theorem dX6_safeNodes_40 : decode cX6_safeNodes 40 = .ok (.ireturn, 1) := by decide +kernel
set_option maxRecDepth 20000 in
theorem ggX6_vectorBit_X6_requireNode : GoodIn wsX6_vectorBit wsX6_requireNode := goodIn_ca (goodIn_r _ [9, 1, 2, 10, 11, 12, 8, 13, 3, 22, 23, 24, 25, 26, 27, 28, 29, 30, 31, 32, 33, 34, 35, 36] (by decide +kernel) (by decide +kernel)) (goodIn_sub (fun _ h => List.mem_cons_of_mem _ (List.mem_append_right _ h)) (by decide +kernel))
set_option maxRecDepth 20000 in
theorem gX6_vectorBit_X6_requireNode : GoodIn wsX6_vectorBit (wsV RX6 73 RX6 yX6_requireNode wsX6_requireNode) := goodIn_app (goodIn_of _ (by decide +kernel)) ggX6_vectorBit_X6_requireNode
set_option maxRecDepth 20000 in
theorem ggX6_vectorBit_X2_bitOf : GoodIn wsX6_vectorBit wsX2_bitOf := goodIn_r _ [18, 19, 20, 8, 21, 37, 38, 39, 40, 41] (by decide +kernel) (by decide +kernel)
set_option maxRecDepth 20000 in
theorem gX6_vectorBit_X2_bitOf : GoodIn wsX6_vectorBit (wsV RX6 128 RX2 yX2_bitOf wsX2_bitOf) := goodIn_app (goodIn_of _ (by decide +kernel)) ggX6_vectorBit_X2_bitOf
theorem dX6_vectorBit_0 : decode cX6_vectorBit 0 = .ok (.aload_n 0, 1) := by decide +kernel
theorem dX6_vectorBit_1 : decode cX6_vectorBit 1 = .ok (.iload_n 1, 1) := by decide +kernel
theorem dX6_vectorBit_2 : decode cX6_vectorBit 2 = .ok (.invokevirtual 73, 3) := by decide +kernel
theorem dX6_vectorBit_5 : decode cX6_vectorBit 5 = .ok (.iload_n 2, 1) := by decide +kernel
theorem dX6_vectorBit_6 : decode cX6_vectorBit 6 = .ok (.iconst 1, 1) := by decide +kernel
theorem dX6_vectorBit_7 : decode cX6_vectorBit 7 = .ok (.if_icmp .lt 14, 3) := by decide +kernel
theorem dX6_vectorBit_10 : decode cX6_vectorBit 10 = .ok (.iload_n 2, 1) := by decide +kernel
theorem dX6_vectorBit_11 : decode cX6_vectorBit 11 = .ok (.aload_n 0, 1) := by decide +kernel
theorem dX6_vectorBit_12 : decode cX6_vectorBit 12 = .ok (.getfield 10, 3) := by decide +kernel
theorem dX6_vectorBit_15 : decode cX6_vectorBit 15 = .ok (.getfield 65, 3) := by decide +kernel
theorem dX6_vectorBit_18 : decode cX6_vectorBit 18 = .ok (.if_icmp .le 13, 3) := by decide +kernel
theorem dX6_vectorBit_21 : decode cX6_vectorBit 21 = .ok (.new 58, 3) := by decide +kernel
theorem dX6_vectorBit_24 : decode cX6_vectorBit 24 = .ok (.dup, 1) := by decide +kernel
theorem dX6_vectorBit_25 : decode cX6_vectorBit 25 = .ok (.ldc 126, 2) := by decide +kernel
theorem dX6_vectorBit_27 : decode cX6_vectorBit 27 = .ok (.invokespecial 62, 3) := by decide +kernel
theorem dX6_vectorBit_30 : decode cX6_vectorBit 30 = .ok (.athrow, 1) := by decide +kernel
theorem dX6_vectorBit_31 : decode cX6_vectorBit 31 = .ok (.aload_n 0, 1) := by decide +kernel
theorem dX6_vectorBit_32 : decode cX6_vectorBit 32 = .ok (.getfield 26, 3) := by decide +kernel
theorem dX6_vectorBit_35 : decode cX6_vectorBit 35 = .ok (.iload_n 1, 1) := by decide +kernel
theorem dX6_vectorBit_36 : decode cX6_vectorBit 36 = .ok (.iload_n 2, 1) := by decide +kernel
theorem dX6_vectorBit_37 : decode cX6_vectorBit 37 = .ok (.invokevirtual 128, 3) := by decide +kernel
theorem dX6_vectorBit_40 : decode cX6_vectorBit 40 = .ok (.ireturn, 1) := by decide +kernel
set_option maxRecDepth 20000 in
theorem ggX6_decide_X6_requireLivingPair : GoodIn wsX6_decide wsX6_requireLivingPair := goodIn_ca (goodIn_ca (goodIn_r _ [5, 6, 7, 8, 4, 9, 10, 11, 12, 13, 14, 15, 16, 17, 18, 19, 20, 21, 22, 23, 24, 25, 64, 65, 66, 67, 68, 69, 70, 71, 72, 73, 74, 75, 76, 77, 78] (by decide +kernel) (by decide +kernel)) (goodIn_sub (fun _ h => List.mem_cons_of_mem _ (List.mem_append_left _ (List.mem_append_right _ h))) (by decide +kernel))) (goodIn_sub (fun _ h => List.mem_cons_of_mem _ (List.mem_append_right _ h)) (by decide +kernel))
set_option maxRecDepth 20000 in
theorem gX6_decide_X6_requireLivingPair : GoodIn wsX6_decide (wsV RX6 112 RX6 yX6_requireLivingPair wsX6_requireLivingPair) := goodIn_app (goodIn_of _ (by decide +kernel)) ggX6_decide_X6_requireLivingPair
set_option maxRecDepth 20000 in
theorem ggX6_decide_X6_decision : GoodIn wsX6_decide wsX6_decision := goodIn_r _ [29, 30, 31, 32, 33, 34, 35, 36, 37, 38, 39, 40, 41, 42, 43, 44, 4, 45, 46, 47, 48, 49, 50, 51, 52, 53, 54, 55, 56, 57, 58, 59, 60, 61, 62, 63, 64, 65, 66, 67, 68, 69, 79, 80, 81, 82, 83] (by decide +kernel) (by decide +kernel)
set_option maxRecDepth 20000 in
theorem gX6_decide_X6_decision : GoodIn wsX6_decide (wsV RX6 132 RX6 yX6_decision wsX6_decision) := goodIn_app (goodIn_of _ (by decide +kernel)) ggX6_decide_X6_decision
theorem dX6_decide_0 : decode cX6_decide 0 = .ok (.aload_n 0, 1) := by decide +kernel
theorem dX6_decide_1 : decode cX6_decide 1 = .ok (.iload_n 1, 1) := by decide +kernel
theorem dX6_decide_2 : decode cX6_decide 2 = .ok (.iload_n 2, 1) := by decide +kernel
theorem dX6_decide_3 : decode cX6_decide 3 = .ok (.invokevirtual 112, 3) := by decide +kernel
theorem dX6_decide_6 : decode cX6_decide 6 = .ok (.aload_n 0, 1) := by decide +kernel
theorem dX6_decide_7 : decode cX6_decide 7 = .ok (.iload_n 1, 1) := by decide +kernel
theorem dX6_decide_8 : decode cX6_decide 8 = .ok (.iload_n 2, 1) := by decide +kernel
theorem dX6_decide_9 : decode cX6_decide 9 = .ok (.invokevirtual 132, 3) := by decide +kernel
theorem dX6_decide_12 : decode cX6_decide 12 = .ok (.ireturn, 1) := by decide +kernel
set_option maxRecDepth 20000 in
theorem ggX6_routeLength_X6_requireLivingPair : GoodIn wsX6_routeLength wsX6_requireLivingPair := goodIn_ca (goodIn_ca (goodIn_r _ [5, 6, 7, 8, 4, 9, 10, 11, 12, 13, 14, 15, 16, 17, 18, 19, 20, 21, 22, 23, 24, 25, 68, 69, 70, 71, 72, 73, 74, 75, 76, 77, 78, 79, 80, 81, 82] (by decide +kernel) (by decide +kernel)) (goodIn_sub (fun _ h => List.mem_cons_of_mem _ (List.mem_append_left _ (List.mem_append_right _ h))) (by decide +kernel))) (goodIn_sub (fun _ h => List.mem_cons_of_mem _ (List.mem_append_right _ h)) (by decide +kernel))
set_option maxRecDepth 20000 in
theorem gX6_routeLength_X6_requireLivingPair : GoodIn wsX6_routeLength (wsV RX6 112 RX6 yX6_requireLivingPair wsX6_requireLivingPair) := goodIn_app (goodIn_of _ (by decide +kernel)) ggX6_routeLength_X6_requireLivingPair
set_option maxRecDepth 20000 in
theorem ggX6_routeLength_X6_lengthOfRoute : GoodIn wsX6_routeLength wsX6_lengthOfRoute := goodIn_r _ [29, 30, 31, 32, 4, 33, 34, 35, 36, 37, 38, 39, 40, 41, 42, 43, 44, 45, 46, 47, 48, 49, 50, 51, 52, 53, 54, 55, 56, 57, 58, 59, 60, 61, 62, 63, 64, 65, 66, 67, 68, 69, 70, 71, 72, 73, 83, 84, 85, 86, 87] (by decide +kernel) (by decide +kernel)
set_option maxRecDepth 20000 in
theorem gX6_routeLength_X6_lengthOfRoute : GoodIn wsX6_routeLength (wsV RX6 135 RX6 yX6_lengthOfRoute wsX6_lengthOfRoute) := goodIn_app (goodIn_of _ (by decide +kernel)) ggX6_routeLength_X6_lengthOfRoute
theorem dX6_routeLength_0 : decode cX6_routeLength 0 = .ok (.aload_n 0, 1) := by decide +kernel
theorem dX6_routeLength_1 : decode cX6_routeLength 1 = .ok (.iload_n 1, 1) := by decide +kernel
theorem dX6_routeLength_2 : decode cX6_routeLength 2 = .ok (.iload_n 2, 1) := by decide +kernel
theorem dX6_routeLength_3 : decode cX6_routeLength 3 = .ok (.invokevirtual 112, 3) := by decide +kernel
theorem dX6_routeLength_6 : decode cX6_routeLength 6 = .ok (.aload_n 0, 1) := by decide +kernel
theorem dX6_routeLength_7 : decode cX6_routeLength 7 = .ok (.iload_n 1, 1) := by decide +kernel
theorem dX6_routeLength_8 : decode cX6_routeLength 8 = .ok (.iload_n 2, 1) := by decide +kernel
theorem dX6_routeLength_9 : decode cX6_routeLength 9 = .ok (.invokevirtual 135, 3) := by decide +kernel
theorem dX6_routeLength_12 : decode cX6_routeLength 12 = .ok (.ireturn, 1) := by decide +kernel
set_option maxRecDepth 20000 in
theorem ggX6_routeNode_X6_requireNode : GoodIn wsX6_routeNode wsX6_requireNode := goodIn_ca (goodIn_r _ [7, 1, 2, 8, 9, 10, 6, 11, 12, 70, 71, 72, 73, 74, 75, 76, 77, 78, 79, 80, 81, 82, 83, 84] (by decide +kernel) (by decide +kernel)) (goodIn_sub (fun _ h => List.mem_cons_of_mem _ (List.mem_append_left _ (List.mem_append_right _ h))) (by decide +kernel))
set_option maxRecDepth 20000 in
theorem gX6_routeNode_X6_requireNode : GoodIn wsX6_routeNode (wsV RX6 73 RX6 yX6_requireNode wsX6_requireNode) := goodIn_app (goodIn_of _ (by decide +kernel)) ggX6_routeNode_X6_requireNode
set_option maxRecDepth 20000 in
theorem ggX6_routeNode_X6_requireAlive : GoodIn wsX6_routeNode wsX6_requireAlive := goodIn_ca (goodIn_r _ [16, 17, 18, 12, 19, 20, 6, 21, 70, 71, 72, 73, 74, 75, 76, 77, 78, 79, 80, 81, 82, 83, 84] (by decide +kernel) (by decide +kernel)) (goodIn_sub (fun _ h => List.mem_cons_of_mem _ (List.mem_append_right _ h)) (by decide +kernel))
set_option maxRecDepth 20000 in
theorem gX6_routeNode_X6_requireAlive : GoodIn wsX6_routeNode (wsV RX6 76 RX6 yX6_requireAlive wsX6_requireAlive) := goodIn_app (goodIn_of _ (by decide +kernel)) ggX6_routeNode_X6_requireAlive
set_option maxRecDepth 20000 in
theorem ggX6_routeNode_X6_lengthOfRoute : GoodIn wsX6_routeNode wsX6_lengthOfRoute := goodIn_r _ [25, 26, 27, 28, 6, 29, 30, 31, 32, 33, 34, 35, 36, 37, 38, 39, 40, 41, 42, 43, 44, 45, 46, 47, 48, 49, 50, 51, 52, 53, 54, 55, 56, 57, 58, 59, 60, 61, 62, 63, 70, 71, 72, 73, 74, 75, 85, 86, 87, 88, 89] (by decide +kernel) (by decide +kernel)
set_option maxRecDepth 20000 in
theorem gX6_routeNode_X6_lengthOfRoute : GoodIn wsX6_routeNode (wsV RX6 135 RX6 yX6_lengthOfRoute wsX6_lengthOfRoute) := goodIn_app (goodIn_of _ (by decide +kernel)) ggX6_routeNode_X6_lengthOfRoute
set_option maxRecDepth 20000 in
theorem ggX6_routeNode_X6_nodeOfRoute : GoodIn wsX6_routeNode wsX6_nodeOfRoute := goodIn_r _ [67, 30, 26, 27, 28, 6, 29, 31, 32, 33, 34, 35, 36, 37, 38, 39, 40, 41, 42, 43, 44, 45, 46, 47, 48, 49, 50, 51, 52, 53, 54, 55, 56, 57, 58, 59, 60, 61, 62, 63, 68, 69, 70, 71, 72, 73, 74, 75, 85, 86, 87, 88, 89] (by decide +kernel) (by decide +kernel)
set_option maxRecDepth 20000 in
theorem gX6_routeNode_X6_nodeOfRoute : GoodIn wsX6_routeNode (wsV RX6 140 RX6 yX6_nodeOfRoute wsX6_nodeOfRoute) := goodIn_app (goodIn_of _ (by decide +kernel)) ggX6_routeNode_X6_nodeOfRoute
theorem dX6_routeNode_0 : decode cX6_routeNode 0 = .ok (.aload_n 0, 1) := by decide +kernel
theorem dX6_routeNode_1 : decode cX6_routeNode 1 = .ok (.iload_n 1, 1) := by decide +kernel
theorem dX6_routeNode_2 : decode cX6_routeNode 2 = .ok (.invokevirtual 73, 3) := by decide +kernel
theorem dX6_routeNode_5 : decode cX6_routeNode 5 = .ok (.aload_n 0, 1) := by decide +kernel
theorem dX6_routeNode_6 : decode cX6_routeNode 6 = .ok (.iload_n 2, 1) := by decide +kernel
theorem dX6_routeNode_7 : decode cX6_routeNode 7 = .ok (.invokevirtual 73, 3) := by decide +kernel
theorem dX6_routeNode_10 : decode cX6_routeNode 10 = .ok (.iload_n 3, 1) := by decide +kernel
theorem dX6_routeNode_11 : decode cX6_routeNode 11 = .ok (.ifCond .ge 13, 3) := by decide +kernel
theorem dX6_routeNode_14 : decode cX6_routeNode 14 = .ok (.new 58, 3) := by decide +kernel
theorem dX6_routeNode_17 : decode cX6_routeNode 17 = .ok (.dup, 1) := by decide +kernel
theorem dX6_routeNode_18 : decode cX6_routeNode 18 = .ok (.ldc 138, 2) := by decide +kernel
theorem dX6_routeNode_20 : decode cX6_routeNode 20 = .ok (.invokespecial 62, 3) := by decide +kernel
theorem dX6_routeNode_23 : decode cX6_routeNode 23 = .ok (.athrow, 1) := by decide +kernel
theorem dX6_routeNode_24 : decode cX6_routeNode 24 = .ok (.aload_n 0, 1) := by decide +kernel
theorem dX6_routeNode_25 : decode cX6_routeNode 25 = .ok (.iload_n 1, 1) := by decide +kernel
theorem dX6_routeNode_26 : decode cX6_routeNode 26 = .ok (.invokevirtual 76, 3) := by decide +kernel
theorem dX6_routeNode_29 : decode cX6_routeNode 29 = .ok (.aload_n 0, 1) := by decide +kernel
theorem dX6_routeNode_30 : decode cX6_routeNode 30 = .ok (.iload_n 2, 1) := by decide +kernel
theorem dX6_routeNode_31 : decode cX6_routeNode 31 = .ok (.invokevirtual 76, 3) := by decide +kernel
theorem dX6_routeNode_34 : decode cX6_routeNode 34 = .ok (.iload_n 3, 1) := by decide +kernel
theorem dX6_routeNode_35 : decode cX6_routeNode 35 = .ok (.aload_n 0, 1) := by decide +kernel
theorem dX6_routeNode_36 : decode cX6_routeNode 36 = .ok (.iload_n 1, 1) := by decide +kernel
theorem dX6_routeNode_37 : decode cX6_routeNode 37 = .ok (.iload_n 2, 1) := by decide +kernel
theorem dX6_routeNode_38 : decode cX6_routeNode 38 = .ok (.invokevirtual 135, 3) := by decide +kernel
theorem dX6_routeNode_41 : decode cX6_routeNode 41 = .ok (.if_icmp .le 5, 3) := by decide +kernel
theorem dX6_routeNode_44 : decode cX6_routeNode 44 = .ok (.iconst (-1), 1) := by decide +kernel
theorem dX6_routeNode_45 : decode cX6_routeNode 45 = .ok (.ireturn, 1) := by decide +kernel
theorem dX6_routeNode_46 : decode cX6_routeNode 46 = .ok (.aload_n 0, 1) := by decide +kernel
theorem dX6_routeNode_47 : decode cX6_routeNode 47 = .ok (.iload_n 1, 1) := by decide +kernel
theorem dX6_routeNode_48 : decode cX6_routeNode 48 = .ok (.iload_n 2, 1) := by decide +kernel
theorem dX6_routeNode_49 : decode cX6_routeNode 49 = .ok (.iload_n 3, 1) := by decide +kernel
theorem dX6_routeNode_50 : decode cX6_routeNode 50 = .ok (.invokevirtual 140, 3) := by decide +kernel
theorem dX6_routeNode_53 : decode cX6_routeNode 53 = .ok (.ireturn, 1) := by decide +kernel
set_option maxRecDepth 20000 in
theorem ggX6_reach_X6_requireNode : GoodIn wsX6_reach wsX6_requireNode := goodIn_ca (goodIn_r _ [8, 1, 2, 9, 10, 11, 7, 12, 3, 60, 61, 62, 63, 64, 65, 66, 67, 68, 69, 70, 71, 72, 73, 74] (by decide +kernel) (by decide +kernel)) (goodIn_sub (fun _ h => List.mem_cons_of_mem _ (List.mem_append_left _ (List.mem_append_right _ h))) (by decide +kernel))
set_option maxRecDepth 20000 in
theorem gX6_reach_X6_requireNode : GoodIn wsX6_reach (wsV RX6 73 RX6 yX6_requireNode wsX6_requireNode) := goodIn_app (goodIn_of _ (by decide +kernel)) ggX6_reach_X6_requireNode
set_option maxRecDepth 20000 in
theorem ggX6_reach_X6_requireAlive : GoodIn wsX6_reach wsX6_requireAlive := goodIn_ca (goodIn_r _ [16, 17, 18, 3, 19, 20, 7, 21, 60, 61, 62, 63, 64, 65, 66, 67, 68, 69, 70, 71, 72, 73, 74] (by decide +kernel) (by decide +kernel)) (goodIn_sub (fun _ h => List.mem_cons_of_mem _ (List.mem_append_right _ h)) (by decide +kernel))
set_option maxRecDepth 20000 in
theorem gX6_reach_X6_requireAlive : GoodIn wsX6_reach (wsV RX6 76 RX6 yX6_requireAlive wsX6_requireAlive) := goodIn_app (goodIn_of _ (by decide +kernel)) ggX6_reach_X6_requireAlive
set_option maxRecDepth 20000 in
theorem ggX6_reach_X6_nodeCount : GoodIn wsX6_reach wsX6_nodeCount := goodIn_r _ [12, 3, 60, 61, 62, 63, 64, 65, 66, 67, 68, 69, 70, 71, 72, 73, 74] (by decide +kernel) (by decide +kernel)
set_option maxRecDepth 20000 in
theorem gX6_reach_X6_nodeCount : GoodIn wsX6_reach (wsV RX6 96 RX6 yX6_nodeCount wsX6_nodeCount) := goodIn_app (goodIn_of _ (by decide +kernel)) ggX6_reach_X6_nodeCount
set_option maxRecDepth 20000 in
theorem ggX6_reach_X6_contains : GoodIn wsX6_reach wsX6_contains := goodIn_r _ [21] (by decide +kernel) (by decide +kernel)
set_option maxRecDepth 20000 in
theorem gX6_reach_X6_contains : GoodIn wsX6_reach (va_wsS RX6 87 yX6_contains wsX6_contains) := goodIn_app (goodIn_of _ (by decide +kernel)) ggX6_reach_X6_contains
set_option maxRecDepth 20000 in
theorem ggX6_reach_X6_decision : GoodIn wsX6_reach wsX6_decision := goodIn_r _ [25, 26, 27, 28, 29, 30, 31, 32, 33, 34, 35, 36, 37, 38, 39, 40, 7, 41, 42, 43, 44, 45, 46, 47, 48, 49, 50, 51, 52, 53, 54, 55, 56, 57, 58, 59, 60, 61, 62, 63, 64, 65, 75, 76, 77, 78, 79] (by decide +kernel) (by decide +kernel)
set_option maxRecDepth 20000 in
theorem gX6_reach_X6_decision : GoodIn wsX6_reach (wsV RX6 132 RX6 yX6_decision wsX6_decision) := goodIn_app (goodIn_of _ (by decide +kernel)) ggX6_reach_X6_decision
theorem dX6_reach_0 : decode cX6_reach 0 = .ok (.aload_n 0, 1) := by decide +kernel
theorem dX6_reach_1 : decode cX6_reach 1 = .ok (.iload_n 1, 1) := by decide +kernel
theorem dX6_reach_2 : decode cX6_reach 2 = .ok (.invokevirtual 73, 3) := by decide +kernel
theorem dX6_reach_5 : decode cX6_reach 5 = .ok (.iload_n 2, 1) := by decide +kernel
theorem dX6_reach_6 : decode cX6_reach 6 = .ok (.ifCond .lt 8, 3) := by decide +kernel
theorem dX6_reach_9 : decode cX6_reach 9 = .ok (.iload_n 2, 1) := by decide +kernel
theorem dX6_reach_10 : decode cX6_reach 10 = .ok (.iconst 2, 1) := by decide +kernel
theorem dX6_reach_11 : decode cX6_reach 11 = .ok (.if_icmp .le 13, 3) := by decide +kernel
theorem dX6_reach_14 : decode cX6_reach 14 = .ok (.new 58, 3) := by decide +kernel
theorem dX6_reach_17 : decode cX6_reach 17 = .ok (.dup, 1) := by decide +kernel
theorem dX6_reach_18 : decode cX6_reach 18 = .ok (.ldc 144, 2) := by decide +kernel
theorem dX6_reach_20 : decode cX6_reach 20 = .ok (.invokespecial 62, 3) := by decide +kernel
theorem dX6_reach_23 : decode cX6_reach 23 = .ok (.athrow, 1) := by decide +kernel
theorem dX6_reach_24 : decode cX6_reach 24 = .ok (.aload_n 0, 1) := by decide +kernel
theorem dX6_reach_25 : decode cX6_reach 25 = .ok (.iload_n 1, 1) := by decide +kernel
theorem dX6_reach_26 : decode cX6_reach 26 = .ok (.invokevirtual 76, 3) := by decide +kernel
theorem dX6_reach_29 : decode cX6_reach 29 = .ok (.iconst 0, 1) := by decide +kernel
theorem dX6_reach_30 : decode cX6_reach 30 = .ok (.istore_n 3, 1) := by decide +kernel
theorem dX6_reach_31 : decode cX6_reach 31 = .ok (.iconst 0, 1) := by decide +kernel
theorem dX6_reach_32 : decode cX6_reach 32 = .ok (.istore 4, 2) := by decide +kernel
theorem dX6_reach_34 : decode cX6_reach 34 = .ok (.iload 4, 2) := by decide +kernel
theorem dX6_reach_36 : decode cX6_reach 36 = .ok (.aload_n 0, 1) := by decide +kernel
theorem dX6_reach_37 : decode cX6_reach 37 = .ok (.invokevirtual 96, 3) := by decide +kernel
theorem dX6_reach_40 : decode cX6_reach 40 = .ok (.if_icmp .ge 44, 3) := by decide +kernel
theorem dX6_reach_43 : decode cX6_reach 43 = .ok (.iload 4, 2) := by decide +kernel
theorem dX6_reach_45 : decode cX6_reach 45 = .ok (.iload_n 1, 1) := by decide +kernel
theorem dX6_reach_46 : decode cX6_reach 46 = .ok (.if_icmp .eq 32, 3) := by decide +kernel
theorem dX6_reach_49 : decode cX6_reach 49 = .ok (.aload_n 0, 1) := by decide +kernel
theorem dX6_reach_50 : decode cX6_reach 50 = .ok (.getfield 10, 3) := by decide +kernel
theorem dX6_reach_53 : decode cX6_reach 53 = .ok (.getfield 83, 3) := by decide +kernel
theorem dX6_reach_56 : decode cX6_reach 56 = .ok (.iload 4, 2) := by decide +kernel
theorem dX6_reach_58 : decode cX6_reach 58 = .ok (.invokestatic 87, 3) := by decide +kernel
theorem dX6_reach_61 : decode cX6_reach 61 = .ok (.ifCond .eq 17, 3) := by decide +kernel
theorem dX6_reach_64 : decode cX6_reach 64 = .ok (.aload_n 0, 1) := by decide +kernel
theorem dX6_reach_65 : decode cX6_reach 65 = .ok (.iload_n 1, 1) := by decide +kernel
theorem dX6_reach_66 : decode cX6_reach 66 = .ok (.iload 4, 2) := by decide +kernel
theorem dX6_reach_68 : decode cX6_reach 68 = .ok (.invokevirtual 132, 3) := by decide +kernel
theorem dX6_reach_71 : decode cX6_reach 71 = .ok (.iload_n 2, 1) := by decide +kernel
theorem dX6_reach_72 : decode cX6_reach 72 = .ok (.if_icmp .ne 6, 3) := by decide +kernel
theorem dX6_reach_75 : decode cX6_reach 75 = .ok (.iinc 3 1, 3) := by decide +kernel
theorem dX6_reach_78 : decode cX6_reach 78 = .ok (.iinc 4 1, 3) := by decide +kernel
theorem dX6_reach_81 : decode cX6_reach 81 = .ok (.goto (-47), 3) := by decide +kernel
theorem dX6_reach_84 : decode cX6_reach 84 = .ok (.iload_n 3, 1) := by decide +kernel
theorem dX6_reach_85 : decode cX6_reach 85 = .ok (.ireturn, 1) := by decide +kernel
set_option maxRecDepth 20000 in
theorem ggX6_broadcastTime_X6_requireNode : GoodIn wsX6_broadcastTime wsX6_requireNode := goodIn_ca (goodIn_r _ [8, 9, 10, 11, 12, 13, 7, 14, 2, 73, 74, 75, 76, 77, 78, 79, 80, 81, 82, 83, 84, 85, 86, 87] (by decide +kernel) (by decide +kernel)) (goodIn_sub (fun _ h => List.mem_cons_of_mem _ (List.mem_append_left _ (List.mem_append_right _ h))) (by decide +kernel))
set_option maxRecDepth 20000 in
theorem gX6_broadcastTime_X6_requireNode : GoodIn wsX6_broadcastTime (wsV RX6 73 RX6 yX6_requireNode wsX6_requireNode) := goodIn_app (goodIn_of _ (by decide +kernel)) ggX6_broadcastTime_X6_requireNode
set_option maxRecDepth 20000 in
theorem ggX6_broadcastTime_X6_requireAlive : GoodIn wsX6_broadcastTime wsX6_requireAlive := goodIn_ca (goodIn_r _ [18, 19, 20, 2, 21, 22, 7, 23, 73, 74, 75, 76, 77, 78, 79, 80, 81, 82, 83, 84, 85, 86, 87] (by decide +kernel) (by decide +kernel)) (goodIn_sub (fun _ h => List.mem_cons_of_mem _ (List.mem_append_right _ h)) (by decide +kernel))
set_option maxRecDepth 20000 in
theorem gX6_broadcastTime_X6_requireAlive : GoodIn wsX6_broadcastTime (wsV RX6 76 RX6 yX6_requireAlive wsX6_requireAlive) := goodIn_app (goodIn_of _ (by decide +kernel)) ggX6_broadcastTime_X6_requireAlive
set_option maxRecDepth 20000 in
theorem ggX6_broadcastTime_X0_run : GoodIn wsX6_broadcastTime wsX0_run := goodIn_r _ [28, 29, 30, 31, 32, 33, 34, 35, 36, 37, 38, 39, 40, 41, 42, 43, 44, 27, 45, 46, 47, 7, 48, 49, 50, 51, 52, 53, 54, 55, 56, 57, 58, 59, 60, 61, 62, 63, 64, 65, 66, 67, 22, 23, 68, 69, 70, 71, 88, 89, 90, 91, 92, 93, 94, 95, 96] (by decide +kernel) (by decide +kernel)
set_option maxRecDepth 20000 in
theorem gX6_broadcastTime_X0_run : GoodIn wsX6_broadcastTime (wsV RX6 146 RX0 yX0_run wsX0_run) := goodIn_app (goodIn_of _ (by decide +kernel)) ggX6_broadcastTime_X0_run
set_option maxRecDepth 20000 in
theorem ggX6_broadcastTime_X0_timeOf : GoodIn wsX6_broadcastTime wsX0_timeOf := goodIn_r _ [71, 29, 49, 7, 50, 88, 89, 90, 91] (by decide +kernel) (by decide +kernel)
set_option maxRecDepth 20000 in
theorem gX6_broadcastTime_X0_timeOf : GoodIn wsX6_broadcastTime (wsV RX6 150 RX0 yX0_timeOf wsX0_timeOf) := goodIn_app (goodIn_of _ (by decide +kernel)) ggX6_broadcastTime_X0_timeOf
theorem dX6_broadcastTime_0 : decode cX6_broadcastTime 0 = .ok (.aload_n 0, 1) := by decide +kernel
theorem dX6_broadcastTime_1 : decode cX6_broadcastTime 1 = .ok (.iload_n 1, 1) := by decide +kernel
theorem dX6_broadcastTime_2 : decode cX6_broadcastTime 2 = .ok (.invokevirtual 73, 3) := by decide +kernel
theorem dX6_broadcastTime_5 : decode cX6_broadcastTime 5 = .ok (.aload_n 0, 1) := by decide +kernel
theorem dX6_broadcastTime_6 : decode cX6_broadcastTime 6 = .ok (.iload_n 2, 1) := by decide +kernel
theorem dX6_broadcastTime_7 : decode cX6_broadcastTime 7 = .ok (.invokevirtual 73, 3) := by decide +kernel
theorem dX6_broadcastTime_10 : decode cX6_broadcastTime 10 = .ok (.aload_n 0, 1) := by decide +kernel
theorem dX6_broadcastTime_11 : decode cX6_broadcastTime 11 = .ok (.iload_n 1, 1) := by decide +kernel
theorem dX6_broadcastTime_12 : decode cX6_broadcastTime 12 = .ok (.invokevirtual 76, 3) := by decide +kernel
theorem dX6_broadcastTime_15 : decode cX6_broadcastTime 15 = .ok (.aload_n 0, 1) := by decide +kernel
theorem dX6_broadcastTime_16 : decode cX6_broadcastTime 16 = .ok (.getfield 33, 3) := by decide +kernel
theorem dX6_broadcastTime_19 : decode cX6_broadcastTime 19 = .ok (.iload_n 1, 1) := by decide +kernel
theorem dX6_broadcastTime_20 : decode cX6_broadcastTime 20 = .ok (.aload_n 0, 1) := by decide +kernel
theorem dX6_broadcastTime_21 : decode cX6_broadcastTime 21 = .ok (.getfield 10, 3) := by decide +kernel
theorem dX6_broadcastTime_24 : decode cX6_broadcastTime 24 = .ok (.getfield 83, 3) := by decide +kernel
theorem dX6_broadcastTime_27 : decode cX6_broadcastTime 27 = .ok (.aload_n 0, 1) := by decide +kernel
theorem dX6_broadcastTime_28 : decode cX6_broadcastTime 28 = .ok (.getfield 26, 3) := by decide +kernel
theorem dX6_broadcastTime_31 : decode cX6_broadcastTime 31 = .ok (.invokevirtual 146, 3) := by decide +kernel
theorem dX6_broadcastTime_34 : decode cX6_broadcastTime 34 = .ok (.aload_n 0, 1) := by decide +kernel
theorem dX6_broadcastTime_35 : decode cX6_broadcastTime 35 = .ok (.getfield 33, 3) := by decide +kernel
theorem dX6_broadcastTime_38 : decode cX6_broadcastTime 38 = .ok (.iload_n 2, 1) := by decide +kernel
theorem dX6_broadcastTime_39 : decode cX6_broadcastTime 39 = .ok (.invokevirtual 150, 3) := by decide +kernel
theorem dX6_broadcastTime_42 : decode cX6_broadcastTime 42 = .ok (.ireturn, 1) := by decide +kernel
set_option maxRecDepth 20000 in
theorem ggX6_broadcastSize_X6_requireNode : GoodIn wsX6_broadcastSize wsX6_requireNode := goodIn_ca (goodIn_r _ [8, 9, 10, 11, 12, 13, 7, 14, 2, 72, 73, 74, 75, 76, 77, 78, 79, 80, 81, 82, 83, 84, 85, 86] (by decide +kernel) (by decide +kernel)) (goodIn_sub (fun _ h => List.mem_cons_of_mem _ (List.mem_append_left _ (List.mem_append_right _ h))) (by decide +kernel))
set_option maxRecDepth 20000 in
theorem gX6_broadcastSize_X6_requireNode : GoodIn wsX6_broadcastSize (wsV RX6 73 RX6 yX6_requireNode wsX6_requireNode) := goodIn_app (goodIn_of _ (by decide +kernel)) ggX6_broadcastSize_X6_requireNode
set_option maxRecDepth 20000 in
theorem ggX6_broadcastSize_X6_requireAlive : GoodIn wsX6_broadcastSize wsX6_requireAlive := goodIn_ca (goodIn_r _ [18, 19, 20, 2, 21, 22, 7, 23, 72, 73, 74, 75, 76, 77, 78, 79, 80, 81, 82, 83, 84, 85, 86] (by decide +kernel) (by decide +kernel)) (goodIn_sub (fun _ h => List.mem_cons_of_mem _ (List.mem_append_right _ h)) (by decide +kernel))
set_option maxRecDepth 20000 in
theorem gX6_broadcastSize_X6_requireAlive : GoodIn wsX6_broadcastSize (wsV RX6 76 RX6 yX6_requireAlive wsX6_requireAlive) := goodIn_app (goodIn_of _ (by decide +kernel)) ggX6_broadcastSize_X6_requireAlive
set_option maxRecDepth 20000 in
theorem ggX6_broadcastSize_X0_run : GoodIn wsX6_broadcastSize wsX0_run := goodIn_r _ [28, 29, 30, 31, 32, 33, 34, 35, 36, 37, 38, 39, 40, 41, 42, 43, 44, 27, 45, 46, 47, 7, 48, 49, 50, 51, 52, 53, 54, 55, 56, 57, 58, 59, 60, 61, 62, 63, 64, 65, 66, 67, 22, 23, 68, 69, 70, 71, 87, 88, 89, 90, 91, 92, 93, 94, 95] (by decide +kernel) (by decide +kernel)
set_option maxRecDepth 20000 in
theorem gX6_broadcastSize_X0_run : GoodIn wsX6_broadcastSize (wsV RX6 146 RX0 yX0_run wsX0_run) := goodIn_app (goodIn_of _ (by decide +kernel)) ggX6_broadcastSize_X0_run
theorem dX6_broadcastSize_0 : decode cX6_broadcastSize 0 = .ok (.aload_n 0, 1) := by decide +kernel
theorem dX6_broadcastSize_1 : decode cX6_broadcastSize 1 = .ok (.iload_n 1, 1) := by decide +kernel
theorem dX6_broadcastSize_2 : decode cX6_broadcastSize 2 = .ok (.invokevirtual 73, 3) := by decide +kernel
theorem dX6_broadcastSize_5 : decode cX6_broadcastSize 5 = .ok (.aload_n 0, 1) := by decide +kernel
theorem dX6_broadcastSize_6 : decode cX6_broadcastSize 6 = .ok (.iload_n 1, 1) := by decide +kernel
theorem dX6_broadcastSize_7 : decode cX6_broadcastSize 7 = .ok (.invokevirtual 76, 3) := by decide +kernel
theorem dX6_broadcastSize_10 : decode cX6_broadcastSize 10 = .ok (.aload_n 0, 1) := by decide +kernel
theorem dX6_broadcastSize_11 : decode cX6_broadcastSize 11 = .ok (.getfield 33, 3) := by decide +kernel
theorem dX6_broadcastSize_14 : decode cX6_broadcastSize 14 = .ok (.iload_n 1, 1) := by decide +kernel
theorem dX6_broadcastSize_15 : decode cX6_broadcastSize 15 = .ok (.aload_n 0, 1) := by decide +kernel
theorem dX6_broadcastSize_16 : decode cX6_broadcastSize 16 = .ok (.getfield 10, 3) := by decide +kernel
theorem dX6_broadcastSize_19 : decode cX6_broadcastSize 19 = .ok (.getfield 83, 3) := by decide +kernel
theorem dX6_broadcastSize_22 : decode cX6_broadcastSize 22 = .ok (.aload_n 0, 1) := by decide +kernel
theorem dX6_broadcastSize_23 : decode cX6_broadcastSize 23 = .ok (.getfield 26, 3) := by decide +kernel
theorem dX6_broadcastSize_26 : decode cX6_broadcastSize 26 = .ok (.invokevirtual 146, 3) := by decide +kernel
theorem dX6_broadcastSize_29 : decode cX6_broadcastSize 29 = .ok (.aload_n 0, 1) := by decide +kernel
theorem dX6_broadcastSize_30 : decode cX6_broadcastSize 30 = .ok (.getfield 33, 3) := by decide +kernel
theorem dX6_broadcastSize_33 : decode cX6_broadcastSize 33 = .ok (.getfield 153, 3) := by decide +kernel
theorem dX6_broadcastSize_36 : decode cX6_broadcastSize 36 = .ok (.ireturn, 1) := by decide +kernel
set_option maxRecDepth 20000 in
theorem ggX6_freeSubcubes_X6_nodeCount : GoodIn wsX6_freeSubcubes wsX6_nodeCount := goodIn_r _ [8, 3, 34, 35, 36, 37, 38, 39, 40, 41, 42, 43, 44, 45, 46, 47, 48] (by decide +kernel) (by decide +kernel)
set_option maxRecDepth 20000 in
theorem gX6_freeSubcubes_X6_nodeCount : GoodIn wsX6_freeSubcubes (wsV RX6 96 RX6 yX6_nodeCount wsX6_nodeCount) := goodIn_app (goodIn_of _ (by decide +kernel)) ggX6_freeSubcubes_X6_nodeCount
set_option maxRecDepth 20000 in
theorem ggX6_freeSubcubes_J6_bitCount_0f7a4 : GoodIn wsX6_freeSubcubes wsJ6_bitCount_0f7a4 := goodIn_r _ [12, 13, 14, 15] (by decide +kernel) (by decide +kernel)
set_option maxRecDepth 20000 in
theorem gX6_freeSubcubes_J6_bitCount_0f7a4 : GoodIn wsX6_freeSubcubes (va_wsS RX6 107 yJ6_bitCount_0f7a4 wsJ6_bitCount_0f7a4) := goodIn_app (goodIn_of _ (by decide +kernel)) ggX6_freeSubcubes_J6_bitCount_0f7a4
set_option maxRecDepth 20000 in
theorem ggX6_freeSubcubes_X6_freeBases : GoodIn wsX6_freeSubcubes wsX6_freeBases := goodIn_r _ [19, 3, 20, 21, 7, 22, 23, 24, 25, 26, 34, 35, 36, 37, 38, 39, 40, 41, 42, 43, 44, 45, 46, 47, 48] (by decide +kernel) (by decide +kernel)
set_option maxRecDepth 20000 in
theorem gX6_freeSubcubes_X6_freeBases : GoodIn wsX6_freeSubcubes (wsV RX6 158 RX6 yX6_freeBases wsX6_freeBases) := goodIn_app (goodIn_of _ (by decide +kernel)) ggX6_freeSubcubes_X6_freeBases
set_option maxRecDepth 20000 in
theorem ggX6_freeSubcubes_J13_bitCount_95d88 : GoodIn wsX6_freeSubcubes wsJ13_bitCount_95d88 := goodIn_r _ [30, 31, 32, 33] (by decide +kernel) (by decide +kernel)
set_option maxRecDepth 20000 in
theorem gX6_freeSubcubes_J13_bitCount_95d88 : GoodIn wsX6_freeSubcubes (va_wsS RX6 100 yJ13_bitCount_95d88 wsJ13_bitCount_95d88) := goodIn_app (goodIn_of _ (by decide +kernel)) ggX6_freeSubcubes_J13_bitCount_95d88
theorem dX6_freeSubcubes_0 : decode cX6_freeSubcubes 0 = .ok (.iload_n 1, 1) := by decide +kernel
theorem dX6_freeSubcubes_1 : decode cX6_freeSubcubes 1 = .ok (.ifCond .lt 14, 3) := by decide +kernel
theorem dX6_freeSubcubes_4 : decode cX6_freeSubcubes 4 = .ok (.iload_n 1, 1) := by decide +kernel
theorem dX6_freeSubcubes_5 : decode cX6_freeSubcubes 5 = .ok (.aload_n 0, 1) := by decide +kernel
theorem dX6_freeSubcubes_6 : decode cX6_freeSubcubes 6 = .ok (.getfield 10, 3) := by decide +kernel
theorem dX6_freeSubcubes_9 : decode cX6_freeSubcubes 9 = .ok (.getfield 65, 3) := by decide +kernel
theorem dX6_freeSubcubes_12 : decode cX6_freeSubcubes 12 = .ok (.if_icmp .le 13, 3) := by decide +kernel
theorem dX6_freeSubcubes_15 : decode cX6_freeSubcubes 15 = .ok (.new 58, 3) := by decide +kernel
theorem dX6_freeSubcubes_18 : decode cX6_freeSubcubes 18 = .ok (.dup, 1) := by decide +kernel
theorem dX6_freeSubcubes_19 : decode cX6_freeSubcubes 19 = .ok (.ldc 156, 2) := by decide +kernel
theorem dX6_freeSubcubes_21 : decode cX6_freeSubcubes 21 = .ok (.invokespecial 62, 3) := by decide +kernel
theorem dX6_freeSubcubes_24 : decode cX6_freeSubcubes 24 = .ok (.athrow, 1) := by decide +kernel
theorem dX6_freeSubcubes_25 : decode cX6_freeSubcubes 25 = .ok (.iconst 0, 1) := by decide +kernel
theorem dX6_freeSubcubes_26 : decode cX6_freeSubcubes 26 = .ok (.istore_n 2, 1) := by decide +kernel
theorem dX6_freeSubcubes_27 : decode cX6_freeSubcubes 27 = .ok (.iconst 0, 1) := by decide +kernel
theorem dX6_freeSubcubes_28 : decode cX6_freeSubcubes 28 = .ok (.istore_n 3, 1) := by decide +kernel
theorem dX6_freeSubcubes_29 : decode cX6_freeSubcubes 29 = .ok (.iload_n 3, 1) := by decide +kernel
theorem dX6_freeSubcubes_30 : decode cX6_freeSubcubes 30 = .ok (.aload_n 0, 1) := by decide +kernel
theorem dX6_freeSubcubes_31 : decode cX6_freeSubcubes 31 = .ok (.invokevirtual 96, 3) := by decide +kernel
theorem dX6_freeSubcubes_34 : decode cX6_freeSubcubes 34 = .ok (.if_icmp .ge 28, 3) := by decide +kernel
theorem dX6_freeSubcubes_37 : decode cX6_freeSubcubes 37 = .ok (.iload_n 3, 1) := by decide +kernel
theorem dX6_freeSubcubes_38 : decode cX6_freeSubcubes 38 = .ok (.invokestatic 107, 3) := by decide +kernel
theorem dX6_freeSubcubes_41 : decode cX6_freeSubcubes 41 = .ok (.iload_n 1, 1) := by decide +kernel
theorem dX6_freeSubcubes_42 : decode cX6_freeSubcubes 42 = .ok (.if_icmp .ne 14, 3) := by decide +kernel
theorem dX6_freeSubcubes_45 : decode cX6_freeSubcubes 45 = .ok (.iload_n 2, 1) := by decide +kernel
theorem dX6_freeSubcubes_46 : decode cX6_freeSubcubes 46 = .ok (.aload_n 0, 1) := by decide +kernel
theorem dX6_freeSubcubes_47 : decode cX6_freeSubcubes 47 = .ok (.iload_n 3, 1) := by decide +kernel
theorem dX6_freeSubcubes_48 : decode cX6_freeSubcubes 48 = .ok (.invokevirtual 158, 3) := by decide +kernel
theorem dX6_freeSubcubes_51 : decode cX6_freeSubcubes 51 = .ok (.invokestatic 100, 3) := by decide +kernel
theorem dX6_freeSubcubes_54 : decode cX6_freeSubcubes 54 = .ok (.iadd, 1) := by decide +kernel
theorem dX6_freeSubcubes_55 : decode cX6_freeSubcubes 55 = .ok (.istore_n 2, 1) := by decide +kernel
theorem dX6_freeSubcubes_56 : decode cX6_freeSubcubes 56 = .ok (.iinc 3 1, 3) := by decide +kernel
theorem dX6_freeSubcubes_59 : decode cX6_freeSubcubes 59 = .ok (.goto (-30), 3) := by decide +kernel
theorem dX6_freeSubcubes_62 : decode cX6_freeSubcubes 62 = .ok (.iload_n 2, 1) := by decide +kernel
theorem dX6_freeSubcubes_63 : decode cX6_freeSubcubes 63 = .ok (.ireturn, 1) := by decide +kernel
set_option maxRecDepth 20000 in
theorem ggX6_largestSubcube_X6_nodeCount : GoodIn wsX6_largestSubcube wsX6_nodeCount := goodIn_r _ [5, 6, 35, 36, 37, 38, 39, 40, 41, 42, 43, 44, 45, 46, 47, 48, 49] (by decide +kernel) (by decide +kernel)
set_option maxRecDepth 20000 in
theorem gX6_largestSubcube_X6_nodeCount : GoodIn wsX6_largestSubcube (wsV RX6 96 RX6 yX6_nodeCount wsX6_nodeCount) := goodIn_app (goodIn_of _ (by decide +kernel)) ggX6_largestSubcube_X6_nodeCount
set_option maxRecDepth 20000 in
theorem ggX6_largestSubcube_X6_freeBases : GoodIn wsX6_largestSubcube wsX6_freeBases := goodIn_r _ [10, 6, 11, 12, 4, 13, 14, 15, 16, 17, 35, 36, 37, 38, 39, 40, 41, 42, 43, 44, 45, 46, 47, 48, 49] (by decide +kernel) (by decide +kernel)
set_option maxRecDepth 20000 in
theorem gX6_largestSubcube_X6_freeBases : GoodIn wsX6_largestSubcube (wsV RX6 158 RX6 yX6_freeBases wsX6_freeBases) := goodIn_app (goodIn_of _ (by decide +kernel)) ggX6_largestSubcube_X6_freeBases
set_option maxRecDepth 20000 in
theorem ggX6_largestSubcube_J6_bitCount_0f7a4 : GoodIn wsX6_largestSubcube wsJ6_bitCount_0f7a4 := goodIn_r _ [21, 22, 23, 24] (by decide +kernel) (by decide +kernel)
set_option maxRecDepth 20000 in
theorem gX6_largestSubcube_J6_bitCount_0f7a4 : GoodIn wsX6_largestSubcube (va_wsS RX6 107 yJ6_bitCount_0f7a4 wsJ6_bitCount_0f7a4) := goodIn_app (goodIn_of _ (by decide +kernel)) ggX6_largestSubcube_J6_bitCount_0f7a4
set_option maxRecDepth 20000 in
theorem ggX6_largestSubcube_X6_leastNode : GoodIn wsX6_largestSubcube wsX6_leastNode := goodIn_r _ [27, 28, 29, 30, 31, 32, 33, 34] (by decide +kernel) (by decide +kernel)
set_option maxRecDepth 20000 in
theorem gX6_largestSubcube_X6_leastNode : GoodIn wsX6_largestSubcube (va_wsS RX6 162 yX6_leastNode wsX6_leastNode) := goodIn_app (goodIn_of _ (by decide +kernel)) ggX6_largestSubcube_X6_leastNode
theorem dX6_largestSubcube_0 : decode cX6_largestSubcube 0 = .ok (.iconst (-1), 1) := by decide +kernel
theorem dX6_largestSubcube_1 : decode cX6_largestSubcube 1 = .ok (.istore_n 1, 1) := by decide +kernel
theorem dX6_largestSubcube_2 : decode cX6_largestSubcube 2 = .ok (.iconst (-1), 1) := by decide +kernel
theorem dX6_largestSubcube_3 : decode cX6_largestSubcube 3 = .ok (.istore_n 2, 1) := by decide +kernel
theorem dX6_largestSubcube_4 : decode cX6_largestSubcube 4 = .ok (.iconst 0, 1) := by decide +kernel
theorem dX6_largestSubcube_5 : decode cX6_largestSubcube 5 = .ok (.istore_n 3, 1) := by decide +kernel
theorem dX6_largestSubcube_6 : decode cX6_largestSubcube 6 = .ok (.iload_n 3, 1) := by decide +kernel
theorem dX6_largestSubcube_7 : decode cX6_largestSubcube 7 = .ok (.aload_n 0, 1) := by decide +kernel
theorem dX6_largestSubcube_8 : decode cX6_largestSubcube 8 = .ok (.invokevirtual 96, 3) := by decide +kernel
theorem dX6_largestSubcube_11 : decode cX6_largestSubcube 11 = .ok (.if_icmp .ge 47, 3) := by decide +kernel
theorem dX6_largestSubcube_14 : decode cX6_largestSubcube 14 = .ok (.aload_n 0, 1) := by decide +kernel
theorem dX6_largestSubcube_15 : decode cX6_largestSubcube 15 = .ok (.iload_n 3, 1) := by decide +kernel
theorem dX6_largestSubcube_16 : decode cX6_largestSubcube 16 = .ok (.invokevirtual 158, 3) := by decide +kernel
theorem dX6_largestSubcube_19 : decode cX6_largestSubcube 19 = .ok (.lstore 4, 2) := by decide +kernel
theorem dX6_largestSubcube_21 : decode cX6_largestSubcube 21 = .ok (.lload 4, 2) := by decide +kernel
theorem dX6_largestSubcube_23 : decode cX6_largestSubcube 23 = .ok (.lconst 0, 1) := by decide +kernel
theorem dX6_largestSubcube_24 : decode cX6_largestSubcube 24 = .ok (.lcmp, 1) := by decide +kernel
theorem dX6_largestSubcube_25 : decode cX6_largestSubcube 25 = .ok (.ifCond .eq 27, 3) := by decide +kernel
theorem dX6_largestSubcube_28 : decode cX6_largestSubcube 28 = .ok (.iload_n 3, 1) := by decide +kernel
theorem dX6_largestSubcube_29 : decode cX6_largestSubcube 29 = .ok (.invokestatic 107, 3) := by decide +kernel
theorem dX6_largestSubcube_32 : decode cX6_largestSubcube 32 = .ok (.iload_n 2, 1) := by decide +kernel
theorem dX6_largestSubcube_33 : decode cX6_largestSubcube 33 = .ok (.if_icmp .le 19, 3) := by decide +kernel
theorem dX6_largestSubcube_36 : decode cX6_largestSubcube 36 = .ok (.iload_n 3, 1) := by decide +kernel
theorem dX6_largestSubcube_37 : decode cX6_largestSubcube 37 = .ok (.invokestatic 107, 3) := by decide +kernel
theorem dX6_largestSubcube_40 : decode cX6_largestSubcube 40 = .ok (.istore_n 2, 1) := by decide +kernel
theorem dX6_largestSubcube_41 : decode cX6_largestSubcube 41 = .ok (.bipush 64, 2) := by decide +kernel
theorem dX6_largestSubcube_43 : decode cX6_largestSubcube 43 = .ok (.iload_n 3, 1) := by decide +kernel
theorem dX6_largestSubcube_44 : decode cX6_largestSubcube 44 = .ok (.imul, 1) := by decide +kernel
theorem dX6_largestSubcube_45 : decode cX6_largestSubcube 45 = .ok (.lload 4, 2) := by decide +kernel
theorem dX6_largestSubcube_47 : decode cX6_largestSubcube 47 = .ok (.invokestatic 162, 3) := by decide +kernel
theorem dX6_largestSubcube_50 : decode cX6_largestSubcube 50 = .ok (.iadd, 1) := by decide +kernel
theorem dX6_largestSubcube_51 : decode cX6_largestSubcube 51 = .ok (.istore_n 1, 1) := by decide +kernel
theorem dX6_largestSubcube_52 : decode cX6_largestSubcube 52 = .ok (.iinc 3 1, 3) := by decide +kernel
theorem dX6_largestSubcube_55 : decode cX6_largestSubcube 55 = .ok (.goto (-49), 3) := by decide +kernel
theorem dX6_largestSubcube_58 : decode cX6_largestSubcube 58 = .ok (.iload_n 1, 1) := by decide +kernel
theorem dX6_largestSubcube_59 : decode cX6_largestSubcube 59 = .ok (.ireturn, 1) := by decide +kernel
set_option maxRecDepth 20000 in
theorem ggX6_disjointPaths_X6_requireNode : GoodIn wsX6_disjointPaths wsX6_requireNode := goodIn_ca (goodIn_r _ [9, 1, 2, 10, 11, 12, 8, 13, 4, 74, 75, 76, 77, 78, 79, 80, 81, 82, 83, 84, 85, 86, 87, 88] (by decide +kernel) (by decide +kernel)) (goodIn_sub (fun _ h => List.mem_cons_of_mem _ (List.mem_append_left _ (List.mem_append_right _ h))) (by decide +kernel))
set_option maxRecDepth 20000 in
theorem gX6_disjointPaths_X6_requireNode : GoodIn wsX6_disjointPaths (wsV RX6 73 RX6 yX6_requireNode wsX6_requireNode) := goodIn_app (goodIn_of _ (by decide +kernel)) ggX6_disjointPaths_X6_requireNode
set_option maxRecDepth 20000 in
theorem ggX6_disjointPaths_X6_requireAlive : GoodIn wsX6_disjointPaths wsX6_requireAlive := goodIn_ca (goodIn_r _ [17, 18, 19, 4, 20, 21, 8, 22, 74, 75, 76, 77, 78, 79, 80, 81, 82, 83, 84, 85, 86, 87, 88] (by decide +kernel) (by decide +kernel)) (goodIn_sub (fun _ h => List.mem_cons_of_mem _ (List.mem_append_right _ h)) (by decide +kernel))
set_option maxRecDepth 20000 in
theorem gX6_disjointPaths_X6_requireAlive : GoodIn wsX6_disjointPaths (wsV RX6 76 RX6 yX6_requireAlive wsX6_requireAlive) := goodIn_app (goodIn_of _ (by decide +kernel)) ggX6_disjointPaths_X6_requireAlive
set_option maxRecDepth 20000 in
theorem ggX6_disjointPaths_X1_largest : GoodIn wsX6_disjointPaths wsX1_largest := goodIn_r _ [27, 28, 29, 30, 31, 32, 33, 34, 35, 36, 37, 38, 39, 26, 40, 41, 42, 43, 44, 45, 46, 47, 48, 49, 50, 51, 8, 52, 53, 54, 55, 56, 57, 58, 59, 60, 61, 62, 63, 64, 65, 66, 67, 68, 69, 21, 22, 70, 71, 72, 73, 89, 90, 91, 92, 93, 94, 95, 96] (by decide +kernel) (by decide +kernel)
set_option maxRecDepth 20000 in
theorem gX6_disjointPaths_X1_largest : GoodIn wsX6_disjointPaths (wsV RX6 167 RX1 yX1_largest wsX1_largest) := goodIn_app (goodIn_of _ (by decide +kernel)) ggX6_disjointPaths_X1_largest
theorem dX6_disjointPaths_0 : decode cX6_disjointPaths 0 = .ok (.aload_n 0, 1) := by decide +kernel
theorem dX6_disjointPaths_1 : decode cX6_disjointPaths 1 = .ok (.iload_n 1, 1) := by decide +kernel
theorem dX6_disjointPaths_2 : decode cX6_disjointPaths 2 = .ok (.invokevirtual 73, 3) := by decide +kernel
theorem dX6_disjointPaths_5 : decode cX6_disjointPaths 5 = .ok (.aload_n 0, 1) := by decide +kernel
theorem dX6_disjointPaths_6 : decode cX6_disjointPaths 6 = .ok (.iload_n 2, 1) := by decide +kernel
theorem dX6_disjointPaths_7 : decode cX6_disjointPaths 7 = .ok (.invokevirtual 73, 3) := by decide +kernel
theorem dX6_disjointPaths_10 : decode cX6_disjointPaths 10 = .ok (.iload_n 1, 1) := by decide +kernel
theorem dX6_disjointPaths_11 : decode cX6_disjointPaths 11 = .ok (.iload_n 2, 1) := by decide +kernel
theorem dX6_disjointPaths_12 : decode cX6_disjointPaths 12 = .ok (.if_icmp .ne 13, 3) := by decide +kernel
theorem dX6_disjointPaths_15 : decode cX6_disjointPaths 15 = .ok (.new 58, 3) := by decide +kernel
theorem dX6_disjointPaths_18 : decode cX6_disjointPaths 18 = .ok (.dup, 1) := by decide +kernel
theorem dX6_disjointPaths_19 : decode cX6_disjointPaths 19 = .ok (.ldc 165, 2) := by decide +kernel
theorem dX6_disjointPaths_21 : decode cX6_disjointPaths 21 = .ok (.invokespecial 62, 3) := by decide +kernel
theorem dX6_disjointPaths_24 : decode cX6_disjointPaths 24 = .ok (.athrow, 1) := by decide +kernel
theorem dX6_disjointPaths_25 : decode cX6_disjointPaths 25 = .ok (.aload_n 0, 1) := by decide +kernel
theorem dX6_disjointPaths_26 : decode cX6_disjointPaths 26 = .ok (.iload_n 1, 1) := by decide +kernel
theorem dX6_disjointPaths_27 : decode cX6_disjointPaths 27 = .ok (.invokevirtual 76, 3) := by decide +kernel
theorem dX6_disjointPaths_30 : decode cX6_disjointPaths 30 = .ok (.aload_n 0, 1) := by decide +kernel
theorem dX6_disjointPaths_31 : decode cX6_disjointPaths 31 = .ok (.iload_n 2, 1) := by decide +kernel
theorem dX6_disjointPaths_32 : decode cX6_disjointPaths 32 = .ok (.invokevirtual 76, 3) := by decide +kernel
theorem dX6_disjointPaths_35 : decode cX6_disjointPaths 35 = .ok (.aload_n 0, 1) := by decide +kernel
theorem dX6_disjointPaths_36 : decode cX6_disjointPaths 36 = .ok (.getfield 40, 3) := by decide +kernel
theorem dX6_disjointPaths_39 : decode cX6_disjointPaths 39 = .ok (.iload_n 1, 1) := by decide +kernel
theorem dX6_disjointPaths_40 : decode cX6_disjointPaths 40 = .ok (.iload_n 2, 1) := by decide +kernel
theorem dX6_disjointPaths_41 : decode cX6_disjointPaths 41 = .ok (.aload_n 0, 1) := by decide +kernel
theorem dX6_disjointPaths_42 : decode cX6_disjointPaths 42 = .ok (.getfield 10, 3) := by decide +kernel
theorem dX6_disjointPaths_45 : decode cX6_disjointPaths 45 = .ok (.getfield 65, 3) := by decide +kernel
theorem dX6_disjointPaths_48 : decode cX6_disjointPaths 48 = .ok (.aload_n 0, 1) := by decide +kernel
theorem dX6_disjointPaths_49 : decode cX6_disjointPaths 49 = .ok (.getfield 10, 3) := by decide +kernel
theorem dX6_disjointPaths_52 : decode cX6_disjointPaths 52 = .ok (.getfield 83, 3) := by decide +kernel
theorem dX6_disjointPaths_55 : decode cX6_disjointPaths 55 = .ok (.invokevirtual 167, 3) := by decide +kernel
theorem dX6_disjointPaths_58 : decode cX6_disjointPaths 58 = .ok (.ireturn, 1) := by decide +kernel
set_option maxRecDepth 20000 in
theorem ggX6_send_X6_requireLivingPair : GoodIn wsX6_send wsX6_requireLivingPair := goodIn_ca (goodIn_ca (goodIn_r _ [9, 10, 11, 12, 8, 13, 14, 15, 16, 17, 18, 19, 3, 20, 21, 22, 23, 1, 2, 24, 25, 26, 67, 68, 69, 70, 71, 72, 73, 74, 75, 76, 77, 78, 79, 80, 81] (by decide +kernel) (by decide +kernel)) (goodIn_sub (fun _ h => List.mem_cons_of_mem _ (List.mem_append_right _ h)) (by decide +kernel))) (goodIn_sub (fun _ h => List.mem_cons_of_mem _ (List.mem_append_left _ (List.mem_append_right _ h))) (by decide +kernel))
set_option maxRecDepth 20000 in
theorem gX6_send_X6_requireLivingPair : GoodIn wsX6_send (wsV RX6 112 RX6 yX6_requireLivingPair wsX6_requireLivingPair) := goodIn_app (goodIn_of _ (by decide +kernel)) ggX6_send_X6_requireLivingPair
set_option maxRecDepth 20000 in
theorem ggX6_send_X5_save : GoodIn wsX6_send wsX5_save := goodIn_r _ [31, 32, 33, 34, 35, 36, 37, 38, 39, 40, 30, 41, 42, 43, 44, 45, 46, 47, 48, 49, 50, 51, 52, 53, 54, 55, 56, 57, 58, 59, 60, 82, 83, 84, 73, 74, 75, 76, 77, 78, 79, 80, 81] (by decide +kernel) (by decide +kernel)
set_option maxRecDepth 20000 in
theorem gX6_send_X5_save : GoodIn wsX6_send (wsV RX6 69 RX5 yX5_save wsX5_save) := goodIn_app (goodIn_of _ (by decide +kernel)) ggX6_send_X5_save
set_option maxRecDepth 20000 in
theorem ggX6_send_X3_addMessage : GoodIn wsX6_send wsX3_addMessage := goodIn_r _ [64, 51, 52, 57, 58, 59, 60, 65, 8, 66, 73, 74, 75, 76, 77, 78, 79, 80, 81] (by decide +kernel) (by decide +kernel)
set_option maxRecDepth 20000 in
theorem gX6_send_X3_addMessage : GoodIn wsX6_send (wsV RX6 176 RX3 yX3_addMessage wsX3_addMessage) := goodIn_app (goodIn_of _ (by decide +kernel)) ggX6_send_X3_addMessage
theorem dX6_send_0 : decode cX6_send 0 = .ok (.aload_n 0, 1) := by decide +kernel
theorem dX6_send_1 : decode cX6_send 1 = .ok (.iload_n 1, 1) := by decide +kernel
theorem dX6_send_2 : decode cX6_send 2 = .ok (.iload_n 2, 1) := by decide +kernel
theorem dX6_send_3 : decode cX6_send 3 = .ok (.invokevirtual 112, 3) := by decide +kernel
theorem dX6_send_6 : decode cX6_send 6 = .ok (.aload_n 0, 1) := by decide +kernel
theorem dX6_send_7 : decode cX6_send 7 = .ok (.getfield 10, 3) := by decide +kernel
theorem dX6_send_10 : decode cX6_send 10 = .ok (.getfield 171, 3) := by decide +kernel
theorem dX6_send_13 : decode cX6_send 13 = .ok (.bipush 24, 2) := by decide +kernel
theorem dX6_send_15 : decode cX6_send 15 = .ok (.if_icmp .lt 13, 3) := by decide +kernel
theorem dX6_send_18 : decode cX6_send 18 = .ok (.new 91, 3) := by decide +kernel
theorem dX6_send_21 : decode cX6_send 21 = .ok (.dup, 1) := by decide +kernel
theorem dX6_send_22 : decode cX6_send 22 = .ok (.ldc 174, 2) := by decide +kernel
theorem dX6_send_24 : decode cX6_send 24 = .ok (.invokespecial 95, 3) := by decide +kernel
theorem dX6_send_27 : decode cX6_send 27 = .ok (.athrow, 1) := by decide +kernel
theorem dX6_send_28 : decode cX6_send 28 = .ok (.aload_n 0, 1) := by decide +kernel
theorem dX6_send_29 : decode cX6_send 29 = .ok (.getfield 19, 3) := by decide +kernel
theorem dX6_send_32 : decode cX6_send 32 = .ok (.aload_n 0, 1) := by decide +kernel
theorem dX6_send_33 : decode cX6_send 33 = .ok (.getfield 10, 3) := by decide +kernel
theorem dX6_send_36 : decode cX6_send 36 = .ok (.invokevirtual 69, 3) := by decide +kernel
theorem dX6_send_39 : decode cX6_send 39 = .ok (.aload_n 0, 1) := by decide +kernel
theorem dX6_send_40 : decode cX6_send 40 = .ok (.getfield 10, 3) := by decide +kernel
theorem dX6_send_43 : decode cX6_send 43 = .ok (.iload_n 1, 1) := by decide +kernel
theorem dX6_send_44 : decode cX6_send 44 = .ok (.iload_n 2, 1) := by decide +kernel
theorem dX6_send_45 : decode cX6_send 45 = .ok (.invokevirtual 176, 3) := by decide +kernel
theorem dX6_send_48 : decode cX6_send 48 = .ok (.ireturn, 1) := by decide +kernel
set_option maxRecDepth 20000 in
theorem ggX6_step_X5_save : GoodIn wsX6_step wsX5_save := goodIn_r _ [11, 12, 13, 14, 15, 16, 17, 18, 19, 20, 10, 21, 22, 23, 24, 25, 26, 27, 28, 29, 30, 31, 32, 33, 34, 35, 36, 37, 38, 39, 40, 94, 95, 96, 97, 98, 99, 100, 101, 102, 103, 104, 105] (by decide +kernel) (by decide +kernel)
set_option maxRecDepth 20000 in
theorem gX6_step_X5_save : GoodIn wsX6_step (wsV RX6 69 RX5 yX5_save wsX5_save) := goodIn_app (goodIn_of _ (by decide +kernel)) ggX6_step_X5_save
set_option maxRecDepth 20000 in
theorem ggX6_step_X4_oneStep : GoodIn wsX6_step wsX4_oneStep := goodIn_r _ [45, 46, 47, 48, 49, 50, 51, 52, 53, 54, 55, 56, 44, 57, 58, 59, 60, 61, 62, 63, 64, 65, 66, 67, 68, 69, 70, 71, 72, 73, 74, 75, 76, 77, 78, 79, 80, 81, 82, 83, 84, 85, 86, 87, 106, 97, 98, 99, 100, 101, 102, 103, 104, 105, 107, 108, 109, 110, 111] (by decide +kernel) (by decide +kernel)
set_option maxRecDepth 20000 in
theorem gX6_step_X4_oneStep : GoodIn wsX6_step (wsV RX6 181 RX4 yX4_oneStep wsX4_oneStep) := goodIn_app (goodIn_of _ (by decide +kernel)) ggX6_step_X4_oneStep
theorem dX6_step_0 : decode cX6_step 0 = .ok (.iload_n 1, 1) := by decide +kernel
theorem dX6_step_1 : decode cX6_step 1 = .ok (.iconst 1, 1) := by decide +kernel
theorem dX6_step_2 : decode cX6_step 2 = .ok (.if_icmp .lt 9, 3) := by decide +kernel
theorem dX6_step_5 : decode cX6_step 5 = .ok (.iload_n 1, 1) := by decide +kernel
theorem dX6_step_6 : decode cX6_step 6 = .ok (.bipush 20, 2) := by decide +kernel
theorem dX6_step_8 : decode cX6_step 8 = .ok (.if_icmp .le 13, 3) := by decide +kernel
theorem dX6_step_11 : decode cX6_step 11 = .ok (.new 58, 3) := by decide +kernel
theorem dX6_step_14 : decode cX6_step 14 = .ok (.dup, 1) := by decide +kernel
theorem dX6_step_15 : decode cX6_step 15 = .ok (.ldc 179, 2) := by decide +kernel
theorem dX6_step_17 : decode cX6_step 17 = .ok (.invokespecial 62, 3) := by decide +kernel
theorem dX6_step_20 : decode cX6_step 20 = .ok (.athrow, 1) := by decide +kernel
theorem dX6_step_21 : decode cX6_step 21 = .ok (.aload_n 0, 1) := by decide +kernel
theorem dX6_step_22 : decode cX6_step 22 = .ok (.getfield 19, 3) := by decide +kernel
theorem dX6_step_25 : decode cX6_step 25 = .ok (.aload_n 0, 1) := by decide +kernel
theorem dX6_step_26 : decode cX6_step 26 = .ok (.getfield 10, 3) := by decide +kernel
theorem dX6_step_29 : decode cX6_step 29 = .ok (.invokevirtual 69, 3) := by decide +kernel
theorem dX6_step_32 : decode cX6_step 32 = .ok (.iconst 0, 1) := by decide +kernel
theorem dX6_step_33 : decode cX6_step 33 = .ok (.istore_n 2, 1) := by decide +kernel
theorem dX6_step_34 : decode cX6_step 34 = .ok (.iconst 0, 1) := by decide +kernel
theorem dX6_step_35 : decode cX6_step 35 = .ok (.istore_n 3, 1) := by decide +kernel
theorem dX6_step_36 : decode cX6_step 36 = .ok (.iload_n 3, 1) := by decide +kernel
theorem dX6_step_37 : decode cX6_step 37 = .ok (.iload_n 1, 1) := by decide +kernel
theorem dX6_step_38 : decode cX6_step 38 = .ok (.if_icmp .ge 27, 3) := by decide +kernel
theorem dX6_step_41 : decode cX6_step 41 = .ok (.iload_n 2, 1) := by decide +kernel
theorem dX6_step_42 : decode cX6_step 42 = .ok (.aload_n 0, 1) := by decide +kernel
theorem dX6_step_43 : decode cX6_step 43 = .ok (.getfield 47, 3) := by decide +kernel
theorem dX6_step_46 : decode cX6_step 46 = .ok (.aload_n 0, 1) := by decide +kernel
theorem dX6_step_47 : decode cX6_step 47 = .ok (.getfield 10, 3) := by decide +kernel
theorem dX6_step_50 : decode cX6_step 50 = .ok (.aload_n 0, 1) := by decide +kernel
theorem dX6_step_51 : decode cX6_step 51 = .ok (.getfield 26, 3) := by decide +kernel
theorem dX6_step_54 : decode cX6_step 54 = .ok (.invokevirtual 181, 3) := by decide +kernel
theorem dX6_step_57 : decode cX6_step 57 = .ok (.iadd, 1) := by decide +kernel
theorem dX6_step_58 : decode cX6_step 58 = .ok (.istore_n 2, 1) := by decide +kernel
theorem dX6_step_59 : decode cX6_step 59 = .ok (.iinc 3 1, 3) := by decide +kernel
theorem dX6_step_62 : decode cX6_step 62 = .ok (.goto (-26), 3) := by decide +kernel
theorem dX6_step_65 : decode cX6_step 65 = .ok (.iload_n 2, 1) := by decide +kernel
theorem dX6_step_66 : decode cX6_step 66 = .ok (.ireturn, 1) := by decide +kernel
set_option maxRecDepth 20000 in
theorem ggX6_state_X6_requireMessage : GoodIn wsX6_state wsX6_requireMessage := goodIn_ca (goodIn_r _ [6, 7, 8, 1, 12, 13, 14, 15, 16, 17, 18, 19, 20, 21, 22, 23, 24, 25, 26] (by decide +kernel) (by decide +kernel)) (goodIn_sub (fun _ h => List.mem_cons_of_mem _ (List.mem_append_right _ h)) (by decide +kernel))
set_option maxRecDepth 20000 in
theorem gX6_state_X6_requireMessage : GoodIn wsX6_state (wsV RX6 185 RX6 yX6_requireMessage wsX6_requireMessage) := goodIn_app (goodIn_of _ (by decide +kernel)) ggX6_state_X6_requireMessage
set_option maxRecDepth 20000 in
theorem ggX6_state_X6_read : GoodIn wsX6_state wsX6_read := goodIn_r _ [11] (by decide +kernel) (by decide +kernel)
set_option maxRecDepth 20000 in
theorem gX6_state_X6_read : GoodIn wsX6_state (va_wsS RX6 192 yX6_read wsX6_read) := goodIn_app (goodIn_of _ (by decide +kernel)) ggX6_state_X6_read
theorem dX6_state_0 : decode cX6_state 0 = .ok (.aload_n 0, 1) := by decide +kernel
theorem dX6_state_1 : decode cX6_state 1 = .ok (.iload_n 1, 1) := by decide +kernel
theorem dX6_state_2 : decode cX6_state 2 = .ok (.invokevirtual 185, 3) := by decide +kernel
theorem dX6_state_5 : decode cX6_state 5 = .ok (.aload_n 0, 1) := by decide +kernel
theorem dX6_state_6 : decode cX6_state 6 = .ok (.getfield 10, 3) := by decide +kernel
theorem dX6_state_9 : decode cX6_state 9 = .ok (.getfield 188, 3) := by decide +kernel
theorem dX6_state_12 : decode cX6_state 12 = .ok (.iload_n 1, 1) := by decide +kernel
theorem dX6_state_13 : decode cX6_state 13 = .ok (.invokestatic 192, 3) := by decide +kernel
theorem dX6_state_16 : decode cX6_state 16 = .ok (.ireturn, 1) := by decide +kernel
set_option maxRecDepth 20000 in
theorem ggX6_position_X6_requireMessage : GoodIn wsX6_position wsX6_requireMessage := goodIn_ca (goodIn_r _ [6, 7, 8, 1, 12, 13, 14, 15, 16, 17, 18, 19, 20, 21, 22, 23, 24, 25, 26] (by decide +kernel) (by decide +kernel)) (goodIn_sub (fun _ h => List.mem_cons_of_mem _ (List.mem_append_right _ h)) (by decide +kernel))
set_option maxRecDepth 20000 in
theorem gX6_position_X6_requireMessage : GoodIn wsX6_position (wsV RX6 185 RX6 yX6_requireMessage wsX6_requireMessage) := goodIn_app (goodIn_of _ (by decide +kernel)) ggX6_position_X6_requireMessage
set_option maxRecDepth 20000 in
theorem ggX6_position_X6_read : GoodIn wsX6_position wsX6_read := goodIn_r _ [11] (by decide +kernel) (by decide +kernel)
set_option maxRecDepth 20000 in
theorem gX6_position_X6_read : GoodIn wsX6_position (va_wsS RX6 192 yX6_read wsX6_read) := goodIn_app (goodIn_of _ (by decide +kernel)) ggX6_position_X6_read
theorem dX6_position_0 : decode cX6_position 0 = .ok (.aload_n 0, 1) := by decide +kernel
theorem dX6_position_1 : decode cX6_position 1 = .ok (.iload_n 1, 1) := by decide +kernel
theorem dX6_position_2 : decode cX6_position 2 = .ok (.invokevirtual 185, 3) := by decide +kernel
theorem dX6_position_5 : decode cX6_position 5 = .ok (.aload_n 0, 1) := by decide +kernel
theorem dX6_position_6 : decode cX6_position 6 = .ok (.getfield 10, 3) := by decide +kernel
theorem dX6_position_9 : decode cX6_position 9 = .ok (.getfield 196, 3) := by decide +kernel
theorem dX6_position_12 : decode cX6_position 12 = .ok (.iload_n 1, 1) := by decide +kernel
theorem dX6_position_13 : decode cX6_position 13 = .ok (.invokestatic 192, 3) := by decide +kernel
theorem dX6_position_16 : decode cX6_position 16 = .ok (.ireturn, 1) := by decide +kernel
set_option maxRecDepth 20000 in
theorem ggX6_moves_X6_requireMessage : GoodIn wsX6_moves wsX6_requireMessage := goodIn_ca (goodIn_r _ [6, 7, 8, 1, 12, 13, 14, 15, 16, 17, 18, 19, 20, 21, 22, 23, 24, 25, 26] (by decide +kernel) (by decide +kernel)) (goodIn_sub (fun _ h => List.mem_cons_of_mem _ (List.mem_append_right _ h)) (by decide +kernel))
set_option maxRecDepth 20000 in
theorem gX6_moves_X6_requireMessage : GoodIn wsX6_moves (wsV RX6 185 RX6 yX6_requireMessage wsX6_requireMessage) := goodIn_app (goodIn_of _ (by decide +kernel)) ggX6_moves_X6_requireMessage
set_option maxRecDepth 20000 in
theorem ggX6_moves_X6_read : GoodIn wsX6_moves wsX6_read := goodIn_r _ [11] (by decide +kernel) (by decide +kernel)
set_option maxRecDepth 20000 in
theorem gX6_moves_X6_read : GoodIn wsX6_moves (va_wsS RX6 192 yX6_read wsX6_read) := goodIn_app (goodIn_of _ (by decide +kernel)) ggX6_moves_X6_read
theorem dX6_moves_0 : decode cX6_moves 0 = .ok (.aload_n 0, 1) := by decide +kernel
theorem dX6_moves_1 : decode cX6_moves 1 = .ok (.iload_n 1, 1) := by decide +kernel
theorem dX6_moves_2 : decode cX6_moves 2 = .ok (.invokevirtual 185, 3) := by decide +kernel
theorem dX6_moves_5 : decode cX6_moves 5 = .ok (.aload_n 0, 1) := by decide +kernel
theorem dX6_moves_6 : decode cX6_moves 6 = .ok (.getfield 10, 3) := by decide +kernel
theorem dX6_moves_9 : decode cX6_moves 9 = .ok (.getfield 199, 3) := by decide +kernel
theorem dX6_moves_12 : decode cX6_moves 12 = .ok (.iload_n 1, 1) := by decide +kernel
theorem dX6_moves_13 : decode cX6_moves 13 = .ok (.invokestatic 192, 3) := by decide +kernel
theorem dX6_moves_16 : decode cX6_moves 16 = .ok (.ireturn, 1) := by decide +kernel
set_option maxRecDepth 20000 in
theorem ggX6_count_X6_read : GoodIn wsX6_count wsX6_read := goodIn_r _ [7] (by decide +kernel) (by decide +kernel)
set_option maxRecDepth 20000 in
theorem gX6_count_X6_read : GoodIn wsX6_count (va_wsS RX6 192 yX6_read wsX6_read) := goodIn_app (goodIn_of _ (by decide +kernel)) ggX6_count_X6_read
theorem dX6_count_0 : decode cX6_count 0 = .ok (.iload_n 1, 1) := by decide +kernel
theorem dX6_count_1 : decode cX6_count 1 = .ok (.ifCond .lt 8, 3) := by decide +kernel
theorem dX6_count_4 : decode cX6_count 4 = .ok (.iload_n 1, 1) := by decide +kernel
theorem dX6_count_5 : decode cX6_count 5 = .ok (.iconst 2, 1) := by decide +kernel
theorem dX6_count_6 : decode cX6_count 6 = .ok (.if_icmp .le 13, 3) := by decide +kernel
theorem dX6_count_9 : decode cX6_count 9 = .ok (.new 58, 3) := by decide +kernel
theorem dX6_count_12 : decode cX6_count 12 = .ok (.dup, 1) := by decide +kernel
theorem dX6_count_13 : decode cX6_count 13 = .ok (.ldc 202, 2) := by decide +kernel
theorem dX6_count_15 : decode cX6_count 15 = .ok (.invokespecial 62, 3) := by decide +kernel
theorem dX6_count_18 : decode cX6_count 18 = .ok (.athrow, 1) := by decide +kernel
theorem dX6_count_19 : decode cX6_count 19 = .ok (.iconst 0, 1) := by decide +kernel
theorem dX6_count_20 : decode cX6_count 20 = .ok (.istore_n 2, 1) := by decide +kernel
theorem dX6_count_21 : decode cX6_count 21 = .ok (.iconst 0, 1) := by decide +kernel
theorem dX6_count_22 : decode cX6_count 22 = .ok (.istore_n 3, 1) := by decide +kernel
theorem dX6_count_23 : decode cX6_count 23 = .ok (.iload_n 3, 1) := by decide +kernel
theorem dX6_count_24 : decode cX6_count 24 = .ok (.aload_n 0, 1) := by decide +kernel
theorem dX6_count_25 : decode cX6_count 25 = .ok (.getfield 10, 3) := by decide +kernel
theorem dX6_count_28 : decode cX6_count 28 = .ok (.getfield 171, 3) := by decide +kernel
theorem dX6_count_31 : decode cX6_count 31 = .ok (.if_icmp .ge 27, 3) := by decide +kernel
theorem dX6_count_34 : decode cX6_count 34 = .ok (.aload_n 0, 1) := by decide +kernel
theorem dX6_count_35 : decode cX6_count 35 = .ok (.getfield 10, 3) := by decide +kernel
theorem dX6_count_38 : decode cX6_count 38 = .ok (.getfield 188, 3) := by decide +kernel
theorem dX6_count_41 : decode cX6_count 41 = .ok (.iload_n 3, 1) := by decide +kernel
theorem dX6_count_42 : decode cX6_count 42 = .ok (.invokestatic 192, 3) := by decide +kernel
theorem dX6_count_45 : decode cX6_count 45 = .ok (.iload_n 1, 1) := by decide +kernel
theorem dX6_count_46 : decode cX6_count 46 = .ok (.if_icmp .ne 6, 3) := by decide +kernel
theorem dX6_count_49 : decode cX6_count 49 = .ok (.iinc 2 1, 3) := by decide +kernel
theorem dX6_count_52 : decode cX6_count 52 = .ok (.iinc 3 1, 3) := by decide +kernel
theorem dX6_count_55 : decode cX6_count 55 = .ok (.goto (-32), 3) := by decide +kernel
theorem dX6_count_58 : decode cX6_count 58 = .ok (.iload_n 2, 1) := by decide +kernel
theorem dX6_count_59 : decode cX6_count 59 = .ok (.ireturn, 1) := by decide +kernel
set_option maxRecDepth 20000 in
theorem ggX6_undo_X5_restoreInto : GoodIn wsX6_undo wsX5_restoreInto := goodIn_r _ [9, 10, 11, 12, 13, 14, 8, 15, 16, 17, 18, 19, 20, 21, 22, 23, 24, 25, 26, 27, 28, 29, 30, 31, 32, 33, 34, 94, 95, 96, 97, 98, 99, 100, 101, 102, 103, 104, 105] (by decide +kernel) (by decide +kernel)
set_option maxRecDepth 20000 in
theorem gX6_undo_X5_restoreInto : GoodIn wsX6_undo (wsV RX6 209 RX5 yX5_restoreInto wsX5_restoreInto) := goodIn_app (goodIn_of _ (by decide +kernel)) ggX6_undo_X5_restoreInto
set_option maxRecDepth 20000 in
theorem ggX6_undo_X6_refreshSafety : GoodIn wsX6_undo wsX6_refreshSafety := goodIn_r _ [39, 40, 4, 41, 42, 43, 44, 45, 46, 47, 48, 49, 50, 51, 52, 53, 38, 54, 55, 56, 57, 58, 59, 60, 61, 62, 28, 29, 30, 63, 64, 65, 66, 67, 68, 69, 70, 71, 72, 73, 74, 75, 76, 77, 78, 79, 80, 81, 82, 83, 84, 85, 86, 87, 88, 89, 90, 91, 92, 93, 97, 98, 99, 100, 101, 102, 103, 104, 105, 106, 107, 108, 109, 110] (by decide +kernel) (by decide +kernel)
set_option maxRecDepth 20000 in
theorem gX6_undo_X6_refreshSafety : GoodIn wsX6_undo (wsV RX6 55 RX6 yX6_refreshSafety wsX6_refreshSafety) := goodIn_app (goodIn_of _ (by decide +kernel)) ggX6_undo_X6_refreshSafety
theorem dX6_undo_0 : decode cX6_undo 0 = .ok (.aload_n 0, 1) := by decide +kernel
theorem dX6_undo_1 : decode cX6_undo 1 = .ok (.getfield 19, 3) := by decide +kernel
theorem dX6_undo_4 : decode cX6_undo 4 = .ok (.getfield 204, 3) := by decide +kernel
theorem dX6_undo_7 : decode cX6_undo 7 = .ok (.ifCond .ne 13, 3) := by decide +kernel
theorem dX6_undo_10 : decode cX6_undo 10 = .ok (.new 91, 3) := by decide +kernel
theorem dX6_undo_13 : decode cX6_undo 13 = .ok (.dup, 1) := by decide +kernel
theorem dX6_undo_14 : decode cX6_undo 14 = .ok (.ldc 207, 2) := by decide +kernel
theorem dX6_undo_16 : decode cX6_undo 16 = .ok (.invokespecial 95, 3) := by decide +kernel
theorem dX6_undo_19 : decode cX6_undo 19 = .ok (.athrow, 1) := by decide +kernel
theorem dX6_undo_20 : decode cX6_undo 20 = .ok (.aload_n 0, 1) := by decide +kernel
theorem dX6_undo_21 : decode cX6_undo 21 = .ok (.getfield 19, 3) := by decide +kernel
theorem dX6_undo_24 : decode cX6_undo 24 = .ok (.aload_n 0, 1) := by decide +kernel
theorem dX6_undo_25 : decode cX6_undo 25 = .ok (.getfield 10, 3) := by decide +kernel
theorem dX6_undo_28 : decode cX6_undo 28 = .ok (.invokevirtual 209, 3) := by decide +kernel
theorem dX6_undo_31 : decode cX6_undo 31 = .ok (.aload_n 0, 1) := by decide +kernel
theorem dX6_undo_32 : decode cX6_undo 32 = .ok (.invokevirtual 55, 3) := by decide +kernel
theorem dX6_undo_35 : decode cX6_undo 35 = .ok (.aload_n 0, 1) := by decide +kernel
theorem dX6_undo_36 : decode cX6_undo 36 = .ok (.getfield 19, 3) := by decide +kernel
theorem dX6_undo_39 : decode cX6_undo 39 = .ok (.getfield 204, 3) := by decide +kernel
theorem dX6_undo_42 : decode cX6_undo 42 = .ok (.ireturn, 1) := by decide +kernel
set_option maxRecDepth 20000 in
theorem ggX6_refreshSafety_X2_find : GoodIn wsX6_refreshSafety wsX2_find := goodIn_r _ [7, 8, 9, 10, 11, 12, 6, 13, 14, 15, 16, 17, 18, 19, 20, 21, 22, 23, 24, 25, 26, 27, 28, 29, 30, 31, 32, 33, 34, 35, 36, 37, 38, 39, 40, 41, 42, 43, 44, 45, 46, 47, 48, 49, 50, 51, 52, 53, 69, 70, 71, 72, 73] (by decide +kernel) (by decide +kernel)
set_option maxRecDepth 20000 in
theorem gX6_refreshSafety_X2_find : GoodIn wsX6_refreshSafety (wsV RX6 241 RX2 yX2_find wsX2_find) := goodIn_app (goodIn_of _ (by decide +kernel)) ggX6_refreshSafety_X2_find
theorem dX6_refreshSafety_0 : decode cX6_refreshSafety 0 = .ok (.aload_n 0, 1) := by decide +kernel
theorem dX6_refreshSafety_1 : decode cX6_refreshSafety 1 = .ok (.getfield 26, 3) := by decide +kernel
theorem dX6_refreshSafety_4 : decode cX6_refreshSafety 4 = .ok (.aload_n 0, 1) := by decide +kernel
theorem dX6_refreshSafety_5 : decode cX6_refreshSafety 5 = .ok (.getfield 10, 3) := by decide +kernel
theorem dX6_refreshSafety_8 : decode cX6_refreshSafety 8 = .ok (.getfield 65, 3) := by decide +kernel
theorem dX6_refreshSafety_11 : decode cX6_refreshSafety 11 = .ok (.aload_n 0, 1) := by decide +kernel
theorem dX6_refreshSafety_12 : decode cX6_refreshSafety 12 = .ok (.getfield 10, 3) := by decide +kernel
theorem dX6_refreshSafety_15 : decode cX6_refreshSafety 15 = .ok (.getfield 83, 3) := by decide +kernel
theorem dX6_refreshSafety_18 : decode cX6_refreshSafety 18 = .ok (.invokevirtual 241, 3) := by decide +kernel
theorem dX6_refreshSafety_21 : decode cX6_refreshSafety 21 = .ok (.return_, 1) := by decide +kernel
theorem dX6_nodeCount_0 : decode cX6_nodeCount 0 = .ok (.iconst 1, 1) := by decide +kernel
theorem dX6_nodeCount_1 : decode cX6_nodeCount 1 = .ok (.aload_n 0, 1) := by decide +kernel
theorem dX6_nodeCount_2 : decode cX6_nodeCount 2 = .ok (.getfield 10, 3) := by decide +kernel
theorem dX6_nodeCount_5 : decode cX6_nodeCount 5 = .ok (.getfield 65, 3) := by decide +kernel
theorem dX6_nodeCount_8 : decode cX6_nodeCount 8 = .ok (.ishl, 1) := by decide +kernel
theorem dX6_nodeCount_9 : decode cX6_nodeCount 9 = .ok (.ireturn, 1) := by decide +kernel
set_option maxRecDepth 20000 in
theorem ggX6_requireNode_X6_nodeCount : GoodIn wsX6_requireNode wsX6_nodeCount := goodIn_r _ [7, 8, 9, 10, 11, 12, 13, 14, 15, 16, 17, 18, 19, 20, 21, 22, 23] (by decide +kernel) (by decide +kernel)
set_option maxRecDepth 20000 in
theorem gX6_requireNode_X6_nodeCount : GoodIn wsX6_requireNode (wsV RX6 96 RX6 yX6_nodeCount wsX6_nodeCount) := goodIn_app (goodIn_of _ (by decide +kernel)) ggX6_requireNode_X6_nodeCount
theorem dX6_requireNode_0 : decode cX6_requireNode 0 = .ok (.iload_n 1, 1) := by decide +kernel
theorem dX6_requireNode_1 : decode cX6_requireNode 1 = .ok (.ifCond .lt 11, 3) := by decide +kernel
theorem dX6_requireNode_4 : decode cX6_requireNode 4 = .ok (.iload_n 1, 1) := by decide +kernel
theorem dX6_requireNode_5 : decode cX6_requireNode 5 = .ok (.aload_n 0, 1) := by decide +kernel
theorem dX6_requireNode_6 : decode cX6_requireNode 6 = .ok (.invokevirtual 96, 3) := by decide +kernel
theorem dX6_requireNode_9 : decode cX6_requireNode 9 = .ok (.if_icmp .lt 13, 3) := by decide +kernel
theorem dX6_requireNode_12 : decode cX6_requireNode 12 = .ok (.new 58, 3) := by decide +kernel
theorem dX6_requireNode_15 : decode cX6_requireNode 15 = .ok (.dup, 1) := by decide +kernel
theorem dX6_requireNode_16 : decode cX6_requireNode 16 = .ok (.ldc 245, 2) := by decide +kernel
theorem dX6_requireNode_18 : decode cX6_requireNode 18 = .ok (.invokespecial 62, 3) := by decide +kernel
theorem dX6_requireNode_21 : decode cX6_requireNode 21 = .ok (.athrow, 1) := by decide +kernel
theorem dX6_requireNode_22 : decode cX6_requireNode 22 = .ok (.return_, 1) := by decide +kernel
set_option maxRecDepth 20000 in
theorem ggX6_requireAlive_X6_contains : GoodIn wsX6_requireAlive wsX6_contains := goodIn_r _ [7] (by decide +kernel) (by decide +kernel)
set_option maxRecDepth 20000 in
theorem gX6_requireAlive_X6_contains : GoodIn wsX6_requireAlive (va_wsS RX6 87 yX6_contains wsX6_contains) := goodIn_app (goodIn_of _ (by decide +kernel)) ggX6_requireAlive_X6_contains
theorem dX6_requireAlive_0 : decode cX6_requireAlive 0 = .ok (.aload_n 0, 1) := by decide +kernel
theorem dX6_requireAlive_1 : decode cX6_requireAlive 1 = .ok (.getfield 10, 3) := by decide +kernel
theorem dX6_requireAlive_4 : decode cX6_requireAlive 4 = .ok (.getfield 83, 3) := by decide +kernel
theorem dX6_requireAlive_7 : decode cX6_requireAlive 7 = .ok (.iload_n 1, 1) := by decide +kernel
theorem dX6_requireAlive_8 : decode cX6_requireAlive 8 = .ok (.invokestatic 87, 3) := by decide +kernel
theorem dX6_requireAlive_11 : decode cX6_requireAlive 11 = .ok (.ifCond .ne 13, 3) := by decide +kernel
theorem dX6_requireAlive_14 : decode cX6_requireAlive 14 = .ok (.new 91, 3) := by decide +kernel
theorem dX6_requireAlive_17 : decode cX6_requireAlive 17 = .ok (.dup, 1) := by decide +kernel
theorem dX6_requireAlive_18 : decode cX6_requireAlive 18 = .ok (.ldc 247, 2) := by decide +kernel
theorem dX6_requireAlive_20 : decode cX6_requireAlive 20 = .ok (.invokespecial 95, 3) := by decide +kernel
theorem dX6_requireAlive_23 : decode cX6_requireAlive 23 = .ok (.athrow, 1) := by decide +kernel
theorem dX6_requireAlive_24 : decode cX6_requireAlive 24 = .ok (.return_, 1) := by decide +kernel
set_option maxRecDepth 20000 in
theorem ggX6_requireLivingPair_X6_requireNode : GoodIn wsX6_requireLivingPair wsX6_requireNode := goodIn_ca (goodIn_r _ [5, 6, 7, 8, 9, 10, 4, 11, 12, 22, 23, 24, 25, 26, 27, 28, 29, 30, 31, 32, 33, 34, 35, 36] (by decide +kernel) (by decide +kernel)) (goodIn_sub (fun _ h => List.mem_cons_of_mem _ (List.mem_append_left _ (List.mem_append_right _ h))) (by decide +kernel))
set_option maxRecDepth 20000 in
theorem gX6_requireLivingPair_X6_requireNode : GoodIn wsX6_requireLivingPair (wsV RX6 73 RX6 yX6_requireNode wsX6_requireNode) := goodIn_app (goodIn_of _ (by decide +kernel)) ggX6_requireLivingPair_X6_requireNode
set_option maxRecDepth 20000 in
theorem ggX6_requireLivingPair_X6_requireAlive : GoodIn wsX6_requireLivingPair wsX6_requireAlive := goodIn_ca (goodIn_r _ [16, 17, 18, 12, 19, 20, 4, 21, 22, 23, 24, 25, 26, 27, 28, 29, 30, 31, 32, 33, 34, 35, 36] (by decide +kernel) (by decide +kernel)) (goodIn_sub (fun _ h => List.mem_cons_of_mem _ (List.mem_append_right _ h)) (by decide +kernel))
set_option maxRecDepth 20000 in
theorem gX6_requireLivingPair_X6_requireAlive : GoodIn wsX6_requireLivingPair (wsV RX6 76 RX6 yX6_requireAlive wsX6_requireAlive) := goodIn_app (goodIn_of _ (by decide +kernel)) ggX6_requireLivingPair_X6_requireAlive
theorem dX6_requireLivingPair_0 : decode cX6_requireLivingPair 0 = .ok (.aload_n 0, 1) := by decide +kernel
theorem dX6_requireLivingPair_1 : decode cX6_requireLivingPair 1 = .ok (.iload_n 1, 1) := by decide +kernel
theorem dX6_requireLivingPair_2 : decode cX6_requireLivingPair 2 = .ok (.invokevirtual 73, 3) := by decide +kernel
theorem dX6_requireLivingPair_5 : decode cX6_requireLivingPair 5 = .ok (.aload_n 0, 1) := by decide +kernel
theorem dX6_requireLivingPair_6 : decode cX6_requireLivingPair 6 = .ok (.iload_n 2, 1) := by decide +kernel
theorem dX6_requireLivingPair_7 : decode cX6_requireLivingPair 7 = .ok (.invokevirtual 73, 3) := by decide +kernel
theorem dX6_requireLivingPair_10 : decode cX6_requireLivingPair 10 = .ok (.aload_n 0, 1) := by decide +kernel
theorem dX6_requireLivingPair_11 : decode cX6_requireLivingPair 11 = .ok (.iload_n 1, 1) := by decide +kernel
theorem dX6_requireLivingPair_12 : decode cX6_requireLivingPair 12 = .ok (.invokevirtual 76, 3) := by decide +kernel
theorem dX6_requireLivingPair_15 : decode cX6_requireLivingPair 15 = .ok (.aload_n 0, 1) := by decide +kernel
theorem dX6_requireLivingPair_16 : decode cX6_requireLivingPair 16 = .ok (.iload_n 2, 1) := by decide +kernel
theorem dX6_requireLivingPair_17 : decode cX6_requireLivingPair 17 = .ok (.invokevirtual 76, 3) := by decide +kernel
theorem dX6_requireLivingPair_20 : decode cX6_requireLivingPair 20 = .ok (.return_, 1) := by decide +kernel
theorem dX6_requireMessage_0 : decode cX6_requireMessage 0 = .ok (.iload_n 1, 1) := by decide +kernel
theorem dX6_requireMessage_1 : decode cX6_requireMessage 1 = .ok (.ifCond .lt 14, 3) := by decide +kernel
theorem dX6_requireMessage_4 : decode cX6_requireMessage 4 = .ok (.iload_n 1, 1) := by decide +kernel
theorem dX6_requireMessage_5 : decode cX6_requireMessage 5 = .ok (.aload_n 0, 1) := by decide +kernel
theorem dX6_requireMessage_6 : decode cX6_requireMessage 6 = .ok (.getfield 10, 3) := by decide +kernel
theorem dX6_requireMessage_9 : decode cX6_requireMessage 9 = .ok (.getfield 171, 3) := by decide +kernel
theorem dX6_requireMessage_12 : decode cX6_requireMessage 12 = .ok (.if_icmp .lt 13, 3) := by decide +kernel
theorem dX6_requireMessage_15 : decode cX6_requireMessage 15 = .ok (.new 58, 3) := by decide +kernel
theorem dX6_requireMessage_18 : decode cX6_requireMessage 18 = .ok (.dup, 1) := by decide +kernel
theorem dX6_requireMessage_19 : decode cX6_requireMessage 19 = .ok (.ldc 249, 2) := by decide +kernel
theorem dX6_requireMessage_21 : decode cX6_requireMessage 21 = .ok (.invokespecial 62, 3) := by decide +kernel
theorem dX6_requireMessage_24 : decode cX6_requireMessage 24 = .ok (.athrow, 1) := by decide +kernel
theorem dX6_requireMessage_25 : decode cX6_requireMessage 25 = .ok (.return_, 1) := by decide +kernel
set_option maxRecDepth 20000 in
theorem ggX6_decision_J6_bitCount_0f7a4 : GoodIn wsX6_decision wsJ6_bitCount_0f7a4 := goodIn_r _ [5, 6, 7, 8] (by decide +kernel) (by decide +kernel)
set_option maxRecDepth 20000 in
theorem gX6_decision_J6_bitCount_0f7a4 : GoodIn wsX6_decision (va_wsS RX6 107 yJ6_bitCount_0f7a4 wsJ6_bitCount_0f7a4) := goodIn_app (goodIn_of _ (by decide +kernel)) ggX6_decision_J6_bitCount_0f7a4
set_option maxRecDepth 20000 in
theorem ggX6_decision_X2_levelOf : GoodIn wsX6_decision wsX2_levelOf := goodIn_r _ [13, 14, 15, 16, 17, 42, 43, 44, 45, 46] (by decide +kernel) (by decide +kernel)
set_option maxRecDepth 20000 in
theorem gX6_decision_X2_levelOf : GoodIn wsX6_decision (wsV RX6 120 RX2 yX2_levelOf wsX2_levelOf) := goodIn_app (goodIn_of _ (by decide +kernel)) ggX6_decision_X2_levelOf
set_option maxRecDepth 20000 in
theorem ggX6_decision_X2_bestLevel : GoodIn wsX6_decision wsX2_bestLevel := goodIn_r _ [21, 22, 23, 24, 12, 25, 26, 27, 16, 28, 29, 30, 31, 10, 11, 13, 14, 15, 17, 42, 43, 44, 45, 46] (by decide +kernel) (by decide +kernel)
set_option maxRecDepth 20000 in
theorem gX6_decision_X2_bestLevel : GoodIn wsX6_decision (wsV RX6 251 RX2 yX2_bestLevel wsX2_bestLevel) := goodIn_app (goodIn_of _ (by decide +kernel)) ggX6_decision_X2_bestLevel
set_option maxRecDepth 20000 in
theorem ggX6_decision_X2_spareOf : GoodIn wsX6_decision wsX2_spareOf := goodIn_r _ [35, 26, 42, 43, 44, 45, 46] (by decide +kernel) (by decide +kernel)
set_option maxRecDepth 20000 in
theorem gX6_decision_X2_spareOf : GoodIn wsX6_decision (wsV RX6 254 RX2 yX2_spareOf wsX2_spareOf) := goodIn_app (goodIn_of _ (by decide +kernel)) ggX6_decision_X2_spareOf
theorem dX6_decision_0 : decode cX6_decision 0 = .ok (.iload_n 1, 1) := by decide +kernel
theorem dX6_decision_1 : decode cX6_decision 1 = .ok (.iload_n 2, 1) := by decide +kernel
theorem dX6_decision_2 : decode cX6_decision 2 = .ok (.ixor, 1) := by decide +kernel
theorem dX6_decision_3 : decode cX6_decision 3 = .ok (.istore_n 3, 1) := by decide +kernel
theorem dX6_decision_4 : decode cX6_decision 4 = .ok (.iload_n 3, 1) := by decide +kernel
theorem dX6_decision_5 : decode cX6_decision 5 = .ok (.invokestatic 107, 3) := by decide +kernel
theorem dX6_decision_8 : decode cX6_decision 8 = .ok (.istore 4, 2) := by decide +kernel
theorem dX6_decision_10 : decode cX6_decision 10 = .ok (.iload 4, 2) := by decide +kernel
theorem dX6_decision_12 : decode cX6_decision 12 = .ok (.ifCond .eq 32, 3) := by decide +kernel
theorem dX6_decision_15 : decode cX6_decision 15 = .ok (.aload_n 0, 1) := by decide +kernel
theorem dX6_decision_16 : decode cX6_decision 16 = .ok (.getfield 26, 3) := by decide +kernel
theorem dX6_decision_19 : decode cX6_decision 19 = .ok (.iload_n 1, 1) := by decide +kernel
theorem dX6_decision_20 : decode cX6_decision 20 = .ok (.invokevirtual 120, 3) := by decide +kernel
theorem dX6_decision_23 : decode cX6_decision 23 = .ok (.iload 4, 2) := by decide +kernel
theorem dX6_decision_25 : decode cX6_decision 25 = .ok (.if_icmp .ge 19, 3) := by decide +kernel
theorem dX6_decision_28 : decode cX6_decision 28 = .ok (.aload_n 0, 1) := by decide +kernel
theorem dX6_decision_29 : decode cX6_decision 29 = .ok (.getfield 26, 3) := by decide +kernel
theorem dX6_decision_32 : decode cX6_decision 32 = .ok (.iload_n 1, 1) := by decide +kernel
theorem dX6_decision_33 : decode cX6_decision 33 = .ok (.iload_n 3, 1) := by decide +kernel
theorem dX6_decision_34 : decode cX6_decision 34 = .ok (.invokevirtual 251, 3) := by decide +kernel
theorem dX6_decision_37 : decode cX6_decision 37 = .ok (.iload 4, 2) := by decide +kernel
theorem dX6_decision_39 : decode cX6_decision 39 = .ok (.iconst 1, 1) := by decide +kernel
theorem dX6_decision_40 : decode cX6_decision 40 = .ok (.isub, 1) := by decide +kernel
theorem dX6_decision_41 : decode cX6_decision 41 = .ok (.if_icmp .lt 5, 3) := by decide +kernel
theorem dX6_decision_44 : decode cX6_decision 44 = .ok (.iconst 0, 1) := by decide +kernel
theorem dX6_decision_45 : decode cX6_decision 45 = .ok (.ireturn, 1) := by decide +kernel
theorem dX6_decision_46 : decode cX6_decision 46 = .ok (.aload_n 0, 1) := by decide +kernel
theorem dX6_decision_47 : decode cX6_decision 47 = .ok (.getfield 26, 3) := by decide +kernel
theorem dX6_decision_50 : decode cX6_decision 50 = .ok (.iload_n 1, 1) := by decide +kernel
theorem dX6_decision_51 : decode cX6_decision 51 = .ok (.aload_n 0, 1) := by decide +kernel
theorem dX6_decision_52 : decode cX6_decision 52 = .ok (.getfield 26, 3) := by decide +kernel
theorem dX6_decision_55 : decode cX6_decision 55 = .ok (.iload_n 3, 1) := by decide +kernel
theorem dX6_decision_56 : decode cX6_decision 56 = .ok (.invokevirtual 254, 3) := by decide +kernel
theorem dX6_decision_59 : decode cX6_decision 59 = .ok (.invokevirtual 251, 3) := by decide +kernel
theorem dX6_decision_62 : decode cX6_decision 62 = .ok (.iload 4, 2) := by decide +kernel
theorem dX6_decision_64 : decode cX6_decision 64 = .ok (.iconst 1, 1) := by decide +kernel
theorem dX6_decision_65 : decode cX6_decision 65 = .ok (.iadd, 1) := by decide +kernel
theorem dX6_decision_66 : decode cX6_decision 66 = .ok (.if_icmp .lt 5, 3) := by decide +kernel
theorem dX6_decision_69 : decode cX6_decision 69 = .ok (.iconst 1, 1) := by decide +kernel
theorem dX6_decision_70 : decode cX6_decision 70 = .ok (.ireturn, 1) := by decide +kernel
theorem dX6_decision_71 : decode cX6_decision 71 = .ok (.iconst 2, 1) := by decide +kernel
theorem dX6_decision_72 : decode cX6_decision 72 = .ok (.ireturn, 1) := by decide +kernel
set_option maxRecDepth 20000 in
theorem ggX6_lengthOfRoute_X6_decision : GoodIn wsX6_lengthOfRoute wsX6_decision := goodIn_r _ [5, 6, 7, 8, 9, 10, 11, 12, 13, 14, 15, 16, 17, 18, 19, 20, 4, 21, 22, 23, 24, 25, 26, 27, 28, 29, 30, 31, 32, 33, 34, 35, 36, 37, 38, 39, 40, 41, 42, 43, 44, 45, 46, 47, 48, 49, 50] (by decide +kernel) (by decide +kernel)
set_option maxRecDepth 20000 in
theorem gX6_lengthOfRoute_X6_decision : GoodIn wsX6_lengthOfRoute (wsV RX6 132 RX6 yX6_decision wsX6_decision) := goodIn_app (goodIn_of _ (by decide +kernel)) ggX6_lengthOfRoute_X6_decision
set_option maxRecDepth 20000 in
theorem ggX6_lengthOfRoute_J6_bitCount_0f7a4 : GoodIn wsX6_lengthOfRoute wsJ6_bitCount_0f7a4 := goodIn_r _ [10, 11, 12, 13] (by decide +kernel) (by decide +kernel)
set_option maxRecDepth 20000 in
theorem gX6_lengthOfRoute_J6_bitCount_0f7a4 : GoodIn wsX6_lengthOfRoute (va_wsS RX6 107 yJ6_bitCount_0f7a4 wsJ6_bitCount_0f7a4) := goodIn_app (goodIn_of _ (by decide +kernel)) ggX6_lengthOfRoute_J6_bitCount_0f7a4
theorem dX6_lengthOfRoute_0 : decode cX6_lengthOfRoute 0 = .ok (.aload_n 0, 1) := by decide +kernel
theorem dX6_lengthOfRoute_1 : decode cX6_lengthOfRoute 1 = .ok (.iload_n 1, 1) := by decide +kernel
theorem dX6_lengthOfRoute_2 : decode cX6_lengthOfRoute 2 = .ok (.iload_n 2, 1) := by decide +kernel
theorem dX6_lengthOfRoute_3 : decode cX6_lengthOfRoute 3 = .ok (.invokevirtual 132, 3) := by decide +kernel
theorem dX6_lengthOfRoute_6 : decode cX6_lengthOfRoute 6 = .ok (.istore_n 3, 1) := by decide +kernel
theorem dX6_lengthOfRoute_7 : decode cX6_lengthOfRoute 7 = .ok (.iload_n 3, 1) := by decide +kernel
theorem dX6_lengthOfRoute_8 : decode cX6_lengthOfRoute 8 = .ok (.iconst 2, 1) := by decide +kernel
theorem dX6_lengthOfRoute_9 : decode cX6_lengthOfRoute 9 = .ok (.if_icmp .ne 5, 3) := by decide +kernel
theorem dX6_lengthOfRoute_12 : decode cX6_lengthOfRoute 12 = .ok (.iconst (-1), 1) := by decide +kernel
theorem dX6_lengthOfRoute_13 : decode cX6_lengthOfRoute 13 = .ok (.ireturn, 1) := by decide +kernel
theorem dX6_lengthOfRoute_14 : decode cX6_lengthOfRoute 14 = .ok (.iload_n 1, 1) := by decide +kernel
theorem dX6_lengthOfRoute_15 : decode cX6_lengthOfRoute 15 = .ok (.iload_n 2, 1) := by decide +kernel
theorem dX6_lengthOfRoute_16 : decode cX6_lengthOfRoute 16 = .ok (.ixor, 1) := by decide +kernel
theorem dX6_lengthOfRoute_17 : decode cX6_lengthOfRoute 17 = .ok (.invokestatic 107, 3) := by decide +kernel
theorem dX6_lengthOfRoute_20 : decode cX6_lengthOfRoute 20 = .ok (.istore 4, 2) := by decide +kernel
theorem dX6_lengthOfRoute_22 : decode cX6_lengthOfRoute 22 = .ok (.iload_n 3, 1) := by decide +kernel
theorem dX6_lengthOfRoute_23 : decode cX6_lengthOfRoute 23 = .ok (.iconst 1, 1) := by decide +kernel
theorem dX6_lengthOfRoute_24 : decode cX6_lengthOfRoute 24 = .ok (.if_icmp .ne 10, 3) := by decide +kernel
theorem dX6_lengthOfRoute_27 : decode cX6_lengthOfRoute 27 = .ok (.iload 4, 2) := by decide +kernel
theorem dX6_lengthOfRoute_29 : decode cX6_lengthOfRoute 29 = .ok (.iconst 2, 1) := by decide +kernel
theorem dX6_lengthOfRoute_30 : decode cX6_lengthOfRoute 30 = .ok (.iadd, 1) := by decide +kernel
theorem dX6_lengthOfRoute_31 : decode cX6_lengthOfRoute 31 = .ok (.goto 5, 3) := by decide +kernel
theorem dX6_lengthOfRoute_34 : decode cX6_lengthOfRoute 34 = .ok (.iload 4, 2) := by decide +kernel
theorem dX6_lengthOfRoute_36 : decode cX6_lengthOfRoute 36 = .ok (.ireturn, 1) := by decide +kernel
set_option maxRecDepth 20000 in
theorem ggX6_nodeOfRoute_X6_decision : GoodIn wsX6_nodeOfRoute wsX6_decision := goodIn_r _ [6, 1, 7, 8, 9, 10, 11, 12, 13, 14, 15, 16, 17, 18, 19, 20, 5, 21, 22, 23, 24, 25, 26, 27, 28, 29, 30, 31, 32, 33, 34, 35, 36, 37, 38, 39, 42, 43, 44, 45, 46, 47, 48, 49, 50, 51, 52] (by decide +kernel) (by decide +kernel)
set_option maxRecDepth 20000 in
theorem gX6_nodeOfRoute_X6_decision : GoodIn wsX6_nodeOfRoute (wsV RX6 132 RX6 yX6_decision wsX6_decision) := goodIn_app (goodIn_of _ (by decide +kernel)) ggX6_nodeOfRoute_X6_decision
set_option maxRecDepth 20000 in
theorem ggX6_nodeOfRoute_X2_spareOf : GoodIn wsX6_nodeOfRoute wsX2_spareOf := goodIn_r _ [39, 30, 48, 49, 50, 51, 52] (by decide +kernel) (by decide +kernel)
set_option maxRecDepth 20000 in
theorem gX6_nodeOfRoute_X2_spareOf : GoodIn wsX6_nodeOfRoute (wsV RX6 254 RX2 yX2_spareOf wsX2_spareOf) := goodIn_app (goodIn_of _ (by decide +kernel)) ggX6_nodeOfRoute_X2_spareOf
set_option maxRecDepth 20000 in
theorem ggX6_nodeOfRoute_X2_bestDimension : GoodIn wsX6_nodeOfRoute wsX2_bestDimension := goodIn_r _ [29, 30, 31, 5, 32, 33, 34, 35, 15, 16, 17, 18, 19, 20, 21, 48, 49, 50, 51, 52] (by decide +kernel) (by decide +kernel)
set_option maxRecDepth 20000 in
theorem gX6_nodeOfRoute_X2_bestDimension : GoodIn wsX6_nodeOfRoute (wsV RX6 257 RX2 yX2_bestDimension wsX2_bestDimension) := goodIn_app (goodIn_of _ (by decide +kernel)) ggX6_nodeOfRoute_X2_bestDimension
set_option maxRecDepth 20000 in
theorem ggX6_nodeOfRoute_X6_neighbour : GoodIn wsX6_nodeOfRoute wsX6_neighbour := goodIn_r _ [34] (by decide +kernel) (by decide +kernel)
set_option maxRecDepth 20000 in
theorem gX6_nodeOfRoute_X6_neighbour : GoodIn wsX6_nodeOfRoute (va_wsS RX6 260 yX6_neighbour wsX6_neighbour) := goodIn_app (goodIn_of _ (by decide +kernel)) ggX6_nodeOfRoute_X6_neighbour
theorem dX6_nodeOfRoute_0 : decode cX6_nodeOfRoute 0 = .ok (.aload_n 0, 1) := by decide +kernel
theorem dX6_nodeOfRoute_1 : decode cX6_nodeOfRoute 1 = .ok (.iload_n 1, 1) := by decide +kernel
theorem dX6_nodeOfRoute_2 : decode cX6_nodeOfRoute 2 = .ok (.iload_n 2, 1) := by decide +kernel
theorem dX6_nodeOfRoute_3 : decode cX6_nodeOfRoute 3 = .ok (.invokevirtual 132, 3) := by decide +kernel
theorem dX6_nodeOfRoute_6 : decode cX6_nodeOfRoute 6 = .ok (.iconst 1, 1) := by decide +kernel
theorem dX6_nodeOfRoute_7 : decode cX6_nodeOfRoute 7 = .ok (.if_icmp .ne 7, 3) := by decide +kernel
theorem dX6_nodeOfRoute_10 : decode cX6_nodeOfRoute 10 = .ok (.iconst 1, 1) := by decide +kernel
theorem dX6_nodeOfRoute_11 : decode cX6_nodeOfRoute 11 = .ok (.goto 4, 3) := by decide +kernel
theorem dX6_nodeOfRoute_14 : decode cX6_nodeOfRoute 14 = .ok (.iconst 0, 1) := by decide +kernel
theorem dX6_nodeOfRoute_15 : decode cX6_nodeOfRoute 15 = .ok (.istore 4, 2) := by decide +kernel
theorem dX6_nodeOfRoute_17 : decode cX6_nodeOfRoute 17 = .ok (.iload_n 1, 1) := by decide +kernel
theorem dX6_nodeOfRoute_18 : decode cX6_nodeOfRoute 18 = .ok (.istore 5, 2) := by decide +kernel
theorem dX6_nodeOfRoute_20 : decode cX6_nodeOfRoute 20 = .ok (.iconst 0, 1) := by decide +kernel
theorem dX6_nodeOfRoute_21 : decode cX6_nodeOfRoute 21 = .ok (.istore 6, 2) := by decide +kernel
theorem dX6_nodeOfRoute_23 : decode cX6_nodeOfRoute 23 = .ok (.iload 6, 2) := by decide +kernel
theorem dX6_nodeOfRoute_25 : decode cX6_nodeOfRoute 25 = .ok (.iload_n 3, 1) := by decide +kernel
theorem dX6_nodeOfRoute_26 : decode cX6_nodeOfRoute 26 = .ok (.if_icmp .ge 59, 3) := by decide +kernel
theorem dX6_nodeOfRoute_29 : decode cX6_nodeOfRoute 29 = .ok (.iload 5, 2) := by decide +kernel
theorem dX6_nodeOfRoute_31 : decode cX6_nodeOfRoute 31 = .ok (.iload_n 2, 1) := by decide +kernel
theorem dX6_nodeOfRoute_32 : decode cX6_nodeOfRoute 32 = .ok (.ixor, 1) := by decide +kernel
theorem dX6_nodeOfRoute_33 : decode cX6_nodeOfRoute 33 = .ok (.istore 7, 2) := by decide +kernel
theorem dX6_nodeOfRoute_35 : decode cX6_nodeOfRoute 35 = .ok (.iload 4, 2) := by decide +kernel
theorem dX6_nodeOfRoute_37 : decode cX6_nodeOfRoute 37 = .ok (.ifCond .eq 20, 3) := by decide +kernel
theorem dX6_nodeOfRoute_40 : decode cX6_nodeOfRoute 40 = .ok (.iload 6, 2) := by decide +kernel
theorem dX6_nodeOfRoute_42 : decode cX6_nodeOfRoute 42 = .ok (.ifCond .ne 15, 3) := by decide +kernel
theorem dX6_nodeOfRoute_45 : decode cX6_nodeOfRoute 45 = .ok (.aload_n 0, 1) := by decide +kernel
theorem dX6_nodeOfRoute_46 : decode cX6_nodeOfRoute 46 = .ok (.getfield 26, 3) := by decide +kernel
theorem dX6_nodeOfRoute_49 : decode cX6_nodeOfRoute 49 = .ok (.iload 7, 2) := by decide +kernel
theorem dX6_nodeOfRoute_51 : decode cX6_nodeOfRoute 51 = .ok (.invokevirtual 254, 3) := by decide +kernel
theorem dX6_nodeOfRoute_54 : decode cX6_nodeOfRoute 54 = .ok (.goto 5, 3) := by decide +kernel
theorem dX6_nodeOfRoute_57 : decode cX6_nodeOfRoute 57 = .ok (.iload 7, 2) := by decide +kernel
theorem dX6_nodeOfRoute_59 : decode cX6_nodeOfRoute 59 = .ok (.istore 8, 2) := by decide +kernel
theorem dX6_nodeOfRoute_61 : decode cX6_nodeOfRoute 61 = .ok (.iload 5, 2) := by decide +kernel
theorem dX6_nodeOfRoute_63 : decode cX6_nodeOfRoute 63 = .ok (.aload_n 0, 1) := by decide +kernel
theorem dX6_nodeOfRoute_64 : decode cX6_nodeOfRoute 64 = .ok (.getfield 26, 3) := by decide +kernel
theorem dX6_nodeOfRoute_67 : decode cX6_nodeOfRoute 67 = .ok (.iload 5, 2) := by decide +kernel
theorem dX6_nodeOfRoute_69 : decode cX6_nodeOfRoute 69 = .ok (.iload 8, 2) := by decide +kernel
theorem dX6_nodeOfRoute_71 : decode cX6_nodeOfRoute 71 = .ok (.invokevirtual 257, 3) := by decide +kernel
theorem dX6_nodeOfRoute_74 : decode cX6_nodeOfRoute 74 = .ok (.invokestatic 260, 3) := by decide +kernel
theorem dX6_nodeOfRoute_77 : decode cX6_nodeOfRoute 77 = .ok (.istore 5, 2) := by decide +kernel
theorem dX6_nodeOfRoute_79 : decode cX6_nodeOfRoute 79 = .ok (.iinc 6 1, 3) := by decide +kernel
theorem dX6_nodeOfRoute_82 : decode cX6_nodeOfRoute 82 = .ok (.goto (-59), 3) := by decide +kernel
theorem dX6_nodeOfRoute_85 : decode cX6_nodeOfRoute 85 = .ok (.iload 5, 2) := by decide +kernel
theorem dX6_nodeOfRoute_87 : decode cX6_nodeOfRoute 87 = .ok (.ireturn, 1) := by decide +kernel
set_option maxRecDepth 20000 in
theorem ggX6_freeBases_X6_hasBit : GoodIn wsX6_freeBases wsX6_hasBit := goodIn_r _ [5] (by decide +kernel) (by decide +kernel)
set_option maxRecDepth 20000 in
theorem gX6_freeBases_X6_hasBit : GoodIn wsX6_freeBases (va_wsS RX6 263 yX6_hasBit wsX6_hasBit) := goodIn_app (goodIn_of _ (by decide +kernel)) ggX6_freeBases_X6_hasBit
set_option maxRecDepth 20000 in
theorem ggX6_freeBases_X6_lowNodes : GoodIn wsX6_freeBases wsX6_lowNodes := goodIn_r _ [8, 9] (by decide +kernel) (by decide +kernel)
set_option maxRecDepth 20000 in
theorem gX6_freeBases_X6_lowNodes : GoodIn wsX6_freeBases (va_wsS RX6 267 yX6_lowNodes wsX6_lowNodes) := goodIn_app (goodIn_of _ (by decide +kernel)) ggX6_freeBases_X6_lowNodes
theorem dX6_freeBases_0 : decode cX6_freeBases 0 = .ok (.aload_n 0, 1) := by decide +kernel
theorem dX6_freeBases_1 : decode cX6_freeBases 1 = .ok (.getfield 10, 3) := by decide +kernel
theorem dX6_freeBases_4 : decode cX6_freeBases 4 = .ok (.getfield 83, 3) := by decide +kernel
theorem dX6_freeBases_7 : decode cX6_freeBases 7 = .ok (.lstore_n 2, 1) := by decide +kernel
theorem dX6_freeBases_8 : decode cX6_freeBases 8 = .ok (.iconst 0, 1) := by decide +kernel
theorem dX6_freeBases_9 : decode cX6_freeBases 9 = .ok (.istore 4, 2) := by decide +kernel
theorem dX6_freeBases_11 : decode cX6_freeBases 11 = .ok (.iload 4, 2) := by decide +kernel
theorem dX6_freeBases_13 : decode cX6_freeBases 13 = .ok (.aload_n 0, 1) := by decide +kernel
theorem dX6_freeBases_14 : decode cX6_freeBases 14 = .ok (.getfield 10, 3) := by decide +kernel
theorem dX6_freeBases_17 : decode cX6_freeBases 17 = .ok (.getfield 65, 3) := by decide +kernel
theorem dX6_freeBases_20 : decode cX6_freeBases 20 = .ok (.if_icmp .ge 33, 3) := by decide +kernel
theorem dX6_freeBases_23 : decode cX6_freeBases 23 = .ok (.iload_n 1, 1) := by decide +kernel
theorem dX6_freeBases_24 : decode cX6_freeBases 24 = .ok (.iload 4, 2) := by decide +kernel
theorem dX6_freeBases_26 : decode cX6_freeBases 26 = .ok (.invokestatic 263, 3) := by decide +kernel
theorem dX6_freeBases_29 : decode cX6_freeBases 29 = .ok (.ifCond .eq 18, 3) := by decide +kernel
theorem dX6_freeBases_32 : decode cX6_freeBases 32 = .ok (.lload_n 2, 1) := by decide +kernel
theorem dX6_freeBases_33 : decode cX6_freeBases 33 = .ok (.lload_n 2, 1) := by decide +kernel
theorem dX6_freeBases_34 : decode cX6_freeBases 34 = .ok (.iconst 1, 1) := by decide +kernel
theorem dX6_freeBases_35 : decode cX6_freeBases 35 = .ok (.iload 4, 2) := by decide +kernel
theorem dX6_freeBases_37 : decode cX6_freeBases 37 = .ok (.ishl, 1) := by decide +kernel
theorem dX6_freeBases_38 : decode cX6_freeBases 38 = .ok (.lushr, 1) := by decide +kernel
theorem dX6_freeBases_39 : decode cX6_freeBases 39 = .ok (.iload 4, 2) := by decide +kernel
theorem dX6_freeBases_41 : decode cX6_freeBases 41 = .ok (.invokestatic 267, 3) := by decide +kernel
theorem dX6_freeBases_44 : decode cX6_freeBases 44 = .ok (.land, 1) := by decide +kernel
theorem dX6_freeBases_45 : decode cX6_freeBases 45 = .ok (.land, 1) := by decide +kernel
theorem dX6_freeBases_46 : decode cX6_freeBases 46 = .ok (.lstore_n 2, 1) := by decide +kernel
theorem dX6_freeBases_47 : decode cX6_freeBases 47 = .ok (.iinc 4 1, 3) := by decide +kernel
theorem dX6_freeBases_50 : decode cX6_freeBases 50 = .ok (.goto (-39), 3) := by decide +kernel
theorem dX6_freeBases_53 : decode cX6_freeBases 53 = .ok (.lload_n 2, 1) := by decide +kernel
theorem dX6_freeBases_54 : decode cX6_freeBases 54 = .ok (.lreturn, 1) := by decide +kernel
theorem dX6_hasBit_0 : decode cX6_hasBit 0 = .ok (.iload_n 0, 1) := by decide +kernel
theorem dX6_hasBit_1 : decode cX6_hasBit 1 = .ok (.iload_n 1, 1) := by decide +kernel
theorem dX6_hasBit_2 : decode cX6_hasBit 2 = .ok (.iushr, 1) := by decide +kernel
theorem dX6_hasBit_3 : decode cX6_hasBit 3 = .ok (.iconst 1, 1) := by decide +kernel
theorem dX6_hasBit_4 : decode cX6_hasBit 4 = .ok (.iand, 1) := by decide +kernel
theorem dX6_hasBit_5 : decode cX6_hasBit 5 = .ok (.iconst 1, 1) := by decide +kernel
theorem dX6_hasBit_6 : decode cX6_hasBit 6 = .ok (.if_icmp .ne 7, 3) := by decide +kernel
theorem dX6_hasBit_9 : decode cX6_hasBit 9 = .ok (.iconst 1, 1) := by decide +kernel
theorem dX6_hasBit_10 : decode cX6_hasBit 10 = .ok (.goto 4, 3) := by decide +kernel
theorem dX6_hasBit_13 : decode cX6_hasBit 13 = .ok (.iconst 0, 1) := by decide +kernel
theorem dX6_hasBit_14 : decode cX6_hasBit 14 = .ok (.ireturn, 1) := by decide +kernel
theorem dX6_contains_0 : decode cX6_contains 0 = .ok (.lload_n 0, 1) := by decide +kernel
theorem dX6_contains_1 : decode cX6_contains 1 = .ok (.iload_n 2, 1) := by decide +kernel
theorem dX6_contains_2 : decode cX6_contains 2 = .ok (.lushr, 1) := by decide +kernel
theorem dX6_contains_3 : decode cX6_contains 3 = .ok (.lconst 1, 1) := by decide +kernel
theorem dX6_contains_4 : decode cX6_contains 4 = .ok (.land, 1) := by decide +kernel
theorem dX6_contains_5 : decode cX6_contains 5 = .ok (.lconst 1, 1) := by decide +kernel
theorem dX6_contains_6 : decode cX6_contains 6 = .ok (.lcmp, 1) := by decide +kernel
theorem dX6_contains_7 : decode cX6_contains 7 = .ok (.ifCond .ne 7, 3) := by decide +kernel
theorem dX6_contains_10 : decode cX6_contains 10 = .ok (.iconst 1, 1) := by decide +kernel
theorem dX6_contains_11 : decode cX6_contains 11 = .ok (.goto 4, 3) := by decide +kernel
theorem dX6_contains_14 : decode cX6_contains 14 = .ok (.iconst 0, 1) := by decide +kernel
theorem dX6_contains_15 : decode cX6_contains 15 = .ok (.ireturn, 1) := by decide +kernel
theorem dX6_neighbour_0 : decode cX6_neighbour 0 = .ok (.iload_n 0, 1) := by decide +kernel
theorem dX6_neighbour_1 : decode cX6_neighbour 1 = .ok (.iconst 1, 1) := by decide +kernel
theorem dX6_neighbour_2 : decode cX6_neighbour 2 = .ok (.iload_n 1, 1) := by decide +kernel
theorem dX6_neighbour_3 : decode cX6_neighbour 3 = .ok (.ishl, 1) := by decide +kernel
theorem dX6_neighbour_4 : decode cX6_neighbour 4 = .ok (.ixor, 1) := by decide +kernel
theorem dX6_neighbour_5 : decode cX6_neighbour 5 = .ok (.ireturn, 1) := by decide +kernel
theorem dX6_lowNodes_0 : decode cX6_lowNodes 0 = .ok (.iload_n 0, 1) := by decide +kernel
theorem dX6_lowNodes_1 : decode cX6_lowNodes 1 = .ok (.ifCond .lt 19, 3) := by decide +kernel
theorem dX6_lowNodes_4 : decode cX6_lowNodes 4 = .ok (.iload_n 0, 1) := by decide +kernel
theorem dX6_lowNodes_5 : decode cX6_lowNodes 5 = .ok (.getstatic 270, 3) := by decide +kernel
theorem dX6_lowNodes_8 : decode cX6_lowNodes 8 = .ok (.arraylength, 1) := by decide +kernel
theorem dX6_lowNodes_9 : decode cX6_lowNodes 9 = .ok (.if_icmp .ge 11, 3) := by decide +kernel
theorem dX6_lowNodes_12 : decode cX6_lowNodes 12 = .ok (.getstatic 270, 3) := by decide +kernel
theorem dX6_lowNodes_15 : decode cX6_lowNodes 15 = .ok (.iload_n 0, 1) := by decide +kernel
theorem dX6_lowNodes_16 : decode cX6_lowNodes 16 = .ok (.laload, 1) := by decide +kernel
theorem dX6_lowNodes_17 : decode cX6_lowNodes 17 = .ok (.goto 4, 3) := by decide +kernel
theorem dX6_lowNodes_20 : decode cX6_lowNodes 20 = .ok (.lconst 0, 1) := by decide +kernel
theorem dX6_lowNodes_21 : decode cX6_lowNodes 21 = .ok (.lreturn, 1) := by decide +kernel
set_option maxRecDepth 20000 in
theorem ggX6_leastNode_J13_bitCount_95d88 : GoodIn wsX6_leastNode wsJ13_bitCount_95d88 := goodIn_r _ [4, 5, 6, 7] (by decide +kernel) (by decide +kernel)
set_option maxRecDepth 20000 in
theorem gX6_leastNode_J13_bitCount_95d88 : GoodIn wsX6_leastNode (va_wsS RX6 100 yJ13_bitCount_95d88 wsJ13_bitCount_95d88) := goodIn_app (goodIn_of _ (by decide +kernel)) ggX6_leastNode_J13_bitCount_95d88
theorem dX6_leastNode_0 : decode cX6_leastNode 0 = .ok (.lload_n 0, 1) := by decide +kernel
theorem dX6_leastNode_1 : decode cX6_leastNode 1 = .ok (.lload_n 0, 1) := by decide +kernel
theorem dX6_leastNode_2 : decode cX6_leastNode 2 = .ok (.lneg, 1) := by decide +kernel
theorem dX6_leastNode_3 : decode cX6_leastNode 3 = .ok (.land, 1) := by decide +kernel
theorem dX6_leastNode_4 : decode cX6_leastNode 4 = .ok (.lconst 1, 1) := by decide +kernel
theorem dX6_leastNode_5 : decode cX6_leastNode 5 = .ok (.lsub, 1) := by decide +kernel
theorem dX6_leastNode_6 : decode cX6_leastNode 6 = .ok (.invokestatic 100, 3) := by decide +kernel
theorem dX6_leastNode_9 : decode cX6_leastNode 9 = .ok (.ireturn, 1) := by decide +kernel
set_option maxRecDepth 20000 in
theorem ggX6_neighboursOfSet_X6_lowNodes : GoodIn wsX6_neighboursOfSet wsX6_lowNodes := goodIn_r _ [4, 5] (by decide +kernel) (by decide +kernel)
set_option maxRecDepth 20000 in
theorem gX6_neighboursOfSet_X6_lowNodes : GoodIn wsX6_neighboursOfSet (va_wsS RX6 267 yX6_lowNodes wsX6_lowNodes) := goodIn_app (goodIn_of _ (by decide +kernel)) ggX6_neighboursOfSet_X6_lowNodes
theorem dX6_neighboursOfSet_0 : decode cX6_neighboursOfSet 0 = .ok (.lconst 0, 1) := by decide +kernel
theorem dX6_neighboursOfSet_1 : decode cX6_neighboursOfSet 1 = .ok (.lstore_n 3, 1) := by decide +kernel
theorem dX6_neighboursOfSet_2 : decode cX6_neighboursOfSet 2 = .ok (.iconst 0, 1) := by decide +kernel
theorem dX6_neighboursOfSet_3 : decode cX6_neighboursOfSet 3 = .ok (.istore 5, 2) := by decide +kernel
theorem dX6_neighboursOfSet_5 : decode cX6_neighboursOfSet 5 = .ok (.iload 5, 2) := by decide +kernel
theorem dX6_neighboursOfSet_7 : decode cX6_neighboursOfSet 7 = .ok (.iload_n 2, 1) := by decide +kernel
theorem dX6_neighboursOfSet_8 : decode cX6_neighboursOfSet 8 = .ok (.if_icmp .ge 40, 3) := by decide +kernel
theorem dX6_neighboursOfSet_11 : decode cX6_neighboursOfSet 11 = .ok (.iload 5, 2) := by decide +kernel
theorem dX6_neighboursOfSet_13 : decode cX6_neighboursOfSet 13 = .ok (.invokestatic 267, 3) := by decide +kernel
theorem dX6_neighboursOfSet_16 : decode cX6_neighboursOfSet 16 = .ok (.lstore 6, 2) := by decide +kernel
theorem dX6_neighboursOfSet_18 : decode cX6_neighboursOfSet 18 = .ok (.lload_n 3, 1) := by decide +kernel
theorem dX6_neighboursOfSet_19 : decode cX6_neighboursOfSet 19 = .ok (.lload_n 0, 1) := by decide +kernel
theorem dX6_neighboursOfSet_20 : decode cX6_neighboursOfSet 20 = .ok (.lload 6, 2) := by decide +kernel
theorem dX6_neighboursOfSet_22 : decode cX6_neighboursOfSet 22 = .ok (.land, 1) := by decide +kernel
theorem dX6_neighboursOfSet_23 : decode cX6_neighboursOfSet 23 = .ok (.iconst 1, 1) := by decide +kernel
theorem dX6_neighboursOfSet_24 : decode cX6_neighboursOfSet 24 = .ok (.iload 5, 2) := by decide +kernel
theorem dX6_neighboursOfSet_26 : decode cX6_neighboursOfSet 26 = .ok (.ishl, 1) := by decide +kernel
theorem dX6_neighboursOfSet_27 : decode cX6_neighboursOfSet 27 = .ok (.lshl, 1) := by decide +kernel
theorem dX6_neighboursOfSet_28 : decode cX6_neighboursOfSet 28 = .ok (.lor, 1) := by decide +kernel
theorem dX6_neighboursOfSet_29 : decode cX6_neighboursOfSet 29 = .ok (.lstore_n 3, 1) := by decide +kernel
theorem dX6_neighboursOfSet_30 : decode cX6_neighboursOfSet 30 = .ok (.lload_n 3, 1) := by decide +kernel
theorem dX6_neighboursOfSet_31 : decode cX6_neighboursOfSet 31 = .ok (.lload_n 0, 1) := by decide +kernel
theorem dX6_neighboursOfSet_32 : decode cX6_neighboursOfSet 32 = .ok (.iconst 1, 1) := by decide +kernel
theorem dX6_neighboursOfSet_33 : decode cX6_neighboursOfSet 33 = .ok (.iload 5, 2) := by decide +kernel
theorem dX6_neighboursOfSet_35 : decode cX6_neighboursOfSet 35 = .ok (.ishl, 1) := by decide +kernel
theorem dX6_neighboursOfSet_36 : decode cX6_neighboursOfSet 36 = .ok (.lushr, 1) := by decide +kernel
theorem dX6_neighboursOfSet_37 : decode cX6_neighboursOfSet 37 = .ok (.lload 6, 2) := by decide +kernel
theorem dX6_neighboursOfSet_39 : decode cX6_neighboursOfSet 39 = .ok (.land, 1) := by decide +kernel
theorem dX6_neighboursOfSet_40 : decode cX6_neighboursOfSet 40 = .ok (.lor, 1) := by decide +kernel
theorem dX6_neighboursOfSet_41 : decode cX6_neighboursOfSet 41 = .ok (.lstore_n 3, 1) := by decide +kernel
theorem dX6_neighboursOfSet_42 : decode cX6_neighboursOfSet 42 = .ok (.iinc 5 1, 3) := by decide +kernel
theorem dX6_neighboursOfSet_45 : decode cX6_neighboursOfSet 45 = .ok (.goto (-40), 3) := by decide +kernel
theorem dX6_neighboursOfSet_48 : decode cX6_neighboursOfSet 48 = .ok (.lload_n 3, 1) := by decide +kernel
theorem dX6_neighboursOfSet_49 : decode cX6_neighboursOfSet 49 = .ok (.lreturn, 1) := by decide +kernel
theorem dX6_read_0 : decode cX6_read 0 = .ok (.iload_n 1, 1) := by decide +kernel
theorem dX6_read_1 : decode cX6_read 1 = .ok (.ifCond .lt 15, 3) := by decide +kernel
theorem dX6_read_4 : decode cX6_read 4 = .ok (.iload_n 1, 1) := by decide +kernel
theorem dX6_read_5 : decode cX6_read 5 = .ok (.aload_n 0, 1) := by decide +kernel
theorem dX6_read_6 : decode cX6_read 6 = .ok (.arraylength, 1) := by decide +kernel
theorem dX6_read_7 : decode cX6_read 7 = .ok (.if_icmp .ge 9, 3) := by decide +kernel
theorem dX6_read_10 : decode cX6_read 10 = .ok (.aload_n 0, 1) := by decide +kernel
theorem dX6_read_11 : decode cX6_read 11 = .ok (.iload_n 1, 1) := by decide +kernel
theorem dX6_read_12 : decode cX6_read 12 = .ok (.iaload, 1) := by decide +kernel
theorem dX6_read_13 : decode cX6_read 13 = .ok (.goto 4, 3) := by decide +kernel
theorem dX6_read_16 : decode cX6_read 16 = .ok (.iconst 0, 1) := by decide +kernel
theorem dX6_read_17 : decode cX6_read 17 = .ok (.ireturn, 1) := by decide +kernel
theorem dX6_write_0 : decode cX6_write 0 = .ok (.iload_n 1, 1) := by decide +kernel
theorem dX6_write_1 : decode cX6_write 1 = .ok (.ifCond .lt 13, 3) := by decide +kernel
theorem dX6_write_4 : decode cX6_write 4 = .ok (.iload_n 1, 1) := by decide +kernel
theorem dX6_write_5 : decode cX6_write 5 = .ok (.aload_n 0, 1) := by decide +kernel
theorem dX6_write_6 : decode cX6_write 6 = .ok (.arraylength, 1) := by decide +kernel
theorem dX6_write_7 : decode cX6_write 7 = .ok (.if_icmp .ge 7, 3) := by decide +kernel
theorem dX6_write_10 : decode cX6_write 10 = .ok (.aload_n 0, 1) := by decide +kernel
theorem dX6_write_11 : decode cX6_write 11 = .ok (.iload_n 1, 1) := by decide +kernel
theorem dX6_write_12 : decode cX6_write 12 = .ok (.iload_n 2, 1) := by decide +kernel
theorem dX6_write_13 : decode cX6_write 13 = .ok (.iastore, 1) := by decide +kernel
theorem dX6_write_14 : decode cX6_write 14 = .ok (.return_, 1) := by decide +kernel
theorem dJ6_bitCount_0f7a4_0 : decode cJ6_bitCount_0f7a4 0 = .ok (.iload_n 0, 1) := by decide +kernel
theorem dJ6_bitCount_0f7a4_1 : decode cJ6_bitCount_0f7a4 1 = .ok (.iload_n 0, 1) := by decide +kernel
theorem dJ6_bitCount_0f7a4_2 : decode cJ6_bitCount_0f7a4 2 = .ok (.iconst 1, 1) := by decide +kernel
theorem dJ6_bitCount_0f7a4_3 : decode cJ6_bitCount_0f7a4 3 = .ok (.iushr, 1) := by decide +kernel
theorem dJ6_bitCount_0f7a4_4 : decode cJ6_bitCount_0f7a4 4 = .ok (.ldc_w 265, 3) := by decide +kernel
theorem dJ6_bitCount_0f7a4_7 : decode cJ6_bitCount_0f7a4 7 = .ok (.iand, 1) := by decide +kernel
theorem dJ6_bitCount_0f7a4_8 : decode cJ6_bitCount_0f7a4 8 = .ok (.isub, 1) := by decide +kernel
theorem dJ6_bitCount_0f7a4_9 : decode cJ6_bitCount_0f7a4 9 = .ok (.istore_n 0, 1) := by decide +kernel
theorem dJ6_bitCount_0f7a4_10 : decode cJ6_bitCount_0f7a4 10 = .ok (.iload_n 0, 1) := by decide +kernel
theorem dJ6_bitCount_0f7a4_11 : decode cJ6_bitCount_0f7a4 11 = .ok (.ldc_w 266, 3) := by decide +kernel
theorem dJ6_bitCount_0f7a4_14 : decode cJ6_bitCount_0f7a4 14 = .ok (.iand, 1) := by decide +kernel
theorem dJ6_bitCount_0f7a4_15 : decode cJ6_bitCount_0f7a4 15 = .ok (.iload_n 0, 1) := by decide +kernel
theorem dJ6_bitCount_0f7a4_16 : decode cJ6_bitCount_0f7a4 16 = .ok (.iconst 2, 1) := by decide +kernel
theorem dJ6_bitCount_0f7a4_17 : decode cJ6_bitCount_0f7a4 17 = .ok (.iushr, 1) := by decide +kernel
theorem dJ6_bitCount_0f7a4_18 : decode cJ6_bitCount_0f7a4 18 = .ok (.ldc_w 266, 3) := by decide +kernel
theorem dJ6_bitCount_0f7a4_21 : decode cJ6_bitCount_0f7a4 21 = .ok (.iand, 1) := by decide +kernel
theorem dJ6_bitCount_0f7a4_22 : decode cJ6_bitCount_0f7a4 22 = .ok (.iadd, 1) := by decide +kernel
theorem dJ6_bitCount_0f7a4_23 : decode cJ6_bitCount_0f7a4 23 = .ok (.istore_n 0, 1) := by decide +kernel
theorem dJ6_bitCount_0f7a4_24 : decode cJ6_bitCount_0f7a4 24 = .ok (.iload_n 0, 1) := by decide +kernel
theorem dJ6_bitCount_0f7a4_25 : decode cJ6_bitCount_0f7a4 25 = .ok (.iload_n 0, 1) := by decide +kernel
theorem dJ6_bitCount_0f7a4_26 : decode cJ6_bitCount_0f7a4 26 = .ok (.iconst 4, 1) := by decide +kernel
theorem dJ6_bitCount_0f7a4_27 : decode cJ6_bitCount_0f7a4 27 = .ok (.iushr, 1) := by decide +kernel
theorem dJ6_bitCount_0f7a4_28 : decode cJ6_bitCount_0f7a4 28 = .ok (.iadd, 1) := by decide +kernel
theorem dJ6_bitCount_0f7a4_29 : decode cJ6_bitCount_0f7a4 29 = .ok (.ldc_w 267, 3) := by decide +kernel
theorem dJ6_bitCount_0f7a4_32 : decode cJ6_bitCount_0f7a4 32 = .ok (.iand, 1) := by decide +kernel
theorem dJ6_bitCount_0f7a4_33 : decode cJ6_bitCount_0f7a4 33 = .ok (.istore_n 0, 1) := by decide +kernel
theorem dJ6_bitCount_0f7a4_34 : decode cJ6_bitCount_0f7a4 34 = .ok (.iload_n 0, 1) := by decide +kernel
theorem dJ6_bitCount_0f7a4_35 : decode cJ6_bitCount_0f7a4 35 = .ok (.iload_n 0, 1) := by decide +kernel
theorem dJ6_bitCount_0f7a4_36 : decode cJ6_bitCount_0f7a4 36 = .ok (.bipush 8, 2) := by decide +kernel
theorem dJ6_bitCount_0f7a4_38 : decode cJ6_bitCount_0f7a4 38 = .ok (.iushr, 1) := by decide +kernel
theorem dJ6_bitCount_0f7a4_39 : decode cJ6_bitCount_0f7a4 39 = .ok (.iadd, 1) := by decide +kernel
theorem dJ6_bitCount_0f7a4_40 : decode cJ6_bitCount_0f7a4 40 = .ok (.istore_n 0, 1) := by decide +kernel
theorem dJ6_bitCount_0f7a4_41 : decode cJ6_bitCount_0f7a4 41 = .ok (.iload_n 0, 1) := by decide +kernel
theorem dJ6_bitCount_0f7a4_42 : decode cJ6_bitCount_0f7a4 42 = .ok (.iload_n 0, 1) := by decide +kernel
theorem dJ6_bitCount_0f7a4_43 : decode cJ6_bitCount_0f7a4 43 = .ok (.bipush 16, 2) := by decide +kernel
theorem dJ6_bitCount_0f7a4_45 : decode cJ6_bitCount_0f7a4 45 = .ok (.iushr, 1) := by decide +kernel
theorem dJ6_bitCount_0f7a4_46 : decode cJ6_bitCount_0f7a4 46 = .ok (.iadd, 1) := by decide +kernel
theorem dJ6_bitCount_0f7a4_47 : decode cJ6_bitCount_0f7a4 47 = .ok (.istore_n 0, 1) := by decide +kernel
theorem dJ6_bitCount_0f7a4_48 : decode cJ6_bitCount_0f7a4 48 = .ok (.iload_n 0, 1) := by decide +kernel
theorem dJ6_bitCount_0f7a4_49 : decode cJ6_bitCount_0f7a4 49 = .ok (.bipush 63, 2) := by decide +kernel
theorem dJ6_bitCount_0f7a4_51 : decode cJ6_bitCount_0f7a4 51 = .ok (.iand, 1) := by decide +kernel
theorem dJ6_bitCount_0f7a4_52 : decode cJ6_bitCount_0f7a4 52 = .ok (.ireturn, 1) := by decide +kernel
theorem dJ13_bitCount_95d88_0 : decode cJ13_bitCount_95d88 0 = .ok (.lload_n 0, 1) := by decide +kernel
theorem dJ13_bitCount_95d88_1 : decode cJ13_bitCount_95d88 1 = .ok (.lload_n 0, 1) := by decide +kernel
theorem dJ13_bitCount_95d88_2 : decode cJ13_bitCount_95d88 2 = .ok (.iconst 1, 1) := by decide +kernel
theorem dJ13_bitCount_95d88_3 : decode cJ13_bitCount_95d88 3 = .ok (.lushr, 1) := by decide +kernel
theorem dJ13_bitCount_95d88_4 : decode cJ13_bitCount_95d88 4 = .ok (.ldc2_w 314, 3) := by decide +kernel
theorem dJ13_bitCount_95d88_7 : decode cJ13_bitCount_95d88 7 = .ok (.land, 1) := by decide +kernel
theorem dJ13_bitCount_95d88_8 : decode cJ13_bitCount_95d88 8 = .ok (.lsub, 1) := by decide +kernel
theorem dJ13_bitCount_95d88_9 : decode cJ13_bitCount_95d88 9 = .ok (.lstore_n 0, 1) := by decide +kernel
theorem dJ13_bitCount_95d88_10 : decode cJ13_bitCount_95d88 10 = .ok (.lload_n 0, 1) := by decide +kernel
theorem dJ13_bitCount_95d88_11 : decode cJ13_bitCount_95d88 11 = .ok (.ldc2_w 316, 3) := by decide +kernel
theorem dJ13_bitCount_95d88_14 : decode cJ13_bitCount_95d88 14 = .ok (.land, 1) := by decide +kernel
theorem dJ13_bitCount_95d88_15 : decode cJ13_bitCount_95d88 15 = .ok (.lload_n 0, 1) := by decide +kernel
theorem dJ13_bitCount_95d88_16 : decode cJ13_bitCount_95d88 16 = .ok (.iconst 2, 1) := by decide +kernel
theorem dJ13_bitCount_95d88_17 : decode cJ13_bitCount_95d88 17 = .ok (.lushr, 1) := by decide +kernel
theorem dJ13_bitCount_95d88_18 : decode cJ13_bitCount_95d88 18 = .ok (.ldc2_w 316, 3) := by decide +kernel
theorem dJ13_bitCount_95d88_21 : decode cJ13_bitCount_95d88 21 = .ok (.land, 1) := by decide +kernel
theorem dJ13_bitCount_95d88_22 : decode cJ13_bitCount_95d88 22 = .ok (.ladd, 1) := by decide +kernel
theorem dJ13_bitCount_95d88_23 : decode cJ13_bitCount_95d88 23 = .ok (.lstore_n 0, 1) := by decide +kernel
theorem dJ13_bitCount_95d88_24 : decode cJ13_bitCount_95d88 24 = .ok (.lload_n 0, 1) := by decide +kernel
theorem dJ13_bitCount_95d88_25 : decode cJ13_bitCount_95d88 25 = .ok (.lload_n 0, 1) := by decide +kernel
theorem dJ13_bitCount_95d88_26 : decode cJ13_bitCount_95d88 26 = .ok (.iconst 4, 1) := by decide +kernel
theorem dJ13_bitCount_95d88_27 : decode cJ13_bitCount_95d88 27 = .ok (.lushr, 1) := by decide +kernel
theorem dJ13_bitCount_95d88_28 : decode cJ13_bitCount_95d88 28 = .ok (.ladd, 1) := by decide +kernel
theorem dJ13_bitCount_95d88_29 : decode cJ13_bitCount_95d88 29 = .ok (.ldc2_w 318, 3) := by decide +kernel
theorem dJ13_bitCount_95d88_32 : decode cJ13_bitCount_95d88 32 = .ok (.land, 1) := by decide +kernel
theorem dJ13_bitCount_95d88_33 : decode cJ13_bitCount_95d88 33 = .ok (.lstore_n 0, 1) := by decide +kernel
theorem dJ13_bitCount_95d88_34 : decode cJ13_bitCount_95d88 34 = .ok (.lload_n 0, 1) := by decide +kernel
theorem dJ13_bitCount_95d88_35 : decode cJ13_bitCount_95d88 35 = .ok (.lload_n 0, 1) := by decide +kernel
theorem dJ13_bitCount_95d88_36 : decode cJ13_bitCount_95d88 36 = .ok (.bipush 8, 2) := by decide +kernel
theorem dJ13_bitCount_95d88_38 : decode cJ13_bitCount_95d88 38 = .ok (.lushr, 1) := by decide +kernel
theorem dJ13_bitCount_95d88_39 : decode cJ13_bitCount_95d88 39 = .ok (.ladd, 1) := by decide +kernel
theorem dJ13_bitCount_95d88_40 : decode cJ13_bitCount_95d88 40 = .ok (.lstore_n 0, 1) := by decide +kernel
theorem dJ13_bitCount_95d88_41 : decode cJ13_bitCount_95d88 41 = .ok (.lload_n 0, 1) := by decide +kernel
theorem dJ13_bitCount_95d88_42 : decode cJ13_bitCount_95d88 42 = .ok (.lload_n 0, 1) := by decide +kernel
theorem dJ13_bitCount_95d88_43 : decode cJ13_bitCount_95d88 43 = .ok (.bipush 16, 2) := by decide +kernel
theorem dJ13_bitCount_95d88_45 : decode cJ13_bitCount_95d88 45 = .ok (.lushr, 1) := by decide +kernel
theorem dJ13_bitCount_95d88_46 : decode cJ13_bitCount_95d88 46 = .ok (.ladd, 1) := by decide +kernel
theorem dJ13_bitCount_95d88_47 : decode cJ13_bitCount_95d88 47 = .ok (.lstore_n 0, 1) := by decide +kernel
theorem dJ13_bitCount_95d88_48 : decode cJ13_bitCount_95d88 48 = .ok (.lload_n 0, 1) := by decide +kernel
theorem dJ13_bitCount_95d88_49 : decode cJ13_bitCount_95d88 49 = .ok (.lload_n 0, 1) := by decide +kernel
theorem dJ13_bitCount_95d88_50 : decode cJ13_bitCount_95d88 50 = .ok (.bipush 32, 2) := by decide +kernel
theorem dJ13_bitCount_95d88_52 : decode cJ13_bitCount_95d88 52 = .ok (.lushr, 1) := by decide +kernel
theorem dJ13_bitCount_95d88_53 : decode cJ13_bitCount_95d88 53 = .ok (.ladd, 1) := by decide +kernel
theorem dJ13_bitCount_95d88_54 : decode cJ13_bitCount_95d88 54 = .ok (.lstore_n 0, 1) := by decide +kernel
theorem dJ13_bitCount_95d88_55 : decode cJ13_bitCount_95d88 55 = .ok (.lload_n 0, 1) := by decide +kernel
theorem dJ13_bitCount_95d88_56 : decode cJ13_bitCount_95d88 56 = .ok (.l2i, 1) := by decide +kernel
theorem dJ13_bitCount_95d88_57 : decode cJ13_bitCount_95d88 57 = .ok (.bipush 127, 2) := by decide +kernel
theorem dJ13_bitCount_95d88_59 : decode cJ13_bitCount_95d88 59 = .ok (.iand, 1) := by decide +kernel
theorem dJ13_bitCount_95d88_60 : decode cJ13_bitCount_95d88 60 = .ok (.ireturn, 1) := by decide +kernel
theorem dJ9_min_7cf53_0 : decode cJ9_min_7cf53 0 = .ok (.iload_n 0, 1) := by decide +kernel
theorem dJ9_min_7cf53_1 : decode cJ9_min_7cf53 1 = .ok (.iload_n 1, 1) := by decide +kernel
theorem dJ9_min_7cf53_2 : decode cJ9_min_7cf53 2 = .ok (.if_icmp .gt 7, 3) := by decide +kernel
theorem dJ9_min_7cf53_5 : decode cJ9_min_7cf53 5 = .ok (.iload_n 0, 1) := by decide +kernel
theorem dJ9_min_7cf53_6 : decode cJ9_min_7cf53 6 = .ok (.goto 4, 3) := by decide +kernel
theorem dJ9_min_7cf53_9 : decode cJ9_min_7cf53 9 = .ok (.iload_n 1, 1) := by decide +kernel
theorem dJ9_min_7cf53_10 : decode cJ9_min_7cf53 10 = .ok (.ireturn, 1) := by decide +kernel
theorem dJ7_fill_d0a16_0 : decode cJ7_fill_d0a16 0 = .ok (.iconst 0, 1) := by decide +kernel
theorem dJ7_fill_d0a16_1 : decode cJ7_fill_d0a16 1 = .ok (.istore_n 3, 1) := by decide +kernel
theorem dJ7_fill_d0a16_2 : decode cJ7_fill_d0a16 2 = .ok (.aload_n 0, 1) := by decide +kernel
theorem dJ7_fill_d0a16_3 : decode cJ7_fill_d0a16 3 = .ok (.arraylength, 1) := by decide +kernel
theorem dJ7_fill_d0a16_4 : decode cJ7_fill_d0a16 4 = .ok (.istore 4, 2) := by decide +kernel
theorem dJ7_fill_d0a16_6 : decode cJ7_fill_d0a16 6 = .ok (.iload_n 3, 1) := by decide +kernel
theorem dJ7_fill_d0a16_7 : decode cJ7_fill_d0a16 7 = .ok (.iload 4, 2) := by decide +kernel
theorem dJ7_fill_d0a16_9 : decode cJ7_fill_d0a16 9 = .ok (.if_icmp .ge 13, 3) := by decide +kernel
theorem dJ7_fill_d0a16_12 : decode cJ7_fill_d0a16 12 = .ok (.aload_n 0, 1) := by decide +kernel
theorem dJ7_fill_d0a16_13 : decode cJ7_fill_d0a16 13 = .ok (.iload_n 3, 1) := by decide +kernel
theorem dJ7_fill_d0a16_14 : decode cJ7_fill_d0a16 14 = .ok (.lload_n 1, 1) := by decide +kernel
theorem dJ7_fill_d0a16_15 : decode cJ7_fill_d0a16 15 = .ok (.lastore, 1) := by decide +kernel
theorem dJ7_fill_d0a16_16 : decode cJ7_fill_d0a16 16 = .ok (.iinc 3 1, 3) := by decide +kernel
theorem dJ7_fill_d0a16_19 : decode cJ7_fill_d0a16 19 = .ok (.goto (-13), 3) := by decide +kernel
theorem dJ7_fill_d0a16_22 : decode cJ7_fill_d0a16 22 = .ok (.return_, 1) := by decide +kernel
theorem dJ7_fill_53178_0 : decode cJ7_fill_53178 0 = .ok (.iconst 0, 1) := by decide +kernel
theorem dJ7_fill_53178_1 : decode cJ7_fill_53178 1 = .ok (.istore_n 2, 1) := by decide +kernel
theorem dJ7_fill_53178_2 : decode cJ7_fill_53178 2 = .ok (.aload_n 0, 1) := by decide +kernel
theorem dJ7_fill_53178_3 : decode cJ7_fill_53178 3 = .ok (.arraylength, 1) := by decide +kernel
theorem dJ7_fill_53178_4 : decode cJ7_fill_53178 4 = .ok (.istore_n 3, 1) := by decide +kernel
theorem dJ7_fill_53178_5 : decode cJ7_fill_53178 5 = .ok (.iload_n 2, 1) := by decide +kernel
theorem dJ7_fill_53178_6 : decode cJ7_fill_53178 6 = .ok (.iload_n 3, 1) := by decide +kernel
theorem dJ7_fill_53178_7 : decode cJ7_fill_53178 7 = .ok (.if_icmp .ge 13, 3) := by decide +kernel
theorem dJ7_fill_53178_10 : decode cJ7_fill_53178 10 = .ok (.aload_n 0, 1) := by decide +kernel
theorem dJ7_fill_53178_11 : decode cJ7_fill_53178 11 = .ok (.iload_n 2, 1) := by decide +kernel
theorem dJ7_fill_53178_12 : decode cJ7_fill_53178 12 = .ok (.iload_n 1, 1) := by decide +kernel
theorem dJ7_fill_53178_13 : decode cJ7_fill_53178 13 = .ok (.iastore, 1) := by decide +kernel
theorem dJ7_fill_53178_14 : decode cJ7_fill_53178 14 = .ok (.iinc 2 1, 3) := by decide +kernel
theorem dJ7_fill_53178_17 : decode cJ7_fill_53178 17 = .ok (.goto (-12), 3) := by decide +kernel
theorem dJ7_fill_53178_20 : decode cJ7_fill_53178 20 = .ok (.return_, 1) := by decide +kernel
theorem dL_cell_0 : decode cL_cell 0 = .ok (.iload_n 1, 1) := by decide +kernel
theorem dL_cell_1 : decode cL_cell 1 = .ok (.aload_n 0, 1) := by decide +kernel
theorem dL_cell_2 : decode cL_cell 2 = .ok (.arraylength, 1) := by decide +kernel
theorem dL_cell_3 : decode cL_cell 3 = .ok (.if_icmp .ge 9, 3) := by decide +kernel
theorem dL_cell_6 : decode cL_cell 6 = .ok (.aload_n 0, 1) := by decide +kernel
theorem dL_cell_7 : decode cL_cell 7 = .ok (.iload_n 1, 1) := by decide +kernel
theorem dL_cell_8 : decode cL_cell 8 = .ok (.iaload, 1) := by decide +kernel
theorem dL_cell_9 : decode cL_cell 9 = .ok (.goto 9, 3) := by decide +kernel
theorem dL_cell_12 : decode cL_cell 12 = .ok (.ldc 7, 2) := by decide +kernel
theorem dL_cell_14 : decode cL_cell 14 = .ok (.iload_n 1, 1) := by decide +kernel
theorem dL_cell_15 : decode cL_cell 15 = .ok (.iconst 1, 1) := by decide +kernel
theorem dL_cell_16 : decode cL_cell 16 = .ok (.iadd, 1) := by decide +kernel
theorem dL_cell_17 : decode cL_cell 17 = .ok (.imul, 1) := by decide +kernel
theorem dL_cell_18 : decode cL_cell 18 = .ok (.ireturn, 1) := by decide +kernel
theorem dL_low_0 : decode cL_low 0 = .ok (.iload_n 0, 1) := by decide +kernel
theorem dL_low_1 : decode cL_low 1 = .ok (.ldc 8, 2) := by decide +kernel
theorem dL_low_3 : decode cL_low 3 = .ok (.iand, 1) := by decide +kernel
theorem dL_low_4 : decode cL_low 4 = .ok (.iload_n 1, 1) := by decide +kernel
theorem dL_low_5 : decode cL_low 5 = .ok (.irem, 1) := by decide +kernel
theorem dL_low_6 : decode cL_low 6 = .ok (.ireturn, 1) := by decide +kernel
theorem dL_ones_0 : decode cL_ones 0 = .ok (.iconst 0, 1) := by decide +kernel
theorem dL_ones_1 : decode cL_ones 1 = .ok (.istore_n 1, 1) := by decide +kernel
theorem dL_ones_2 : decode cL_ones 2 = .ok (.iload_n 0, 1) := by decide +kernel
theorem dL_ones_3 : decode cL_ones 3 = .ok (.istore_n 2, 1) := by decide +kernel
theorem dL_ones_4 : decode cL_ones 4 = .ok (.iload_n 2, 1) := by decide +kernel
theorem dL_ones_5 : decode cL_ones 5 = .ok (.ifCond .eq 15, 3) := by decide +kernel
theorem dL_ones_8 : decode cL_ones 8 = .ok (.iinc 1 1, 3) := by decide +kernel
theorem dL_ones_11 : decode cL_ones 11 = .ok (.iload_n 2, 1) := by decide +kernel
theorem dL_ones_12 : decode cL_ones 12 = .ok (.iload_n 2, 1) := by decide +kernel
theorem dL_ones_13 : decode cL_ones 13 = .ok (.iconst 1, 1) := by decide +kernel
theorem dL_ones_14 : decode cL_ones 14 = .ok (.isub, 1) := by decide +kernel
theorem dL_ones_15 : decode cL_ones 15 = .ok (.iand, 1) := by decide +kernel
theorem dL_ones_16 : decode cL_ones 16 = .ok (.istore_n 2, 1) := by decide +kernel
theorem dL_ones_17 : decode cL_ones 17 = .ok (.goto (-13), 3) := by decide +kernel
theorem dL_ones_20 : decode cL_ones 20 = .ok (.iload_n 1, 1) := by decide +kernel
theorem dL_ones_21 : decode cL_ones 21 = .ok (.ireturn, 1) := by decide +kernel
abbrev vwCl : List vw_C := [(RX0, TX0, 4), (RX1, TX1, 8), (RX2, TX2, 5), (RX3, TX3, 9), (RX4, TX4, 1), (RX5, TX5, 3), (RX6, TX6, 6)]
