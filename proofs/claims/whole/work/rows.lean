section
-- ===== PART A: goes FIRST, ahead of the names: the tables' words, and 'selects' of the private methods out of them =====
/-- a private method of a class that the tables say can be made, by its rows of tables_1 -/
def lw_okq (q : MethodName × Nat) : Prop := (q.1.cls ≠ "java/lang/invoke/MethodHandle" ∧ q.1.cls ≠ "java/lang/invoke/VarHandle") ∧ Cond.instantiable q.1.cls q.2 ∈ tables_1 ∧ Cond.privateMethod q.1 ∈ tables_1 ∧ Cond.instanceMethod q.1 ∈ tables_1
theorem lw_p0 : lw_okq (⟨"LinkQueues", "flowAt", "(I)LLinkQueues$Flow;"⟩, 11) := ⟨⟨by decide +kernel, by decide +kernel⟩, List.mem_of_getElem? (i := 18) (by decide +kernel), List.mem_of_getElem? (i := 297) (by decide +kernel), List.mem_of_getElem? (i := 298) (by decide +kernel)⟩
theorem lw_p1 : lw_okq (⟨"java/lang/Throwable", "fillInStackTrace", "(I)Ljava/lang/Throwable;"⟩, 6) := ⟨⟨by decide +kernel, by decide +kernel⟩, List.mem_of_getElem? (i := 338) (by decide +kernel), List.mem_of_getElem? (i := 336) (by decide +kernel), List.mem_of_getElem? (i := 337) (by decide +kernel)⟩
theorem lw_p2 : lw_okq (⟨"LinkQueues$Flow", "takesMark", "(LLinkQueues$Packet;)Z"⟩, 15) := ⟨⟨by decide +kernel, by decide +kernel⟩, List.mem_of_getElem? (i := 78) (by decide +kernel), List.mem_of_getElem? (i := 531) (by decide +kernel), List.mem_of_getElem? (i := 532) (by decide +kernel)⟩
theorem lw_p3 : lw_okq (⟨"LinkQueues", "putIn", "(LLinkQueues$Packet;)V"⟩, 11) := ⟨⟨by decide +kernel, by decide +kernel⟩, List.mem_of_getElem? (i := 18) (by decide +kernel), List.mem_of_getElem? (i := 535) (by decide +kernel), List.mem_of_getElem? (i := 536) (by decide +kernel)⟩
theorem lw_p4 : lw_okq (⟨"LinkQueues", "oneTick", "()I"⟩, 11) := ⟨⟨by decide +kernel, by decide +kernel⟩, List.mem_of_getElem? (i := 18) (by decide +kernel), List.mem_of_getElem? (i := 555) (by decide +kernel), List.mem_of_getElem? (i := 556) (by decide +kernel)⟩
theorem lw_p5 : lw_okq (⟨"LinkQueues", "choose", "()LLinkQueues$Packet;"⟩, 11) := ⟨⟨by decide +kernel, by decide +kernel⟩, List.mem_of_getElem? (i := 18) (by decide +kernel), List.mem_of_getElem? (i := 559) (by decide +kernel), List.mem_of_getElem? (i := 560) (by decide +kernel)⟩
theorem lw_p6 : lw_okq (⟨"LinkQueues", "lookAt", "(LLinkQueues$Flow;)LLinkQueues$Packet;"⟩, 11) := ⟨⟨by decide +kernel, by decide +kernel⟩, List.mem_of_getElem? (i := 18) (by decide +kernel), List.mem_of_getElem? (i := 563) (by decide +kernel), List.mem_of_getElem? (i := 564) (by decide +kernel)⟩
theorem lw_p7 : lw_okq (⟨"LinkQueues$Turns", "takeFirst", "()LLinkQueues$Flow;"⟩, 3) := ⟨⟨by decide +kernel, by decide +kernel⟩, List.mem_of_getElem? (i := 28) (by decide +kernel), List.mem_of_getElem? (i := 575) (by decide +kernel), List.mem_of_getElem? (i := 576) (by decide +kernel)⟩
theorem lw_p8 : lw_okq (⟨"LinkQueues", "takeOut", "(LLinkQueues$Packet;)V"⟩, 11) := ⟨⟨by decide +kernel, by decide +kernel⟩, List.mem_of_getElem? (i := 18) (by decide +kernel), List.mem_of_getElem? (i := 580) (by decide +kernel), List.mem_of_getElem? (i := 581) (by decide +kernel)⟩
theorem lw_p9 : lw_okq (⟨"LinkQueues$Delay", "isLate", "(IIZ)Z"⟩, 8) := ⟨⟨by decide +kernel, by decide +kernel⟩, List.mem_of_getElem? (i := 141) (by decide +kernel), List.mem_of_getElem? (i := 596) (by decide +kernel), List.mem_of_getElem? (i := 597) (by decide +kernel)⟩
theorem lw_p10 : lw_okq (⟨"LinkQueues$Delay", "countToBeginWith", "(I)I"⟩, 8) := ⟨⟨by decide +kernel, by decide +kernel⟩, List.mem_of_getElem? (i := 141) (by decide +kernel), List.mem_of_getElem? (i := 600) (by decide +kernel), List.mem_of_getElem? (i := 601) (by decide +kernel)⟩
theorem lw_p11 : lw_okq (⟨"LinkQueues", "send", "(LLinkQueues$Packet;)V"⟩, 11) := ⟨⟨by decide +kernel, by decide +kernel⟩, List.mem_of_getElem? (i := 18) (by decide +kernel), List.mem_of_getElem? (i := 613) (by decide +kernel), List.mem_of_getElem? (i := 614) (by decide +kernel)⟩
theorem lw_p12 : lw_okq (⟨"LinkQueuesModel", "refused", "(I)Z"⟩, 43) := ⟨⟨by decide +kernel, by decide +kernel⟩, List.mem_of_getElem? (i := 659) (by decide +kernel), List.mem_of_getElem? (i := 814) (by decide +kernel), List.mem_of_getElem? (i := 815) (by decide +kernel)⟩
theorem lw_p13 : lw_okq (⟨"LinkQueuesModel", "bytesWaiting", "(I)I"⟩, 43) := ⟨⟨by decide +kernel, by decide +kernel⟩, List.mem_of_getElem? (i := 659) (by decide +kernel), List.mem_of_getElem? (i := 841) (by decide +kernel), List.mem_of_getElem? (i := 842) (by decide +kernel)⟩
theorem lw_p14 : lw_okq (⟨"LinkQueuesModel", "waiting", "()I"⟩, 43) := ⟨⟨by decide +kernel, by decide +kernel⟩, List.mem_of_getElem? (i := 659) (by decide +kernel), List.mem_of_getElem? (i := 845) (by decide +kernel), List.mem_of_getElem? (i := 846) (by decide +kernel)⟩
theorem lw_p15 : lw_okq (⟨"LinkQueuesModel", "look", "(I)I"⟩, 43) := ⟨⟨by decide +kernel, by decide +kernel⟩, List.mem_of_getElem? (i := 659) (by decide +kernel), List.mem_of_getElem? (i := 849) (by decide +kernel), List.mem_of_getElem? (i := 850) (by decide +kernel)⟩
def lw_privs_1 : List (MethodName × Nat) := [(⟨"LinkQueues", "flowAt", "(I)LLinkQueues$Flow;"⟩, 11), (⟨"java/lang/Throwable", "fillInStackTrace", "(I)Ljava/lang/Throwable;"⟩, 6), (⟨"LinkQueues$Flow", "takesMark", "(LLinkQueues$Packet;)Z"⟩, 15), (⟨"LinkQueues", "putIn", "(LLinkQueues$Packet;)V"⟩, 11), (⟨"LinkQueues", "oneTick", "()I"⟩, 11), (⟨"LinkQueues", "choose", "()LLinkQueues$Packet;"⟩, 11), (⟨"LinkQueues", "lookAt", "(LLinkQueues$Flow;)LLinkQueues$Packet;"⟩, 11), (⟨"LinkQueues$Turns", "takeFirst", "()LLinkQueues$Flow;"⟩, 3), (⟨"LinkQueues", "takeOut", "(LLinkQueues$Packet;)V"⟩, 11), (⟨"LinkQueues$Delay", "isLate", "(IIZ)Z"⟩, 8), (⟨"LinkQueues$Delay", "countToBeginWith", "(I)I"⟩, 8), (⟨"LinkQueues", "send", "(LLinkQueues$Packet;)V"⟩, 11), (⟨"LinkQueuesModel", "refused", "(I)Z"⟩, 43), (⟨"LinkQueuesModel", "bytesWaiting", "(I)I"⟩, 43), (⟨"LinkQueuesModel", "waiting", "()I"⟩, 43), (⟨"LinkQueuesModel", "look", "(I)I"⟩, 43)]
theorem lw_r1 : ∀ q ∈ lw_privs_1, lw_okq q := List.forall_mem_cons.mpr ⟨lw_p0, List.forall_mem_cons.mpr ⟨lw_p1, List.forall_mem_cons.mpr ⟨lw_p2, List.forall_mem_cons.mpr ⟨lw_p3, List.forall_mem_cons.mpr ⟨lw_p4, List.forall_mem_cons.mpr ⟨lw_p5, List.forall_mem_cons.mpr ⟨lw_p6, List.forall_mem_cons.mpr ⟨lw_p7, List.forall_mem_cons.mpr ⟨lw_p8, List.forall_mem_cons.mpr ⟨lw_p9, List.forall_mem_cons.mpr ⟨lw_p10, List.forall_mem_cons.mpr ⟨lw_p11, List.forall_mem_cons.mpr ⟨lw_p12, List.forall_mem_cons.mpr ⟨lw_p13, List.forall_mem_cons.mpr ⟨lw_p14, List.forall_mem_cons.mpr ⟨lw_p15, fun _ h => absurd h List.not_mem_nil⟩⟩⟩⟩⟩⟩⟩⟩⟩⟩⟩⟩⟩⟩⟩⟩
theorem lw_p16 : lw_okq (⟨"LinkQueuesModel", "useCoin", "()D"⟩, 43) := ⟨⟨by decide +kernel, by decide +kernel⟩, List.mem_of_getElem? (i := 659) (by decide +kernel), List.mem_of_getElem? (i := 853) (by decide +kernel), List.mem_of_getElem? (i := 854) (by decide +kernel)⟩
theorem lw_p17 : lw_okq (⟨"LinkQueuesModel", "choose", "()I"⟩, 43) := ⟨⟨by decide +kernel, by decide +kernel⟩, List.mem_of_getElem? (i := 659) (by decide +kernel), List.mem_of_getElem? (i := 862) (by decide +kernel), List.mem_of_getElem? (i := 863) (by decide +kernel)⟩
theorem lw_p18 : lw_okq (⟨"LinkQueuesModel", "leaveRound", "()V"⟩, 43) := ⟨⟨by decide +kernel, by decide +kernel⟩, List.mem_of_getElem? (i := 659) (by decide +kernel), List.mem_of_getElem? (i := 866) (by decide +kernel), List.mem_of_getElem? (i := 867) (by decide +kernel)⟩
theorem lw_p19 : lw_okq (⟨"LinkQueuesModel", "takeOut", "(I)V"⟩, 43) := ⟨⟨by decide +kernel, by decide +kernel⟩, List.mem_of_getElem? (i := 659) (by decide +kernel), List.mem_of_getElem? (i := 870) (by decide +kernel), List.mem_of_getElem? (i := 871) (by decide +kernel)⟩
theorem lw_p20 : lw_okq (⟨"LinkQueuesModel", "isHit", "(I)Z"⟩, 43) := ⟨⟨by decide +kernel, by decide +kernel⟩, List.mem_of_getElem? (i := 659) (by decide +kernel), List.mem_of_getElem? (i := 874) (by decide +kernel), List.mem_of_getElem? (i := 875) (by decide +kernel)⟩
theorem lw_p21 : lw_okq (⟨"LinkQueuesModel", "send", "(I)V"⟩, 43) := ⟨⟨by decide +kernel, by decide +kernel⟩, List.mem_of_getElem? (i := 659) (by decide +kernel), List.mem_of_getElem? (i := 883) (by decide +kernel), List.mem_of_getElem? (i := 884) (by decide +kernel)⟩
theorem lw_p22 : lw_okq (⟨"LinkQueuesModel", "isRound", "(I)Z"⟩, 43) := ⟨⟨by decide +kernel, by decide +kernel⟩, List.mem_of_getElem? (i := 659) (by decide +kernel), List.mem_of_getElem? (i := 891) (by decide +kernel), List.mem_of_getElem? (i := 892) (by decide +kernel)⟩
def lw_privs_2 : List (MethodName × Nat) := [(⟨"LinkQueuesModel", "useCoin", "()D"⟩, 43), (⟨"LinkQueuesModel", "choose", "()I"⟩, 43), (⟨"LinkQueuesModel", "leaveRound", "()V"⟩, 43), (⟨"LinkQueuesModel", "takeOut", "(I)V"⟩, 43), (⟨"LinkQueuesModel", "isHit", "(I)Z"⟩, 43), (⟨"LinkQueuesModel", "send", "(I)V"⟩, 43), (⟨"LinkQueuesModel", "isRound", "(I)Z"⟩, 43)]
theorem lw_r2 : ∀ q ∈ lw_privs_2, lw_okq q := List.forall_mem_cons.mpr ⟨lw_p16, List.forall_mem_cons.mpr ⟨lw_p17, List.forall_mem_cons.mpr ⟨lw_p18, List.forall_mem_cons.mpr ⟨lw_p19, List.forall_mem_cons.mpr ⟨lw_p20, List.forall_mem_cons.mpr ⟨lw_p21, List.forall_mem_cons.mpr ⟨lw_p22, fun _ h => absurd h List.not_mem_nil⟩⟩⟩⟩⟩⟩⟩
def lw_privs : List (MethodName × Nat) := lw_privs_1 ++ (lw_privs_2)
def lw_tbl : List Cond := k2_sels lw_privs ++ tables_1
theorem lw_privs_ok : ∀ q ∈ lw_privs, lw_okq q := by
  show ∀ q ∈ lw_privs_1 ++ (lw_privs_2), lw_okq q
  exact List.forall_mem_append.mpr ⟨lw_r1, lw_r2⟩
/-- the streams that the claim lets the run draw from -/
abbrev lw_cs : List Choice := [Jvm.Choice.named "NaN.bits"]
theorem lw_bits : nanBits ∈ lw_cs := by first | decide | exact List.mem_cons_self | simp [lw_cs, nanBits]
-- ===== end of PART A; then your names; then what follows =====
/-! ===== BEGIN words of one list among another's, by their places ===== -/
theorem goodIn_r {big : List Cond} (ws : List Cond) (ps : List Nat) (hp : ws = ps.filterMap (fun i => big[i]?)) (h : ws.all goodWord = true) : GoodIn big ws := by
  intro w hw
  have h1 := List.all_eq_true.mp h w hw
  rw [hp] at hw
  obtain ⟨i, -, hi⟩ := List.mem_filterMap.mp hw
  have hm : w ∈ big := by first | exact List.mem_of_getElem? hi | exact List.getElem?_mem hi
  exact ⟨hm, good_of_word h1⟩
theorem goodIn_app {big a b : List Cond} (ha : GoodIn big a) (hb : GoodIn big b) : GoodIn big (a ++ b) := fun w h => (List.mem_append.mp h).elim (ha w) (hb w)
theorem goodIn_ca {big a b : List Cond} {c : Cond} (ha : GoodIn big (c :: a)) (hb : GoodIn big b) : GoodIn big (c :: (a ++ b)) := fun w h => (List.mem_cons.mp h).elim (fun e => ha w (List.mem_cons.mpr (Or.inl e))) (fun h => (List.mem_append.mp h).elim (fun h => ha w (List.mem_cons.mpr (Or.inr h))) (hb w))
theorem goodIn_sub {big ws : List Cond} (hm : ∀ w ∈ ws, w ∈ big) (h : ws.all goodWord = true) : GoodIn big ws := fun w hw => ⟨hm w hw, good_of_word (List.all_eq_true.mp h w hw)⟩
/-! ===== END ===== -/

/-! ===== BEGIN exceptions that leave a method, and their catching by the caller (launches without stack traces) ===== -/
section VXA
/-! The laws vx_back, vx_callV, vx_callS, vx_callSW, vx_throw0, vx_throwS follow proofs of the library, with one case more: JvmDerived/Free/Laws.lean (Back.of_free), Shelf42/LK1.lean (callV, callS), Shelf/KitTraced.lean (throwNew0V, throwNewS). -/
/-- where a method has thrown q: the class by its name, the cell, what was written, the world -/
def vx_T (XC : String → State → State → Prop) (st : State) (q : Addr) (t : State) (mc ms : Nat) (free : Addr → Prop) : Prop :=
  ∃ (E : String) (ce : Cell) (L : List Loc), XC E st t ∧ t.heap[q]? = some ce ∧ ce.vm = .none ∧ st.vm.findClass E = some ce.cls ∧ st.WarmedH t.vm ∧ st.sameButNew ({ t with vm := st.vm } : State) L mc ms ∧ ∀ z ∈ L, free z.base
def vx_Q (Qc : Array Value → State → Outcome → State → Prop) (XC : String → State → State → Prop) (mc ms : Nat) (free : Addr → Prop) : Array Value → State → Outcome → State → Prop := fun a st o t =>
  (Qc a st o t ∧ ∃ L, FrameEnd st o t L mc ms ∧ ∀ q ∈ L, free q.base) ∨ ∃ q, o = .threw q ∧ vx_T XC st q t mc ms free
/-- a callee that returns or throws -/
def vx_Met (l : Launch) (y : MethodName) (ws : List Cond) (rm : Room) (Pc : Array Value → State → Prop) (Qc : Array Value → State → Outcome → State → Prop) (XC : String → State → State → Prop) (mc ms : Nat) (free : Addr → Prop) : Prop :=
  MetFree l y (headSpec ws rm) Pc (fun _ _ _ _ _ => True) (vx_Q Qc XC mc ms free)
def vx_Post (XC : String → State → State → Prop) (mc ms : Nat) (free : Addr → Prop) : Pt → Array Value → Addr → Pt → Prop := fun A a q B =>
  ∃ (g : JFrame) (mk : MethodId) (t : State) (L : List Loc) (E : String) (ce : Cell), B.U.heap = t.heap ∧ B.U.vm = t.vm ∧ XC E (A.U.calling g mk a) t ∧ t.heap[q]? = some ce ∧ ce.vm = .none ∧ A.U.vm.findClass E = some ce.cls ∧ B.locs = A.locs ++ L ∧ (∀ z ∈ L, free z.base) ∧ B.cells = A.cells + mc ∧ B.slots = A.slots + ms
def vx_Back (l : Launch) (R : Room) (p : Program) (e : Env) (below : List Frame) (s : State) (sargs : Array Value) (y : MethodName) (len W9 : Nat)
    (Pre : Pt → Array Value → Prop) (Post : Pt → Array Value → Option Value → Pt → Prop) (PostX : Pt → Array Value → Addr → Pt → Prop) : Prop :=
  ∀ (m : MethodId) (meth : Method) (c : Code) (A : Pt) (g : JFrame) (ig : Instr) (mk : MethodId) (a : Array Value),
    Stand p l e R s m sargs below meth c A.U A.locs A.cells A.slots → g.method = m → g.locals.size = c.maxLocals → decode c.code g.pc = .ok (ig, len) →
    2 * g.monitorRoom + (g.stack.map fun v => v.category).sum ≤ W9 → A.U.methodNamed? y = some mk → Pre A a →
    (∃ (v : Option Value) (B : Pt), Stand p l e R s m sargs below meth c B.U B.locs B.cells B.slots ∧ Post A a v B ∧
      Steps p.tables e below (doInvoke e (A.U.setTop g) [] mk a).1 (B.U.setTop { g with pc := g.pc + len, stack := v.toList ++ g.stack })) ∨
    (∃ (q : Addr) (B : Pt), Stand p l e R s m sargs below meth c B.U B.locs B.cells B.slots ∧ PostX A a q B ∧
      Steps p.tables e below (doInvoke e (A.U.setTop g) [] mk a).1 ((B.U.setTop g).pushFrame (.throwing q)))
section Payer
variable {l : Launch} {R : Room} {p : Program} {e : Env} {below : List Frame} {s : State} {sargs : Array Value} {y : MethodName} {len W9 : Nat}
theorem vx_back {ws : List Cond} {rm : Room} {Pc : Array Value → State → Prop} {Qc : Array Value → State → Outcome → State → Prop} {XC : String → State → State → Prop} {mc ms : Nat} {free : Addr → Prop} {bytes : ByteArray} {maxL : Nat} {ret : Option FieldType}
    (hM : vx_Met l y ws rm Pc Qc XC mc ms free) (hblind : FrameBlind Pc) (hrc : rm.cells = mc) (hrs : rm.slots = ms)
    (hframes : rm.frames + 1 ≤ R.frames) (hlocals : W9 + (maxL + 11) + rm.locals ≤ R.locals)
    (hws : ∀ w ∈ ws, ∀ a' U, s.WarmedH U.vm → w.before a' U = true) (hcode : Cond.code y bytes maxL ret ∈ ws) (hinit : ∀ a' U, s.WarmedH U.vm → (Cond.initialized y.cls).before a' U = true) :
    vx_Back l R p e below s sargs y len W9 (PreOf R mc ms Pc) (PostOf Qc mc ms free) (vx_Post XC mc ms free) := by
  intro m meth c A g ig mk a X hg hsize hdg hW hn hp
  have h1 : (headSpec ws rm).pre.before a A.U = true := atoms_intro fun w hw => hws w hw _ _ X.warmed
  have h2 : (Cond.code y bytes maxL ret).before a A.U = true := hws _ hcode _ _ X.warmed
  have h3 : (Cond.initialized y.cls).before a A.U = true := hinit _ _ X.warmed
  have h4 : A.cells + (headSpec ws rm).room.cells ≤ R.cells := by rw [show (headSpec ws rm).room.cells = mc from hrc]; exact hp.1
  have h5 : A.slots + (headSpec ws rm).room.slots ≤ R.slots := by rw [show (headSpec ws rm).room.slots = ms from hrs]; exact hp.2.1
  have hPc : Pc a (A.U.calling g mk a) := hblind _ _ _ _ hp.2.2
  obtain ⟨U, Ls, c0, s0⟩ := A
  dsimp only [Pt.U, Pt.locs, Pt.cells, Pt.slots] at h1 h2 h3 h4 h5 X hn hPc ⊢
  obtain ⟨methY, cY, hmY, hcY, -, hlY, -, -, -, -⟩ := Cond.code_spec hn h2
  obtain ⟨kY, hkY, -⟩ := className_of_methodNamed hn
  have hinitY : kY.init = .initialized := Cond.initialized_spec (findClass_of_methodNamed hn) hkY h3
  have h : At U g.method c below := by rw [hg]; exact X.here
  have hlocals9 : W9 + (maxL + 11) + (headSpec ws rm).room.locals ≤ R.locals := hlocals
  have happ : (headSpec ws rm).appliesLoose y e.platform (U.calling g mk a) = true :=
    Spec.appliesLoose_calling (g := g) h hdg hn hkY hinitY
      (X.room_calling (g := g) (R' := (headSpec ws rm).room) hsize hmY hcY hframes (by rw [hlY]; omega) h4 h5) h1
  obtain ⟨mid, hmid⟩ := h.above
  have hfr : (U.setTop g).frames = (.java g :: mid) ++ below := by rw [State.frames_setTop' g h.top, hmid]; rfl
  obtain ⟨o, s₂, hsteps, -, hend, hq⟩ := Steps.callFree hM p X.admits X.cas X.clock (acts := []) hfr happ hPc trivial
  have hq' : vx_Q Qc XC mc ms free a (U.calling g mk a) o s₂ := hq
  rw [State.frames_setTop' g h.top] at hend
  obtain ⟨g₀, hg0⟩ := Option.isSome_iff_exists.mp h.top
  obtain ⟨r, hr⟩ := State.topJava?_eq_some.mp hg0
  have hr' : (({ U with heap := s₂.heap, slotsUsed := s₂.slotsUsed } : State).setVm s₂.vm).frames = .java g₀ :: r := hr
  rcases hq' with ⟨hqc, L, hfe, hL⟩ | ⟨q, rfl, E, ce, L, hx, hce, hcv, hcl, hW₂, hsm, hL⟩
  · obtain ⟨⟨v, rfl⟩, hW₂, e2, q2, q3, q4, q5, q6⟩ := id hfe
    have e3 : s₂ = ({ (U.calling g mk a).setFrames s₂.frames with heap := s₂.heap, slotsUsed := s₂.slotsUsed } : State).setVm s₂.vm := by
      have : s₂ = ({ s₂ with vm := (U.calling g mk a).vm } : State).setVm s₂.vm := rfl
      rw [e2] at this
      exact this
    obtain ⟨c₂, i₂, len₂, hc₂, hd₂, hf₂⟩ := hend
    have hW' : U.WarmedH s₂.vm := hW₂
    have hcc : c₂ = c := by
      have h1 : s₂.code? g.method = U.code? g.method := by
        rw [State.code?_eq, State.code?_eq, hW'.alike.method?]
      exact Option.some.inj (hc₂.symm.trans (h1.trans h.code))
    subst hcc
    have hlen : len₂ = len := by rw [hdg] at hd₂; cases hd₂; rfl
    subst hlen
    have hs₂ : s₂ = (({ U with heap := s₂.heap, slotsUsed := s₂.slotsUsed } : State).setVm s₂.vm).setTop { g with pc := g.pc + len₂, stack := v.toList ++ g.stack } := by
      refine e3.trans ?_
      rw [hf₂, State.calling_eq h.top, State.setFrames_setFrames, State.setTop_of_frames _ hr', hr]
      rfl
    have hsame : U.sameButNew ({ U with heap := s₂.heap, slotsUsed := s₂.slotsUsed } : State) L mc ms := by
      refine ⟨?_, q2, q3, q4, q5, q6⟩
      obtain ⟨t, ht, -⟩ := State.frames_cons hr
      show ({ U with heap := s₂.heap, slotsUsed := s₂.slotsUsed } : State) = { U.setFrames U.frames with heap := s₂.heap, slotsUsed := s₂.slotsUsed }
      rw [State.setFrames_self ht]
    subst hg
    refine Or.inl ⟨v, ⟨(({ U with heap := s₂.heap, slotsUsed := s₂.slotsUsed } : State).setVm s₂.vm), Ls ++ L, c0 + mc, s0 + ms⟩,
      ⟨X.admits, X.cas, X.clock, X.frames, X.room, X.hears, X.method, X.code, (X.here.setHeapUsed s₂.heap s₂.slotsUsed).setVm hW'.alike, X.tail, State.WarmedH.trans X.warmed hW', X.limits, X.bytes, X.same.trans (hsame.setVm s.vm)⟩,
      ⟨g, mk, s₂, L, rfl, rfl, hqc, rfl, hL, rfl, rfl⟩, ?_⟩
    show Steps p.tables e below _ ((({ U with heap := s₂.heap, slotsUsed := s₂.slotsUsed } : State).setVm s₂.vm).setTop { g with pc := g.pc + len₂, stack := v.toList ++ g.stack })
    rw [← hs₂]
    exact hsteps
  · obtain ⟨e2, q2, q3, q4, q5, q6⟩ := id hsm
    have e3 : s₂ = ({ (U.calling g mk a).setFrames s₂.frames with heap := s₂.heap, slotsUsed := s₂.slotsUsed } : State).setVm s₂.vm := by
      have : s₂ = ({ s₂ with vm := (U.calling g mk a).vm } : State).setVm s₂.vm := rfl
      rw [e2] at this
      exact this
    have hf₂ : s₂.frames = .throwing q :: .java g :: U.frames.tail := hend
    have hW' : U.WarmedH s₂.vm := hW₂
    have hs₂ : s₂ = ((({ U with heap := s₂.heap, slotsUsed := s₂.slotsUsed } : State).setVm s₂.vm).setTop g).pushFrame (.throwing q) := by
      refine e3.trans ?_
      rw [hf₂, State.calling_eq h.top, State.setFrames_setFrames, State.pushFrame, State.frames_setTop _ hr', State.setTop_of_frames _ hr', State.setFrames_setFrames, hr]
      rfl
    have hsame : U.sameButNew ({ U with heap := s₂.heap, slotsUsed := s₂.slotsUsed } : State) L mc ms := by
      refine ⟨?_, q2, q3, q4, q5, q6⟩
      obtain ⟨t, ht, -⟩ := State.frames_cons hr
      show ({ U with heap := s₂.heap, slotsUsed := s₂.slotsUsed } : State) = { U.setFrames U.frames with heap := s₂.heap, slotsUsed := s₂.slotsUsed }
      rw [State.setFrames_self ht]
    subst hg
    refine Or.inr ⟨q, ⟨(({ U with heap := s₂.heap, slotsUsed := s₂.slotsUsed } : State).setVm s₂.vm), Ls ++ L, c0 + mc, s0 + ms⟩,
      ⟨X.admits, X.cas, X.clock, X.frames, X.room, X.hears, X.method, X.code, (X.here.setHeapUsed s₂.heap s₂.slotsUsed).setVm hW'.alike, X.tail, State.WarmedH.trans X.warmed hW', X.limits, X.bytes, X.same.trans (hsame.setVm s.vm)⟩,
      ⟨g, mk, s₂, L, E, ce, rfl, rfl, hx, hce, hcv, hcl, rfl, hL, rfl, rfl⟩, ?_⟩
    show Steps p.tables e below _ (((({ U with heap := s₂.heap, slotsUsed := s₂.slotsUsed } : State).setVm s₂.vm).setTop g).pushFrame (.throwing q))
    rw [← hs₂]
    exact hsteps
end Payer
section Calls
variable {p : Program} {l : Launch} {e : Env} {R : Room} {s : State} {m : MethodId} {args : Array Value} {below : List Frame} {meth : Method} {c : Code} {T : State} {locs : List Loc} {cells slots : Nat}
theorem vx_callV (X : Stand p l e R s m args below meth c T locs cells slots) (hexec : p.tables.exec = Jvm.exec) {own C : String} {index : Nat} {y : MethodName} {bytes : ByteArray} {maxL : Nat} {ret : Option FieldType}
    (hown : s.vm.findClass own = some m.cls) (hlink : (Cond.methodLink own index y).before args s = true) (hinst : (Cond.instanceMethod y).before args s = true) (hsel : (Cond.selects C y y).before args s = true)
    (hcode : (Cond.code y bytes maxL ret).before args s = true) (hy : y.cls ≠ "java/lang/invoke/MethodHandle" ∧ y.cls ≠ "java/lang/invoke/VarHandle")
    {W9 : Nat} {Pre : Pt → Array Value → Prop} {Post : Pt → Array Value → Option Value → Pt → Prop} {PostX : Pt → Array Value → Addr → Pt → Prop} (hK : vx_Back l R p e below s args y 3 W9 Pre Post PostX)
    {b : Addr} {cellB : Cell} (hcell : T.heap[b]? = some cellB) (hobj : cellB.vm.isStatics = false) (hcls : s.vm.findClass C = some cellB.cls)
    {g : JFrame} (hg : g.method = m) (hsize : g.locals.size = c.maxLocals) {argsL rest : List Value} (hlen : ∀ sig, parseMethodDescriptor y.desc = some sig → argsL.length = sig.parameters.length)
    (hstack : g.stack = argsL.reverse ++ .ref b :: rest) (hW : 2 * g.monitorRoom + (rest.map fun v => v.category).sum ≤ W9) (hdg : decode c.code g.pc = .ok (.invokevirtual index, 3))
    (hpre : ∀ vm₁, s.WarmedH vm₁ → Pre ⟨T.setVm vm₁, locs, cells, slots⟩ (Value.ref b :: argsL).toArray) :
    (∃ (v : Option Value) (vm₁ : Vm) (B : Pt), s.WarmedH vm₁ ∧ Stand p l e R s m args below meth c B.U B.locs B.cells B.slots ∧ Post ⟨T.setVm vm₁, locs, cells, slots⟩ (Value.ref b :: argsL).toArray v B ∧
      ∀ target, Steps p.tables e below (B.U.setTop { g with pc := g.pc + 3, stack := v.toList ++ rest }) target → Steps p.tables e below (T.setTop g) target) ∨
    (∃ (q : Addr) (vm₁ : Vm) (B : Pt), s.WarmedH vm₁ ∧ Stand p l e R s m args below meth c B.U B.locs B.cells B.slots ∧ PostX ⟨T.setVm vm₁, locs, cells, slots⟩ (Value.ref b :: argsL).toArray q B ∧
      Steps p.tables e below (T.setTop g) ((B.U.setTop { g with stack := rest }).pushFrame (.throwing q))) := by
  obtain ⟨mk, methM, hnamed, hmethM, hstM, habM⟩ := Cond.instanceMethod_spec hinst
  obtain ⟨methM', cM, hmethM', -, -, -, -, -, -, hsigM⟩ := Cond.code_spec hnamed hcode
  cases hmethM.symm.trans hmethM'
  obtain ⟨c2, r2, m2, q1, q2, q3, q4, kP, hkP, hkPi⟩ := Cond.selects_spec hsel
  cases hcls.symm.trans q1
  cases (State.methodFound?_of_named hnamed hy).symm.trans q2
  cases hnamed.symm.trans q3
  have hselP : selectMethod e.platform s.vm cellB.cls mk = .method mk := by rw [Launch.admits_selectMethod X.admits]; exact q4
  obtain ⟨vm₁, X₁, hstep₁⟩ := X.invokevirtual hexec hown hlink hnamed hmethM hstM hkP hkPi hy (a := b) (cell := cellB) hcell
    (fun z h => by rw [h] at hobj; cases hobj) hselP hmethM habM hkP hkPi (g := g) hg (argsL := argsL) (rest := rest) (hlen _ hsigM) hstack hdg
  rcases hK m meth c ⟨T.setVm vm₁, locs, cells, slots⟩ { g with stack := rest } (.invokevirtual index) mk (Value.ref b :: argsL).toArray X₁ hg hsize hdg hW (X₁.named hnamed) (hpre vm₁ X₁.warmed) with ⟨v, B, X', hpost, hsteps⟩ | ⟨q, B, X', hpost, hsteps⟩
  · exact Or.inl ⟨v, vm₁, B, X₁.warmed, X', hpost, fun target h => hstep₁ _ fun acts => by rw [doInvoke_state]; exact hsteps.trans h⟩
  · exact Or.inr ⟨q, vm₁, B, X₁.warmed, X', hpost, hstep₁ _ fun acts => by rw [doInvoke_state]; exact hsteps⟩
theorem vx_callS (X : Stand p l e R s m args below meth c T locs cells slots) (hexec : p.tables.exec = Jvm.exec) {own : String} {index : Nat} {y : MethodName} {bytes : ByteArray} {maxL : Nat} {ret : Option FieldType}
    (hown : s.vm.findClass own = some m.cls) (hlink : (Cond.methodLink own index y).before args s = true) (hstat : (Cond.static y).before args s = true) (hinit : (Cond.initialized y.cls).before args s = true)
    (hcode : (Cond.code y bytes maxL ret).before args s = true) (hy : y.cls ≠ "java/lang/invoke/MethodHandle" ∧ y.cls ≠ "java/lang/invoke/VarHandle")
    {W9 : Nat} {Pre : Pt → Array Value → Prop} {Post : Pt → Array Value → Option Value → Pt → Prop} {PostX : Pt → Array Value → Addr → Pt → Prop} (hK : vx_Back l R p e below s args y 3 W9 Pre Post PostX)
    {g : JFrame} (hg : g.method = m) (hsize : g.locals.size = c.maxLocals) {argsL rest : List Value} (hlen : ∀ sig, parseMethodDescriptor y.desc = some sig → argsL.length = sig.parameters.length)
    (hstack : g.stack = argsL.reverse ++ rest) (hW : 2 * g.monitorRoom + (rest.map fun v => v.category).sum ≤ W9) (hdg : decode c.code g.pc = .ok (.invokestatic index, 3))
    (hpre : ∀ vm₁, s.WarmedH vm₁ → Pre ⟨T.setVm vm₁, locs, cells, slots⟩ argsL.toArray) :
    (∃ (v : Option Value) (vm₁ : Vm) (B : Pt), s.WarmedH vm₁ ∧ Stand p l e R s m args below meth c B.U B.locs B.cells B.slots ∧ Post ⟨T.setVm vm₁, locs, cells, slots⟩ argsL.toArray v B ∧
      ∀ target, Steps p.tables e below (B.U.setTop { g with pc := g.pc + 3, stack := v.toList ++ rest }) target → Steps p.tables e below (T.setTop g) target) ∨
    (∃ (q : Addr) (vm₁ : Vm) (B : Pt), s.WarmedH vm₁ ∧ Stand p l e R s m args below meth c B.U B.locs B.cells B.slots ∧ PostX ⟨T.setVm vm₁, locs, cells, slots⟩ argsL.toArray q B ∧
      Steps p.tables e below (T.setTop g) ((B.U.setTop { g with stack := rest }).pushFrame (.throwing q))) := by
  obtain ⟨mk, hnamed⟩ := Cond.code_named hcode
  obtain ⟨methM, cM, hmethM, -, -, -, -, -, -, hsigM⟩ := Cond.code_spec hnamed hcode
  have hstatic : methM.isStatic = true := Cond.static_spec hnamed hmethM hstat
  obtain ⟨kP, hkP, -⟩ := className_of_methodNamed hnamed
  have hinitP : kP.init = .initialized := Cond.initialized_spec (findClass_of_methodNamed hnamed) hkP hinit
  obtain ⟨vm₁, X₁, hstep₁⟩ := X.invokestatic hexec hown hlink hnamed hmethM hstatic hkP hinitP hy (g := g) hg (argsL := argsL) (rest := rest) (hlen _ hsigM) hstack hdg
  rcases hK m meth c ⟨T.setVm vm₁, locs, cells, slots⟩ { g with stack := rest } (.invokestatic index) mk argsL.toArray X₁ hg hsize hdg hW (X₁.named hnamed) (hpre vm₁ X₁.warmed) with ⟨v, B, X', hpost, hsteps⟩ | ⟨q, B, X', hpost, hsteps⟩
  · exact Or.inl ⟨v, vm₁, B, X₁.warmed, X', hpost, fun target h => hstep₁ _ fun acts => by rw [doInvoke_state]; exact hsteps.trans h⟩
  · exact Or.inr ⟨q, vm₁, B, X₁.warmed, X', hpost, hstep₁ _ fun acts => by rw [doInvoke_state]; exact hsteps⟩
end Calls
theorem vx_cls {s : State} {T : State} {vm₁ : Vm} {E : String} {k : ClassId} (hW : s.WarmedH vm₁) (h : (T.setVm vm₁).vm.findClass E = some k) : s.vm.findClass E = some k := by
  have h1 : vm₁.findClass E = some k := h
  rw [hW.alike.findClass] at h1
  exact h1
/-- the method's frame g, with q thrown over it -/
def vx_W (p : Program) (l : Launch) (e : Env) (R : Room) (s : State) (m : MethodId) (args : Array Value) (below : List Frame) (meth : Method) (c : Code) (H : Heap) (locs : List Loc) (cells slots : Nat) (Q : State → Prop) (g : JFrame) (q : Addr) : Prop :=
  ∀ T : State, T.heap = H → Stand p l e R s m args below meth c T locs cells slots → ∃ t, Steps p.tables e below ((T.setTop g).pushFrame (.throwing q)) t ∧ Q t
def vx_Run (p : Program) (l : Launch) (e : Env) (R : Room) (s : State) (m : MethodId) (args : Array Value) (below : List Frame) (meth : Method) (c : Code) (H : Heap) (locs : List Loc) (cells slots mc ms : Nat) (g : JFrame) (rest : List Value) (Qa : State → Outcome → State → Prop) (XC : String → State → State → Prop) (free : Addr → Prop) : Prop :=
  ∀ T : State, T.heap = H → Stand p l e R s m args below meth c T locs cells slots →
    (∃ (v : Option Value) (st₀ t T' : State) (L : List Loc), st₀.heap = H ∧ Stand p l e R s m args below meth c T' (locs ++ L) (cells + mc) (slots + ms) ∧ (∀ q ∈ L, free q.base) ∧ T'.heap = t.heap ∧ T'.vm = t.vm ∧ Qa st₀ (.returned v) t ∧
      Goes p e below T g T' { g with pc := g.pc + 3, stack := v.toList ++ rest }) ∨
    (∃ (q : Addr) (st₀ t T' : State) (L : List Loc) (E : String) (ce : Cell), st₀.heap = H ∧ Stand p l e R s m args below meth c T' (locs ++ L) (cells + mc) (slots + ms) ∧ (∀ z ∈ L, free z.base) ∧ T'.heap = t.heap ∧ T'.vm = t.vm ∧ XC E st₀ t ∧ t.heap[q]? = some ce ∧ ce.vm = .none ∧ s.vm.findClass E = some ce.cls ∧
      Steps p.tables e below (T.setTop g) ((T'.setTop { g with stack := rest }).pushFrame (.throwing q)))
def vx_X {S : Type} (px : S → Prop) (B : String → S → State → Prop) (A : Nat → Prop) : String → State → State → Prop := fun E st t => ∃ u : S, px u ∧ B E u t ∧ va_F A st t
section Runs
variable {p : Program} {l : Launch} {e : Env} {R : Room} {s : State} {m : MethodId} {args : Array Value} {below : List Frame} {meth : Method} {c : Code} {H : Heap} {locs : List Loc} {cells slots : Nat}
variable {y : MethodName} {bytes cc : ByteArray} {maxL nL mc ms n index : Nat} {ret : Option FieldType} {ws : List Cond} {rm : Room} {Pc : Array Value → State → Prop} {Qc : Array Value → State → Outcome → State → Prop} {XC : String → State → State → Prop} {free : Addr → Prop} {Ts : List Cond} {own C : String} {b : Addr} {As rest : List Value} {g : JFrame}
theorem vx_callBack (cb : CallB R s args own index y bytes maxL ret ws rm mc ms n) (hM : vx_Met l y ws rm Pc Qc XC mc ms free) (hbl : FrameBlind Pc) : vx_Back l R p e below s args y 3 8 (PreOf R mc ms Pc) (PostOf Qc mc ms free) (vx_Post XC mc ms free) := by
  obtain ⟨hrc, hrs, hfr, hlo, hws, hcw, -, hini, -⟩ := cb
  exact vx_back (bytes := bytes) (maxL := maxL) (ret := ret) hM hbl hrc hrs hfr hlo hws hcw (fun a' U hW => word_at hW (Or.inl (by first | rfl | simp [Cond.onTables, Cond.keeps, Cond.steady])) hini)
theorem vx_runV (S : CallFix p m c cc nL s args Ts own) (hM : vx_Met l y ws rm Pc Qc XC mc ms free) (cw : CallW R s args own C index y bytes maxL ret ws rm mc ms n) (hp : PreV s H C b Pc As)
    (hg : g.method = m) (hn : As.length = n) (hsize : g.locals.size = nL) (hstack : g.stack = As.reverse ++ .ref b :: rest) (hW : 2 * g.monitorRoom + (rest.map fun v => v.category).sum ≤ 8) (hdg : decode cc g.pc = .ok (.invokevirtual index, 3)) (hf : cells + mc ≤ R.cells ∧ slots + ms ≤ R.slots) :
    vx_Run p l e R s m args below meth c H locs cells slots mc ms g rest (Qc (Value.ref b :: As).toArray) XC free := by
  have hK : vx_Back l R p e below s args y 3 8 (PreOf R mc ms Pc) (PostOf Qc mc ms free) (vx_Post XC mc ms free) := vx_callBack cw.1 hM hp.1
  obtain ⟨⟨-, -, -, -, -, -, hcode, -, hy, hlen, hl⟩, hin, hse⟩ := cw
  obtain ⟨hx, hb, hml, ho, -⟩ := S
  obtain ⟨-, ⟨cellB, hcB, hoB, hclB⟩, hPc⟩ := hp
  intro T hT X
  rcases vx_callV X hx (C := C) (bytes := bytes) (maxL := maxL) (ret := ret) ho hl hin hse hcode hy hK (by rw [hT]; exact hcB) hoB hclB hg (hsize.trans hml.symm) (argsL := As) (rest := rest) (fun sig h => hn.trans (hlen sig h)) hstack hW (by rw [hb]; exact hdg)
    (fun vm₁ hW₁ => ⟨hf.1, hf.2, hPc (T.setVm vm₁) hT hW₁⟩) with ⟨v, vm₁, ⟨U', l2, c2, s2⟩, hW₁, X', ⟨g', mk, t, L, e1, e2, hq, h1, hL, h2, h3⟩, st⟩ | ⟨q, vm₁, ⟨U', l2, c2, s2⟩, hW₁, X', ⟨g', mk, t, L, E, ce, e1, e2, hq, hce, hcv, hcl, h1, hL, h2, h3⟩, st⟩
  · dsimp only [Pt.U, Pt.locs, Pt.cells, Pt.slots] at X' e1 e2 h1 h2 h3 st
    subst h1; subst h2; subst h3
    exact Or.inl ⟨v, (T.setVm vm₁).calling g' mk (Value.ref b :: As).toArray, t, U', L, hT, X', hL, e1, e2, hq, st⟩
  · dsimp only [Pt.U, Pt.locs, Pt.cells, Pt.slots] at X' e1 e2 h1 h2 h3 st hcl
    subst h1; subst h2; subst h3
    exact Or.inr ⟨q, (T.setVm vm₁).calling g' mk (Value.ref b :: As).toArray, t, U', L, E, ce, hT, X', hL, e1, e2, hq, hce, hcv, vx_cls hW₁ hcl, st⟩
theorem vx_runS (S : CallFix p m c cc nL s args Ts own) (hM : vx_Met l y ws rm Pc Qc XC mc ms free) (cw : CallB R s args own index y bytes maxL ret ws rm mc ms n ∧ (Cond.static y).before args s = true) (hp : PreS s H Pc As)
    (hg : g.method = m) (hn : As.length = n) (hsize : g.locals.size = nL) (hstack : g.stack = As.reverse ++ rest) (hW : 2 * g.monitorRoom + (rest.map fun v => v.category).sum ≤ 8) (hdg : decode cc g.pc = .ok (.invokestatic index, 3)) (hf : cells + mc ≤ R.cells ∧ slots + ms ≤ R.slots) :
    vx_Run p l e R s m args below meth c H locs cells slots mc ms g rest (Qc As.toArray) XC free := by
  have hK : vx_Back l R p e below s args y 3 8 (PreOf R mc ms Pc) (PostOf Qc mc ms free) (vx_Post XC mc ms free) := vx_callBack cw.1 hM hp.1
  obtain ⟨⟨-, -, -, -, -, -, hcode, hini, hy, hlen, hl⟩, hstt⟩ := cw
  obtain ⟨hx, hb, hml, ho, -⟩ := S
  intro T hT X
  rcases vx_callS X hx (bytes := bytes) (maxL := maxL) (ret := ret) ho hl hstt hini hcode hy hK hg (hsize.trans hml.symm) (argsL := As) (rest := rest) (fun sig h => hn.trans (hlen sig h)) hstack hW (by rw [hb]; exact hdg)
    (fun vm₁ hW₁ => ⟨hf.1, hf.2, hp.2 (T.setVm vm₁) hT hW₁⟩) with ⟨v, vm₁, ⟨U', l2, c2, s2⟩, hW₁, X', ⟨g', mk, t, L, e1, e2, hq, h1, hL, h2, h3⟩, st⟩ | ⟨q, vm₁, ⟨U', l2, c2, s2⟩, hW₁, X', ⟨g', mk, t, L, E, ce, e1, e2, hq, hce, hcv, hcl, h1, hL, h2, h3⟩, st⟩
  · dsimp only [Pt.U, Pt.locs, Pt.cells, Pt.slots] at X' e1 e2 h1 h2 h3 st
    subst h1; subst h2; subst h3
    exact Or.inl ⟨v, (T.setVm vm₁).calling g' mk As.toArray, t, U', L, hT, X', hL, e1, e2, hq, st⟩
  · dsimp only [Pt.U, Pt.locs, Pt.cells, Pt.slots] at X' e1 e2 h1 h2 h3 st hcl
    subst h1; subst h2; subst h3
    exact Or.inr ⟨q, (T.setVm vm₁).calling g' mk As.toArray, t, U', L, E, ce, hT, X', hL, e1, e2, hq, hce, hcv, vx_cls hW₁ hcl, st⟩
end Runs
section Rows
variable {p : Program} {l : Launch} {e : Env} {R : Room} {s : State} {m : MethodId} {args : Array Value} {below : List Frame} {meth : Method} {c : Code} {H : Heap} {locs : List Loc} {cells slots : Nat} {Q : State → Prop}
variable {mc ms : Nat} {free : Addr → Prop} {A0 A1 : Nat → Prop} {H0 : Heap} {a : Array Value} {pc : Nat} {ls : Array Slot} {st0 rest : List Value}
theorem vx_keep {st₀ t T' : State} {L : List Loc} (h0 : st₀.heap = H) (e1 : T'.heap = t.heap) (hS : va_S A0 H0 H locs) (hA : ∀ q, q < H.size → A1 q → A0 q) (hf : ∀ q, free q → A0 q) (hL : ∀ q ∈ L, free q.base) (hF : va_F A1 st₀ t) :
    H.size ≤ T'.heap.size ∧ (∀ q : Nat, q < H.size → ¬ A1 q → T'.heap[q]? = H[q]?) ∧ va_S A0 H0 T'.heap (locs ++ L) := by
  obtain ⟨hz, hk⟩ := hF
  rw [h0] at hz hk
  exact ⟨by rw [e1]; exact hz, fun q h1 h2 => by rw [e1]; exact hk q h1 h2,
    ⟨Nat.le_trans hS.1 (by rw [e1]; exact hz), fun q h1 h2 => by rw [e1, hk q (Nat.lt_of_lt_of_le h1 hS.1) (fun z => h2 (hA q (Nat.lt_of_lt_of_le h1 hS.1) z))]; exact hS.2.1 q h1 h2, fun q hq => by
      rcases List.mem_append.mp hq with h | h
      · exact hS.2.2 q h
      · exact hf _ (hL q h)⟩⟩
theorem vx_calli {S SX : Type} {post : Int32 → S → Prop} {px : SX → Prop} {B : S → State → Prop} {BX : String → SX → State → Prop} {AX : Nat → Prop} (hr : vx_Run p l e R s m args below meth c H locs cells slots mc ms (F0 m pc ls st0) rest (va_Qi post B A1 a) (vx_X px BX AX) free) (hS : va_S A0 H0 H locs) (hA : ∀ q, q < H.size → A1 q → A0 q) (hf : ∀ q, free q → A0 q) (hAX : ∀ q, q < H.size → AX q → A0 q)
    (kx : ∀ (E : String) (ce : Cell) (q9 : Addr) (u : SX) (t : State) (H1 : Heap) (locs1 : List Loc), t.heap = H1 → s.vm.Alike t.vm → px u → BX E u t → H.size ≤ H1.size → (∀ q : Nat, q < H.size → ¬ AX q → H1[q]? = H[q]?) → va_S A0 H0 H1 locs1 → H1[q9]? = some ce → ce.vm = .none → s.vm.findClass E = some ce.cls → vx_W p l e R s m args below meth c H1 locs1 (cells + mc) (slots + ms) Q (F0 m pc ls rest) q9)
    (kk : ∀ (r : Int32) (u : S) (t : State) (H1 : Heap) (locs1 : List Loc), t.heap = H1 → s.vm.Alike t.vm → post r u → B u t → H.size ≤ H1.size → (∀ q : Nat, q < H.size → ¬ A1 q → H1[q]? = H[q]?) → va_S A0 H0 H1 locs1 → W p l e R s m args below meth c H1 locs1 (cells + mc) (slots + ms) Q (F0 m (pc + 3) ls (.int r :: rest))) : W p l e R s m args below meth c H locs cells slots Q (F0 m pc ls st0) := by
  intro T hT X
  rcases hr T hT X with ⟨v, st₀, t, T', L, h0, X', hL, e1, e2, ⟨⟨r, u, hv, hp, hb⟩, hF⟩, st⟩ | ⟨q, st₀, t, T', L, E, ce, h0, X', hL, e1, e2, ⟨u, hp, hb, hF⟩, hce, hcv, hcl, st⟩
  · cases hv
    obtain ⟨k1, k2, k3⟩ := vx_keep h0 e1 hS hA hf hL hF
    obtain ⟨t2, a1, b1⟩ := kk r u t T'.heap (locs ++ L) e1.symm (by rw [← e2]; exact X'.warmed.alike) hp hb k1 k2 k3 T' rfl X'
    exact ⟨t2, st t2 a1, b1⟩
  · obtain ⟨k1, k2, k3⟩ := vx_keep h0 e1 hS hAX hf hL hF
    obtain ⟨t2, a1, b1⟩ := kx E ce q u t T'.heap (locs ++ L) e1.symm (by rw [← e2]; exact X'.warmed.alike) hp hb k1 k2 k3 (by rw [e1]; exact hce) hcv hcl T' rfl X'
    exact ⟨t2, st.trans a1, b1⟩
theorem vx_calll {S SX : Type} {post : Int64 → S → Prop} {px : SX → Prop} {B : S → State → Prop} {BX : String → SX → State → Prop} {AX : Nat → Prop} (hr : vx_Run p l e R s m args below meth c H locs cells slots mc ms (F0 m pc ls st0) rest (va_Ql post B A1 a) (vx_X px BX AX) free) (hS : va_S A0 H0 H locs) (hA : ∀ q, q < H.size → A1 q → A0 q) (hf : ∀ q, free q → A0 q) (hAX : ∀ q, q < H.size → AX q → A0 q)
    (kx : ∀ (E : String) (ce : Cell) (q9 : Addr) (u : SX) (t : State) (H1 : Heap) (locs1 : List Loc), t.heap = H1 → s.vm.Alike t.vm → px u → BX E u t → H.size ≤ H1.size → (∀ q : Nat, q < H.size → ¬ AX q → H1[q]? = H[q]?) → va_S A0 H0 H1 locs1 → H1[q9]? = some ce → ce.vm = .none → s.vm.findClass E = some ce.cls → vx_W p l e R s m args below meth c H1 locs1 (cells + mc) (slots + ms) Q (F0 m pc ls rest) q9)
    (kk : ∀ (r : Int64) (u : S) (t : State) (H1 : Heap) (locs1 : List Loc), t.heap = H1 → s.vm.Alike t.vm → post r u → B u t → H.size ≤ H1.size → (∀ q : Nat, q < H.size → ¬ A1 q → H1[q]? = H[q]?) → va_S A0 H0 H1 locs1 → W p l e R s m args below meth c H1 locs1 (cells + mc) (slots + ms) Q (F0 m (pc + 3) ls (.long r :: rest))) : W p l e R s m args below meth c H locs cells slots Q (F0 m pc ls st0) := by
  intro T hT X
  rcases hr T hT X with ⟨v, st₀, t, T', L, h0, X', hL, e1, e2, ⟨⟨r, u, hv, hp, hb⟩, hF⟩, st⟩ | ⟨q, st₀, t, T', L, E, ce, h0, X', hL, e1, e2, ⟨u, hp, hb, hF⟩, hce, hcv, hcl, st⟩
  · cases hv
    obtain ⟨k1, k2, k3⟩ := vx_keep h0 e1 hS hA hf hL hF
    obtain ⟨t2, a1, b1⟩ := kk r u t T'.heap (locs ++ L) e1.symm (by rw [← e2]; exact X'.warmed.alike) hp hb k1 k2 k3 T' rfl X'
    exact ⟨t2, st t2 a1, b1⟩
  · obtain ⟨k1, k2, k3⟩ := vx_keep h0 e1 hS hAX hf hL hF
    obtain ⟨t2, a1, b1⟩ := kx E ce q u t T'.heap (locs ++ L) e1.symm (by rw [← e2]; exact X'.warmed.alike) hp hb k1 k2 k3 (by rw [e1]; exact hce) hcv hcl T' rfl X'
    exact ⟨t2, st.trans a1, b1⟩
theorem vx_callf {S SX : Type} {post : UInt32 → S → Prop} {px : SX → Prop} {B : S → State → Prop} {BX : String → SX → State → Prop} {AX : Nat → Prop} (hr : vx_Run p l e R s m args below meth c H locs cells slots mc ms (F0 m pc ls st0) rest (va_Qf post B A1 a) (vx_X px BX AX) free) (hS : va_S A0 H0 H locs) (hA : ∀ q, q < H.size → A1 q → A0 q) (hf : ∀ q, free q → A0 q) (hAX : ∀ q, q < H.size → AX q → A0 q)
    (kx : ∀ (E : String) (ce : Cell) (q9 : Addr) (u : SX) (t : State) (H1 : Heap) (locs1 : List Loc), t.heap = H1 → s.vm.Alike t.vm → px u → BX E u t → H.size ≤ H1.size → (∀ q : Nat, q < H.size → ¬ AX q → H1[q]? = H[q]?) → va_S A0 H0 H1 locs1 → H1[q9]? = some ce → ce.vm = .none → s.vm.findClass E = some ce.cls → vx_W p l e R s m args below meth c H1 locs1 (cells + mc) (slots + ms) Q (F0 m pc ls rest) q9)
    (kk : ∀ (r : UInt32) (u : S) (t : State) (H1 : Heap) (locs1 : List Loc), t.heap = H1 → s.vm.Alike t.vm → post r u → B u t → H.size ≤ H1.size → (∀ q : Nat, q < H.size → ¬ A1 q → H1[q]? = H[q]?) → va_S A0 H0 H1 locs1 → W p l e R s m args below meth c H1 locs1 (cells + mc) (slots + ms) Q (F0 m (pc + 3) ls (.float r :: rest))) : W p l e R s m args below meth c H locs cells slots Q (F0 m pc ls st0) := by
  intro T hT X
  rcases hr T hT X with ⟨v, st₀, t, T', L, h0, X', hL, e1, e2, ⟨⟨r, u, hv, hp, hb⟩, hF⟩, st⟩ | ⟨q, st₀, t, T', L, E, ce, h0, X', hL, e1, e2, ⟨u, hp, hb, hF⟩, hce, hcv, hcl, st⟩
  · cases hv
    obtain ⟨k1, k2, k3⟩ := vx_keep h0 e1 hS hA hf hL hF
    obtain ⟨t2, a1, b1⟩ := kk r u t T'.heap (locs ++ L) e1.symm (by rw [← e2]; exact X'.warmed.alike) hp hb k1 k2 k3 T' rfl X'
    exact ⟨t2, st t2 a1, b1⟩
  · obtain ⟨k1, k2, k3⟩ := vx_keep h0 e1 hS hAX hf hL hF
    obtain ⟨t2, a1, b1⟩ := kx E ce q u t T'.heap (locs ++ L) e1.symm (by rw [← e2]; exact X'.warmed.alike) hp hb k1 k2 k3 (by rw [e1]; exact hce) hcv hcl T' rfl X'
    exact ⟨t2, st.trans a1, b1⟩
theorem vx_calld {S SX : Type} {post : UInt64 → S → Prop} {px : SX → Prop} {B : S → State → Prop} {BX : String → SX → State → Prop} {AX : Nat → Prop} (hr : vx_Run p l e R s m args below meth c H locs cells slots mc ms (F0 m pc ls st0) rest (va_Qd post B A1 a) (vx_X px BX AX) free) (hS : va_S A0 H0 H locs) (hA : ∀ q, q < H.size → A1 q → A0 q) (hf : ∀ q, free q → A0 q) (hAX : ∀ q, q < H.size → AX q → A0 q)
    (kx : ∀ (E : String) (ce : Cell) (q9 : Addr) (u : SX) (t : State) (H1 : Heap) (locs1 : List Loc), t.heap = H1 → s.vm.Alike t.vm → px u → BX E u t → H.size ≤ H1.size → (∀ q : Nat, q < H.size → ¬ AX q → H1[q]? = H[q]?) → va_S A0 H0 H1 locs1 → H1[q9]? = some ce → ce.vm = .none → s.vm.findClass E = some ce.cls → vx_W p l e R s m args below meth c H1 locs1 (cells + mc) (slots + ms) Q (F0 m pc ls rest) q9)
    (kk : ∀ (r : UInt64) (u : S) (t : State) (H1 : Heap) (locs1 : List Loc), t.heap = H1 → s.vm.Alike t.vm → post r u → B u t → H.size ≤ H1.size → (∀ q : Nat, q < H.size → ¬ A1 q → H1[q]? = H[q]?) → va_S A0 H0 H1 locs1 → W p l e R s m args below meth c H1 locs1 (cells + mc) (slots + ms) Q (F0 m (pc + 3) ls (.double r :: rest))) : W p l e R s m args below meth c H locs cells slots Q (F0 m pc ls st0) := by
  intro T hT X
  rcases hr T hT X with ⟨v, st₀, t, T', L, h0, X', hL, e1, e2, ⟨⟨r, u, hv, hp, hb⟩, hF⟩, st⟩ | ⟨q, st₀, t, T', L, E, ce, h0, X', hL, e1, e2, ⟨u, hp, hb, hF⟩, hce, hcv, hcl, st⟩
  · cases hv
    obtain ⟨k1, k2, k3⟩ := vx_keep h0 e1 hS hA hf hL hF
    obtain ⟨t2, a1, b1⟩ := kk r u t T'.heap (locs ++ L) e1.symm (by rw [← e2]; exact X'.warmed.alike) hp hb k1 k2 k3 T' rfl X'
    exact ⟨t2, st t2 a1, b1⟩
  · obtain ⟨k1, k2, k3⟩ := vx_keep h0 e1 hS hAX hf hL hF
    obtain ⟨t2, a1, b1⟩ := kx E ce q u t T'.heap (locs ++ L) e1.symm (by rw [← e2]; exact X'.warmed.alike) hp hb k1 k2 k3 (by rw [e1]; exact hce) hcv hcl T' rfl X'
    exact ⟨t2, st.trans a1, b1⟩
theorem vx_callv {S SX : Type} {post : S → Prop} {px : SX → Prop} {B : S → State → Prop} {BX : String → SX → State → Prop} {AX : Nat → Prop} (hr : vx_Run p l e R s m args below meth c H locs cells slots mc ms (F0 m pc ls st0) rest (va_Qv post B A1 a) (vx_X px BX AX) free) (hS : va_S A0 H0 H locs) (hA : ∀ q, q < H.size → A1 q → A0 q) (hf : ∀ q, free q → A0 q) (hAX : ∀ q, q < H.size → AX q → A0 q)
    (kx : ∀ (E : String) (ce : Cell) (q9 : Addr) (u : SX) (t : State) (H1 : Heap) (locs1 : List Loc), t.heap = H1 → s.vm.Alike t.vm → px u → BX E u t → H.size ≤ H1.size → (∀ q : Nat, q < H.size → ¬ AX q → H1[q]? = H[q]?) → va_S A0 H0 H1 locs1 → H1[q9]? = some ce → ce.vm = .none → s.vm.findClass E = some ce.cls → vx_W p l e R s m args below meth c H1 locs1 (cells + mc) (slots + ms) Q (F0 m pc ls rest) q9)
    (kk : ∀ (u : S) (t : State) (H1 : Heap) (locs1 : List Loc), t.heap = H1 → s.vm.Alike t.vm → post u → B u t → H.size ≤ H1.size → (∀ q : Nat, q < H.size → ¬ A1 q → H1[q]? = H[q]?) → va_S A0 H0 H1 locs1 → W p l e R s m args below meth c H1 locs1 (cells + mc) (slots + ms) Q (F0 m (pc + 3) ls (rest))) : W p l e R s m args below meth c H locs cells slots Q (F0 m pc ls st0) := by
  intro T hT X
  rcases hr T hT X with ⟨v, st₀, t, T', L, h0, X', hL, e1, e2, ⟨⟨u, hv, hp, hb⟩, hF⟩, st⟩ | ⟨q, st₀, t, T', L, E, ce, h0, X', hL, e1, e2, ⟨u, hp, hb, hF⟩, hce, hcv, hcl, st⟩
  · cases hv
    obtain ⟨k1, k2, k3⟩ := vx_keep h0 e1 hS hA hf hL hF
    obtain ⟨t2, a1, b1⟩ := kk u t T'.heap (locs ++ L) e1.symm (by rw [← e2]; exact X'.warmed.alike) hp hb k1 k2 k3 T' rfl X'
    exact ⟨t2, st t2 a1, b1⟩
  · obtain ⟨k1, k2, k3⟩ := vx_keep h0 e1 hS hAX hf hL hF
    obtain ⟨t2, a1, b1⟩ := kx E ce q u t T'.heap (locs ++ L) e1.symm (by rw [← e2]; exact X'.warmed.alike) hp hb k1 k2 k3 (by rw [e1]; exact hce) hcv hcl T' rfl X'
    exact ⟨t2, st.trans a1, b1⟩
/-- caught by the row x of this method's table; the rows ahead don't take it -/
theorem vx_catch {own name : String} {E : String} {ce : Cell} {q : Addr} (hown : s.vm.findClass own = some m.cls) (pre : List ExceptionTableEntry) (x : ExceptionTableEntry) (suf : List ExceptionTableEntry) (hsplit : c.exceptionTable.toList = pre ++ x :: suf)
    (hpass : ∀ z ∈ pre, covers z pc = false ∨ (z.catchType ≠ 0 ∧ ∃ nm : String, (Cond.classLink own z.catchType nm).before args s = true ∧ va_Nc E nm s)) (hx : covers x pc = true) (h0 : x.catchType ≠ 0)
    (hlink : (Cond.classLink own x.catchType name).before args s = true) (hcast : (Cond.castable E name).before args s = true) (hcell : H[q]? = some ce) (hv : ce.vm = .none) (hcl : s.vm.findClass E = some ce.cls)
    (kk : W p l e R s m args below meth c H locs cells slots Q (F0 m x.handlerPc ls [.ref q])) : vx_W p l e R s m args below meth c H locs cells slots Q (F0 m pc ls rest) q := by
  intro T hT X
  have hpl : e.platform.magicAccessors = ({} : Platform).magicAccessors := by rw [X.admits.platform]
  obtain ⟨c3, c4, hc3, hc4, hasg⟩ := Cond.castable_spec hcast
  cases Option.some.inj (hc3.symm.trans hcl)
  obtain ⟨c5, hc5, hcl5⟩ := Cond.classLink_spec hown hlink e.platform hpl
  cases Option.some.inj (hc4.symm.trans hc5)
  obtain ⟨vm', X', st⟩ := X.thenCaughtThrough q (g := F0 m pc ls rest) rfl (Steps.refl _) (by rw [hT]; exact hcell) (by rw [hv]; rfl) (by obtain ⟨k9, h9, -⟩ := Vm.findClass_spec hcl; exact ⟨k9, h9⟩) pre x suf hsplit
    (fun z hz => by
      rcases hpass z hz with h | ⟨hz0, nm, hl1, hn1⟩
      · exact Or.inl h
      · obtain ⟨c6, hc6, hcl6⟩ := Cond.classLink_spec hown hl1 e.platform hpl
        obtain ⟨a8, b8, h1, h2, h3⟩ := hn1
        cases Option.some.inj (h1.symm.trans hcl)
        cases Option.some.inj (h2.symm.trans hc6)
        exact Or.inr ⟨hz0, _, hcl6, h3⟩) hx (Or.inr ⟨h0, c4, hcl5, hasg⟩)
  obtain ⟨t, a1, b1⟩ := kk (T.setVm vm') hT X'
  exact ⟨t, st.trans a1, b1⟩
end Rows
section Ends
variable {p : Program} {l : Launch} {e : Env} {R : Room} {s : State} {m : MethodId} {args : Array Value} {below : List Frame} {meth : Method} {c : Code} {H : Heap} {locs : List Loc} {cells slots : Nat} {Q : State → Prop}
variable {mc ms : Nat} {free : Addr → Prop} {A0 A1 : Nat → Prop} {H0 : Heap} {a : Array Value} {ls : Array Slot} {st0 rest : List Value}
variable {Qc : Array Value → State → Outcome → State → Prop} {XC : String → State → State → Prop}
/-- what a body that may throw owes at its end -/
def vx_MQ (below : List Frame) (Qc : Array Value → State → Outcome → State → Prop) (XC : String → State → State → Prop) (a : Array Value) (s : State) (mc ms : Nat) (free : Addr → Prop) : State → Prop := fun t =>
  ∃ o, t.status = .running ∧ Ended t below o ∧ vx_Q Qc XC mc ms free a s o t
theorem vx_ret {g : JFrame} {mc ms : Nat} (k : W p l e R s m args below meth c H locs cells slots (MQ below Qc args s mc ms free) g) : W p l e R s m args below meth c H locs cells slots (vx_MQ below Qc XC args s mc ms free) g := by
  intro T hT X
  obtain ⟨t, a1, o, b1, b2, b3, b4⟩ := k T hT X
  exact ⟨t, a1, o, b1, b2, Or.inl ⟨b3, b4⟩⟩
/-- not caught here: it goes on to the caller -/
theorem vx_widen {g : JFrame} {q : Addr} {k n : Nat} (h1 : cells ≤ k) (h2 : slots ≤ n) (kk : vx_W p l e R s m args below meth c H locs k n Q g q) : vx_W p l e R s m args below meth c H locs cells slots Q g q := fun T hT X => kk T hT (stand_widen X h1 h2)
theorem vx_out {pc : Nat} {E : String} {ce : Cell} {q : Addr} {mc ms : Nat} (hout : ∀ x ∈ c.exceptionTable.toList, covers x pc = false) (hlocks : meth.locks = false) (hcell : H[q]? = some ce) (hv : ce.vm = .none) (hcl : s.vm.findClass E = some ce.cls)
    (hx : ∀ t : State, t.heap = H → s.vm.Alike t.vm → XC E s t) (hf : ∀ z ∈ locs, free z.base) (hc : cells ≤ mc) (hs : slots ≤ ms) :
    vx_W p l e R s m args below meth c H locs cells slots (vx_MQ below Qc XC args s mc ms free) (F0 m pc ls rest) q := by
  intro T hT X
  obtain ⟨st1, hrun, hend, hW, hsm⟩ := X.leaveThrown q (g := F0 m pc ls rest) rfl rfl rfl hout hlocks
  have hcell9 : (T.setFrames (.throwing q :: below)).heap[q]? = some ce := by
    show T.heap[q]? = some ce
    rw [hT]; exact hcell
  exact ⟨_, st1, .threw q, hrun, hend, Or.inr ⟨q, rfl, E, ce, locs, hx _ hT hW.alike, hcell9, hv, hcl, hW, hsm.mono hc hs, hf⟩⟩
theorem vx_frame {U : State} {k n : Nat} (h : s.sameButNew ({ U with vm := s.vm } : State) locs k n) : s.heap.size ≤ U.heap.size ∧ ∀ q : Nat, q < s.heap.size → (∀ z ∈ locs, z.base ≠ q) → U.heap[q]? = s.heap[q]? := by
  obtain ⟨-, h2, -, -, -, h6⟩ := h
  refine ⟨h2, fun q hq hz => ?_⟩
  obtain ⟨c9, e1, e2, e3, e4⟩ := h6 q _ (Array.getElem?_eq_getElem hq)
  have hs : c9.slots = (s.heap[q]).slots := Array.ext_getElem? fun i => e4 i fun hm => hz _ hm rfl
  have h9 : c9 = s.heap[q] := by
    rw [hs] at e2
    exact e2
  have e5 : U.heap[q]? = some c9 := e1
  rw [e5, h9, Array.getElem?_eq_getElem hq]
/-- the words of a throw but the four that speak of the heap -/
def vx_no (w : Cond) : Bool := decide (w ≠ .isRef (.static Bundle.tN "UNASSIGNED_STACK" Bundle.steD)) && decide (w ≠ .isRef (.static Bundle.tN "SUPPRESSED_SENTINEL" Bundle.listD)) && decide (w ≠ .laysStatic Bundle.tN "UNASSIGNED_STACK" Bundle.steD) && decide (w ≠ .laysStatic Bundle.tN "SUPPRESSED_SENTINEL" Bundle.listD)
def vx_at0 (own : String) (ic : Nat) (X : String) (names : List String) : List Cond := (Bundle.ownAtoms0 own ic X names).filter vx_no
def vx_atS (own : String) (ic : Nat) (X : String) (names : List String) : List Cond := (Bundle.ownAtoms own ic X names).filter vx_no
/-- a word that the tables alone decide, or a good one -/
def vx_ot (w : Cond) : Bool := w.onTables || goodWord w
theorem vx_ot_at {args a' : Array Value} {s U : State} {w : Cond} (hW : s.WarmedH U.vm) (hvm : s.vm = U.vm) (hg : vx_ot w = true) (h : w.before args s = true) : w.before a' U = true := by
  simp only [vx_ot, Bool.or_eq_true] at hg
  rcases hg with hg | hg
  · exact va_tabs hg hvm h
  · exact word_at hW (good_of_word hg) h
/-- a list's words: the good ones out of the method's own list, the others by premises of their own -/
theorem vx_hat {args : Array Value} {s : State} {L B : List Cond} (h1 : ∀ w ∈ L.filter goodWord, w.before args s = true) (h2 : ∀ w ∈ L.filter (fun w => !goodWord w), w ∈ B) (h3 : ∀ w ∈ B, w.before args s = true) : ∀ w ∈ L, w.before args s = true := by
  intro w hw
  by_cases g : goodWord w = true
  · exact h1 w (List.mem_filter.mpr ⟨hw, g⟩)
  · refine h3 w (h2 w (List.mem_filter.mpr ⟨hw, ?_⟩))
    show (!goodWord w) = true
    cases hgw : goodWord w
    · rfl
    · exact absurd hgw g
theorem vx_c {args : Array Value} {s : State} {w : Cond} {B : List Cond} (h : w.before args s = true) (t : ∀ w ∈ B, w.before args s = true) : ∀ w' ∈ w :: B, w'.before args s = true := fun w' h' => (List.mem_cons.mp h').elim (fun e => by rw [e]; exact h) (t w')
theorem vx_n {args : Array Value} {s : State} : ∀ w ∈ ([] : List Cond), w.before args s = true := fun _ h => nomatch h
theorem vx_own {args : Array Value} {s : State} {L : List Cond} (h1 : ∀ w ∈ L.filter vx_no, w.before args s = true)
    (hU : (Cond.isRef (.static Bundle.tN "UNASSIGNED_STACK" Bundle.steD)).before args s = true) (hN : (Cond.isRef (.static Bundle.tN "SUPPRESSED_SENTINEL" Bundle.listD)).before args s = true)
    (lU : (Cond.laysStatic Bundle.tN "UNASSIGNED_STACK" Bundle.steD).before args s = true) (lN : (Cond.laysStatic Bundle.tN "SUPPRESSED_SENTINEL" Bundle.listD).before args s = true) : ∀ w ∈ L, w.before args s = true := by
  intro w hw
  by_cases e1 : w = .isRef (.static Bundle.tN "UNASSIGNED_STACK" Bundle.steD)
  · rw [e1]; exact hU
  · by_cases e2 : w = .isRef (.static Bundle.tN "SUPPRESSED_SENTINEL" Bundle.listD)
    · rw [e2]; exact hN
    · by_cases e3 : w = .laysStatic Bundle.tN "UNASSIGNED_STACK" Bundle.steD
      · rw [e3]; exact lU
      · by_cases e4 : w = .laysStatic Bundle.tN "SUPPRESSED_SENTINEL" Bundle.listD
        · rw [e4]; exact lN
        · exact h1 w (List.mem_filter.mpr ⟨hw, by unfold vx_no; rw [decide_eq_true e1, decide_eq_true e2, decide_eq_true e3, decide_eq_true e4]; rfl⟩)
/-- where a static field lies, its class's statics cell in H -/
def vx_L (C n d : String) (A : Nat → Prop) (U : State) (H : Heap) : Prop := ∃ (c : ClassId) (k : Class) (i : Nat) (f : Field) (a : Nat) (cell : Cell), U.vm.findClass C = some c ∧ U.fieldFound? C n d = some (c, k, i, f) ∧ f.isStatic = true ∧ k.statics = some a ∧ H[a]? = some cell ∧ cell.vm.isStatics = true ∧ cell.cls = c ∧ f.slot < cell.slots.size ∧ k.staticTypes[f.slot]? = some f.type ∧ ¬ A a
theorem vx_L.moved {C n d : String} {A : Nat → Prop} {u U : State} {H : Heap} (hvm : u.vm.Alike U.vm) (h : vx_L C n d A u H) : vx_L C n d A U H := by
  obtain ⟨c, k, i, f, a, cell, h1, h2, h3, h4, h5, h6, h7, h8, h9, h10⟩ := h
  obtain ⟨k', hi', he⟩ := State.fieldFound?_setVm hvm h2
  exact ⟨c, k', i, f, a, cell, by rw [hvm.findClass]; exact h1, hi', h3, by rw [he]; exact h4, h5, h6, h7, h8, by rw [he]; exact h9, h10⟩
theorem vx_L.kept {C n d : String} {A : Nat → Prop} {U : State} {H H1 : Heap} (h : vx_L C n d A U H) (hq : ∀ a : Nat, a < H.size → ¬ A a → H1[a]? = H[a]?) : vx_L C n d A U H1 := by
  obtain ⟨c, k, i, f, a, cell, h1, h2, h3, h4, h5, h6, h7, h8, h9, h10⟩ := h
  exact ⟨c, k, i, f, a, cell, h1, h2, h3, h4, by rw [hq a (Array.getElem?_eq_some_iff.mp h5).1 h10]; exact h5, h6, h7, h8, h9, h10⟩
theorem vx_L.narrow {C n d : String} {A B : Nat → Prop} {U : State} {H : Heap} (h : vx_L C n d A U H) (hAB : ∀ q, B q → A q) : vx_L C n d B U H := by
  obtain ⟨c, k, i, f, a, cell, h1, h2, h3, h4, h5, h6, h7, h8, h9, h10⟩ := h
  exact ⟨c, k, i, f, a, cell, h1, h2, h3, h4, h5, h6, h7, h8, h9, fun z => h10 (hAB _ z)⟩
theorem vx_L.word {C n d : String} {A : Nat → Prop} {s : State} {args : Array Value} (h : vx_L C n d A s s.heap) : (Cond.laysStatic C n d).before args s = true := by
  obtain ⟨c, k, i, f, a, cell, h1, h2, h3, h4, h5, h6, h7, h8, h9, -⟩ := h
  show (Cond.laysStatic C n d).holds args s none s [] = true
  exact Cond.laysStatic_of h1 h2 h3 h4 h5 h6 h7 h8 h9
/-- .. and what it holds: null or some reference -/
def vx_Zq (C n d : String) (A : Nat → Prop) (U : State) (H : Heap) : Prop := va_Zq C n d A U H ∧ vx_L C n d A U H
theorem vx_Zq.moved {C n d : String} {A : Nat → Prop} {u U : State} {H : Heap} (hvm : u.vm.Alike U.vm) (h : vx_Zq C n d A u H) : vx_Zq C n d A U H := ⟨va_Zq.moved hvm h.1, vx_L.moved hvm h.2⟩
theorem vx_Zq.kept {C n d : String} {A : Nat → Prop} {U : State} {H H1 : Heap} (h : vx_Zq C n d A U H) (hq : ∀ a : Nat, a < H.size → ¬ A a → H1[a]? = H[a]?) : vx_Zq C n d A U H1 := ⟨va_Zq.kept h.1 hq, vx_L.kept h.2 hq⟩
theorem vx_Zq.narrow {C n d : String} {A B : Nat → Prop} {U : State} {H : Heap} (h : vx_Zq C n d A U H) (hAB : ∀ q, B q → A q) : vx_Zq C n d B U H := ⟨va_Zq.narrow h.1 hAB, vx_L.narrow h.2 hAB⟩
theorem vx_Zqof {args : Array Value} {s : State} {C n d : String} {A : Nat → Prop} (hl : (Cond.laysStatic C n d).before args s = true) (hini : (Cond.initialized C).before args s = true) (h : (Cond.isRef (.static C n d)).before args s = true) (hA : ∀ a : Nat, a < s.heap.size → ¬ A a) : vx_Zq C n d A s s.heap := by
  refine ⟨va_Zqof hl hini h hA, ?_⟩
  obtain ⟨c, k, i, f, a, cell, h1, h2, h3, h4, h5, h6, h7, h8, h9⟩ := Cond.laysStatic_spec hl
  exact ⟨c, k, i, f, a, cell, h1, h2, h3, h4, h5, h6, h7, h8, h9, hA a (Array.getElem?_eq_some_iff.mp h5).1⟩
theorem vx_isRef {C n d : String} {v : Value} {A : Nat → Prop} {s : State} {args : Array Value} (h : va_Z C n d v A s s.heap) (hv : v.isRef = true) : (Cond.isRef (.static C n d)).before args s = true := by
  obtain ⟨cf, kf, fi, f, a, cell, h1, h2, h3, h4, h5, h6, h7, -⟩ := h
  have he : (Term.static C n d).eval args s none [] s = some v := by
    simp [Term.eval, State.fieldNamed?, h1, h2, h4, h5, h6, h7]
  simp only [Cond.before, Cond.holds, Cond.value, he]
  cases v <;> simp_all [Value.isRef]
theorem vx_isRefq {C n d : String} {A : Nat → Prop} {s : State} {args : Array Value} (h : va_Zq C n d A s s.heap) : (Cond.isRef (.static C n d)).before args s = true := by
  rcases h with h | ⟨t, h⟩
  · exact vx_isRef h rfl
  · exact vx_isRef h rfl
/-- the same frame, seen from here: as if the method were called anew in this heap -/
theorem vx_rebase {T : State} (X : Stand p l e R s m args below meth c T locs cells slots) {R' : Room} (hf : R'.frames ≤ R.frames) (hl : R'.locals ≤ R.locals) (hc : cells + R'.cells ≤ R.cells) (hs : slots + R'.slots ≤ R.slots) :
    Stand p l e R' ((T.setVm s.vm).setFrames (.invoking m args :: below)) m args below meth c T [] 0 0 := by
  have htop : (T.setVm s.vm).topJava?.isSome := X.here.top
  have hF : ((T.setVm s.vm).setFrames (.invoking m args :: below)).frames = .invoking m args :: below := State.frames_setFrames _ (State.cur_lt_of_top htop)
  obtain ⟨g₀, hg0⟩ := Option.isSome_iff_exists.mp htop
  obtain ⟨r, hr⟩ := State.topJava?_eq_some.mp hg0
  have hl9 : e.platform.stackLimits (T.setVm s.vm).me = e.platform.stackLimits s.me := X.limits
  have hb9 : (T.setVm s.vm).me.stackBytes = s.me.stackBytes := X.bytes
  refine ⟨X.admits, X.cas, X.clock, hF, ?_, X.hears, X.method, X.code, X.here, X.tail, X.warmed, ?_, ?_, ?_⟩
  · have h := X.room
    have hU : ((T.setVm s.vm).setFrames (.invoking m args :: below)).localsInUse = s.localsInUse := by
      rw [State.localsInUse_invoking hF (meth := meth) (c := c) X.method X.code, State.localsInUse_invoking X.frames X.method X.code]
    simp only [State.hasRoom, Bool.and_eq_true, decide_eq_true_eq] at h ⊢
    obtain ⟨⟨⟨⟨h1, h2, h3, h4, h5, h6⟩, h7⟩, h8⟩, h9⟩ := h
    rw [X.frames, List.length_cons] at h2 h3
    have q1 := X.heapSize
    have q2 := X.used
    simp only [hF, hU, List.length_cons, State.stackLimits_setFrames, State.stackBytes_setFrames, hl9, hb9]
    refine ⟨⟨⟨⟨by omega, by omega, by omega, by omega, by omega, h6⟩, ?_⟩, ?_⟩, X.book⟩
    · show T.heap.size + R'.cells ≤ e.platform.maxCells
      omega
    · show T.slotsUsed + R'.slots ≤ e.platform.maxSlots
      omega
  · rw [State.stackLimits_setFrames]; rfl
  · rw [State.stackBytes_setFrames]; rfl
  · refine ⟨?_, Nat.le_refl _, Nat.le_refl _, ?_, ?_, fun a c9 h9 => ⟨c9, h9, rfl, rfl, fun _ _ => rfl⟩⟩
    · obtain ⟨t, ht, -⟩ := State.frames_cons hr
      show T.setVm s.vm = { ((T.setVm s.vm).setFrames (.invoking m args :: below)).setFrames (T.setVm s.vm).frames with heap := T.heap, slotsUsed := T.slotsUsed }
      rw [State.setFrames_setFrames, State.setFrames_self ht]
      rfl
    · show T.slotsUsed = T.slotsUsed + ((T.heap.toList.drop T.heap.size).map (·.slots.size)).sum
      rw [List.drop_eq_nil_of_le (Nat.le_of_eq Array.length_toList)]
      rfl
    · show ((T.heap.toList.drop T.heap.size).map (·.slots.size)).sum ≤ 0
      rw [List.drop_eq_nil_of_le (Nat.le_of_eq Array.length_toList)]
      exact Nat.le_refl _
/-- 'throw new E()': new; dup; invokespecial; athrow -/
theorem vx_throw0 {cc : ByteArray} {pc : Nat} (hexec : p.tables.exec = Jvm.exec) (hb : c.code = cc) (hl : l.stackTraces = false) {own cls : String} {names : List String} {ik ic mc ms : Nat} {A : Nat → Prop}
    (hown : s.vm.findClass own = some m.cls) (hcls : Bundle.fit cls = true) (hnames : ∀ n ∈ names, Bundle.fit n = true)
    (hk : (Cond.classLink own ik cls).before args s = true) (hini : (Cond.initialized cls).before args s = true) (hat : ∀ w ∈ vx_at0 own ic cls names, w.before args s = true)
    (hgood : ∀ w ∈ Cond.classLink own ik cls :: Cond.initialized cls :: vx_at0 own ic cls names, vx_ot w = true)
    (hU : vx_Zq Bundle.tN "UNASSIGNED_STACK" Bundle.steD A s s.heap) (hN : vx_Zq Bundle.tN "SUPPRESSED_SENTINEL" Bundle.listD A s s.heap) (hS : va_S A s.heap H locs) (hsize : ls.size = c.maxLocals)
    (d0 : decode cc pc = .ok (.new ik, 3)) (d3 : decode cc (pc + 3) = .ok (.dup, 1)) (d4 : decode cc (pc + 4) = .ok (.invokespecial ic, 3)) (d7 : decode cc (pc + 7) = .ok (.athrow, 1))
    (hout : ∀ x ∈ c.exceptionTable.toList, covers x (pc + 7) = false)
    (hRframes : names.length + 3 < R.frames) (hRlocals : (rest.map fun v => v.category).sum + (13 * (names.length + 1) + 42) ≤ R.locals) (hRcells : cells + 1 ≤ R.cells) (hRslots : slots + 6 ≤ R.slots) (hlocks : meth.locks = false)
    (hx : ∀ t : State, s.vm.Alike t.vm → H.size ≤ t.heap.size → (∀ q : Nat, q < H.size → t.heap[q]? = H[q]?) → XC cls s t)
    (hf : ∀ z ∈ locs, free z.base) (hc : cells + 1 ≤ mc) (hs : slots + 6 ≤ ms) :
    W p l e R s m args below meth c H locs cells slots (vx_MQ below Qc XC args s mc ms free) (F0 m pc ls rest) := by
  intro T hT X
  have htr : e.platform.stackTraces = false := (show e.platform.stackTraces = l.stackTraces by rw [X.admits.platform]).trans hl
  have Y := vx_rebase X (R' := { frames := R.frames, locals := R.locals, cells := 1, slots := 6 }) (Nat.le_refl _) (Nat.le_refl _) hRcells hRslots
  obtain ⟨s', hA⟩ : ∃ z, z = (T.setVm s.vm).setFrames (.invoking m args :: below) := ⟨_, rfl⟩
  rw [← hA] at Y
  have hvm : s'.vm = s.vm := by rw [hA]; rfl
  have hhp : s'.heap = H := by rw [hA]; exact hT
  have hW0 : s.WarmedH s'.vm := by rw [hvm]; exact State.WarmedH.refl s
  have hat' : ∀ w ∈ vx_at0 own ic cls names, w.before args s' = true := fun w hw => vx_ot_at hW0 hvm.symm (hgood w (List.mem_cons_of_mem _ (List.mem_cons_of_mem _ hw))) (hat w hw)
  have hk' : (Cond.classLink own ik cls).before args s' = true := vx_ot_at hW0 hvm.symm (hgood _ List.mem_cons_self) hk
  have hini' : (Cond.initialized cls).before args s' = true := vx_ot_at hW0 hvm.symm (hgood _ (List.mem_cons_of_mem _ List.mem_cons_self)) hini
  have hU' : vx_Zq Bundle.tN "UNASSIGNED_STACK" Bundle.steD A s' s'.heap := by rw [hhp]; exact vx_Zq.moved hW0.alike (hU.kept hS.2.1)
  have hN' : vx_Zq Bundle.tN "SUPPRESSED_SENTINEL" Bundle.listD A s' s'.heap := by rw [hhp]; exact vx_Zq.moved hW0.alike (hN.kept hS.2.1)
  have h : ∀ w ∈ Bundle.ownAtoms0 own ic cls names, w.before args s' = true := vx_own hat' (vx_isRefq hU'.1) (vx_isRefq hN'.1) hU'.2.word hN'.2.word
  have hown' : s'.vm.findClass own = some m.cls := by rw [hvm]; exact hown
  have hins : (Cond.instantiable cls 6).before args s' = true := h _ (by simp [Bundle.ownAtoms0])
  obtain ⟨vm₁, cX, kX, hfX, hkX, -, -, X₁, st1⟩ := Y.newCold hexec (own := own) (C := cls) (index := ik) (n := 6) hown' hk' hins hini'
    (g := F0 m pc ls rest) rfl (by rw [hb]; exact d0) (Nat.le_refl _) (Nat.le_refl _)
  generalize hT1 : (T.setVm vm₁).pushCell { cls := cX, slots := kX.instanceTypes.map defaultValue, vm := .none } = T1 at X₁ st1
  have hcat : (Value.ref T.heap.size).category = 1 := rfl
  have hcellA : T1.heap[T.heap.size]? = some (freshCell cX kX) := by rw [← hT1]; exact State.heap_pushCell_size _ _
  have d3' : decode c.code (pc + 3) = .ok (.dup, 1) := by rw [hb]; exact d3
  obtain ⟨U, hsteps, hrun, hend, hW, hsame, ce, hce, hO⟩ := X₁.ctorThrow0 hexec htr (own := own) (cls := cls) (names := names) (ic := ic) hown' hcls hnames h (fun x hx => nomatch hx) hfX hkX hcellA (by rw [hhp, hT]; exact Nat.le_refl _)
    (g := { method := m, pc := pc + 4, locals := ls, stack := .ref T.heap.size :: .ref T.heap.size :: rest, locked := none }) rfl hsize rfl rfl (rest := rest) rfl
    (by rw [hb]; exact d4) (by rw [hb]; exact d7) hout hRframes (by simp only [List.map_cons, List.sum_cons, hcat]; omega) hlocks
  obtain ⟨f1, f2⟩ := vx_frame hsame
  rw [hhp] at f1 f2
  have hWs : s.WarmedH U.vm := State.WarmedH.trans hW0 hW
  have hcl : s.vm.findClass cls = some ce.cls := by
    have h9 := hO.cls
    rw [hvm] at h9
    exact h9
  have hall : s.sameButNew ({ U with vm := s.vm } : State) locs mc ms := by
    subst hA
    obtain ⟨e1, e2⟩ := hsame
    rw [State.setFrames_setFrames] at e1
    have h2 : (T.setVm s.vm).sameButNew ({ U with vm := s.vm } : State) [] (0 + 1) (0 + 6) := ⟨e1, e2⟩
    have h3 := X.same.trans h2
    rw [List.append_nil] at h3
    exact h3.mono hc hs
  refine ⟨U, ?_, .threw T.heap.size, hrun, hend, Or.inr ⟨T.heap.size, rfl, cls, ce, locs, hx U hWs.alike f1 (fun q hq => f2 q hq (fun z hz => nomatch hz)), hce, hO.vm, hcl, hWs, hall, hf⟩⟩
  refine st1 _ ?_
  show Steps p.tables e below (T1.setTop { method := m, pc := pc + 3, locals := ls, stack := .ref T.heap.size :: rest, locked := none }) _
  jvm_step X₁.here [X₁.here.top, hexec, d3', Value.category]
  exact hsteps
/-- 'throw new E("text")': new; dup; ldc; invokespecial; athrow -/
theorem vx_throwS {cc : ByteArray} {pc : Nat} (hexec : p.tables.exec = Jvm.exec) (hb : c.code = cc) (hl : l.stackTraces = false) {own cls text : String} {names : List String} {ik is ic mc ms sa : Nat} {A : Nat → Prop}
    (hown : s.vm.findClass own = some m.cls) (hcls : Bundle.fit cls = true) (hnames : ∀ n ∈ names, Bundle.fit n = true)
    (hk : (Cond.classLink own ik cls).before args s = true) (hini : (Cond.initialized cls).before args s = true) (hstr : vk_R own is text sa s) (hat : ∀ w ∈ vx_atS own ic cls names, w.before args s = true)
    (hgood : ∀ w ∈ Cond.classLink own ik cls :: Cond.initialized cls :: vx_atS own ic cls names, vx_ot w = true)
    (hU : vx_Zq Bundle.tN "UNASSIGNED_STACK" Bundle.steD A s s.heap) (hN : vx_Zq Bundle.tN "SUPPRESSED_SENTINEL" Bundle.listD A s s.heap) (hS : va_S A s.heap H locs) (hsize : ls.size = c.maxLocals)
    (d0 : decode cc pc = .ok (.new ik, 3)) (d3 : decode cc (pc + 3) = .ok (.dup, 1)) (d4 : decode cc (pc + 4) = .ok (.ldc is, 2)) (d6 : decode cc (pc + 6) = .ok (.invokespecial ic, 3)) (d9 : decode cc (pc + 9) = .ok (.athrow, 1))
    (hout : ∀ x ∈ c.exceptionTable.toList, covers x (pc + 9) = false)
    (hRframes : names.length + 3 < R.frames) (hRlocals : (rest.map fun v => v.category).sum + (13 * (names.length + 1) + 43) ≤ R.locals) (hRcells : cells + 1 ≤ R.cells) (hRslots : slots + 6 ≤ R.slots) (hlocks : meth.locks = false)
    (hx : ∀ t : State, s.vm.Alike t.vm → H.size ≤ t.heap.size → (∀ q : Nat, q < H.size → t.heap[q]? = H[q]?) → XC cls s t)
    (hf : ∀ z ∈ locs, free z.base) (hc : cells + 1 ≤ mc) (hs : slots + 6 ≤ ms) :
    W p l e R s m args below meth c H locs cells slots (vx_MQ below Qc XC args s mc ms free) (F0 m pc ls rest) := by
  intro T hT X
  have htr : e.platform.stackTraces = false := (show e.platform.stackTraces = l.stackTraces by rw [X.admits.platform]).trans hl
  have Y := vx_rebase X (R' := { frames := R.frames, locals := R.locals, cells := 1, slots := 6 }) (Nat.le_refl _) (Nat.le_refl _) hRcells hRslots
  obtain ⟨s', hA⟩ : ∃ z, z = (T.setVm s.vm).setFrames (.invoking m args :: below) := ⟨_, rfl⟩
  rw [← hA] at Y
  have hvm : s'.vm = s.vm := by rw [hA]; rfl
  have hhp : s'.heap = H := by rw [hA]; exact hT
  have hW0 : s.WarmedH s'.vm := by rw [hvm]; exact State.WarmedH.refl s
  have hat' : ∀ w ∈ vx_atS own ic cls names, w.before args s' = true := fun w hw => vx_ot_at hW0 hvm.symm (hgood w (List.mem_cons_of_mem _ (List.mem_cons_of_mem _ hw))) (hat w hw)
  have hk' : (Cond.classLink own ik cls).before args s' = true := vx_ot_at hW0 hvm.symm (hgood _ List.mem_cons_self) hk
  have hini' : (Cond.initialized cls).before args s' = true := vx_ot_at hW0 hvm.symm (hgood _ (List.mem_cons_of_mem _ List.mem_cons_self)) hini
  have hU' : vx_Zq Bundle.tN "UNASSIGNED_STACK" Bundle.steD A s' s'.heap := by rw [hhp]; exact vx_Zq.moved hW0.alike (hU.kept hS.2.1)
  have hN' : vx_Zq Bundle.tN "SUPPRESSED_SENTINEL" Bundle.listD A s' s'.heap := by rw [hhp]; exact vx_Zq.moved hW0.alike (hN.kept hS.2.1)
  have h : ∀ w ∈ Bundle.ownAtoms own ic cls names, w.before args s' = true := vx_own hat' (vx_isRefq hU'.1) (vx_isRefq hN'.1) hU'.2.word hN'.2.word
  have hown' : s'.vm.findClass own = some m.cls := by rw [hvm]; exact hown
  have hins : (Cond.instantiable cls 6).before args s' = true := h _ (by simp [Bundle.ownAtoms])
  obtain ⟨vm₁, cX, kX, hfX, hkX, -, -, X₁, st1⟩ := Y.newCold hexec (own := own) (C := cls) (index := ik) (n := 6) hown' hk' hins hini'
    (g := F0 m pc ls rest) rfl (by rw [hb]; exact d0) (Nat.le_refl _) (Nat.le_refl _)
  generalize hT1 : (T.setVm vm₁).pushCell { cls := cX, slots := kX.instanceTypes.map defaultValue, vm := .none } = T1 at X₁ st1
  have hcat : (Value.ref T.heap.size).category = 1 := rfl
  have hcellA : T1.heap[T.heap.size]? = some (freshCell cX kX) := by rw [← hT1]; exact State.heap_pushCell_size _ _
  have d3' : decode c.code (pc + 3) = .ok (.dup, 1) := by rw [hb]; exact d3
  have d4' : decode c.code (pc + 4) = .ok (.ldc is, 2) := by rw [hb]; exact d4
  have hstr' : vk_R own is text sa s' := vk_R.warm hW0 hstr
  obtain ⟨U, hsteps, hrun, hend, hW, hsame, ce, hce, hO⟩ := X₁.ctorThrowS hexec htr (own := own) (cls := cls) (names := names) (ic := ic) hown' hcls hnames h (fun x hx => nomatch hx) hfX hkX hcellA (by rw [hhp, hT]; exact Nat.le_refl _) (msg := .ref sa) rfl
    (g := { method := m, pc := pc + 6, locals := ls, stack := .ref sa :: .ref T.heap.size :: .ref T.heap.size :: rest, locked := none }) rfl hsize rfl rfl (rest := rest) rfl
    (by rw [hb]; exact d6) (by rw [hb]; exact d9) hout hRframes (by simp only [List.map_cons, List.sum_cons, hcat]; omega) hlocks
  obtain ⟨f1, f2⟩ := vx_frame hsame
  rw [hhp] at f1 f2
  have hWs : s.WarmedH U.vm := State.WarmedH.trans hW0 hW
  have hcl : s.vm.findClass cls = some ce.cls := by
    have h9 := hO.cls
    rw [hvm] at h9
    exact h9
  have hall : s.sameButNew ({ U with vm := s.vm } : State) locs mc ms := by
    subst hA
    obtain ⟨e1, e2⟩ := hsame
    rw [State.setFrames_setFrames] at e1
    have h2 : (T.setVm s.vm).sameButNew ({ U with vm := s.vm } : State) [] (0 + 1) (0 + 6) := ⟨e1, e2⟩
    have h3 := X.same.trans h2
    rw [List.append_nil] at h3
    exact h3.mono hc hs
  refine ⟨U, ?_, .threw T.heap.size, hrun, hend, Or.inr ⟨T.heap.size, rfl, cls, ce, locs, hx U hWs.alike f1 (fun q hq => f2 q hq (fun z hz => nomatch hz)), hce, hO.vm, hcl, hWs, hall, hf⟩⟩
  refine st1 _ ?_
  show Steps p.tables e below (T1.setTop { method := m, pc := pc + 3, locals := ls, stack := .ref T.heap.size :: rest, locked := none }) _
  jvm_step X₁.here [X₁.here.top, hexec, d3', Value.category]
  exact X₁.ldcString hexec (own := own) (text := text) (index := is) (a := sa) hown' hstr'.1 hstr'.2
    (g := { method := m, pc := pc + 4, locals := ls, stack := .ref T.heap.size :: .ref T.heap.size :: rest, locked := none }) rfl d4' _ hsteps
/-- 'throw new E("text")', the text by a wide index -/
theorem vx_throwSW {cc : ByteArray} {pc : Nat} (hexec : p.tables.exec = Jvm.exec) (hb : c.code = cc) (hl : l.stackTraces = false) {own cls text : String} {names : List String} {ik is ic mc ms sa : Nat} {A : Nat → Prop}
    (hown : s.vm.findClass own = some m.cls) (hcls : Bundle.fit cls = true) (hnames : ∀ n ∈ names, Bundle.fit n = true)
    (hk : (Cond.classLink own ik cls).before args s = true) (hini : (Cond.initialized cls).before args s = true) (hstr : vk_R own is text sa s) (hat : ∀ w ∈ vx_atS own ic cls names, w.before args s = true)
    (hgood : ∀ w ∈ Cond.classLink own ik cls :: Cond.initialized cls :: vx_atS own ic cls names, vx_ot w = true)
    (hU : vx_Zq Bundle.tN "UNASSIGNED_STACK" Bundle.steD A s s.heap) (hN : vx_Zq Bundle.tN "SUPPRESSED_SENTINEL" Bundle.listD A s s.heap) (hS : va_S A s.heap H locs) (hsize : ls.size = c.maxLocals)
    (d0 : decode cc pc = .ok (.new ik, 3)) (d3 : decode cc (pc + 3) = .ok (.dup, 1)) (d4 : decode cc (pc + 4) = .ok (.ldc_w is, 3)) (d7 : decode cc (pc + 7) = .ok (.invokespecial ic, 3)) (d10 : decode cc (pc + 10) = .ok (.athrow, 1))
    (hout : ∀ x ∈ c.exceptionTable.toList, covers x (pc + 10) = false)
    (hRframes : names.length + 3 < R.frames) (hRlocals : (rest.map fun v => v.category).sum + (13 * (names.length + 1) + 43) ≤ R.locals) (hRcells : cells + 1 ≤ R.cells) (hRslots : slots + 6 ≤ R.slots) (hlocks : meth.locks = false)
    (hx : ∀ t : State, s.vm.Alike t.vm → H.size ≤ t.heap.size → (∀ q : Nat, q < H.size → t.heap[q]? = H[q]?) → XC cls s t)
    (hf : ∀ z ∈ locs, free z.base) (hc : cells + 1 ≤ mc) (hs : slots + 6 ≤ ms) :
    W p l e R s m args below meth c H locs cells slots (vx_MQ below Qc XC args s mc ms free) (F0 m pc ls rest) := by
  intro T hT X
  have htr : e.platform.stackTraces = false := (show e.platform.stackTraces = l.stackTraces by rw [X.admits.platform]).trans hl
  have Y := vx_rebase X (R' := { frames := R.frames, locals := R.locals, cells := 1, slots := 6 }) (Nat.le_refl _) (Nat.le_refl _) hRcells hRslots
  obtain ⟨s', hA⟩ : ∃ z, z = (T.setVm s.vm).setFrames (.invoking m args :: below) := ⟨_, rfl⟩
  rw [← hA] at Y
  have hvm : s'.vm = s.vm := by rw [hA]; rfl
  have hhp : s'.heap = H := by rw [hA]; exact hT
  have hW0 : s.WarmedH s'.vm := by rw [hvm]; exact State.WarmedH.refl s
  have hat' : ∀ w ∈ vx_atS own ic cls names, w.before args s' = true := fun w hw => vx_ot_at hW0 hvm.symm (hgood w (List.mem_cons_of_mem _ (List.mem_cons_of_mem _ hw))) (hat w hw)
  have hk' : (Cond.classLink own ik cls).before args s' = true := vx_ot_at hW0 hvm.symm (hgood _ List.mem_cons_self) hk
  have hini' : (Cond.initialized cls).before args s' = true := vx_ot_at hW0 hvm.symm (hgood _ (List.mem_cons_of_mem _ List.mem_cons_self)) hini
  have hU' : vx_Zq Bundle.tN "UNASSIGNED_STACK" Bundle.steD A s' s'.heap := by rw [hhp]; exact vx_Zq.moved hW0.alike (hU.kept hS.2.1)
  have hN' : vx_Zq Bundle.tN "SUPPRESSED_SENTINEL" Bundle.listD A s' s'.heap := by rw [hhp]; exact vx_Zq.moved hW0.alike (hN.kept hS.2.1)
  have h : ∀ w ∈ Bundle.ownAtoms own ic cls names, w.before args s' = true := vx_own hat' (vx_isRefq hU'.1) (vx_isRefq hN'.1) hU'.2.word hN'.2.word
  have hown' : s'.vm.findClass own = some m.cls := by rw [hvm]; exact hown
  have hins : (Cond.instantiable cls 6).before args s' = true := h _ (by simp [Bundle.ownAtoms])
  obtain ⟨vm₁, cX, kX, hfX, hkX, -, -, X₁, st1⟩ := Y.newCold hexec (own := own) (C := cls) (index := ik) (n := 6) hown' hk' hins hini'
    (g := F0 m pc ls rest) rfl (by rw [hb]; exact d0) (Nat.le_refl _) (Nat.le_refl _)
  generalize hT1 : (T.setVm vm₁).pushCell { cls := cX, slots := kX.instanceTypes.map defaultValue, vm := .none } = T1 at X₁ st1
  have hcat : (Value.ref T.heap.size).category = 1 := rfl
  have hcellA : T1.heap[T.heap.size]? = some (freshCell cX kX) := by rw [← hT1]; exact State.heap_pushCell_size _ _
  have d3' : decode c.code (pc + 3) = .ok (.dup, 1) := by rw [hb]; exact d3
  have d4' : decode c.code (pc + 4) = .ok (.ldc_w is, 3) := by rw [hb]; exact d4
  have hstr' : vk_R own is text sa s' := vk_R.warm hW0 hstr
  obtain ⟨U, hsteps, hrun, hend, hW, hsame, ce, hce, hO⟩ := X₁.ctorThrowS hexec htr (own := own) (cls := cls) (names := names) (ic := ic) hown' hcls hnames h (fun x hx => nomatch hx) hfX hkX hcellA (by rw [hhp, hT]; exact Nat.le_refl _) (msg := .ref sa) rfl
    (g := { method := m, pc := pc + 7, locals := ls, stack := .ref sa :: .ref T.heap.size :: .ref T.heap.size :: rest, locked := none }) rfl hsize rfl rfl (rest := rest) rfl
    (by rw [hb]; exact d7) (by rw [hb]; exact d10) hout hRframes (by simp only [List.map_cons, List.sum_cons, hcat]; omega) hlocks
  obtain ⟨f1, f2⟩ := vx_frame hsame
  rw [hhp] at f1 f2
  have hWs : s.WarmedH U.vm := State.WarmedH.trans hW0 hW
  have hcl : s.vm.findClass cls = some ce.cls := by
    have h9 := hO.cls
    rw [hvm] at h9
    exact h9
  have hall : s.sameButNew ({ U with vm := s.vm } : State) locs mc ms := by
    subst hA
    obtain ⟨e1, e2⟩ := hsame
    rw [State.setFrames_setFrames] at e1
    have h2 : (T.setVm s.vm).sameButNew ({ U with vm := s.vm } : State) [] (0 + 1) (0 + 6) := ⟨e1, e2⟩
    have h3 := X.same.trans h2
    rw [List.append_nil] at h3
    exact h3.mono hc hs
  refine ⟨U, ?_, .threw T.heap.size, hrun, hend, Or.inr ⟨T.heap.size, rfl, cls, ce, locs, hx U hWs.alike f1 (fun q hq => f2 q hq (fun z hz => nomatch hz)), hce, hO.vm, hcl, hWs, hall, hf⟩⟩
  refine st1 _ ?_
  show Steps p.tables e below (T1.setTop { method := m, pc := pc + 3, locals := ls, stack := .ref T.heap.size :: rest, locked := none }) _
  jvm_step X₁.here [X₁.here.top, hexec, d3', Value.category]
  exact X₁.ldcStringW hexec (own := own) (text := text) (index := is) (a := sa) hown' hstr'.1 hstr'.2
    (g := { method := m, pc := pc + 4, locals := ls, stack := .ref T.heap.size :: .ref T.heap.size :: rest, locked := none }) rfl d4' _ hsteps
end Ends
section Bodies
variable {l : Launch}
theorem vx_ofW {y : MethodName} {ws ws' : List Cond} {rm : Room} {Pc : Array Value → State → Prop} {Qc : Array Value → State → Outcome → State → Prop} {XC : String → State → State → Prop} {mc ms : Nat} {free : Addr → Prop} {cc : ByteArray} {maxL : Nat} {ret : Option FieldType}
    (hy : plainName y.cls = true) (hw : ws = Cond.code y cc maxL ret :: ws')
    (body : ∀ p e s m args below meth c s₁, BodyLoose p l y (headSpec ws rm) cc maxL ret e s m args below meth c s₁ → c.maxLocals = maxL → (∀ x ∈ c.exceptionTable.toList, False) → Pc args s →
      W p l e (headSpec ws rm).room s m args below meth c s.heap [] 0 0 (vx_MQ below Qc XC args s mc ms free) (entryFrame m args maxL)) : vx_Met l y ws rm Pc Qc XC mc ms free := by
  refine MetFree.of_bodyS (code := cc) (maxLocals := maxL) (ret := ret) hy ?_ ?_
  · intro args s m h hn
    obtain ⟨meth, c, h1, h2, h3, h4, h5, h6, -, -⟩ := Cond.code_spec hn (atoms_spec (ws := ws) h _ (by rw [hw]; exact List.mem_cons_self))
    exact ⟨meth, c, h1, h2, h3, h4, h5, h6⟩
  · intro p e s m args below meth c s₁ B hml hP _
    have hh0 : s₁.heap = s.heap := by rw [B.state]; rfl
    have ht : ∀ x ∈ c.exceptionTable.toList, False := by
      obtain ⟨meth9, c9, h1, h2, -, -, -, -, h7, -⟩ := Cond.code_spec B.named (atoms_spec (ws := ws) B.pre _ (by rw [hw]; exact List.mem_cons_self))
      cases Option.some.inj (h1.symm.trans B.method)
      cases Option.some.inj (h2.symm.trans (Stand.of_body B).code)
      intro x hx
      rw [Array.isEmpty_iff.mp h7] at hx
      cases hx
    obtain ⟨t, a1, o, b1, b2, b3⟩ := body p e s m args below meth c s₁ B hml ht hP s₁ hh0 (Stand.of_body B)
    exact ⟨t, o, a1, b1, b2, b3⟩
/-- the table of a body with handlers -/
theorem vx_table {p : Program} {x y : MethodName} {S : Spec} {cc bytes : ByteArray} {maxL maxL' : Nat} {ret ret' : Option FieldType} {e : Env} {s s₁ : State} {m : MethodId} {args : Array Value} {below : List Frame} {meth : Method} {c : Code} {hh : List (Nat × Nat × Nat × Nat)}
    (B : BodyLoose p l y S cc maxL ret e s m args below meth c s₁) (h : (Cond.codeWith y bytes maxL' ret' hh).before args s = true) : c.exceptionTable.toList = tableOf hh := by
  obtain ⟨m9, meth9, c9, hn9, h1, h2, -, -, h6, -⟩ := Cond.codeWith_spec h
  cases Option.some.inj (hn9.symm.trans B.named)
  cases Option.some.inj (h1.symm.trans B.method)
  cases Option.some.inj (h2.symm.trans (Stand.of_body B).code)
  rw [← h6, table_eq]
end Bodies
end VXA
/-! ===== END ===== -/
/-! ===== BEGIN a static call of a method with an exception table ===== -/
section VXS
variable {p : Program} {l : Launch} {e : Env} {R : Room} {s : State} {m : MethodId} {args : Array Value} {below : List Frame} {meth : Method} {c : Code} {T : State} {H : Heap} {locs : List Loc} {cells slots : Nat}
abbrev vx_CSW (R : Room) (s : State) (args : Array Value) (own : String) (index : Nat) (y : MethodName) (bytes : ByteArray) (maxL : Nat) (ret : Option FieldType) (hh : List (Nat × Nat × Nat × Nat)) (ws : List Cond) (rm : Room) (mc ms n : Nat) : Prop :=
  (rm.cells = mc ∧ rm.slots = ms ∧ rm.frames + 1 ≤ R.frames ∧ 8 + (maxL + 11) + rm.locals ≤ R.locals ∧ (∀ w ∈ ws, ∀ (a' : Array Value) (U : State), s.WarmedH U.vm → w.before a' U = true) ∧ Cond.codeWith y bytes maxL ret hh ∈ ws) ∧
  (Cond.codeWith y bytes maxL ret hh).before args s = true ∧ (Cond.initialized y.cls).before args s = true ∧ (y.cls ≠ "java/lang/invoke/MethodHandle" ∧ y.cls ≠ "java/lang/invoke/VarHandle") ∧
  (∀ sig, parseMethodDescriptor y.desc = some sig → n = sig.parameters.length) ∧ (Cond.methodLink own index y).before args s = true ∧ (Cond.static y).before args s = true
theorem vx_cwSW {own : String} {index maxL mc ms : Nat} {y : MethodName} {bytes : ByteArray} {ret : Option FieldType} {hh : List (Nat × Nat × Nat × Nat)} {Ts ws ws' : List Cond} {rm : Room} (n : Nat) (ht : ∀ w ∈ Ts, w.before args s = true) (hT : GoodIn Ts (va_wsS own index y ws)) (hw : ws = Cond.codeWith y bytes maxL ret hh :: ws') (hrc : rm.cells = mc) (hrs : rm.slots = ms)
    (hd : y.cls ≠ "java/lang/invoke/MethodHandle" ∧ y.cls ≠ "java/lang/invoke/VarHandle" ∧ (parseMethodDescriptor y.desc).map (fun d => d.parameters.length) = some n) (hR : rm.frames + 1 ≤ R.frames ∧ 8 + (maxL + 11) + rm.locals ≤ R.locals) :
    vx_CSW R s args own index y bytes maxL ret hh ws rm mc ms n := by
  have ok : ∀ w ∈ va_wsS own index y ws, w.before args s = true := fun w h => ht w (hT w h).1
  have hG : GoodIn Ts ws := fun w h => hT w (by unfold va_wsS; exact List.mem_append_right _ h)
  have hc : Cond.codeWith y bytes maxL ret hh ∈ ws := by rw [hw]; exact List.mem_cons_self
  refine ⟨⟨hrc, hrs, hR.1, hR.2, pay_in ht hG, hc⟩, ht _ (hG _ hc).1, ok _ (by simp [va_wsS]), ⟨hd.1, hd.2.1⟩, fun sig h => ?_, ok _ (by simp [va_wsS]), ok _ (by simp [va_wsS])⟩
  have h2 := hd.2.2
  rw [h] at h2
  exact (Option.some.inj h2).symm
theorem vx_callSW (X : Stand p l e R s m args below meth c T locs cells slots) (hexec : p.tables.exec = Jvm.exec) {own : String} {index : Nat} {y : MethodName} {bytes : ByteArray} {maxL : Nat} {ret : Option FieldType} {hh : List (Nat × Nat × Nat × Nat)}
    (hown : s.vm.findClass own = some m.cls) (hlink : (Cond.methodLink own index y).before args s = true) (hstat : (Cond.static y).before args s = true) (hinit : (Cond.initialized y.cls).before args s = true)
    (hcode : (Cond.codeWith y bytes maxL ret hh).before args s = true) (hy : y.cls ≠ "java/lang/invoke/MethodHandle" ∧ y.cls ≠ "java/lang/invoke/VarHandle")
    {W9 : Nat} {Pre : Pt → Array Value → Prop} {Post : Pt → Array Value → Option Value → Pt → Prop} (hK : Back l R p e below s args y 3 W9 Pre Post)
    {g : JFrame} (hg : g.method = m) (hsize : g.locals.size = c.maxLocals) {argsL rest : List Value} (hlen : ∀ sig, parseMethodDescriptor y.desc = some sig → argsL.length = sig.parameters.length)
    (hstack : g.stack = argsL.reverse ++ rest) (hW : 2 * g.monitorRoom + (rest.map fun v => v.category).sum ≤ W9) (hdg : decode c.code g.pc = .ok (.invokestatic index, 3))
    (hpre : ∀ vm₁, s.WarmedH vm₁ → Pre ⟨T.setVm vm₁, locs, cells, slots⟩ argsL.toArray) :
    ∃ (v : Option Value) (vm₁ : Vm) (B : Pt), s.WarmedH vm₁ ∧ Stand p l e R s m args below meth c B.U B.locs B.cells B.slots ∧ Post ⟨T.setVm vm₁, locs, cells, slots⟩ argsL.toArray v B ∧
      ∀ target, Steps p.tables e below (B.U.setTop { g with pc := g.pc + 3, stack := v.toList ++ rest }) target → Steps p.tables e below (T.setTop g) target := by
  obtain ⟨mk, methM, cM, hnamed, hmethM, -, -, -, -, -, -, hsigM⟩ := Cond.codeWith_spec hcode
  have hstatic : methM.isStatic = true := Cond.static_spec hnamed hmethM hstat
  obtain ⟨kP, hkP, -⟩ := className_of_methodNamed hnamed
  have hinitP : kP.init = .initialized := Cond.initialized_spec (findClass_of_methodNamed hnamed) hkP hinit
  obtain ⟨vm₁, X₁, hstep₁⟩ := X.invokestatic hexec hown hlink hnamed hmethM hstatic hkP hinitP hy (g := g) hg (argsL := argsL) (rest := rest) (hlen _ hsigM) hstack hdg
  obtain ⟨v, B, X', hpost, hsteps⟩ := hK m meth c ⟨T.setVm vm₁, locs, cells, slots⟩ { g with stack := rest } (.invokestatic index) mk argsL.toArray X₁ hg hsize hdg hW (X₁.named hnamed) (hpre vm₁ X₁.warmed)
  exact ⟨v, vm₁, B, X₁.warmed, X', hpost, fun target h => hstep₁ _ fun acts => by rw [doInvoke_state]; exact hsteps.trans h⟩
theorem vx_runSW {y : MethodName} {bytes cc : ByteArray} {maxL nL mc ms n index : Nat} {ret : Option FieldType} {hh : List (Nat × Nat × Nat × Nat)} {ws : List Cond} {rm : Room} {Pc : Array Value → State → Prop} {Qc : Array Value → State → Outcome → State → Prop} {free : Addr → Prop} {Ts : List Cond} {own : String} {As rest : List Value} {g : JFrame}
    (S : CallFix p m c cc nL s args Ts own) (hM : Met l y ws rm Pc Qc mc ms free) (cw : vx_CSW R s args own index y bytes maxL ret hh ws rm mc ms n) (hp : PreS s H Pc As)
    (hg : g.method = m) (hn : As.length = n) (hsize : g.locals.size = nL) (hstack : g.stack = As.reverse ++ rest) (hW : 2 * g.monitorRoom + (rest.map fun v => v.category).sum ≤ 8) (hdg : decode cc g.pc = .ok (.invokestatic index, 3)) (hf : cells + mc ≤ R.cells ∧ slots + ms ≤ R.slots) :
    va_Run p l e R s m args below meth c H locs cells slots mc ms g rest (Qc As.toArray) (free) := by
  obtain ⟨⟨hrc, hrs, hfr, hlo, hws, hcw⟩, hcode, hini, hy, hlen, hl, hstt⟩ := cw
  have hK : Back l R p e below s args y 3 8 (PreOf R mc ms Pc) (PostOf Qc mc ms free) := va_backW (hh := hh) (bytes := bytes) (maxL := maxL) (ret := ret) hM hp.1 hrc hrs hfr hlo hws hcw (fun a' U hW => word_at hW (Or.inl (by first | rfl | simp [Cond.onTables, Cond.keeps, Cond.steady])) hini)
  obtain ⟨hx, hb, hml, ho, -⟩ := S
  intro T hT X
  obtain ⟨v, vm₁, ⟨U', l2, c2, s2⟩, hW₁, X', ⟨g', mk, t, L, e1, e2, hq, h1, hL, h2, h3⟩, st⟩ := vx_callSW X hx (hh := hh) (bytes := bytes) (maxL := maxL) (ret := ret) ho hl hstt hini hcode hy hK hg (hsize.trans hml.symm) (argsL := As) (rest := rest) (fun sig h => hn.trans (hlen sig h)) hstack hW (by rw [hb]; exact hdg)
    (fun vm₁ hW₁ => ⟨hf.1, hf.2, hp.2 (T.setVm vm₁) hT hW₁⟩)
  dsimp only [Pt.U, Pt.locs, Pt.cells, Pt.slots] at X' e1 e2 h1 h2 h3 st
  subst h1; subst h2; subst h3
  exact ⟨v, (T.setVm vm₁).calling g' mk As.toArray, t, U', L, hT, X', hL, e1, e2, hq, st⟩
/-- not caught here, past rows that name other classes: it goes on to the caller -/
theorem vx_outP {p : Program} {l : Launch} {e : Env} {R : Room} {s : State} {m : MethodId} {args : Array Value} {below : List Frame} {meth : Method} {c : Code} {H : Heap} {locs : List Loc} {cells slots : Nat} {free : Addr → Prop} {ls : Array Slot} {rest : List Value} {Qc : Array Value → State → Outcome → State → Prop} {XC : String → State → State → Prop}
    {pc : Nat} {own E : String} {ce : Cell} {q : Addr} {mc ms : Nat} (hown : s.vm.findClass own = some m.cls) (hlocks : meth.locks = false)
    (hpass : ∀ z ∈ c.exceptionTable.toList, covers z pc = false ∨ (z.catchType ≠ 0 ∧ ∃ nm : String, (Cond.classLink own z.catchType nm).before args s = true ∧ va_Nc E nm s)) (hcell : H[q]? = some ce) (hv : ce.vm = .none) (hcl : s.vm.findClass E = some ce.cls)
    (hx : ∀ t : State, t.heap = H → s.vm.Alike t.vm → XC E s t) (hf : ∀ z ∈ locs, free z.base) (hc : cells ≤ mc) (hs : slots ≤ ms) :
    vx_W p l e R s m args below meth c H locs cells slots (vx_MQ below Qc XC args s mc ms free) (F0 m pc ls rest) q := by
  intro T hT X
  have hpl : e.platform.magicAccessors = ({} : Platform).magicAccessors := by rw [X.admits.platform]
  obtain ⟨vm', hW', X', st⟩ := X.outThrough hlocks q (g := F0 m pc ls rest) rfl rfl rfl (cell := ce) (by rw [hT]; exact hcell) (by rw [hv]; rfl)
    (by obtain ⟨k9, h9, -⟩ := Vm.findClass_spec hcl; exact ⟨k9, h9⟩) (fun z hz => by
      rcases hpass z hz with h | ⟨hz0, nm, hl1, hn1⟩
      · exact Or.inl h
      · obtain ⟨c6, hc6, hcl6⟩ := Cond.classLink_spec hown hl1 e.platform hpl
        obtain ⟨a8, b8, h1, h2, h3⟩ := hn1
        cases Option.some.inj (h1.symm.trans hcl)
        cases Option.some.inj (h2.symm.trans hc6)
        exact Or.inr ⟨hz0, _, hcl6, h3⟩)
  obtain ⟨g₀, hfr⟩ := X'.frames_eq
  have hcell9 : ((T.setVm vm').setFrames (.throwing q :: below)).heap[q]? = some ce := by
    show T.heap[q]? = some ce
    rw [hT]; exact hcell
  have hend : Ended ((T.setVm vm').setFrames (.throwing q :: below)) below (.threw q) := State.frames_setFrames _ (State.cur_lt_of_frames hfr)
  refine ⟨(T.setVm vm').setFrames (.throwing q :: below), ?_, .threw q, X'.here.running, hend, Or.inr ⟨q, rfl, E, ce, locs, hx _ hT (X'.ends _).1.alike, hcell9, hv, hcl, (X'.ends _).1, (X'.ends _).2.mono hc hs, hf⟩⟩
  rw [X.pushThrowing_eq]
  exact st
/-- a thing of a world lies in the heap -/
theorem vx_lt {D : va_G} {cl : List vw_C} {ws : va_W} {H1 : Heap} (h : va_P D cl ws H1) {k : Nat} {q : Nat × va_E} (hk : ws[k]? = some q) : q.1 < H1.size := (h k q hk).lt
end VXS
/-! ===== END ===== -/
/-! ===== BEGIN methods with a table of their own: called by a name, returning or throwing ===== -/
section VXH
/-! vx_backW, vx_callVX, vx_callSX, vx_callVW, vx_runVW, vx_runVX, vx_runSX, vx_ofWH follow the same proofs as their sisters above (Free/Laws.lean, Shelf42/LK1.lean); vx_outP calls Shelf42/NT130.lean (outThrough). -/
section
variable {l : Launch} {R : Room} {p : Program} {e : Env} {below : List Frame} {s : State} {sargs : Array Value} {y : MethodName} {len W9 : Nat}
theorem vx_backW {ws : List Cond} {rm : Room} {Pc : Array Value → State → Prop} {Qc : Array Value → State → Outcome → State → Prop} {XC : String → State → State → Prop} {mc ms : Nat} {free : Addr → Prop} {bytes : ByteArray} {maxL : Nat} {ret : Option FieldType} {hh : List (Nat × Nat × Nat × Nat)}
    (hM : vx_Met l y ws rm Pc Qc XC mc ms free) (hblind : FrameBlind Pc) (hrc : rm.cells = mc) (hrs : rm.slots = ms)
    (hframes : rm.frames + 1 ≤ R.frames) (hlocals : W9 + (maxL + 11) + rm.locals ≤ R.locals)
    (hws : ∀ w ∈ ws, ∀ a' U, s.WarmedH U.vm → w.before a' U = true) (hcode : Cond.codeWith y bytes maxL ret hh ∈ ws) (hinit : ∀ a' U, s.WarmedH U.vm → (Cond.initialized y.cls).before a' U = true) :
    vx_Back l R p e below s sargs y len W9 (PreOf R mc ms Pc) (PostOf Qc mc ms free) (vx_Post XC mc ms free) := by
  intro m meth c A g ig mk a X hg hsize hdg hW hn hp
  have h1 : (headSpec ws rm).pre.before a A.U = true := atoms_intro fun w hw => hws w hw _ _ X.warmed
  have h2 : (Cond.codeWith y bytes maxL ret hh).before a A.U = true := hws _ hcode _ _ X.warmed
  have h3 : (Cond.initialized y.cls).before a A.U = true := hinit _ _ X.warmed
  have h4 : A.cells + (headSpec ws rm).room.cells ≤ R.cells := by rw [show (headSpec ws rm).room.cells = mc from hrc]; exact hp.1
  have h5 : A.slots + (headSpec ws rm).room.slots ≤ R.slots := by rw [show (headSpec ws rm).room.slots = ms from hrs]; exact hp.2.1
  have hPc : Pc a (A.U.calling g mk a) := hblind _ _ _ _ hp.2.2
  obtain ⟨U, Ls, c0, s0⟩ := A
  dsimp only [Pt.U, Pt.locs, Pt.cells, Pt.slots] at h1 h2 h3 h4 h5 X hn hPc ⊢
  obtain ⟨m9, methY, cY, hn9, hmY, hcY, -, hlY, -⟩ := Cond.codeWith_spec h2
  cases Option.some.inj (hn9.symm.trans hn)
  obtain ⟨kY, hkY, -⟩ := className_of_methodNamed hn
  have hinitY : kY.init = .initialized := Cond.initialized_spec (findClass_of_methodNamed hn) hkY h3
  have h : At U g.method c below := by rw [hg]; exact X.here
  have hlocals9 : W9 + (maxL + 11) + (headSpec ws rm).room.locals ≤ R.locals := hlocals
  have happ : (headSpec ws rm).appliesLoose y e.platform (U.calling g mk a) = true :=
    Spec.appliesLoose_calling (g := g) h hdg hn hkY hinitY
      (X.room_calling (g := g) (R' := (headSpec ws rm).room) hsize hmY hcY hframes (by rw [hlY]; omega) h4 h5) h1
  obtain ⟨mid, hmid⟩ := h.above
  have hfr : (U.setTop g).frames = (.java g :: mid) ++ below := by rw [State.frames_setTop' g h.top, hmid]; rfl
  obtain ⟨o, s₂, hsteps, -, hend, hq⟩ := Steps.callFree hM p X.admits X.cas X.clock (acts := []) hfr happ hPc trivial
  have hq' : vx_Q Qc XC mc ms free a (U.calling g mk a) o s₂ := hq
  rw [State.frames_setTop' g h.top] at hend
  obtain ⟨g₀, hg0⟩ := Option.isSome_iff_exists.mp h.top
  obtain ⟨r, hr⟩ := State.topJava?_eq_some.mp hg0
  have hr' : (({ U with heap := s₂.heap, slotsUsed := s₂.slotsUsed } : State).setVm s₂.vm).frames = .java g₀ :: r := hr
  rcases hq' with ⟨hqc, L, hfe, hL⟩ | ⟨q, rfl, E, ce, L, hx, hce, hcv, hcl, hW₂, hsm, hL⟩
  · obtain ⟨⟨v, rfl⟩, hW₂, e2, q2, q3, q4, q5, q6⟩ := id hfe
    have e3 : s₂ = ({ (U.calling g mk a).setFrames s₂.frames with heap := s₂.heap, slotsUsed := s₂.slotsUsed } : State).setVm s₂.vm := by
      have : s₂ = ({ s₂ with vm := (U.calling g mk a).vm } : State).setVm s₂.vm := rfl
      rw [e2] at this
      exact this
    obtain ⟨c₂, i₂, len₂, hc₂, hd₂, hf₂⟩ := hend
    have hW' : U.WarmedH s₂.vm := hW₂
    have hcc : c₂ = c := by
      have h1 : s₂.code? g.method = U.code? g.method := by
        rw [State.code?_eq, State.code?_eq, hW'.alike.method?]
      exact Option.some.inj (hc₂.symm.trans (h1.trans h.code))
    subst hcc
    have hlen : len₂ = len := by rw [hdg] at hd₂; cases hd₂; rfl
    subst hlen
    have hs₂ : s₂ = (({ U with heap := s₂.heap, slotsUsed := s₂.slotsUsed } : State).setVm s₂.vm).setTop { g with pc := g.pc + len₂, stack := v.toList ++ g.stack } := by
      refine e3.trans ?_
      rw [hf₂, State.calling_eq h.top, State.setFrames_setFrames, State.setTop_of_frames _ hr', hr]
      rfl
    have hsame : U.sameButNew ({ U with heap := s₂.heap, slotsUsed := s₂.slotsUsed } : State) L mc ms := by
      refine ⟨?_, q2, q3, q4, q5, q6⟩
      obtain ⟨t, ht, -⟩ := State.frames_cons hr
      show ({ U with heap := s₂.heap, slotsUsed := s₂.slotsUsed } : State) = { U.setFrames U.frames with heap := s₂.heap, slotsUsed := s₂.slotsUsed }
      rw [State.setFrames_self ht]
    subst hg
    refine Or.inl ⟨v, ⟨(({ U with heap := s₂.heap, slotsUsed := s₂.slotsUsed } : State).setVm s₂.vm), Ls ++ L, c0 + mc, s0 + ms⟩,
      ⟨X.admits, X.cas, X.clock, X.frames, X.room, X.hears, X.method, X.code, (X.here.setHeapUsed s₂.heap s₂.slotsUsed).setVm hW'.alike, X.tail, State.WarmedH.trans X.warmed hW', X.limits, X.bytes, X.same.trans (hsame.setVm s.vm)⟩,
      ⟨g, mk, s₂, L, rfl, rfl, hqc, rfl, hL, rfl, rfl⟩, ?_⟩
    show Steps p.tables e below _ ((({ U with heap := s₂.heap, slotsUsed := s₂.slotsUsed } : State).setVm s₂.vm).setTop { g with pc := g.pc + len₂, stack := v.toList ++ g.stack })
    rw [← hs₂]
    exact hsteps
  · obtain ⟨e2, q2, q3, q4, q5, q6⟩ := id hsm
    have e3 : s₂ = ({ (U.calling g mk a).setFrames s₂.frames with heap := s₂.heap, slotsUsed := s₂.slotsUsed } : State).setVm s₂.vm := by
      have : s₂ = ({ s₂ with vm := (U.calling g mk a).vm } : State).setVm s₂.vm := rfl
      rw [e2] at this
      exact this
    have hf₂ : s₂.frames = .throwing q :: .java g :: U.frames.tail := hend
    have hW' : U.WarmedH s₂.vm := hW₂
    have hs₂ : s₂ = ((({ U with heap := s₂.heap, slotsUsed := s₂.slotsUsed } : State).setVm s₂.vm).setTop g).pushFrame (.throwing q) := by
      refine e3.trans ?_
      rw [hf₂, State.calling_eq h.top, State.setFrames_setFrames, State.pushFrame, State.frames_setTop _ hr', State.setTop_of_frames _ hr', State.setFrames_setFrames, hr]
      rfl
    have hsame : U.sameButNew ({ U with heap := s₂.heap, slotsUsed := s₂.slotsUsed } : State) L mc ms := by
      refine ⟨?_, q2, q3, q4, q5, q6⟩
      obtain ⟨t, ht, -⟩ := State.frames_cons hr
      show ({ U with heap := s₂.heap, slotsUsed := s₂.slotsUsed } : State) = { U.setFrames U.frames with heap := s₂.heap, slotsUsed := s₂.slotsUsed }
      rw [State.setFrames_self ht]
    subst hg
    refine Or.inr ⟨q, ⟨(({ U with heap := s₂.heap, slotsUsed := s₂.slotsUsed } : State).setVm s₂.vm), Ls ++ L, c0 + mc, s0 + ms⟩,
      ⟨X.admits, X.cas, X.clock, X.frames, X.room, X.hears, X.method, X.code, (X.here.setHeapUsed s₂.heap s₂.slotsUsed).setVm hW'.alike, X.tail, State.WarmedH.trans X.warmed hW', X.limits, X.bytes, X.same.trans (hsame.setVm s.vm)⟩,
      ⟨g, mk, s₂, L, E, ce, rfl, rfl, hx, hce, hcv, hcl, rfl, hL, rfl, rfl⟩, ?_⟩
    show Steps p.tables e below _ (((({ U with heap := s₂.heap, slotsUsed := s₂.slotsUsed } : State).setVm s₂.vm).setTop g).pushFrame (.throwing q))
    rw [← hs₂]
    exact hsteps
end
variable {p : Program} {l : Launch} {e : Env} {R : Room} {s : State} {m : MethodId} {args : Array Value} {below : List Frame} {meth : Method} {c : Code} {T : State} {H : Heap} {locs : List Loc} {cells slots : Nat}
theorem vx_callVX (X : Stand p l e R s m args below meth c T locs cells slots) (hexec : p.tables.exec = Jvm.exec) {own C : String} {index : Nat} {y : MethodName} {bytes : ByteArray} {maxL : Nat} {ret : Option FieldType} {hh : List (Nat × Nat × Nat × Nat)}
    (hown : s.vm.findClass own = some m.cls) (hlink : (Cond.methodLink own index y).before args s = true) (hinst : (Cond.instanceMethod y).before args s = true) (hsel : (Cond.selects C y y).before args s = true)
    (hcode : (Cond.codeWith y bytes maxL ret hh).before args s = true) (hy : y.cls ≠ "java/lang/invoke/MethodHandle" ∧ y.cls ≠ "java/lang/invoke/VarHandle")
    {W9 : Nat} {Pre : Pt → Array Value → Prop} {Post : Pt → Array Value → Option Value → Pt → Prop} {PostX : Pt → Array Value → Addr → Pt → Prop} (hK : vx_Back l R p e below s args y 3 W9 Pre Post PostX)
    {b : Addr} {cellB : Cell} (hcell : T.heap[b]? = some cellB) (hobj : cellB.vm.isStatics = false) (hcls : s.vm.findClass C = some cellB.cls)
    {g : JFrame} (hg : g.method = m) (hsize : g.locals.size = c.maxLocals) {argsL rest : List Value} (hlen : ∀ sig, parseMethodDescriptor y.desc = some sig → argsL.length = sig.parameters.length)
    (hstack : g.stack = argsL.reverse ++ .ref b :: rest) (hW : 2 * g.monitorRoom + (rest.map fun v => v.category).sum ≤ W9) (hdg : decode c.code g.pc = .ok (.invokevirtual index, 3))
    (hpre : ∀ vm₁, s.WarmedH vm₁ → Pre ⟨T.setVm vm₁, locs, cells, slots⟩ (Value.ref b :: argsL).toArray) :
    (∃ (v : Option Value) (vm₁ : Vm) (B : Pt), s.WarmedH vm₁ ∧ Stand p l e R s m args below meth c B.U B.locs B.cells B.slots ∧ Post ⟨T.setVm vm₁, locs, cells, slots⟩ (Value.ref b :: argsL).toArray v B ∧
      ∀ target, Steps p.tables e below (B.U.setTop { g with pc := g.pc + 3, stack := v.toList ++ rest }) target → Steps p.tables e below (T.setTop g) target) ∨
    (∃ (q : Addr) (vm₁ : Vm) (B : Pt), s.WarmedH vm₁ ∧ Stand p l e R s m args below meth c B.U B.locs B.cells B.slots ∧ PostX ⟨T.setVm vm₁, locs, cells, slots⟩ (Value.ref b :: argsL).toArray q B ∧
      Steps p.tables e below (T.setTop g) ((B.U.setTop { g with stack := rest }).pushFrame (.throwing q))) := by
  obtain ⟨mk, methM, hnamed, hmethM, hstM, habM⟩ := Cond.instanceMethod_spec hinst
  obtain ⟨m8, methM', cM, hn8, hmethM', -, -, -, -, -, -, hsigM⟩ := Cond.codeWith_spec hcode
  cases Option.some.inj (hn8.symm.trans hnamed)
  cases hmethM.symm.trans hmethM'
  obtain ⟨c2, r2, m2, q1, q2, q3, q4, kP, hkP, hkPi⟩ := Cond.selects_spec hsel
  cases hcls.symm.trans q1
  cases (State.methodFound?_of_named hnamed hy).symm.trans q2
  cases hnamed.symm.trans q3
  have hselP : selectMethod e.platform s.vm cellB.cls mk = .method mk := by rw [Launch.admits_selectMethod X.admits]; exact q4
  obtain ⟨vm₁, X₁, hstep₁⟩ := X.invokevirtual hexec hown hlink hnamed hmethM hstM hkP hkPi hy (a := b) (cell := cellB) hcell
    (fun z h => by rw [h] at hobj; cases hobj) hselP hmethM habM hkP hkPi (g := g) hg (argsL := argsL) (rest := rest) (hlen _ hsigM) hstack hdg
  rcases hK m meth c ⟨T.setVm vm₁, locs, cells, slots⟩ { g with stack := rest } (.invokevirtual index) mk (Value.ref b :: argsL).toArray X₁ hg hsize hdg hW (X₁.named hnamed) (hpre vm₁ X₁.warmed) with ⟨v, B, X', hpost, hsteps⟩ | ⟨q, B, X', hpost, hsteps⟩
  · exact Or.inl ⟨v, vm₁, B, X₁.warmed, X', hpost, fun target h => hstep₁ _ fun acts => by rw [doInvoke_state]; exact hsteps.trans h⟩
  · exact Or.inr ⟨q, vm₁, B, X₁.warmed, X', hpost, hstep₁ _ fun acts => by rw [doInvoke_state]; exact hsteps⟩
theorem vx_callSX (X : Stand p l e R s m args below meth c T locs cells slots) (hexec : p.tables.exec = Jvm.exec) {own : String} {index : Nat} {y : MethodName} {bytes : ByteArray} {maxL : Nat} {ret : Option FieldType} {hh : List (Nat × Nat × Nat × Nat)}
    (hown : s.vm.findClass own = some m.cls) (hlink : (Cond.methodLink own index y).before args s = true) (hstat : (Cond.static y).before args s = true) (hinit : (Cond.initialized y.cls).before args s = true)
    (hcode : (Cond.codeWith y bytes maxL ret hh).before args s = true) (hy : y.cls ≠ "java/lang/invoke/MethodHandle" ∧ y.cls ≠ "java/lang/invoke/VarHandle")
    {W9 : Nat} {Pre : Pt → Array Value → Prop} {Post : Pt → Array Value → Option Value → Pt → Prop} {PostX : Pt → Array Value → Addr → Pt → Prop} (hK : vx_Back l R p e below s args y 3 W9 Pre Post PostX)
    {g : JFrame} (hg : g.method = m) (hsize : g.locals.size = c.maxLocals) {argsL rest : List Value} (hlen : ∀ sig, parseMethodDescriptor y.desc = some sig → argsL.length = sig.parameters.length)
    (hstack : g.stack = argsL.reverse ++ rest) (hW : 2 * g.monitorRoom + (rest.map fun v => v.category).sum ≤ W9) (hdg : decode c.code g.pc = .ok (.invokestatic index, 3))
    (hpre : ∀ vm₁, s.WarmedH vm₁ → Pre ⟨T.setVm vm₁, locs, cells, slots⟩ argsL.toArray) :
    (∃ (v : Option Value) (vm₁ : Vm) (B : Pt), s.WarmedH vm₁ ∧ Stand p l e R s m args below meth c B.U B.locs B.cells B.slots ∧ Post ⟨T.setVm vm₁, locs, cells, slots⟩ argsL.toArray v B ∧
      ∀ target, Steps p.tables e below (B.U.setTop { g with pc := g.pc + 3, stack := v.toList ++ rest }) target → Steps p.tables e below (T.setTop g) target) ∨
    (∃ (q : Addr) (vm₁ : Vm) (B : Pt), s.WarmedH vm₁ ∧ Stand p l e R s m args below meth c B.U B.locs B.cells B.slots ∧ PostX ⟨T.setVm vm₁, locs, cells, slots⟩ argsL.toArray q B ∧
      Steps p.tables e below (T.setTop g) ((B.U.setTop { g with stack := rest }).pushFrame (.throwing q))) := by
  obtain ⟨mk, methM, cM, hnamed, hmethM, -, -, -, -, -, -, hsigM⟩ := Cond.codeWith_spec hcode
  have hstatic : methM.isStatic = true := Cond.static_spec hnamed hmethM hstat
  obtain ⟨kP, hkP, -⟩ := className_of_methodNamed hnamed
  have hinitP : kP.init = .initialized := Cond.initialized_spec (findClass_of_methodNamed hnamed) hkP hinit
  obtain ⟨vm₁, X₁, hstep₁⟩ := X.invokestatic hexec hown hlink hnamed hmethM hstatic hkP hinitP hy (g := g) hg (argsL := argsL) (rest := rest) (hlen _ hsigM) hstack hdg
  rcases hK m meth c ⟨T.setVm vm₁, locs, cells, slots⟩ { g with stack := rest } (.invokestatic index) mk argsL.toArray X₁ hg hsize hdg hW (X₁.named hnamed) (hpre vm₁ X₁.warmed) with ⟨v, B, X', hpost, hsteps⟩ | ⟨q, B, X', hpost, hsteps⟩
  · exact Or.inl ⟨v, vm₁, B, X₁.warmed, X', hpost, fun target h => hstep₁ _ fun acts => by rw [doInvoke_state]; exact hsteps.trans h⟩
  · exact Or.inr ⟨q, vm₁, B, X₁.warmed, X', hpost, hstep₁ _ fun acts => by rw [doInvoke_state]; exact hsteps⟩
theorem vx_callVW (X : Stand p l e R s m args below meth c T locs cells slots) (hexec : p.tables.exec = Jvm.exec) {own C : String} {index : Nat} {y : MethodName} {bytes : ByteArray} {maxL : Nat} {ret : Option FieldType} {hh : List (Nat × Nat × Nat × Nat)}
    (hown : s.vm.findClass own = some m.cls) (hlink : (Cond.methodLink own index y).before args s = true) (hinst : (Cond.instanceMethod y).before args s = true) (hsel : (Cond.selects C y y).before args s = true)
    (hcode : (Cond.codeWith y bytes maxL ret hh).before args s = true) (hy : y.cls ≠ "java/lang/invoke/MethodHandle" ∧ y.cls ≠ "java/lang/invoke/VarHandle")
    {W9 : Nat} {Pre : Pt → Array Value → Prop} {Post : Pt → Array Value → Option Value → Pt → Prop} (hK : Back l R p e below s args y 3 W9 Pre Post)
    {b : Addr} {cellB : Cell} (hcell : T.heap[b]? = some cellB) (hobj : cellB.vm.isStatics = false) (hcls : s.vm.findClass C = some cellB.cls)
    {g : JFrame} (hg : g.method = m) (hsize : g.locals.size = c.maxLocals) {argsL rest : List Value} (hlen : ∀ sig, parseMethodDescriptor y.desc = some sig → argsL.length = sig.parameters.length)
    (hstack : g.stack = argsL.reverse ++ .ref b :: rest) (hW : 2 * g.monitorRoom + (rest.map fun v => v.category).sum ≤ W9) (hdg : decode c.code g.pc = .ok (.invokevirtual index, 3))
    (hpre : ∀ vm₁, s.WarmedH vm₁ → Pre ⟨T.setVm vm₁, locs, cells, slots⟩ (Value.ref b :: argsL).toArray) :
    ∃ (v : Option Value) (vm₁ : Vm) (B : Pt), s.WarmedH vm₁ ∧ Stand p l e R s m args below meth c B.U B.locs B.cells B.slots ∧ Post ⟨T.setVm vm₁, locs, cells, slots⟩ (Value.ref b :: argsL).toArray v B ∧
      ∀ target, Steps p.tables e below (B.U.setTop { g with pc := g.pc + 3, stack := v.toList ++ rest }) target → Steps p.tables e below (T.setTop g) target := by
  obtain ⟨mk, methM, hnamed, hmethM, hstM, habM⟩ := Cond.instanceMethod_spec hinst
  obtain ⟨m8, methM', cM, hn8, hmethM', -, -, -, -, -, -, hsigM⟩ := Cond.codeWith_spec hcode
  cases Option.some.inj (hn8.symm.trans hnamed)
  cases hmethM.symm.trans hmethM'
  obtain ⟨c2, r2, m2, q1, q2, q3, q4, kP, hkP, hkPi⟩ := Cond.selects_spec hsel
  cases hcls.symm.trans q1
  cases (State.methodFound?_of_named hnamed hy).symm.trans q2
  cases hnamed.symm.trans q3
  have hselP : selectMethod e.platform s.vm cellB.cls mk = .method mk := by rw [Launch.admits_selectMethod X.admits]; exact q4
  obtain ⟨vm₁, X₁, hstep₁⟩ := X.invokevirtual hexec hown hlink hnamed hmethM hstM hkP hkPi hy (a := b) (cell := cellB) hcell
    (fun z h => by rw [h] at hobj; cases hobj) hselP hmethM habM hkP hkPi (g := g) hg (argsL := argsL) (rest := rest) (hlen _ hsigM) hstack hdg
  obtain ⟨v, B, X', hpost, hsteps⟩ := hK m meth c ⟨T.setVm vm₁, locs, cells, slots⟩ { g with stack := rest } (.invokevirtual index) mk (Value.ref b :: argsL).toArray X₁ hg hsize hdg hW (X₁.named hnamed) (hpre vm₁ X₁.warmed)
  exact ⟨v, vm₁, B, X₁.warmed, X', hpost, fun target h => hstep₁ _ fun acts => by rw [doInvoke_state]; exact hsteps.trans h⟩
abbrev vx_CVW (R : Room) (s : State) (args : Array Value) (own C : String) (index : Nat) (y : MethodName) (bytes : ByteArray) (maxL : Nat) (ret : Option FieldType) (hh : List (Nat × Nat × Nat × Nat)) (ws : List Cond) (rm : Room) (mc ms n : Nat) : Prop :=
  (rm.cells = mc ∧ rm.slots = ms ∧ rm.frames + 1 ≤ R.frames ∧ 8 + (maxL + 11) + rm.locals ≤ R.locals ∧ (∀ w ∈ ws, ∀ (a' : Array Value) (U : State), s.WarmedH U.vm → w.before a' U = true) ∧ Cond.codeWith y bytes maxL ret hh ∈ ws) ∧
  (Cond.codeWith y bytes maxL ret hh).before args s = true ∧ (Cond.initialized y.cls).before args s = true ∧ (y.cls ≠ "java/lang/invoke/MethodHandle" ∧ y.cls ≠ "java/lang/invoke/VarHandle") ∧
  (∀ sig, parseMethodDescriptor y.desc = some sig → n = sig.parameters.length) ∧ (Cond.methodLink own index y).before args s = true ∧ (Cond.instanceMethod y).before args s = true ∧ (Cond.selects C y y).before args s = true
theorem vx_cwVW {own C : String} {index maxL mc ms : Nat} {y : MethodName} {bytes : ByteArray} {ret : Option FieldType} {hh : List (Nat × Nat × Nat × Nat)} {Ts ws ws' : List Cond} {rm : Room} (n : Nat) (ht : ∀ w ∈ Ts, w.before args s = true) (hT : GoodIn Ts (wsV own index C y ws)) (hw : ws = Cond.codeWith y bytes maxL ret hh :: ws') (hrc : rm.cells = mc) (hrs : rm.slots = ms)
    (hd : y.cls = C ∧ y.cls ≠ "java/lang/invoke/MethodHandle" ∧ y.cls ≠ "java/lang/invoke/VarHandle" ∧ (parseMethodDescriptor y.desc).map (fun d => d.parameters.length) = some n) (hR : rm.frames + 1 ≤ R.frames ∧ 8 + (maxL + 11) + rm.locals ≤ R.locals) :
    vx_CVW R s args own C index y bytes maxL ret hh ws rm mc ms n := by
  obtain ⟨hC, hd⟩ := hd
  subst hC
  have ok : ∀ w ∈ wsV own index y.cls y ws, w.before args s = true := fun w h => ht w (hT w h).1
  have hG : GoodIn Ts ws := fun w h => hT w (by unfold wsV; exact List.mem_append_right _ h)
  have hc : Cond.codeWith y bytes maxL ret hh ∈ ws := by rw [hw]; exact List.mem_cons_self
  refine ⟨⟨hrc, hrs, hR.1, hR.2, pay_in ht hG, hc⟩, ht _ (hG _ hc).1, ok _ (by simp [wsV]), ⟨hd.1, hd.2.1⟩, fun sig h => ?_, ok _ (by simp [wsV]), ok _ (by simp [wsV]), ok _ (by simp [wsV])⟩
  have h2 := hd.2.2
  rw [h] at h2
  exact (Option.some.inj h2).symm
theorem vx_runVW {y : MethodName} {bytes cc : ByteArray} {maxL nL mc ms n index : Nat} {ret : Option FieldType} {hh : List (Nat × Nat × Nat × Nat)} {ws : List Cond} {rm : Room} {Pc : Array Value → State → Prop} {Qc : Array Value → State → Outcome → State → Prop} {free : Addr → Prop} {Ts : List Cond} {own C : String} {b : Addr} {As rest : List Value} {g : JFrame}
    (S : CallFix p m c cc nL s args Ts own) (hM : Met l y ws rm Pc Qc mc ms free) (cw : vx_CVW R s args own C index y bytes maxL ret hh ws rm mc ms n) (hp : PreV s H C b Pc As)
    (hg : g.method = m) (hn : As.length = n) (hsize : g.locals.size = nL) (hstack : g.stack = As.reverse ++ .ref b :: rest) (hW : 2 * g.monitorRoom + (rest.map fun v => v.category).sum ≤ 8) (hdg : decode cc g.pc = .ok (.invokevirtual index, 3)) (hf : cells + mc ≤ R.cells ∧ slots + ms ≤ R.slots) :
    va_Run p l e R s m args below meth c H locs cells slots mc ms g rest (Qc (Value.ref b :: As).toArray) free := by
  obtain ⟨⟨hrc, hrs, hfr, hlo, hws, hcw⟩, hcode, hini, hy, hlen, hl, hin, hse⟩ := cw
  have hK : Back l R p e below s args y 3 8 (PreOf R mc ms Pc) (PostOf Qc mc ms free) := va_backW (hh := hh) (bytes := bytes) (maxL := maxL) (ret := ret) hM hp.1 hrc hrs hfr hlo hws hcw (fun a' U hW => word_at hW (Or.inl (by first | rfl | simp [Cond.onTables, Cond.keeps, Cond.steady])) hini)
  obtain ⟨hx, hb, hml, ho, -⟩ := S
  obtain ⟨-, ⟨cellB, hcB, hoB, hclB⟩, hPc⟩ := hp
  intro T hT X
  obtain ⟨v, vm₁, ⟨U', l2, c2, s2⟩, hW₁, X', ⟨g', mk, t, L, e1, e2, hq, h1, hL, h2, h3⟩, st⟩ := vx_callVW X hx (C := C) (hh := hh) (bytes := bytes) (maxL := maxL) (ret := ret) ho hl hin hse hcode hy hK (by rw [hT]; exact hcB) hoB hclB hg (hsize.trans hml.symm) (argsL := As) (rest := rest) (fun sig h => hn.trans (hlen sig h)) hstack hW (by rw [hb]; exact hdg)
    (fun vm₁ hW₁ => ⟨hf.1, hf.2, hPc (T.setVm vm₁) hT hW₁⟩)
  dsimp only [Pt.U, Pt.locs, Pt.cells, Pt.slots] at X' e1 e2 h1 h2 h3 st
  subst h1; subst h2; subst h3
  exact ⟨v, (T.setVm vm₁).calling g' mk (Value.ref b :: As).toArray, t, U', L, hT, X', hL, e1, e2, hq, st⟩
section
variable {y : MethodName} {bytes cc : ByteArray} {maxL nL mc ms n index : Nat} {ret : Option FieldType} {ws : List Cond} {rm : Room} {Pc : Array Value → State → Prop} {Qc : Array Value → State → Outcome → State → Prop} {XC : String → State → State → Prop} {free : Addr → Prop} {Ts : List Cond} {own C : String} {b : Addr} {As rest : List Value} {g : JFrame}
theorem vx_runVX {hh : List (Nat × Nat × Nat × Nat)} (S : CallFix p m c cc nL s args Ts own) (hM : vx_Met l y ws rm Pc Qc XC mc ms free) (cw : vx_CVW R s args own C index y bytes maxL ret hh ws rm mc ms n) (hp : PreV s H C b Pc As)
    (hg : g.method = m) (hn : As.length = n) (hsize : g.locals.size = nL) (hstack : g.stack = As.reverse ++ .ref b :: rest) (hW : 2 * g.monitorRoom + (rest.map fun v => v.category).sum ≤ 8) (hdg : decode cc g.pc = .ok (.invokevirtual index, 3)) (hf : cells + mc ≤ R.cells ∧ slots + ms ≤ R.slots) :
    vx_Run p l e R s m args below meth c H locs cells slots mc ms g rest (Qc (Value.ref b :: As).toArray) XC free := by
  obtain ⟨⟨hrc, hrs, hfr, hlo, hws, hcw⟩, hcode, hini, hy, hlen, hl, hin, hse⟩ := cw
  have hK : vx_Back l R p e below s args y 3 8 (PreOf R mc ms Pc) (PostOf Qc mc ms free) (vx_Post XC mc ms free) := vx_backW (hh := hh) (bytes := bytes) (maxL := maxL) (ret := ret) hM hp.1 hrc hrs hfr hlo hws hcw (fun a' U hW => word_at hW (Or.inl (by first | rfl | simp [Cond.onTables, Cond.keeps, Cond.steady])) hini)
  obtain ⟨hx, hb, hml, ho, -⟩ := S
  obtain ⟨-, ⟨cellB, hcB, hoB, hclB⟩, hPc⟩ := hp
  intro T hT X
  rcases vx_callVX X hx (C := C) (hh := hh) (bytes := bytes) (maxL := maxL) (ret := ret) ho hl hin hse hcode hy hK (by rw [hT]; exact hcB) hoB hclB hg (hsize.trans hml.symm) (argsL := As) (rest := rest) (fun sig h => hn.trans (hlen sig h)) hstack hW (by rw [hb]; exact hdg)
    (fun vm₁ hW₁ => ⟨hf.1, hf.2, hPc (T.setVm vm₁) hT hW₁⟩) with ⟨v, vm₁, ⟨U', l2, c2, s2⟩, hW₁, X', ⟨g', mk, t, L, e1, e2, hq, h1, hL, h2, h3⟩, st⟩ | ⟨q, vm₁, ⟨U', l2, c2, s2⟩, hW₁, X', ⟨g', mk, t, L, E, ce, e1, e2, hq, hce, hcv, hcl, h1, hL, h2, h3⟩, st⟩
  · dsimp only [Pt.U, Pt.locs, Pt.cells, Pt.slots] at X' e1 e2 h1 h2 h3 st
    subst h1; subst h2; subst h3
    exact Or.inl ⟨v, (T.setVm vm₁).calling g' mk (Value.ref b :: As).toArray, t, U', L, hT, X', hL, e1, e2, hq, st⟩
  · dsimp only [Pt.U, Pt.locs, Pt.cells, Pt.slots] at X' e1 e2 h1 h2 h3 st hcl
    subst h1; subst h2; subst h3
    exact Or.inr ⟨q, (T.setVm vm₁).calling g' mk (Value.ref b :: As).toArray, t, U', L, E, ce, hT, X', hL, e1, e2, hq, hce, hcv, vx_cls hW₁ hcl, st⟩
theorem vx_runSX {hh : List (Nat × Nat × Nat × Nat)} (S : CallFix p m c cc nL s args Ts own) (hM : vx_Met l y ws rm Pc Qc XC mc ms free) (cw : vx_CSW R s args own index y bytes maxL ret hh ws rm mc ms n) (hp : PreS s H Pc As)
    (hg : g.method = m) (hn : As.length = n) (hsize : g.locals.size = nL) (hstack : g.stack = As.reverse ++ rest) (hW : 2 * g.monitorRoom + (rest.map fun v => v.category).sum ≤ 8) (hdg : decode cc g.pc = .ok (.invokestatic index, 3)) (hf : cells + mc ≤ R.cells ∧ slots + ms ≤ R.slots) :
    vx_Run p l e R s m args below meth c H locs cells slots mc ms g rest (Qc As.toArray) XC free := by
  obtain ⟨⟨hrc, hrs, hfr, hlo, hws, hcw⟩, hcode, hini, hy, hlen, hl, hstt⟩ := cw
  have hK : vx_Back l R p e below s args y 3 8 (PreOf R mc ms Pc) (PostOf Qc mc ms free) (vx_Post XC mc ms free) := vx_backW (hh := hh) (bytes := bytes) (maxL := maxL) (ret := ret) hM hp.1 hrc hrs hfr hlo hws hcw (fun a' U hW => word_at hW (Or.inl (by first | rfl | simp [Cond.onTables, Cond.keeps, Cond.steady])) hini)
  obtain ⟨hx, hb, hml, ho, -⟩ := S
  intro T hT X
  rcases vx_callSX X hx (hh := hh) (bytes := bytes) (maxL := maxL) (ret := ret) ho hl hstt hini hcode hy hK hg (hsize.trans hml.symm) (argsL := As) (rest := rest) (fun sig h => hn.trans (hlen sig h)) hstack hW (by rw [hb]; exact hdg)
    (fun vm₁ hW₁ => ⟨hf.1, hf.2, hp.2 (T.setVm vm₁) hT hW₁⟩) with ⟨v, vm₁, ⟨U', l2, c2, s2⟩, hW₁, X', ⟨g', mk, t, L, e1, e2, hq, h1, hL, h2, h3⟩, st⟩ | ⟨q, vm₁, ⟨U', l2, c2, s2⟩, hW₁, X', ⟨g', mk, t, L, E, ce, e1, e2, hq, hce, hcv, hcl, h1, hL, h2, h3⟩, st⟩
  · dsimp only [Pt.U, Pt.locs, Pt.cells, Pt.slots] at X' e1 e2 h1 h2 h3 st
    subst h1; subst h2; subst h3
    exact Or.inl ⟨v, (T.setVm vm₁).calling g' mk As.toArray, t, U', L, hT, X', hL, e1, e2, hq, st⟩
  · dsimp only [Pt.U, Pt.locs, Pt.cells, Pt.slots] at X' e1 e2 h1 h2 h3 st hcl
    subst h1; subst h2; subst h3
    exact Or.inr ⟨q, (T.setVm vm₁).calling g' mk As.toArray, t, U', L, E, ce, hT, X', hL, e1, e2, hq, hce, hcv, vx_cls hW₁ hcl, st⟩
end
end VXH
theorem vx_ofWH {l : Launch} {y : MethodName} {ws ws' : List Cond} {rm : Room} {Pc : Array Value → State → Prop} {Qc : Array Value → State → Outcome → State → Prop} {XC : String → State → State → Prop} {mc ms : Nat} {free : Addr → Prop} {cc : ByteArray} {maxL : Nat} {ret : Option FieldType} {hh : List (Nat × Nat × Nat × Nat)}
    (hy : plainName y.cls = true) (hw : ws = Cond.codeWith y cc maxL ret hh :: ws')
    (body : ∀ p e s m args below meth c s₁, BodyLoose p l y (headSpec ws rm) cc maxL ret e s m args below meth c s₁ → c.maxLocals = maxL → Pc args s →
      W p l e (headSpec ws rm).room s m args below meth c s.heap [] 0 0 (vx_MQ below Qc XC args s mc ms free) (entryFrame m args maxL)) : vx_Met l y ws rm Pc Qc XC mc ms free := by
  refine MetFree.of_bodyS (code := cc) (maxLocals := maxL) (ret := ret) hy ?_ ?_
  · intro args s m h hn
    obtain ⟨m9, meth, c, hn9, h1, h2, h3, h4, -, h5, h6, -⟩ := Cond.codeWith_spec (atoms_spec (ws := ws) h _ (by rw [hw]; exact List.mem_cons_self))
    cases hn.symm.trans hn9
    exact ⟨meth, c, h1, h2, h3, h4, h5, h6⟩
  · intro p e s m args below meth c s₁ B hml hP _
    have hh0 : s₁.heap = s.heap := by rw [B.state]; rfl
    obtain ⟨t, a1, o, b1, b2, b3⟩ := body p e s m args below meth c s₁ B hml hP s₁ hh0 (Stand.of_body B)
    exact ⟨t, o, a1, b1, b2, b3⟩
/-! ===== END ===== -/
end
section
/-! ===== BEGIN printed: names, fields, word lists, decode rows ===== -/
def RX0 : String := "LinkQueues$Coins"
def TX0 : u_T := fun k => match k with
  | 0 => ("LinkQueues$Coins", "row", "[D", true)
  | 1 => ("LinkQueues$Coins", "told", "I", false)
  | _ => ("LinkQueues$Coins", "used", "I", false)
def tyX0 : Nat → FieldType := fun k => match k with
  | 0 => .array .double
  | 1 => .int
  | _ => .int
abbrev wsX00 : List Cond := u_ws RX0 TX0 3
theorem nmX0 : ∀ a, a < 3 → ∀ b, b < 3 → a ≠ b → (TX0 a).2.1 ≠ (TX0 b).2.1 := by decide +kernel
theorem tyX0_ok : ∀ k, k < 3 → parseFieldDescriptor (TX0 k).2.2.1 = some (tyX0 k) := by decide +kernel
abbrev cX0_init : ByteArray := prog_2_method_1_code
def yX0_init : MethodName := ⟨RX0, "<init>", "()V"⟩
abbrev cX0_waiting : ByteArray := prog_2_method_2_code
def yX0_waiting : MethodName := ⟨RX0, "waiting", "()I"⟩
abbrev cX0_isFull : ByteArray := prog_2_method_3_code
def yX0_isFull : MethodName := ⟨RX0, "isFull", "()Z"⟩
abbrev cX0_add : ByteArray := prog_2_method_4_code
def yX0_add : MethodName := ⟨RX0, "add", "(D)V"⟩
abbrev cX0_use : ByteArray := prog_2_method_5_code
def yX0_use : MethodName := ⟨RX0, "use", "()D"⟩
abbrev cX0_place : ByteArray := prog_2_method_6_code
def yX0_place : MethodName := ⟨RX0, "place", "(I)I"⟩
def RX1 : String := "LinkQueues$Delay"
def TX1 : u_T := fun k => match k with
  | 0 => ("LinkQueues$Delay", "target", "D", false)
  | 1 => ("LinkQueues$Delay", "interval", "D", false)
  | 2 => ("LinkQueues$Delay", "isAbove", "Z", false)
  | 3 => ("LinkQueues$Delay", "above", "D", false)
  | 4 => ("LinkQueues$Delay", "drops", "Z", false)
  | 5 => ("LinkQueues$Delay", "next", "D", false)
  | 6 => ("LinkQueues$Delay", "count", "I", false)
  | _ => ("LinkQueues$Delay", "last", "I", false)
def tyX1 : Nat → FieldType := fun k => match k with
  | 0 => .double
  | 1 => .double
  | 2 => .boolean
  | 3 => .double
  | 4 => .boolean
  | 5 => .double
  | 6 => .int
  | _ => .int
abbrev wsX10 : List Cond := u_ws RX1 TX1 8
theorem nmX1 : ∀ a, a < 8 → ∀ b, b < 8 → a ≠ b → (TX1 a).2.1 ≠ (TX1 b).2.1 := by decide +kernel
theorem tyX1_ok : ∀ k, k < 8 → parseFieldDescriptor (TX1 k).2.2.1 = some (tyX1 k) := by decide +kernel
abbrev cX1_init : ByteArray := prog_3_method_1_code
def yX1_init : MethodName := ⟨RX1, "<init>", "()V"⟩
abbrev cX1_tell : ByteArray := prog_3_method_2_code
def yX1_tell : MethodName := ⟨RX1, "tell", "(DD)V"⟩
abbrev cX1_restart : ByteArray := prog_3_method_3_code
def yX1_restart : MethodName := ⟨RX1, "restart", "()V"⟩
abbrev cX1_hits : ByteArray := prog_3_method_4_code
def yX1_hits : MethodName := ⟨RX1, "hits", "(IIZ)Z"⟩
abbrev cX1_isLate : ByteArray := prog_3_method_5_code
def yX1_isLate : MethodName := ⟨RX1, "isLate", "(IIZ)Z"⟩
abbrev cX1_countToBeginWith : ByteArray := prog_3_method_6_code
def yX1_countToBeginWith : MethodName := ⟨RX1, "countToBeginWith", "(I)I"⟩
abbrev cX1_root : ByteArray := prog_3_method_7_code
def yX1_root : MethodName := ⟨RX1, "root", "(I)D"⟩
def RX2 : String := "LinkQueues$Flow"
def TX2 : u_T := fun k => match k with
  | 0 => ("LinkQueues$Flow", "place", "I", true)
  | 1 => ("LinkQueues$Flow", "queue", "LLinkQueues$Queue;", true)
  | 2 => ("LinkQueues$Flow", "mean", "LLinkQueues$Mean;", true)
  | 3 => ("LinkQueues$Flow", "delay", "LLinkQueues$Delay;", true)
  | 4 => ("LinkQueues$Flow", "kind", "I", false)
  | 5 => ("LinkQueues$Flow", "quantum", "I", false)
  | 6 => ("LinkQueues$Flow", "deficit", "I", false)
  | 7 => ("LinkQueues$Flow", "behind", "LLinkQueues$Flow;", false)
  | 8 => ("LinkQueues$Flow", "came", "I", false)
  | 9 => ("LinkQueues$Flow", "sent", "I", false)
  | 10 => ("LinkQueues$Flow", "sentBytes", "I", false)
  | 11 => ("LinkQueues$Flow", "lostFull", "I", false)
  | 12 => ("LinkQueues$Flow", "lostMean", "I", false)
  | 13 => ("LinkQueues$Flow", "lostDelay", "I", false)
  | _ => ("LinkQueues$Flow", "marked", "I", false)
def tyX2 : Nat → FieldType := fun k => match k with
  | 0 => .int
  | 1 => .object "LinkQueues$Queue"
  | 2 => .object "LinkQueues$Mean"
  | 3 => .object "LinkQueues$Delay"
  | 4 => .int
  | 5 => .int
  | 6 => .int
  | 7 => .object "LinkQueues$Flow"
  | 8 => .int
  | 9 => .int
  | 10 => .int
  | 11 => .int
  | 12 => .int
  | 13 => .int
  | _ => .int
abbrev wsX20 : List Cond := u_ws RX2 TX2 15
theorem nmX2 : ∀ a, a < 15 → ∀ b, b < 15 → a ≠ b → (TX2 a).2.1 ≠ (TX2 b).2.1 := by decide +kernel
theorem tyX2_ok : ∀ k, k < 15 → parseFieldDescriptor (TX2 k).2.2.1 = some (tyX2 k) := by decide +kernel
abbrev cX2_init : ByteArray := prog_4_method_1_code
def yX2_init : MethodName := ⟨RX2, "<init>", "(I)V"⟩
abbrev cX2_letsIn : ByteArray := prog_4_method_2_code
def yX2_letsIn : MethodName := ⟨RX2, "letsIn", "(LLinkQueues$Packet;ILLinkQueues$Coins;)Z"⟩
abbrev cX2_letsOut : ByteArray := prog_4_method_3_code
def yX2_letsOut : MethodName := ⟨RX2, "letsOut", "(LLinkQueues$Packet;I)Z"⟩
abbrev cX2_takesMark : ByteArray := prog_4_method_4_code
def yX2_takesMark : MethodName := ⟨RX2, "takesMark", "(LLinkQueues$Packet;)Z"⟩
def RX3 : String := "LinkQueues$Mean"
def TX3 : u_T := fun k => match k with
  | 0 => ("LinkQueues$Mean", "low", "D", false)
  | 1 => ("LinkQueues$Mean", "high", "D", false)
  | 2 => ("LinkQueues$Mean", "top", "D", false)
  | 3 => ("LinkQueues$Mean", "weight", "D", false)
  | 4 => ("LinkQueues$Mean", "average", "D", false)
  | 5 => ("LinkQueues$Mean", "count", "I", false)
  | _ => ("LinkQueues$Mean", "emptySince", "I", false)
def tyX3 : Nat → FieldType := fun k => match k with
  | 0 => .double
  | 1 => .double
  | 2 => .double
  | 3 => .double
  | 4 => .double
  | 5 => .int
  | _ => .int
abbrev wsX30 : List Cond := u_ws RX3 TX3 7
theorem nmX3 : ∀ a, a < 7 → ∀ b, b < 7 → a ≠ b → (TX3 a).2.1 ≠ (TX3 b).2.1 := by decide +kernel
theorem tyX3_ok : ∀ k, k < 7 → parseFieldDescriptor (TX3 k).2.2.1 = some (tyX3 k) := by decide +kernel
abbrev cX3_init : ByteArray := prog_5_method_1_code
def yX3_init : MethodName := ⟨RX3, "<init>", "()V"⟩
abbrev cX3_tell : ByteArray := prog_5_method_2_code
def yX3_tell : MethodName := ⟨RX3, "tell", "(DDDD)V"⟩
abbrev cX3_restart : ByteArray := prog_5_method_3_code
def yX3_restart : MethodName := ⟨RX3, "restart", "(I)V"⟩
abbrev cX3_reckon : ByteArray := prog_5_method_4_code
def yX3_reckon : MethodName := ⟨RX3, "reckon", "(II)V"⟩
abbrev cX3_refuses : ByteArray := prog_5_method_5_code
def yX3_refuses : MethodName := ⟨RX3, "refuses", "()Z"⟩
abbrev cX3_hits : ByteArray := prog_5_method_6_code
def yX3_hits : MethodName := ⟨RX3, "hits", "(LLinkQueues$Coins;)Z"⟩
def RX4 : String := "LinkQueues$Outlog"
def TX4 : u_T := fun k => match k with
  | 0 => ("LinkQueues$Outlog", "row", "[LLinkQueues$Packet;", true)
  | _ => ("LinkQueues$Outlog", "nth", "I", false)
def tyX4 : Nat → FieldType := fun k => match k with
  | 0 => .array (.object "LinkQueues$Packet")
  | _ => .int
abbrev wsX40 : List Cond := u_ws RX4 TX4 2
theorem nmX4 : ∀ a, a < 2 → ∀ b, b < 2 → a ≠ b → (TX4 a).2.1 ≠ (TX4 b).2.1 := by decide +kernel
theorem tyX4_ok : ∀ k, k < 2 → parseFieldDescriptor (TX4 k).2.2.1 = some (tyX4 k) := by decide +kernel
abbrev cX4_init : ByteArray := prog_6_method_1_code
def yX4_init : MethodName := ⟨RX4, "<init>", "()V"⟩
abbrev cX4_add : ByteArray := prog_6_method_2_code
def yX4_add : MethodName := ⟨RX4, "add", "(LLinkQueues$Packet;)V"⟩
abbrev cX4_lastBut : ByteArray := prog_6_method_3_code
def yX4_lastBut : MethodName := ⟨RX4, "lastBut", "(I)LLinkQueues$Packet;"⟩
abbrev cX4_place : ByteArray := prog_6_method_4_code
def yX4_place : MethodName := ⟨RX4, "place", "(I)I"⟩
def RX5 : String := "LinkQueues$Packet"
def TX5 : u_T := fun k => match k with
  | 0 => ("LinkQueues$Packet", "number", "I", true)
  | 1 => ("LinkQueues$Packet", "owner", "LLinkQueues$Flow;", true)
  | 2 => ("LinkQueues$Packet", "bytes", "I", true)
  | 3 => ("LinkQueues$Packet", "cameAt", "I", true)
  | 4 => ("LinkQueues$Packet", "markable", "Z", true)
  | 5 => ("LinkQueues$Packet", "marked", "Z", false)
  | 6 => ("LinkQueues$Packet", "wait", "I", false)
  | _ => ("LinkQueues$Packet", "behind", "LLinkQueues$Packet;", false)
def tyX5 : Nat → FieldType := fun k => match k with
  | 0 => .int
  | 1 => .object "LinkQueues$Flow"
  | 2 => .int
  | 3 => .int
  | 4 => .boolean
  | 5 => .boolean
  | 6 => .int
  | _ => .object "LinkQueues$Packet"
abbrev wsX50 : List Cond := u_ws RX5 TX5 8
theorem nmX5 : ∀ a, a < 8 → ∀ b, b < 8 → a ≠ b → (TX5 a).2.1 ≠ (TX5 b).2.1 := by decide +kernel
theorem tyX5_ok : ∀ k, k < 8 → parseFieldDescriptor (TX5 k).2.2.1 = some (tyX5 k) := by decide +kernel
abbrev cX5_init : ByteArray := prog_7_method_1_code
def yX5_init : MethodName := ⟨RX5, "<init>", "(ILLinkQueues$Flow;IIZ)V"⟩
def RX6 : String := "LinkQueues$Queue"
def TX6 : u_T := fun k => match k with
  | 0 => ("LinkQueues$Queue", "first", "LLinkQueues$Packet;", false)
  | 1 => ("LinkQueues$Queue", "last", "LLinkQueues$Packet;", false)
  | 2 => ("LinkQueues$Queue", "packets", "I", false)
  | _ => ("LinkQueues$Queue", "bytes", "I", false)
def tyX6 : Nat → FieldType := fun k => match k with
  | 0 => .object "LinkQueues$Packet"
  | 1 => .object "LinkQueues$Packet"
  | 2 => .int
  | _ => .int
abbrev wsX60 : List Cond := u_ws RX6 TX6 4
theorem nmX6 : ∀ a, a < 4 → ∀ b, b < 4 → a ≠ b → (TX6 a).2.1 ≠ (TX6 b).2.1 := by decide +kernel
theorem tyX6_ok : ∀ k, k < 4 → parseFieldDescriptor (TX6 k).2.2.1 = some (tyX6 k) := by decide +kernel
abbrev cX6_init : ByteArray := prog_8_method_1_code
def yX6_init : MethodName := ⟨RX6, "<init>", "()V"⟩
abbrev cX6_add : ByteArray := prog_8_method_2_code
def yX6_add : MethodName := ⟨RX6, "add", "(LLinkQueues$Packet;)V"⟩
abbrev cX6_removeFirst : ByteArray := prog_8_method_3_code
def yX6_removeFirst : MethodName := ⟨RX6, "removeFirst", "()V"⟩
def RX7 : String := "LinkQueues$Turns"
def TX7 : u_T := fun k => match k with
  | 0 => ("LinkQueues$Turns", "first", "LLinkQueues$Flow;", false)
  | 1 => ("LinkQueues$Turns", "last", "LLinkQueues$Flow;", false)
  | _ => ("LinkQueues$Turns", "begun", "Z", false)
def tyX7 : Nat → FieldType := fun k => match k with
  | 0 => .object "LinkQueues$Flow"
  | 1 => .object "LinkQueues$Flow"
  | _ => .boolean
abbrev wsX70 : List Cond := u_ws RX7 TX7 3
theorem nmX7 : ∀ a, a < 3 → ∀ b, b < 3 → a ≠ b → (TX7 a).2.1 ≠ (TX7 b).2.1 := by decide +kernel
theorem tyX7_ok : ∀ k, k < 3 → parseFieldDescriptor (TX7 k).2.2.1 = some (tyX7 k) := by decide +kernel
abbrev cX7_init : ByteArray := prog_9_method_1_code
def yX7_init : MethodName := ⟨RX7, "<init>", "()V"⟩
abbrev cX7_join : ByteArray := prog_9_method_2_code
def yX7_join : MethodName := ⟨RX7, "join", "(LLinkQueues$Flow;)V"⟩
abbrev cX7_begin : ByteArray := prog_9_method_3_code
def yX7_begin : MethodName := ⟨RX7, "begin", "()V"⟩
abbrev cX7_passOn : ByteArray := prog_9_method_4_code
def yX7_passOn : MethodName := ⟨RX7, "passOn", "()V"⟩
abbrev cX7_leave : ByteArray := prog_9_method_5_code
def yX7_leave : MethodName := ⟨RX7, "leave", "()V"⟩
abbrev cX7_flowAfter : ByteArray := prog_9_method_6_code
def yX7_flowAfter : MethodName := ⟨RX7, "flowAfter", "(I)LLinkQueues$Flow;"⟩
abbrev cX7_takeFirst : ByteArray := prog_9_method_7_code
def yX7_takeFirst : MethodName := ⟨RX7, "takeFirst", "()LLinkQueues$Flow;"⟩
def RX8 : String := "LinkQueues"
def TX8 : u_T := fun k => match k with
  | 0 => ("LinkQueues", "flows", "[LLinkQueues$Flow;", true)
  | 1 => ("LinkQueues", "turns", "LLinkQueues$Turns;", true)
  | 2 => ("LinkQueues", "coins", "LLinkQueues$Coins;", true)
  | 3 => ("LinkQueues", "outlog", "LLinkQueues$Outlog;", true)
  | 4 => ("LinkQueues", "now", "I", false)
  | 5 => ("LinkQueues", "numbers", "I", false)
  | 6 => ("LinkQueues", "waitingPackets", "I", false)
  | 7 => ("LinkQueues", "waitingBytes", "I", false)
  | 8 => ("LinkQueues", "limit", "I", false)
  | 9 => ("LinkQueues", "rate", "D", false)
  | _ => ("LinkQueues", "freeFrom", "D", false)
def tyX8 : Nat → FieldType := fun k => match k with
  | 0 => .array (.object "LinkQueues$Flow")
  | 1 => .object "LinkQueues$Turns"
  | 2 => .object "LinkQueues$Coins"
  | 3 => .object "LinkQueues$Outlog"
  | 4 => .int
  | 5 => .int
  | 6 => .int
  | 7 => .int
  | 8 => .int
  | 9 => .double
  | _ => .double
abbrev wsX80 : List Cond := u_ws RX8 TX8 11
theorem nmX8 : ∀ a, a < 11 → ∀ b, b < 11 → a ≠ b → (TX8 a).2.1 ≠ (TX8 b).2.1 := by decide +kernel
theorem tyX8_ok : ∀ k, k < 11 → parseFieldDescriptor (TX8 k).2.2.1 = some (tyX8 k) := by decide +kernel
abbrev cX8_init : ByteArray := prog_1_method_1_code
def yX8_init : MethodName := ⟨RX8, "<init>", "()V"⟩
abbrev cX8_kind : ByteArray := prog_1_method_2_code
def yX8_kind : MethodName := ⟨RX8, "kind", "(III)V"⟩
abbrev cX8_mean : ByteArray := prog_1_method_3_code
def yX8_mean : MethodName := ⟨RX8, "mean", "(IDDDD)V"⟩
abbrev cX8_delay : ByteArray := prog_1_method_4_code
def yX8_delay : MethodName := ⟨RX8, "delay", "(IDD)V"⟩
abbrev cX8_link : ByteArray := prog_1_method_5_code
def yX8_link : MethodName := ⟨RX8, "link", "(DI)V"⟩
abbrev cX8_coin : ByteArray := prog_1_method_6_code
def yX8_coin : MethodName := ⟨RX8, "coin", "(D)I"⟩
abbrev cX8_come : ByteArray := prog_1_method_7_code
def yX8_come : MethodName := ⟨RX8, "come", "(IIZ)I"⟩
abbrev cX8_tick : ByteArray := prog_1_method_8_code
def yX8_tick : MethodName := ⟨RX8, "tick", "(I)I"⟩
abbrev cX8_count : ByteArray := prog_1_method_9_code
def yX8_count : MethodName := ⟨RX8, "count", "(II)I"⟩
abbrev cX8_average : ByteArray := prog_1_method_10_code
def yX8_average : MethodName := ⟨RX8, "average", "(I)D"⟩
abbrev cX8_next : ByteArray := prog_1_method_11_code
def yX8_next : MethodName := ⟨RX8, "next", "(I)D"⟩
abbrev cX8_free : ByteArray := prog_1_method_12_code
def yX8_free : MethodName := ⟨RX8, "free", "()D"⟩
abbrev cX8_sent : ByteArray := prog_1_method_13_code
def yX8_sent : MethodName := ⟨RX8, "sent", "(II)I"⟩
abbrev cX8_round : ByteArray := prog_1_method_14_code
def yX8_round : MethodName := ⟨RX8, "round", "(I)I"⟩
abbrev cX8_clock : ByteArray := prog_1_method_15_code
def yX8_clock : MethodName := ⟨RX8, "clock", "()I"⟩
abbrev cX8_flowAt : ByteArray := prog_1_method_16_code
def yX8_flowAt : MethodName := ⟨RX8, "flowAt", "(I)LLinkQueues$Flow;"⟩
abbrev cX8_oneTick : ByteArray := prog_1_method_17_code
def yX8_oneTick : MethodName := ⟨RX8, "oneTick", "()I"⟩
abbrev cX8_send : ByteArray := prog_1_method_18_code
def yX8_send : MethodName := ⟨RX8, "send", "(LLinkQueues$Packet;)V"⟩
abbrev cX8_choose : ByteArray := prog_1_method_19_code
def yX8_choose : MethodName := ⟨RX8, "choose", "()LLinkQueues$Packet;"⟩
abbrev cX8_lookAt : ByteArray := prog_1_method_20_code
def yX8_lookAt : MethodName := ⟨RX8, "lookAt", "(LLinkQueues$Flow;)LLinkQueues$Packet;"⟩
abbrev cX8_putIn : ByteArray := prog_1_method_21_code
def yX8_putIn : MethodName := ⟨RX8, "putIn", "(LLinkQueues$Packet;)V"⟩
abbrev cX8_takeOut : ByteArray := prog_1_method_22_code
def yX8_takeOut : MethodName := ⟨RX8, "takeOut", "(LLinkQueues$Packet;)V"⟩
def RX9 : String := "LinkQueuesModel"
def TX9 : u_T := fun k => match k with
  | 0 => ("LinkQueuesModel", "refusal", "I", false)
  | 1 => ("LinkQueuesModel", "now", "I", false)
  | 2 => ("LinkQueuesModel", "packets", "I", false)
  | 3 => ("LinkQueuesModel", "rate", "D", false)
  | 4 => ("LinkQueuesModel", "limit", "I", false)
  | 5 => ("LinkQueuesModel", "free", "D", false)
  | 6 => ("LinkQueuesModel", "kinds", "[I", true)
  | 7 => ("LinkQueuesModel", "quanta", "[I", true)
  | 8 => ("LinkQueuesModel", "low", "[D", true)
  | 9 => ("LinkQueuesModel", "high", "[D", true)
  | 10 => ("LinkQueuesModel", "top", "[D", true)
  | 11 => ("LinkQueuesModel", "weight", "[D", true)
  | 12 => ("LinkQueuesModel", "average", "[D", true)
  | 13 => ("LinkQueuesModel", "meanCount", "[I", true)
  | 14 => ("LinkQueuesModel", "emptySince", "[I", true)
  | 15 => ("LinkQueuesModel", "target", "[D", true)
  | 16 => ("LinkQueuesModel", "interval", "[D", true)
  | 17 => ("LinkQueuesModel", "above", "[D", true)
  | 18 => ("LinkQueuesModel", "hasAbove", "[Z", true)
  | 19 => ("LinkQueuesModel", "drops", "[Z", true)
  | 20 => ("LinkQueuesModel", "nextTime", "[D", true)
  | 21 => ("LinkQueuesModel", "delayCount", "[I", true)
  | 22 => ("LinkQueuesModel", "lastCount", "[I", true)
  | 23 => ("LinkQueuesModel", "sizes", "[I", true)
  | 24 => ("LinkQueuesModel", "numbers", "[I", true)
  | 25 => ("LinkQueuesModel", "bytesOf", "[I", true)
  | 26 => ("LinkQueuesModel", "times", "[I", true)
  | 27 => ("LinkQueuesModel", "markable", "[Z", true)
  | 28 => ("LinkQueuesModel", "marked", "[Z", true)
  | 29 => ("LinkQueuesModel", "counts", "[I", true)
  | 30 => ("LinkQueuesModel", "roundSize", "I", false)
  | 31 => ("LinkQueuesModel", "round", "[I", true)
  | 32 => ("LinkQueuesModel", "deficits", "[I", true)
  | 33 => ("LinkQueuesModel", "isTurn", "Z", false)
  | 34 => ("LinkQueuesModel", "coins", "I", false)
  | 35 => ("LinkQueuesModel", "coinOf", "[D", true)
  | 36 => ("LinkQueuesModel", "sentSize", "I", false)
  | 37 => ("LinkQueuesModel", "sentOf", "[I", true)
  | 38 => ("LinkQueuesModel", "outNumber", "I", false)
  | 39 => ("LinkQueuesModel", "outBytes", "I", false)
  | 40 => ("LinkQueuesModel", "outTime", "I", false)
  | 41 => ("LinkQueuesModel", "outMarkable", "Z", false)
  | _ => ("LinkQueuesModel", "outMarked", "Z", false)
def tyX9 : Nat → FieldType := fun k => match k with
  | 0 => .int
  | 1 => .int
  | 2 => .int
  | 3 => .double
  | 4 => .int
  | 5 => .double
  | 6 => .array .int
  | 7 => .array .int
  | 8 => .array .double
  | 9 => .array .double
  | 10 => .array .double
  | 11 => .array .double
  | 12 => .array .double
  | 13 => .array .int
  | 14 => .array .int
  | 15 => .array .double
  | 16 => .array .double
  | 17 => .array .double
  | 18 => .array .boolean
  | 19 => .array .boolean
  | 20 => .array .double
  | 21 => .array .int
  | 22 => .array .int
  | 23 => .array .int
  | 24 => .array .int
  | 25 => .array .int
  | 26 => .array .int
  | 27 => .array .boolean
  | 28 => .array .boolean
  | 29 => .array .int
  | 30 => .int
  | 31 => .array .int
  | 32 => .array .int
  | 33 => .boolean
  | 34 => .int
  | 35 => .array .double
  | 36 => .int
  | 37 => .array .int
  | 38 => .int
  | 39 => .int
  | 40 => .int
  | 41 => .boolean
  | _ => .boolean
abbrev wsX90 : List Cond := u_ws RX9 TX9 43
theorem nmX9 : ∀ a, a < 43 → ∀ b, b < 43 → a ≠ b → (TX9 a).2.1 ≠ (TX9 b).2.1 := by decide +kernel
theorem tyX9_ok : ∀ k, k < 43 → parseFieldDescriptor (TX9 k).2.2.1 = some (tyX9 k) := by decide +kernel
abbrev cX9_init : ByteArray := prog_11_method_1_code
def yX9_init : MethodName := ⟨RX9, "<init>", "()V"⟩
abbrev cX9_thrown : ByteArray := prog_11_method_2_code
def yX9_thrown : MethodName := ⟨RX9, "thrown", "()I"⟩
abbrev cX9_refused : ByteArray := prog_11_method_3_code
def yX9_refused : MethodName := ⟨RX9, "refused", "(I)Z"⟩
abbrev cX9_isIn : ByteArray := prog_11_method_4_code
def yX9_isIn : MethodName := ⟨RX9, "isIn", "(III)Z"⟩
abbrev cX9_kind : ByteArray := prog_11_method_5_code
def yX9_kind : MethodName := ⟨RX9, "kind", "(III)V"⟩
abbrev cX9_mean : ByteArray := prog_11_method_6_code
def yX9_mean : MethodName := ⟨RX9, "mean", "(IDDDD)V"⟩
abbrev cX9_delay : ByteArray := prog_11_method_7_code
def yX9_delay : MethodName := ⟨RX9, "delay", "(IDD)V"⟩
abbrev cX9_link : ByteArray := prog_11_method_8_code
def yX9_link : MethodName := ⟨RX9, "link", "(DI)V"⟩
abbrev cX9_coin : ByteArray := prog_11_method_9_code
def yX9_coin : MethodName := ⟨RX9, "coin", "(D)I"⟩
abbrev cX9_useCoin : ByteArray := prog_11_method_10_code
def yX9_useCoin : MethodName := ⟨RX9, "useCoin", "()D"⟩
abbrev cX9_waiting : ByteArray := prog_11_method_11_code
def yX9_waiting : MethodName := ⟨RX9, "waiting", "()I"⟩
abbrev cX9_bytesWaiting : ByteArray := prog_11_method_12_code
def yX9_bytesWaiting : MethodName := ⟨RX9, "bytesWaiting", "(I)I"⟩
abbrev cX9_look : ByteArray := prog_11_method_13_code
def yX9_look : MethodName := ⟨RX9, "look", "(I)I"⟩
abbrev cX9_come : ByteArray := prog_11_method_14_code
def yX9_come : MethodName := ⟨RX9, "come", "(IIZ)I"⟩
abbrev cX9_takeOut : ByteArray := prog_11_method_15_code
def yX9_takeOut : MethodName := ⟨RX9, "takeOut", "(I)V"⟩
abbrev cX9_root : ByteArray := prog_11_method_16_code
def yX9_root : MethodName := ⟨RX9, "root", "(I)D"⟩
abbrev cX9_isHit : ByteArray := prog_11_method_17_code
def yX9_isHit : MethodName := ⟨RX9, "isHit", "(I)Z"⟩
abbrev cX9_leaveRound : ByteArray := prog_11_method_18_code
def yX9_leaveRound : MethodName := ⟨RX9, "leaveRound", "()V"⟩
abbrev cX9_choose : ByteArray := prog_11_method_19_code
def yX9_choose : MethodName := ⟨RX9, "choose", "()I"⟩
abbrev cX9_send : ByteArray := prog_11_method_20_code
def yX9_send : MethodName := ⟨RX9, "send", "(I)V"⟩
abbrev cX9_tick : ByteArray := prog_11_method_21_code
def yX9_tick : MethodName := ⟨RX9, "tick", "(I)I"⟩
abbrev cX9_isRound : ByteArray := prog_11_method_22_code
def yX9_isRound : MethodName := ⟨RX9, "isRound", "(I)Z"⟩
abbrev cX9_count : ByteArray := prog_11_method_23_code
def yX9_count : MethodName := ⟨RX9, "count", "(II)I"⟩
abbrev cX9_average : ByteArray := prog_11_method_24_code
def yX9_average : MethodName := ⟨RX9, "average", "(I)D"⟩
abbrev cX9_next : ByteArray := prog_11_method_25_code
def yX9_next : MethodName := ⟨RX9, "next", "(I)D"⟩
abbrev cX9_free : ByteArray := prog_11_method_26_code
def yX9_free : MethodName := ⟨RX9, "free", "()D"⟩
abbrev cX9_sent : ByteArray := prog_11_method_27_code
def yX9_sent : MethodName := ⟨RX9, "sent", "(II)I"⟩
abbrev cX9_round : ByteArray := prog_11_method_28_code
def yX9_round : MethodName := ⟨RX9, "round", "(I)I"⟩
abbrev cX9_clock : ByteArray := prog_11_method_29_code
def yX9_clock : MethodName := ⟨RX9, "clock", "()I"⟩
def RJ9 : String := "java/lang/Math"
def TJ9 : u_T := fun k => match k with
  | _ => ("", "", "", false)
def tyJ9 : Nat → FieldType := fun k => match k with
  | _ => .int
abbrev wsJ90 : List Cond := u_ws RJ9 TJ9 0
theorem nmJ9 : ∀ a, a < 0 → ∀ b, b < 0 → a ≠ b → (TJ9 a).2.1 ≠ (TJ9 b).2.1 := by decide +kernel
theorem tyJ9_ok : ∀ k, k < 0 → parseFieldDescriptor (TJ9 k).2.2.1 = some (tyJ9 k) := by decide +kernel
abbrev cJ9_min_7cf53 : ByteArray := prog_15_method_69_code
def yJ9_min_7cf53 : MethodName := ⟨RJ9, "min", "(II)I"⟩
def RJ0 : String := "java/lang/String"
def TJ0 : u_T := fun k => match k with
  | _ => ("", "", "", false)
def tyJ0 : Nat → FieldType := fun k => match k with
  | _ => .int
abbrev wsJ00 : List Cond := u_ws RJ0 TJ0 0
theorem nmJ0 : ∀ a, a < 0 → ∀ b, b < 0 → a ≠ b → (TJ0 a).2.1 ≠ (TJ0 b).2.1 := by decide +kernel
theorem tyJ0_ok : ∀ k, k < 0 → parseFieldDescriptor (TJ0 k).2.2.1 = some (tyJ0 k) := by decide +kernel
def RL : String := "LinkQueuesLaw"
abbrev cL_kind : ByteArray := method_3_code
def yL_kind : MethodName := ⟨RL, "kind", "(LLinkQueues;III)I"⟩
abbrev cL_mean : ByteArray := method_4_code
def yL_mean : MethodName := ⟨RL, "mean", "(LLinkQueues;IDDDD)I"⟩
abbrev cL_delay : ByteArray := method_5_code
def yL_delay : MethodName := ⟨RL, "delay", "(LLinkQueues;IDD)I"⟩
abbrev cL_link : ByteArray := method_6_code
def yL_link : MethodName := ⟨RL, "link", "(LLinkQueues;DI)I"⟩
abbrev cL_coin : ByteArray := method_7_code
def yL_coin : MethodName := ⟨RL, "coin", "(LLinkQueues;D[J)I"⟩
abbrev cL_come : ByteArray := method_8_code
def yL_come : MethodName := ⟨RL, "come", "(LLinkQueues;IIZ[J)I"⟩
abbrev cL_tick : ByteArray := method_9_code
def yL_tick : MethodName := ⟨RL, "tick", "(LLinkQueues;I[J)I"⟩
abbrev cL_count : ByteArray := method_10_code
def yL_count : MethodName := ⟨RL, "count", "(LLinkQueues;II[J)I"⟩
abbrev cL_average : ByteArray := method_11_code
def yL_average : MethodName := ⟨RL, "average", "(LLinkQueues;I[D)I"⟩
abbrev cL_next : ByteArray := method_12_code
def yL_next : MethodName := ⟨RL, "next", "(LLinkQueues;I[D)I"⟩
abbrev cL_sent : ByteArray := method_13_code
def yL_sent : MethodName := ⟨RL, "sent", "(LLinkQueues;II[J)I"⟩
abbrev cL_law : ByteArray := code
def yL_law : MethodName := ⟨RL, "law", "([I)Z"⟩
def wsX0_init : List Cond := .code yX0_init cX0_init 1 none :: ([.methodLink RX0 1 objectInit, .instanceMethod objectInit, .code objectInit ⟨#[0xb1]⟩ 1 none, .arrayClass .double, .fieldLink RX0 9 "LinkQueues$Coins" "row" "[D", .fieldLink RX0 13 "LinkQueues$Coins" "told" "I", .fieldLink RX0 17 "LinkQueues$Coins" "used" "I"] ++ wsX00)
def wsX0_waiting : List Cond := .code yX0_waiting cX0_waiting 1 (some .int) :: ([.fieldLink RX0 13 "LinkQueues$Coins" "told" "I", .fieldLink RX0 17 "LinkQueues$Coins" "used" "I"] ++ wsX00)
def wsX0_isFull : List Cond := .code yX0_isFull cX0_isFull 1 (some .boolean) :: ([.methodLink RX0 20 yX0_waiting, .instanceMethod yX0_waiting, .selects RX0 yX0_waiting yX0_waiting, .initialized RX0, .code yX0_waiting cX0_waiting 1 (some .int), .fieldLink RX0 13 "LinkQueues$Coins" "told" "I", .fieldLink RX0 17 "LinkQueues$Coins" "used" "I"] ++ wsX00)
def wsX0_place : List Cond := .code yX0_place cX0_place 1 (some .int) :: ([])
def wsX0_add : List Cond := .code yX0_add cX0_add 3 none :: ([.fieldLink RX0 9 "LinkQueues$Coins" "row" "[D", .fieldLink RX0 13 "LinkQueues$Coins" "told" "I", .methodLink RX0 24 yX0_place, .static yX0_place, .initialized RX0, .code yX0_place cX0_place 1 (some .int)] ++ wsX00)
def wsX0_use : List Cond := .code yX0_use cX0_use 3 (some .double) :: ([.constantDouble RX0 28 (4602678819172646912), .fieldLink RX0 9 "LinkQueues$Coins" "row" "[D", .fieldLink RX0 17 "LinkQueues$Coins" "used" "I", .methodLink RX0 20 yX0_waiting, .instanceMethod yX0_waiting, .selects RX0 yX0_waiting yX0_waiting, .initialized RX0, .code yX0_waiting cX0_waiting 1 (some .int), .fieldLink RX0 13 "LinkQueues$Coins" "told" "I", .methodLink RX0 24 yX0_place, .static yX0_place, .code yX0_place cX0_place 1 (some .int)] ++ wsX00)
def wsX1_init : List Cond := .code yX1_init cX1_init 1 none :: ([.methodLink RX1 1 objectInit, .instanceMethod objectInit, .code objectInit ⟨#[0xb1]⟩ 1 none, .constantDouble RX1 7 (4617315517961601024), .fieldLink RX1 9 "LinkQueues$Delay" "target" "D", .constantDouble RX1 15 (4636737291354636288), .fieldLink RX1 17 "LinkQueues$Delay" "interval" "D", .fieldLink RX1 20 "LinkQueues$Delay" "isAbove" "Z", .fieldLink RX1 24 "LinkQueues$Delay" "above" "D", .fieldLink RX1 27 "LinkQueues$Delay" "drops" "Z", .fieldLink RX1 30 "LinkQueues$Delay" "next" "D", .fieldLink RX1 33 "LinkQueues$Delay" "count" "I", .fieldLink RX1 37 "LinkQueues$Delay" "last" "I"] ++ wsX10)
def wsX1_tell : List Cond := .code yX1_tell cX1_tell 5 none :: ([.fieldLink RX1 9 "LinkQueues$Delay" "target" "D", .fieldLink RX1 17 "LinkQueues$Delay" "interval" "D"] ++ wsX10)
def wsX1_restart : List Cond := .code yX1_restart cX1_restart 1 none :: ([.fieldLink RX1 20 "LinkQueues$Delay" "isAbove" "Z", .fieldLink RX1 27 "LinkQueues$Delay" "drops" "Z", .fieldLink RX1 33 "LinkQueues$Delay" "count" "I", .fieldLink RX1 37 "LinkQueues$Delay" "last" "I"] ++ wsX10)
def wsX1_isLate : List Cond := .code yX1_isLate cX1_isLate 4 (some .boolean) :: ([.fieldLink RX1 9 "LinkQueues$Delay" "target" "D", .fieldLink RX1 20 "LinkQueues$Delay" "isAbove" "Z", .fieldLink RX1 17 "LinkQueues$Delay" "interval" "D", .fieldLink RX1 24 "LinkQueues$Delay" "above" "D"] ++ wsX10)
def wsX1_countToBeginWith : List Cond := .code yX1_countToBeginWith cX1_countToBeginWith 3 (some .int) :: ([.fieldLink RX1 33 "LinkQueues$Delay" "count" "I", .fieldLink RX1 37 "LinkQueues$Delay" "last" "I", .fieldLink RX1 30 "LinkQueues$Delay" "next" "D", .constantDouble RX1 52 (4625196817309499392), .fieldLink RX1 17 "LinkQueues$Delay" "interval" "D"] ++ wsX10)
def wsX1_root : List Cond := .code yX1_root cX1_root 4 (some .double) :: ([.constantDouble RX1 54 (4611686018427387904)])
def wsX1_hits : List Cond := .code yX1_hits cX1_hits 4 (some .boolean) :: ([.fieldLink RX1 27 "LinkQueues$Delay" "drops" "Z", .fieldLink RX1 33 "LinkQueues$Delay" "count" "I", .fieldLink RX1 37 "LinkQueues$Delay" "last" "I", .fieldLink RX1 17 "LinkQueues$Delay" "interval" "D", .fieldLink RX1 30 "LinkQueues$Delay" "next" "D", .methodLink RX1 40 yX1_isLate, .instanceMethod yX1_isLate, .selects RX1 yX1_isLate yX1_isLate, .initialized RX1, .code yX1_isLate cX1_isLate 4 (some .boolean), .fieldLink RX1 9 "LinkQueues$Delay" "target" "D", .fieldLink RX1 20 "LinkQueues$Delay" "isAbove" "Z", .fieldLink RX1 24 "LinkQueues$Delay" "above" "D", .methodLink RX1 44 yX1_countToBeginWith, .instanceMethod yX1_countToBeginWith, .selects RX1 yX1_countToBeginWith yX1_countToBeginWith, .code yX1_countToBeginWith cX1_countToBeginWith 3 (some .int), .constantDouble RX1 52 (4625196817309499392), .methodLink RX1 48 yX1_root, .static yX1_root, .code yX1_root cX1_root 4 (some .double), .constantDouble RX1 54 (4611686018427387904)] ++ wsX10)
def wsX6_init : List Cond := .code yX6_init cX6_init 1 none :: ([.methodLink RX6 1 objectInit, .instanceMethod objectInit, .code objectInit ⟨#[0xb1]⟩ 1 none, .fieldLink RX6 7 "LinkQueues$Queue" "first" "LLinkQueues$Packet;", .fieldLink RX6 13 "LinkQueues$Queue" "last" "LLinkQueues$Packet;", .fieldLink RX6 16 "LinkQueues$Queue" "packets" "I", .fieldLink RX6 20 "LinkQueues$Queue" "bytes" "I"] ++ wsX60)
def wsX3_init : List Cond := .code yX3_init cX3_init 1 none :: ([.methodLink RX3 1 objectInit, .instanceMethod objectInit, .code objectInit ⟨#[0xb1]⟩ 1 none, .constantDouble RX3 7 (4617315517961601024), .fieldLink RX3 9 "LinkQueues$Mean" "low" "D", .constantDouble RX3 15 (4624633867356078080), .fieldLink RX3 17 "LinkQueues$Mean" "high" "D", .constantDouble RX3 20 (4591870180066957722), .fieldLink RX3 22 "LinkQueues$Mean" "top" "D", .constantDouble RX3 25 (4598175219545276416), .fieldLink RX3 27 "LinkQueues$Mean" "weight" "D", .fieldLink RX3 30 "LinkQueues$Mean" "average" "D", .fieldLink RX3 33 "LinkQueues$Mean" "count" "I", .fieldLink RX3 37 "LinkQueues$Mean" "emptySince" "I"] ++ wsX30)
def wsX2_init_r1 : List Cond := [Cond.methodLink RX2 3 objectInit, Cond.instanceMethod objectInit, Cond.code objectInit ⟨#[0xb1]⟩ 1 none, Cond.classLink RX2 9 RX6, Cond.instantiable RX6 4, Cond.initialized RX6, Cond.fieldLink RX2 12 "LinkQueues$Flow" "queue" "LLinkQueues$Queue;", Cond.classLink RX2 18 RX3, Cond.instantiable RX3 7, Cond.initialized RX3, Cond.fieldLink RX2 21 "LinkQueues$Flow" "mean" "LLinkQueues$Mean;", Cond.classLink RX2 25 RX1, Cond.instantiable RX1 8, Cond.initialized RX1, Cond.fieldLink RX2 28 "LinkQueues$Flow" "delay" "LLinkQueues$Delay;", Cond.fieldLink RX2 32 "LinkQueues$Flow" "kind" "I", Cond.fieldLink RX2 36 "LinkQueues$Flow" "quantum" "I", Cond.fieldLink RX2 39 "LinkQueues$Flow" "deficit" "I", Cond.fieldLink RX2 42 "LinkQueues$Flow" "behind" "LLinkQueues$Flow;", Cond.fieldLink RX2 46 "LinkQueues$Flow" "came" "I", Cond.fieldLink RX2 49 "LinkQueues$Flow" "sent" "I", Cond.fieldLink RX2 52 "LinkQueues$Flow" "sentBytes" "I", Cond.fieldLink RX2 55 "LinkQueues$Flow" "lostFull" "I", Cond.fieldLink RX2 58 "LinkQueues$Flow" "lostMean" "I"]
def wsX2_init_r2 : List Cond := [Cond.fieldLink RX2 61 "LinkQueues$Flow" "lostDelay" "I", Cond.fieldLink RX2 64 "LinkQueues$Flow" "marked" "I", Cond.fieldLink RX2 67 "LinkQueues$Flow" "place" "I", Cond.instanceMethod yX6_init, Cond.code yX6_init cX6_init 1 none, Cond.methodLink RX6 1 objectInit, Cond.fieldLink RX6 7 "LinkQueues$Queue" "first" "LLinkQueues$Packet;", Cond.fieldLink RX6 13 "LinkQueues$Queue" "last" "LLinkQueues$Packet;", Cond.fieldLink RX6 16 "LinkQueues$Queue" "packets" "I", Cond.fieldLink RX6 20 "LinkQueues$Queue" "bytes" "I", Cond.instanceMethod yX3_init, Cond.code yX3_init cX3_init 1 none, Cond.methodLink RX3 1 objectInit, Cond.constantDouble RX3 7 (4617315517961601024), Cond.fieldLink RX3 9 "LinkQueues$Mean" "low" "D", Cond.constantDouble RX3 15 (4624633867356078080), Cond.fieldLink RX3 17 "LinkQueues$Mean" "high" "D", Cond.constantDouble RX3 20 (4591870180066957722), Cond.fieldLink RX3 22 "LinkQueues$Mean" "top" "D", Cond.constantDouble RX3 25 (4598175219545276416), Cond.fieldLink RX3 27 "LinkQueues$Mean" "weight" "D", Cond.fieldLink RX3 30 "LinkQueues$Mean" "average" "D", Cond.fieldLink RX3 33 "LinkQueues$Mean" "count" "I", Cond.fieldLink RX3 37 "LinkQueues$Mean" "emptySince" "I"]
def wsX2_init_r3 : List Cond := [Cond.instanceMethod yX1_init, Cond.code yX1_init cX1_init 1 none, Cond.methodLink RX1 1 objectInit, Cond.constantDouble RX1 7 (4617315517961601024), Cond.fieldLink RX1 9 "LinkQueues$Delay" "target" "D", Cond.constantDouble RX1 15 (4636737291354636288), Cond.fieldLink RX1 17 "LinkQueues$Delay" "interval" "D", Cond.fieldLink RX1 20 "LinkQueues$Delay" "isAbove" "Z", Cond.fieldLink RX1 24 "LinkQueues$Delay" "above" "D", Cond.fieldLink RX1 27 "LinkQueues$Delay" "drops" "Z", Cond.fieldLink RX1 30 "LinkQueues$Delay" "next" "D", Cond.fieldLink RX1 33 "LinkQueues$Delay" "count" "I", Cond.fieldLink RX1 37 "LinkQueues$Delay" "last" "I"]
def wsX2_init : List Cond := .code yX2_init cX2_init 2 none :: ((wsX2_init_r1 ++ (wsX2_init_r2 ++ wsX2_init_r3)) ++ wsX60 ++ wsX20 ++ wsX30 ++ wsX10)
def wsX3_reckon : List Cond := .code yX3_reckon cX3_reckon 5 none :: ([.fieldLink RX3 30 "LinkQueues$Mean" "average" "D", .fieldLink RX3 27 "LinkQueues$Mean" "weight" "D", .fieldLink RX3 37 "LinkQueues$Mean" "emptySince" "I", .methodLink RX3 40 Lib.Math.min.name, .static Lib.Math.min.name, .initialized "java/lang/Math", .code Lib.Math.min.name Lib.Math.min.code 2 (some .int)] ++ wsX30)
def wsX3_refuses : List Cond := .code yX3_refuses cX3_refuses 1 (some .boolean) :: ([.fieldLink RX3 30 "LinkQueues$Mean" "average" "D", .fieldLink RX3 17 "LinkQueues$Mean" "high" "D", .fieldLink RX3 33 "LinkQueues$Mean" "count" "I"] ++ wsX30)
def wsX3_hits : List Cond := .code yX3_hits cX3_hits 7 (some .boolean) :: ([.fieldLink RX3 30 "LinkQueues$Mean" "average" "D", .fieldLink RX3 9 "LinkQueues$Mean" "low" "D", .fieldLink RX3 33 "LinkQueues$Mean" "count" "I", .fieldLink RX3 22 "LinkQueues$Mean" "top" "D", .fieldLink RX3 17 "LinkQueues$Mean" "high" "D", .methodLink RX3 46 yX0_use, .instanceMethod yX0_use, .selects RX0 yX0_use yX0_use, .initialized RX0, .code yX0_use cX0_use 3 (some .double), .constantDouble RX0 28 (4602678819172646912), .fieldLink RX0 9 "LinkQueues$Coins" "row" "[D", .fieldLink RX0 17 "LinkQueues$Coins" "used" "I", .methodLink RX0 20 yX0_waiting, .instanceMethod yX0_waiting, .selects RX0 yX0_waiting yX0_waiting, .code yX0_waiting cX0_waiting 1 (some .int), .fieldLink RX0 13 "LinkQueues$Coins" "told" "I", .methodLink RX0 24 yX0_place, .static yX0_place, .code yX0_place cX0_place 1 (some .int)] ++ wsX30 ++ wsX00)
def wsX2_takesMark : List Cond := .code yX2_takesMark cX2_takesMark 2 (some .boolean) :: ([.fieldLink RX2 97 "LinkQueues$Packet" "markable" "Z", .fieldLink RX2 101 "LinkQueues$Packet" "marked" "Z", .fieldLink RX2 64 "LinkQueues$Flow" "marked" "I"] ++ wsX50 ++ wsX20)
def wsX2_letsIn_r1 : List Cond := [Cond.fieldLink RX2 32 "LinkQueues$Flow" "kind" "I", Cond.fieldLink RX2 21 "LinkQueues$Flow" "mean" "LLinkQueues$Mean;", Cond.fieldLink RX2 12 "LinkQueues$Flow" "queue" "LLinkQueues$Queue;", Cond.fieldLink RX2 70 "LinkQueues$Queue" "packets" "I", Cond.methodLink RX2 73 yX3_reckon, Cond.instanceMethod yX3_reckon, Cond.selects RX3 yX3_reckon yX3_reckon, Cond.initialized RX3, Cond.code yX3_reckon cX3_reckon 5 none, Cond.fieldLink RX3 30 "LinkQueues$Mean" "average" "D", Cond.fieldLink RX3 27 "LinkQueues$Mean" "weight" "D", Cond.fieldLink RX3 37 "LinkQueues$Mean" "emptySince" "I", Cond.methodLink RX3 40 Lib.Math.min.name, Cond.static Lib.Math.min.name, Cond.initialized "java/lang/Math", Cond.code Lib.Math.min.name Lib.Math.min.code 2 (some .int), Cond.methodLink RX2 77 yX3_refuses, Cond.instanceMethod yX3_refuses, Cond.selects RX3 yX3_refuses yX3_refuses, Cond.code yX3_refuses cX3_refuses 1 (some .boolean), Cond.fieldLink RX3 17 "LinkQueues$Mean" "high" "D", Cond.fieldLink RX3 33 "LinkQueues$Mean" "count" "I", Cond.methodLink RX2 81 yX3_hits, Cond.instanceMethod yX3_hits]
def wsX2_letsIn_r2 : List Cond := [Cond.selects RX3 yX3_hits yX3_hits, Cond.code yX3_hits cX3_hits 7 (some .boolean), Cond.fieldLink RX3 9 "LinkQueues$Mean" "low" "D", Cond.fieldLink RX3 22 "LinkQueues$Mean" "top" "D", Cond.methodLink RX3 46 yX0_use, Cond.instanceMethod yX0_use, Cond.selects RX0 yX0_use yX0_use, Cond.initialized RX0, Cond.code yX0_use cX0_use 3 (some .double), Cond.constantDouble RX0 28 (4602678819172646912), Cond.fieldLink RX0 9 "LinkQueues$Coins" "row" "[D", Cond.fieldLink RX0 17 "LinkQueues$Coins" "used" "I", Cond.methodLink RX0 20 yX0_waiting, Cond.instanceMethod yX0_waiting, Cond.selects RX0 yX0_waiting yX0_waiting, Cond.code yX0_waiting cX0_waiting 1 (some .int), Cond.fieldLink RX0 13 "LinkQueues$Coins" "told" "I", Cond.methodLink RX0 24 yX0_place, Cond.static yX0_place, Cond.code yX0_place cX0_place 1 (some .int), Cond.methodLink RX2 85 yX2_takesMark, Cond.instanceMethod yX2_takesMark, Cond.selects RX2 yX2_takesMark yX2_takesMark, Cond.initialized RX2]
def wsX2_letsIn_r3 : List Cond := [Cond.code yX2_takesMark cX2_takesMark 2 (some .boolean), Cond.fieldLink RX2 97 "LinkQueues$Packet" "markable" "Z", Cond.fieldLink RX2 101 "LinkQueues$Packet" "marked" "Z", Cond.fieldLink RX2 64 "LinkQueues$Flow" "marked" "I"]
def wsX2_letsIn : List Cond := .code yX2_letsIn cX2_letsIn 4 (some .boolean) :: ((wsX2_letsIn_r1 ++ (wsX2_letsIn_r2 ++ wsX2_letsIn_r3)) ++ wsX20 ++ wsX60 ++ wsX30 ++ wsX00 ++ wsX50)
def wsX2_letsOut_r1 : List Cond := [Cond.fieldLink RX2 32 "LinkQueues$Flow" "kind" "I", Cond.fieldLink RX2 28 "LinkQueues$Flow" "delay" "LLinkQueues$Delay;", Cond.fieldLink RX2 89 "LinkQueues$Packet" "wait" "I", Cond.fieldLink RX2 12 "LinkQueues$Flow" "queue" "LLinkQueues$Queue;", Cond.fieldLink RX2 70 "LinkQueues$Queue" "packets" "I", Cond.methodLink RX2 94 yX1_hits, Cond.instanceMethod yX1_hits, Cond.selects RX1 yX1_hits yX1_hits, Cond.initialized RX1, Cond.code yX1_hits cX1_hits 4 (some .boolean), Cond.fieldLink RX1 27 "LinkQueues$Delay" "drops" "Z", Cond.fieldLink RX1 33 "LinkQueues$Delay" "count" "I", Cond.fieldLink RX1 37 "LinkQueues$Delay" "last" "I", Cond.fieldLink RX1 17 "LinkQueues$Delay" "interval" "D", Cond.fieldLink RX1 30 "LinkQueues$Delay" "next" "D", Cond.methodLink RX1 40 yX1_isLate, Cond.instanceMethod yX1_isLate, Cond.selects RX1 yX1_isLate yX1_isLate, Cond.code yX1_isLate cX1_isLate 4 (some .boolean), Cond.fieldLink RX1 9 "LinkQueues$Delay" "target" "D", Cond.fieldLink RX1 20 "LinkQueues$Delay" "isAbove" "Z", Cond.fieldLink RX1 24 "LinkQueues$Delay" "above" "D", Cond.methodLink RX1 44 yX1_countToBeginWith, Cond.instanceMethod yX1_countToBeginWith]
def wsX2_letsOut_r2 : List Cond := [Cond.selects RX1 yX1_countToBeginWith yX1_countToBeginWith, Cond.code yX1_countToBeginWith cX1_countToBeginWith 3 (some .int), Cond.constantDouble RX1 52 (4625196817309499392), Cond.methodLink RX1 48 yX1_root, Cond.static yX1_root, Cond.code yX1_root cX1_root 4 (some .double), Cond.constantDouble RX1 54 (4611686018427387904), Cond.methodLink RX2 85 yX2_takesMark, Cond.instanceMethod yX2_takesMark, Cond.selects RX2 yX2_takesMark yX2_takesMark, Cond.initialized RX2, Cond.code yX2_takesMark cX2_takesMark 2 (some .boolean), Cond.fieldLink RX2 97 "LinkQueues$Packet" "markable" "Z", Cond.fieldLink RX2 101 "LinkQueues$Packet" "marked" "Z", Cond.fieldLink RX2 64 "LinkQueues$Flow" "marked" "I"]
def wsX2_letsOut : List Cond := .code yX2_letsOut cX2_letsOut 3 (some .boolean) :: ((wsX2_letsOut_r1 ++ wsX2_letsOut_r2) ++ wsX20 ++ wsX50 ++ wsX60 ++ wsX10)
def wsX3_tell : List Cond := .code yX3_tell cX3_tell 9 none :: ([.fieldLink RX3 9 "LinkQueues$Mean" "low" "D", .fieldLink RX3 17 "LinkQueues$Mean" "high" "D", .fieldLink RX3 22 "LinkQueues$Mean" "top" "D", .fieldLink RX3 27 "LinkQueues$Mean" "weight" "D"] ++ wsX30)
def wsX3_restart : List Cond := .code yX3_restart cX3_restart 2 none :: ([.fieldLink RX3 30 "LinkQueues$Mean" "average" "D", .fieldLink RX3 33 "LinkQueues$Mean" "count" "I", .fieldLink RX3 37 "LinkQueues$Mean" "emptySince" "I"] ++ wsX30)
def wsX4_init : List Cond := .code yX4_init cX4_init 1 none :: ([.methodLink RX4 1 objectInit, .instanceMethod objectInit, .code objectInit ⟨#[0xb1]⟩ 1 none, .classLink RX4 9 RX5, .fieldLink RX4 11 "LinkQueues$Outlog" "row" "[LLinkQueues$Packet;", .fieldLink RX4 15 "LinkQueues$Outlog" "nth" "I"] ++ wsX40)
def wsX4_place : List Cond := .code yX4_place cX4_place 1 (some .int) :: ([])
def wsX4_add : List Cond := .code yX4_add cX4_add 2 none :: ([.fieldLink RX4 15 "LinkQueues$Outlog" "nth" "I", .fieldLink RX4 11 "LinkQueues$Outlog" "row" "[LLinkQueues$Packet;", .methodLink RX4 19 yX4_place, .static yX4_place, .initialized RX4, .code yX4_place cX4_place 1 (some .int)] ++ wsX40)
def wsX4_lastBut : List Cond := .code yX4_lastBut cX4_lastBut 2 (some (.object "LinkQueues$Packet")) :: ([.fieldLink RX4 11 "LinkQueues$Outlog" "row" "[LLinkQueues$Packet;", .fieldLink RX4 15 "LinkQueues$Outlog" "nth" "I", .methodLink RX4 19 yX4_place, .static yX4_place, .initialized RX4, .code yX4_place cX4_place 1 (some .int)] ++ wsX40)
def wsX5_init : List Cond := .code yX5_init cX5_init 6 none :: ([.methodLink RX5 1 objectInit, .instanceMethod objectInit, .code objectInit ⟨#[0xb1]⟩ 1 none, .fieldLink RX5 7 "LinkQueues$Packet" "marked" "Z", .fieldLink RX5 13 "LinkQueues$Packet" "wait" "I", .fieldLink RX5 17 "LinkQueues$Packet" "behind" "LLinkQueues$Packet;", .fieldLink RX5 21 "LinkQueues$Packet" "number" "I", .fieldLink RX5 24 "LinkQueues$Packet" "owner" "LLinkQueues$Flow;", .fieldLink RX5 28 "LinkQueues$Packet" "bytes" "I", .fieldLink RX5 31 "LinkQueues$Packet" "cameAt" "I", .fieldLink RX5 34 "LinkQueues$Packet" "markable" "Z"] ++ wsX50)
def wsX6_add : List Cond := .code yX6_add cX6_add 2 none :: ([.fieldLink RX6 13 "LinkQueues$Queue" "last" "LLinkQueues$Packet;", .fieldLink RX6 7 "LinkQueues$Queue" "first" "LLinkQueues$Packet;", .fieldLink RX6 23 "LinkQueues$Packet" "behind" "LLinkQueues$Packet;", .fieldLink RX6 16 "LinkQueues$Queue" "packets" "I", .fieldLink RX6 20 "LinkQueues$Queue" "bytes" "I", .fieldLink RX6 28 "LinkQueues$Packet" "bytes" "I"] ++ wsX60 ++ wsX50)
def wsX6_removeFirst : List Cond := .code yX6_removeFirst cX6_removeFirst 2 none :: ([.fieldLink RX6 7 "LinkQueues$Queue" "first" "LLinkQueues$Packet;", .fieldLink RX6 23 "LinkQueues$Packet" "behind" "LLinkQueues$Packet;", .fieldLink RX6 13 "LinkQueues$Queue" "last" "LLinkQueues$Packet;", .fieldLink RX6 16 "LinkQueues$Queue" "packets" "I", .fieldLink RX6 20 "LinkQueues$Queue" "bytes" "I", .fieldLink RX6 28 "LinkQueues$Packet" "bytes" "I"] ++ wsX60 ++ wsX50)
def wsX7_init : List Cond := .code yX7_init cX7_init 1 none :: ([.methodLink RX7 1 objectInit, .instanceMethod objectInit, .code objectInit ⟨#[0xb1]⟩ 1 none, .fieldLink RX7 7 "LinkQueues$Turns" "first" "LLinkQueues$Flow;", .fieldLink RX7 13 "LinkQueues$Turns" "last" "LLinkQueues$Flow;", .fieldLink RX7 16 "LinkQueues$Turns" "begun" "Z"] ++ wsX70)
def wsX7_join : List Cond := .code yX7_join cX7_join 2 none :: ([.fieldLink RX7 13 "LinkQueues$Turns" "last" "LLinkQueues$Flow;", .fieldLink RX7 7 "LinkQueues$Turns" "first" "LLinkQueues$Flow;", .fieldLink RX7 20 "LinkQueues$Flow" "behind" "LLinkQueues$Flow;"] ++ wsX70 ++ wsX20)
def wsX7_begin : List Cond := .code yX7_begin cX7_begin 1 none :: ([.fieldLink RX7 7 "LinkQueues$Turns" "first" "LLinkQueues$Flow;", .fieldLink RX7 16 "LinkQueues$Turns" "begun" "Z", .fieldLink RX7 25 "LinkQueues$Flow" "deficit" "I", .fieldLink RX7 29 "LinkQueues$Flow" "quantum" "I"] ++ wsX70 ++ wsX20)
def wsX7_takeFirst : List Cond := .code yX7_takeFirst cX7_takeFirst 2 (some (.object "LinkQueues$Flow")) :: ([.fieldLink RX7 7 "LinkQueues$Turns" "first" "LLinkQueues$Flow;", .fieldLink RX7 20 "LinkQueues$Flow" "behind" "LLinkQueues$Flow;", .fieldLink RX7 13 "LinkQueues$Turns" "last" "LLinkQueues$Flow;", .fieldLink RX7 16 "LinkQueues$Turns" "begun" "Z"] ++ wsX70 ++ wsX20)
def wsX7_passOn : List Cond := .code yX7_passOn cX7_passOn 2 none :: ([.methodLink RX7 32 yX7_takeFirst, .instanceMethod yX7_takeFirst, .selects RX7 yX7_takeFirst yX7_takeFirst, .initialized RX7, .code yX7_takeFirst cX7_takeFirst 2 (some (.object "LinkQueues$Flow")), .fieldLink RX7 7 "LinkQueues$Turns" "first" "LLinkQueues$Flow;", .fieldLink RX7 20 "LinkQueues$Flow" "behind" "LLinkQueues$Flow;", .fieldLink RX7 13 "LinkQueues$Turns" "last" "LLinkQueues$Flow;", .fieldLink RX7 16 "LinkQueues$Turns" "begun" "Z", .methodLink RX7 36 yX7_join, .instanceMethod yX7_join, .selects RX7 yX7_join yX7_join, .code yX7_join cX7_join 2 none] ++ wsX70 ++ wsX20)
def wsX7_leave : List Cond := .code yX7_leave cX7_leave 2 none :: ([.fieldLink RX7 25 "LinkQueues$Flow" "deficit" "I", .methodLink RX7 32 yX7_takeFirst, .instanceMethod yX7_takeFirst, .selects RX7 yX7_takeFirst yX7_takeFirst, .initialized RX7, .code yX7_takeFirst cX7_takeFirst 2 (some (.object "LinkQueues$Flow")), .fieldLink RX7 7 "LinkQueues$Turns" "first" "LLinkQueues$Flow;", .fieldLink RX7 20 "LinkQueues$Flow" "behind" "LLinkQueues$Flow;", .fieldLink RX7 13 "LinkQueues$Turns" "last" "LLinkQueues$Flow;", .fieldLink RX7 16 "LinkQueues$Turns" "begun" "Z"] ++ wsX20 ++ wsX70)
def wsX7_flowAfter : List Cond := .code yX7_flowAfter cX7_flowAfter 4 (some (.object "LinkQueues$Flow")) :: ([.fieldLink RX7 7 "LinkQueues$Turns" "first" "LLinkQueues$Flow;", .fieldLink RX7 20 "LinkQueues$Flow" "behind" "LLinkQueues$Flow;"] ++ wsX70 ++ wsX20)
def wsX8_init_r1 : List Cond := [Cond.methodLink RX8 1 objectInit, Cond.instanceMethod objectInit, Cond.code objectInit ⟨#[0xb1]⟩ 1 none, Cond.classLink RX8 9 RX2, Cond.fieldLink RX8 11 "LinkQueues" "flows" "[LLinkQueues$Flow;", Cond.classLink RX8 15 RX7, Cond.instantiable RX7 3, Cond.initialized RX7, Cond.fieldLink RX8 18 "LinkQueues" "turns" "LLinkQueues$Turns;", Cond.classLink RX8 22 RX0, Cond.instantiable RX0 3, Cond.initialized RX0, Cond.fieldLink RX8 25 "LinkQueues" "coins" "LLinkQueues$Coins;", Cond.classLink RX8 29 RX4, Cond.instantiable RX4 2, Cond.initialized RX4, Cond.fieldLink RX8 32 "LinkQueues" "outlog" "LLinkQueues$Outlog;", Cond.fieldLink RX8 36 "LinkQueues" "now" "I", Cond.fieldLink RX8 40 "LinkQueues" "numbers" "I", Cond.fieldLink RX8 43 "LinkQueues" "waitingPackets" "I", Cond.fieldLink RX8 46 "LinkQueues" "waitingBytes" "I", Cond.constant RX8 49 (1000000), Cond.fieldLink RX8 50 "LinkQueues" "limit" "I", Cond.constantDouble RX8 53 (4636737291354636288)]
def wsX8_init_r2 : List Cond := [Cond.fieldLink RX8 55 "LinkQueues" "rate" "D", Cond.fieldLink RX8 59 "LinkQueues" "freeFrom" "D", Cond.instantiable RX2 15, Cond.initialized RX2, Cond.instanceMethod yX7_init, Cond.code yX7_init cX7_init 1 none, Cond.methodLink RX7 1 objectInit, Cond.fieldLink RX7 7 "LinkQueues$Turns" "first" "LLinkQueues$Flow;", Cond.fieldLink RX7 13 "LinkQueues$Turns" "last" "LLinkQueues$Flow;", Cond.fieldLink RX7 16 "LinkQueues$Turns" "begun" "Z", Cond.instanceMethod yX0_init, Cond.code yX0_init cX0_init 1 none, Cond.methodLink RX0 1 objectInit, Cond.arrayClass .double, Cond.fieldLink RX0 9 "LinkQueues$Coins" "row" "[D", Cond.fieldLink RX0 13 "LinkQueues$Coins" "told" "I", Cond.fieldLink RX0 17 "LinkQueues$Coins" "used" "I", Cond.instanceMethod yX4_init, Cond.code yX4_init cX4_init 1 none, Cond.methodLink RX4 1 objectInit, Cond.classLink RX4 9 RX5, Cond.fieldLink RX4 11 "LinkQueues$Outlog" "row" "[LLinkQueues$Packet;", Cond.fieldLink RX4 15 "LinkQueues$Outlog" "nth" "I", Cond.methodLink RX8 62 yX2_init]
def wsX8_init_r3 : List Cond := [Cond.instanceMethod yX2_init, Cond.code yX2_init cX2_init 2 none, Cond.methodLink RX2 3 objectInit, Cond.classLink RX2 9 RX6, Cond.instantiable RX6 4, Cond.initialized RX6, Cond.fieldLink RX2 12 "LinkQueues$Flow" "queue" "LLinkQueues$Queue;", Cond.classLink RX2 18 RX3, Cond.instantiable RX3 7, Cond.initialized RX3, Cond.fieldLink RX2 21 "LinkQueues$Flow" "mean" "LLinkQueues$Mean;", Cond.classLink RX2 25 RX1, Cond.instantiable RX1 8, Cond.initialized RX1, Cond.fieldLink RX2 28 "LinkQueues$Flow" "delay" "LLinkQueues$Delay;", Cond.fieldLink RX2 32 "LinkQueues$Flow" "kind" "I", Cond.fieldLink RX2 36 "LinkQueues$Flow" "quantum" "I", Cond.fieldLink RX2 39 "LinkQueues$Flow" "deficit" "I", Cond.fieldLink RX2 42 "LinkQueues$Flow" "behind" "LLinkQueues$Flow;", Cond.fieldLink RX2 46 "LinkQueues$Flow" "came" "I", Cond.fieldLink RX2 49 "LinkQueues$Flow" "sent" "I", Cond.fieldLink RX2 52 "LinkQueues$Flow" "sentBytes" "I", Cond.fieldLink RX2 55 "LinkQueues$Flow" "lostFull" "I", Cond.fieldLink RX2 58 "LinkQueues$Flow" "lostMean" "I"]
def wsX8_init_r4 : List Cond := [Cond.fieldLink RX2 61 "LinkQueues$Flow" "lostDelay" "I", Cond.fieldLink RX2 64 "LinkQueues$Flow" "marked" "I", Cond.fieldLink RX2 67 "LinkQueues$Flow" "place" "I", Cond.instanceMethod yX6_init, Cond.code yX6_init cX6_init 1 none, Cond.methodLink RX6 1 objectInit, Cond.fieldLink RX6 7 "LinkQueues$Queue" "first" "LLinkQueues$Packet;", Cond.fieldLink RX6 13 "LinkQueues$Queue" "last" "LLinkQueues$Packet;", Cond.fieldLink RX6 16 "LinkQueues$Queue" "packets" "I", Cond.fieldLink RX6 20 "LinkQueues$Queue" "bytes" "I", Cond.instanceMethod yX3_init, Cond.code yX3_init cX3_init 1 none, Cond.methodLink RX3 1 objectInit, Cond.constantDouble RX3 7 (4617315517961601024), Cond.fieldLink RX3 9 "LinkQueues$Mean" "low" "D", Cond.constantDouble RX3 15 (4624633867356078080), Cond.fieldLink RX3 17 "LinkQueues$Mean" "high" "D", Cond.constantDouble RX3 20 (4591870180066957722), Cond.fieldLink RX3 22 "LinkQueues$Mean" "top" "D", Cond.constantDouble RX3 25 (4598175219545276416), Cond.fieldLink RX3 27 "LinkQueues$Mean" "weight" "D", Cond.fieldLink RX3 30 "LinkQueues$Mean" "average" "D", Cond.fieldLink RX3 33 "LinkQueues$Mean" "count" "I", Cond.fieldLink RX3 37 "LinkQueues$Mean" "emptySince" "I"]
def wsX8_init_r5 : List Cond := [Cond.instanceMethod yX1_init, Cond.code yX1_init cX1_init 1 none, Cond.methodLink RX1 1 objectInit, Cond.constantDouble RX1 7 (4617315517961601024), Cond.fieldLink RX1 9 "LinkQueues$Delay" "target" "D", Cond.constantDouble RX1 15 (4636737291354636288), Cond.fieldLink RX1 17 "LinkQueues$Delay" "interval" "D", Cond.fieldLink RX1 20 "LinkQueues$Delay" "isAbove" "Z", Cond.fieldLink RX1 24 "LinkQueues$Delay" "above" "D", Cond.fieldLink RX1 27 "LinkQueues$Delay" "drops" "Z", Cond.fieldLink RX1 30 "LinkQueues$Delay" "next" "D", Cond.fieldLink RX1 33 "LinkQueues$Delay" "count" "I", Cond.fieldLink RX1 37 "LinkQueues$Delay" "last" "I"]
def wsX8_init : List Cond := .code yX8_init cX8_init 2 none :: ((wsX8_init_r1 ++ (wsX8_init_r2 ++ (wsX8_init_r3 ++ (wsX8_init_r4 ++ wsX8_init_r5)))) ++ wsX80 ++ wsX70 ++ wsX00 ++ wsX40 ++ wsX20 ++ wsX60 ++ wsX30 ++ wsX10)
def wsX8_flowAt : List Cond := .code yX8_flowAt cX8_flowAt 3 (some (.object "LinkQueues$Flow")) :: ([.classLink RX8 69 "java/lang/IllegalArgumentException", .initialized "java/lang/IllegalArgumentException", .fieldLink RX8 11 "LinkQueues" "flows" "[LLinkQueues$Flow;"] ++ wsX80 ++ (vx_atS RX8 73 "java/lang/IllegalArgumentException" ["java/lang/RuntimeException", "java/lang/Exception"]).filter goodWord)
def wsX8_kind_r1 : List Cond := [Cond.classLink RX8 69 "java/lang/IllegalArgumentException", Cond.initialized "java/lang/IllegalArgumentException", Cond.fieldLink RX8 78 "LinkQueues$Flow" "kind" "I", Cond.fieldLink RX8 81 "LinkQueues$Flow" "quantum" "I", Cond.fieldLink RX8 84 "LinkQueues$Flow" "mean" "LLinkQueues$Mean;", Cond.fieldLink RX8 36 "LinkQueues" "now" "I", Cond.fieldLink RX8 93 "LinkQueues$Flow" "delay" "LLinkQueues$Delay;", Cond.methodLink RX8 65 yX8_flowAt, Cond.instanceMethod yX8_flowAt, Cond.selects RX8 yX8_flowAt yX8_flowAt, Cond.initialized RX8, Cond.code yX8_flowAt cX8_flowAt 3 (some (.object "LinkQueues$Flow")), Cond.fieldLink RX8 11 "LinkQueues" "flows" "[LLinkQueues$Flow;", Cond.methodLink RX8 88 yX3_restart, Cond.instanceMethod yX3_restart, Cond.selects RX3 yX3_restart yX3_restart, Cond.initialized RX3, Cond.code yX3_restart cX3_restart 2 none, Cond.fieldLink RX3 30 "LinkQueues$Mean" "average" "D", Cond.fieldLink RX3 33 "LinkQueues$Mean" "count" "I", Cond.fieldLink RX3 37 "LinkQueues$Mean" "emptySince" "I", Cond.methodLink RX8 97 yX1_restart, Cond.instanceMethod yX1_restart, Cond.selects RX1 yX1_restart yX1_restart]
def wsX8_kind_r2 : List Cond := [Cond.initialized RX1, Cond.code yX1_restart cX1_restart 1 none, Cond.fieldLink RX1 20 "LinkQueues$Delay" "isAbove" "Z", Cond.fieldLink RX1 27 "LinkQueues$Delay" "drops" "Z", Cond.fieldLink RX1 33 "LinkQueues$Delay" "count" "I", Cond.fieldLink RX1 37 "LinkQueues$Delay" "last" "I"]
def wsX8_kind : List Cond := .code yX8_kind cX8_kind 5 none :: ((wsX8_kind_r1 ++ wsX8_kind_r2) ++ wsX20 ++ wsX80 ++ wsX30 ++ wsX10 ++ (vx_atS RX8 73 "java/lang/IllegalArgumentException" ["java/lang/RuntimeException", "java/lang/Exception"]).filter goodWord)
def wsX8_mean : List Cond := .code yX8_mean cX8_mean 11 none :: ([.classLink RX8 69 "java/lang/IllegalArgumentException", .initialized "java/lang/IllegalArgumentException", .constantDouble RX8 101 (4652007308841189376), .fieldLink RX8 84 "LinkQueues$Flow" "mean" "LLinkQueues$Mean;", .methodLink RX8 65 yX8_flowAt, .instanceMethod yX8_flowAt, .selects RX8 yX8_flowAt yX8_flowAt, .initialized RX8, .code yX8_flowAt cX8_flowAt 3 (some (.object "LinkQueues$Flow")), .fieldLink RX8 11 "LinkQueues" "flows" "[LLinkQueues$Flow;", .methodLink RX8 109 yX3_tell, .instanceMethod yX3_tell, .selects RX3 yX3_tell yX3_tell, .initialized RX3, .code yX3_tell cX3_tell 9 none, .fieldLink RX3 9 "LinkQueues$Mean" "low" "D", .fieldLink RX3 17 "LinkQueues$Mean" "high" "D", .fieldLink RX3 22 "LinkQueues$Mean" "top" "D", .fieldLink RX3 27 "LinkQueues$Mean" "weight" "D"] ++ wsX20 ++ wsX80 ++ wsX30 ++ (vx_atS RX8 73 "java/lang/IllegalArgumentException" ["java/lang/RuntimeException", "java/lang/Exception"]).filter goodWord)
def wsX8_delay : List Cond := .code yX8_delay cX8_delay 7 none :: ([.classLink RX8 69 "java/lang/IllegalArgumentException", .initialized "java/lang/IllegalArgumentException", .constantDouble RX8 113 (4666723172467343360), .fieldLink RX8 93 "LinkQueues$Flow" "delay" "LLinkQueues$Delay;", .methodLink RX8 65 yX8_flowAt, .instanceMethod yX8_flowAt, .selects RX8 yX8_flowAt yX8_flowAt, .initialized RX8, .code yX8_flowAt cX8_flowAt 3 (some (.object "LinkQueues$Flow")), .fieldLink RX8 11 "LinkQueues" "flows" "[LLinkQueues$Flow;", .methodLink RX8 117 yX1_tell, .instanceMethod yX1_tell, .selects RX1 yX1_tell yX1_tell, .initialized RX1, .code yX1_tell cX1_tell 5 none, .fieldLink RX1 9 "LinkQueues$Delay" "target" "D", .fieldLink RX1 17 "LinkQueues$Delay" "interval" "D"] ++ wsX20 ++ wsX80 ++ wsX10 ++ (vx_atS RX8 73 "java/lang/IllegalArgumentException" ["java/lang/RuntimeException", "java/lang/Exception"]).filter goodWord)
def wsX8_link : List Cond := .code yX8_link cX8_link 4 none :: ([.classLink RX8 69 "java/lang/IllegalArgumentException", .initialized "java/lang/IllegalArgumentException", .constantDouble RX8 120 (4593671619917905920), .constantDouble RX8 113 (4666723172467343360), .constant RX8 49 (1000000), .fieldLink RX8 55 "LinkQueues" "rate" "D", .fieldLink RX8 50 "LinkQueues" "limit" "I"] ++ wsX80 ++ (vx_atS RX8 73 "java/lang/IllegalArgumentException" ["java/lang/RuntimeException", "java/lang/Exception"]).filter goodWord)
def wsX8_coin_r1 : List Cond := [Cond.classLink RX8 69 "java/lang/IllegalArgumentException", Cond.initialized "java/lang/IllegalArgumentException", Cond.classLink RX8 132 "java/lang/IllegalStateException", Cond.initialized "java/lang/IllegalStateException", Cond.fieldLink RX8 25 "LinkQueues" "coins" "LLinkQueues$Coins;", Cond.methodLink RX8 128 yX0_isFull, Cond.instanceMethod yX0_isFull, Cond.selects RX0 yX0_isFull yX0_isFull, Cond.initialized RX0, Cond.code yX0_isFull cX0_isFull 1 (some .boolean), Cond.methodLink RX0 20 yX0_waiting, Cond.instanceMethod yX0_waiting, Cond.selects RX0 yX0_waiting yX0_waiting, Cond.code yX0_waiting cX0_waiting 1 (some .int), Cond.fieldLink RX0 13 "LinkQueues$Coins" "told" "I", Cond.fieldLink RX0 17 "LinkQueues$Coins" "used" "I", Cond.methodLink RX8 137 yX0_add, Cond.instanceMethod yX0_add, Cond.selects RX0 yX0_add yX0_add, Cond.code yX0_add cX0_add 3 none, Cond.fieldLink RX0 9 "LinkQueues$Coins" "row" "[D", Cond.methodLink RX0 24 yX0_place, Cond.static yX0_place, Cond.code yX0_place cX0_place 1 (some .int)]
def wsX8_coin_r2 : List Cond := [Cond.methodLink RX8 141 yX0_waiting]
def wsX8_coin : List Cond := .code yX8_coin cX8_coin 3 (some .int) :: ((wsX8_coin_r1 ++ wsX8_coin_r2) ++ wsX80 ++ wsX00 ++ (vx_atS RX8 73 "java/lang/IllegalArgumentException" ["java/lang/RuntimeException", "java/lang/Exception"]).filter goodWord ++ (vx_atS RX8 136 "java/lang/IllegalStateException" ["java/lang/RuntimeException", "java/lang/Exception"]).filter goodWord)
def wsX8_putIn_r1 : List Cond := [Cond.fieldLink RX8 224 "LinkQueues$Packet" "owner" "LLinkQueues$Flow;", Cond.fieldLink RX8 186 "LinkQueues$Flow" "queue" "LLinkQueues$Queue;", Cond.fieldLink RX8 190 "LinkQueues$Queue" "packets" "I", Cond.fieldLink RX8 18 "LinkQueues" "turns" "LLinkQueues$Turns;", Cond.fieldLink RX8 43 "LinkQueues" "waitingPackets" "I", Cond.fieldLink RX8 46 "LinkQueues" "waitingBytes" "I", Cond.fieldLink RX8 231 "LinkQueues$Packet" "bytes" "I", Cond.methodLink RX8 280 yX7_join, Cond.instanceMethod yX7_join, Cond.selects RX7 yX7_join yX7_join, Cond.initialized RX7, Cond.code yX7_join cX7_join 2 none, Cond.fieldLink RX7 13 "LinkQueues$Turns" "last" "LLinkQueues$Flow;", Cond.fieldLink RX7 7 "LinkQueues$Turns" "first" "LLinkQueues$Flow;", Cond.fieldLink RX7 20 "LinkQueues$Flow" "behind" "LLinkQueues$Flow;", Cond.methodLink RX8 284 yX6_add, Cond.instanceMethod yX6_add, Cond.selects RX6 yX6_add yX6_add, Cond.initialized RX6, Cond.code yX6_add cX6_add 2 none, Cond.fieldLink RX6 13 "LinkQueues$Queue" "last" "LLinkQueues$Packet;", Cond.fieldLink RX6 7 "LinkQueues$Queue" "first" "LLinkQueues$Packet;", Cond.fieldLink RX6 23 "LinkQueues$Packet" "behind" "LLinkQueues$Packet;", Cond.fieldLink RX6 16 "LinkQueues$Queue" "packets" "I"]
def wsX8_putIn_r2 : List Cond := [Cond.fieldLink RX6 20 "LinkQueues$Queue" "bytes" "I", Cond.fieldLink RX6 28 "LinkQueues$Packet" "bytes" "I"]
def wsX8_putIn : List Cond := .code yX8_putIn cX8_putIn 2 none :: ((wsX8_putIn_r1 ++ wsX8_putIn_r2) ++ wsX50 ++ wsX20 ++ wsX60 ++ wsX80 ++ wsX70)
def wsX8_come_r1 : List Cond := [Cond.classLink RX8 69 "java/lang/IllegalArgumentException", Cond.initialized "java/lang/IllegalArgumentException", Cond.classLink RX8 147 RX5, Cond.instantiable RX5 8, Cond.initialized RX5, Cond.fieldLink RX8 40 "LinkQueues" "numbers" "I", Cond.fieldLink RX8 36 "LinkQueues" "now" "I", Cond.fieldLink RX8 152 "LinkQueues$Flow" "came" "I", Cond.fieldLink RX8 43 "LinkQueues" "waitingPackets" "I", Cond.fieldLink RX8 46 "LinkQueues" "waitingBytes" "I", Cond.fieldLink RX8 50 "LinkQueues" "limit" "I", Cond.fieldLink RX8 155 "LinkQueues$Flow" "lostFull" "I", Cond.fieldLink RX8 25 "LinkQueues" "coins" "LLinkQueues$Coins;", Cond.fieldLink RX8 162 "LinkQueues$Flow" "lostMean" "I", Cond.fieldLink RX8 169 "LinkQueues$Packet" "number" "I", Cond.methodLink RX8 65 yX8_flowAt, Cond.instanceMethod yX8_flowAt, Cond.selects RX8 yX8_flowAt yX8_flowAt, Cond.initialized RX8, Cond.code yX8_flowAt cX8_flowAt 3 (some (.object "LinkQueues$Flow")), Cond.fieldLink RX8 11 "LinkQueues" "flows" "[LLinkQueues$Flow;", Cond.methodLink RX8 149 yX5_init, Cond.instanceMethod yX5_init, Cond.code yX5_init cX5_init 6 none]
def wsX8_come_r2 : List Cond := [Cond.methodLink RX5 1 objectInit, Cond.instanceMethod objectInit, Cond.code objectInit ⟨#[0xb1]⟩ 1 none, Cond.fieldLink RX5 7 "LinkQueues$Packet" "marked" "Z", Cond.fieldLink RX5 13 "LinkQueues$Packet" "wait" "I", Cond.fieldLink RX5 17 "LinkQueues$Packet" "behind" "LLinkQueues$Packet;", Cond.fieldLink RX5 21 "LinkQueues$Packet" "number" "I", Cond.fieldLink RX5 24 "LinkQueues$Packet" "owner" "LLinkQueues$Flow;", Cond.fieldLink RX5 28 "LinkQueues$Packet" "bytes" "I", Cond.fieldLink RX5 31 "LinkQueues$Packet" "cameAt" "I", Cond.fieldLink RX5 34 "LinkQueues$Packet" "markable" "Z", Cond.methodLink RX8 158 yX2_letsIn, Cond.instanceMethod yX2_letsIn, Cond.selects RX2 yX2_letsIn yX2_letsIn, Cond.initialized RX2, Cond.code yX2_letsIn cX2_letsIn 4 (some .boolean), Cond.fieldLink RX2 32 "LinkQueues$Flow" "kind" "I", Cond.fieldLink RX2 21 "LinkQueues$Flow" "mean" "LLinkQueues$Mean;", Cond.fieldLink RX2 12 "LinkQueues$Flow" "queue" "LLinkQueues$Queue;", Cond.fieldLink RX2 70 "LinkQueues$Queue" "packets" "I", Cond.methodLink RX2 73 yX3_reckon, Cond.instanceMethod yX3_reckon, Cond.selects RX3 yX3_reckon yX3_reckon, Cond.initialized RX3]
def wsX8_come_r3 : List Cond := [Cond.code yX3_reckon cX3_reckon 5 none, Cond.fieldLink RX3 30 "LinkQueues$Mean" "average" "D", Cond.fieldLink RX3 27 "LinkQueues$Mean" "weight" "D", Cond.fieldLink RX3 37 "LinkQueues$Mean" "emptySince" "I", Cond.methodLink RX3 40 Lib.Math.min.name, Cond.static Lib.Math.min.name, Cond.initialized "java/lang/Math", Cond.code Lib.Math.min.name Lib.Math.min.code 2 (some .int), Cond.methodLink RX2 77 yX3_refuses, Cond.instanceMethod yX3_refuses, Cond.selects RX3 yX3_refuses yX3_refuses, Cond.code yX3_refuses cX3_refuses 1 (some .boolean), Cond.fieldLink RX3 17 "LinkQueues$Mean" "high" "D", Cond.fieldLink RX3 33 "LinkQueues$Mean" "count" "I", Cond.methodLink RX2 81 yX3_hits, Cond.instanceMethod yX3_hits, Cond.selects RX3 yX3_hits yX3_hits, Cond.code yX3_hits cX3_hits 7 (some .boolean), Cond.fieldLink RX3 9 "LinkQueues$Mean" "low" "D", Cond.fieldLink RX3 22 "LinkQueues$Mean" "top" "D", Cond.methodLink RX3 46 yX0_use, Cond.instanceMethod yX0_use, Cond.selects RX0 yX0_use yX0_use, Cond.initialized RX0]
def wsX8_come_r4 : List Cond := [Cond.code yX0_use cX0_use 3 (some .double), Cond.constantDouble RX0 28 (4602678819172646912), Cond.fieldLink RX0 9 "LinkQueues$Coins" "row" "[D", Cond.fieldLink RX0 17 "LinkQueues$Coins" "used" "I", Cond.methodLink RX0 20 yX0_waiting, Cond.instanceMethod yX0_waiting, Cond.selects RX0 yX0_waiting yX0_waiting, Cond.code yX0_waiting cX0_waiting 1 (some .int), Cond.fieldLink RX0 13 "LinkQueues$Coins" "told" "I", Cond.methodLink RX0 24 yX0_place, Cond.static yX0_place, Cond.code yX0_place cX0_place 1 (some .int), Cond.methodLink RX2 85 yX2_takesMark, Cond.instanceMethod yX2_takesMark, Cond.selects RX2 yX2_takesMark yX2_takesMark, Cond.code yX2_takesMark cX2_takesMark 2 (some .boolean), Cond.fieldLink RX2 97 "LinkQueues$Packet" "markable" "Z", Cond.fieldLink RX2 101 "LinkQueues$Packet" "marked" "Z", Cond.fieldLink RX2 64 "LinkQueues$Flow" "marked" "I", Cond.methodLink RX8 165 yX8_putIn, Cond.instanceMethod yX8_putIn, Cond.selects RX8 yX8_putIn yX8_putIn, Cond.code yX8_putIn cX8_putIn 2 none, Cond.fieldLink RX8 224 "LinkQueues$Packet" "owner" "LLinkQueues$Flow;"]
def wsX8_come_r5 : List Cond := [Cond.fieldLink RX8 186 "LinkQueues$Flow" "queue" "LLinkQueues$Queue;", Cond.fieldLink RX8 190 "LinkQueues$Queue" "packets" "I", Cond.fieldLink RX8 18 "LinkQueues" "turns" "LLinkQueues$Turns;", Cond.fieldLink RX8 231 "LinkQueues$Packet" "bytes" "I", Cond.methodLink RX8 280 yX7_join, Cond.instanceMethod yX7_join, Cond.selects RX7 yX7_join yX7_join, Cond.initialized RX7, Cond.code yX7_join cX7_join 2 none, Cond.fieldLink RX7 13 "LinkQueues$Turns" "last" "LLinkQueues$Flow;", Cond.fieldLink RX7 7 "LinkQueues$Turns" "first" "LLinkQueues$Flow;", Cond.fieldLink RX7 20 "LinkQueues$Flow" "behind" "LLinkQueues$Flow;", Cond.methodLink RX8 284 yX6_add, Cond.instanceMethod yX6_add, Cond.selects RX6 yX6_add yX6_add, Cond.initialized RX6, Cond.code yX6_add cX6_add 2 none, Cond.fieldLink RX6 13 "LinkQueues$Queue" "last" "LLinkQueues$Packet;", Cond.fieldLink RX6 7 "LinkQueues$Queue" "first" "LLinkQueues$Packet;", Cond.fieldLink RX6 23 "LinkQueues$Packet" "behind" "LLinkQueues$Packet;", Cond.fieldLink RX6 16 "LinkQueues$Queue" "packets" "I", Cond.fieldLink RX6 20 "LinkQueues$Queue" "bytes" "I", Cond.fieldLink RX6 28 "LinkQueues$Packet" "bytes" "I"]
def wsX8_come : List Cond := .code yX8_come cX8_come 6 (some .int) :: ((wsX8_come_r1 ++ (wsX8_come_r2 ++ (wsX8_come_r3 ++ (wsX8_come_r4 ++ wsX8_come_r5)))) ++ wsX50 ++ wsX80 ++ wsX20 ++ wsX60 ++ wsX30 ++ wsX00 ++ wsX70 ++ (vx_atS RX8 73 "java/lang/IllegalArgumentException" ["java/lang/RuntimeException", "java/lang/Exception"]).filter goodWord)
def wsX8_takeOut : List Cond := .code yX8_takeOut cX8_takeOut 2 none :: ([.fieldLink RX8 224 "LinkQueues$Packet" "owner" "LLinkQueues$Flow;", .fieldLink RX8 186 "LinkQueues$Flow" "queue" "LLinkQueues$Queue;", .fieldLink RX8 43 "LinkQueues" "waitingPackets" "I", .fieldLink RX8 46 "LinkQueues" "waitingBytes" "I", .fieldLink RX8 231 "LinkQueues$Packet" "bytes" "I", .fieldLink RX8 36 "LinkQueues" "now" "I", .fieldLink RX8 288 "LinkQueues$Packet" "cameAt" "I", .fieldLink RX8 232 "LinkQueues$Packet" "wait" "I", .methodLink RX8 285 yX6_removeFirst, .instanceMethod yX6_removeFirst, .selects RX6 yX6_removeFirst yX6_removeFirst, .initialized RX6, .code yX6_removeFirst cX6_removeFirst 2 none, .fieldLink RX6 7 "LinkQueues$Queue" "first" "LLinkQueues$Packet;", .fieldLink RX6 23 "LinkQueues$Packet" "behind" "LLinkQueues$Packet;", .fieldLink RX6 13 "LinkQueues$Queue" "last" "LLinkQueues$Packet;", .fieldLink RX6 16 "LinkQueues$Queue" "packets" "I", .fieldLink RX6 20 "LinkQueues$Queue" "bytes" "I", .fieldLink RX6 28 "LinkQueues$Packet" "bytes" "I"] ++ wsX50 ++ wsX20 ++ wsX80 ++ wsX60)
def wsX8_lookAt_r1 : List Cond := [Cond.fieldLink RX8 18 "LinkQueues" "turns" "LLinkQueues$Turns;", Cond.fieldLink RX8 186 "LinkQueues$Flow" "queue" "LLinkQueues$Queue;", Cond.fieldLink RX8 261 "LinkQueues$Queue" "first" "LLinkQueues$Packet;", Cond.fieldLink RX8 231 "LinkQueues$Packet" "bytes" "I", Cond.fieldLink RX8 201 "LinkQueues$Flow" "deficit" "I", Cond.fieldLink RX8 36 "LinkQueues" "now" "I", Cond.fieldLink RX8 180 "LinkQueues$Flow" "lostDelay" "I", Cond.fieldLink RX8 190 "LinkQueues$Queue" "packets" "I", Cond.fieldLink RX8 84 "LinkQueues$Flow" "mean" "LLinkQueues$Mean;", Cond.fieldLink RX8 277 "LinkQueues$Mean" "emptySince" "I", Cond.methodLink RX8 258 yX7_begin, Cond.instanceMethod yX7_begin, Cond.selects RX7 yX7_begin yX7_begin, Cond.initialized RX7, Cond.code yX7_begin cX7_begin 1 none, Cond.fieldLink RX7 7 "LinkQueues$Turns" "first" "LLinkQueues$Flow;", Cond.fieldLink RX7 16 "LinkQueues$Turns" "begun" "Z", Cond.fieldLink RX7 25 "LinkQueues$Flow" "deficit" "I", Cond.fieldLink RX7 29 "LinkQueues$Flow" "quantum" "I", Cond.methodLink RX8 264 yX7_passOn, Cond.instanceMethod yX7_passOn, Cond.selects RX7 yX7_passOn yX7_passOn, Cond.code yX7_passOn cX7_passOn 2 none, Cond.methodLink RX7 32 yX7_takeFirst]
def wsX8_lookAt_r2 : List Cond := [Cond.instanceMethod yX7_takeFirst, Cond.selects RX7 yX7_takeFirst yX7_takeFirst, Cond.code yX7_takeFirst cX7_takeFirst 2 (some (.object "LinkQueues$Flow")), Cond.fieldLink RX7 20 "LinkQueues$Flow" "behind" "LLinkQueues$Flow;", Cond.fieldLink RX7 13 "LinkQueues$Turns" "last" "LLinkQueues$Flow;", Cond.methodLink RX7 36 yX7_join, Cond.instanceMethod yX7_join, Cond.selects RX7 yX7_join yX7_join, Cond.code yX7_join cX7_join 2 none, Cond.methodLink RX8 267 yX8_takeOut, Cond.instanceMethod yX8_takeOut, Cond.selects RX8 yX8_takeOut yX8_takeOut, Cond.initialized RX8, Cond.code yX8_takeOut cX8_takeOut 2 none, Cond.fieldLink RX8 224 "LinkQueues$Packet" "owner" "LLinkQueues$Flow;", Cond.fieldLink RX8 43 "LinkQueues" "waitingPackets" "I", Cond.fieldLink RX8 46 "LinkQueues" "waitingBytes" "I", Cond.fieldLink RX8 288 "LinkQueues$Packet" "cameAt" "I", Cond.fieldLink RX8 232 "LinkQueues$Packet" "wait" "I", Cond.methodLink RX8 285 yX6_removeFirst, Cond.instanceMethod yX6_removeFirst, Cond.selects RX6 yX6_removeFirst yX6_removeFirst, Cond.initialized RX6, Cond.code yX6_removeFirst cX6_removeFirst 2 none]
def wsX8_lookAt_r3 : List Cond := [Cond.fieldLink RX6 7 "LinkQueues$Queue" "first" "LLinkQueues$Packet;", Cond.fieldLink RX6 23 "LinkQueues$Packet" "behind" "LLinkQueues$Packet;", Cond.fieldLink RX6 13 "LinkQueues$Queue" "last" "LLinkQueues$Packet;", Cond.fieldLink RX6 16 "LinkQueues$Queue" "packets" "I", Cond.fieldLink RX6 20 "LinkQueues$Queue" "bytes" "I", Cond.fieldLink RX6 28 "LinkQueues$Packet" "bytes" "I", Cond.methodLink RX8 270 yX2_letsOut, Cond.instanceMethod yX2_letsOut, Cond.selects RX2 yX2_letsOut yX2_letsOut, Cond.initialized RX2, Cond.code yX2_letsOut cX2_letsOut 3 (some .boolean), Cond.fieldLink RX2 32 "LinkQueues$Flow" "kind" "I", Cond.fieldLink RX2 28 "LinkQueues$Flow" "delay" "LLinkQueues$Delay;", Cond.fieldLink RX2 89 "LinkQueues$Packet" "wait" "I", Cond.fieldLink RX2 12 "LinkQueues$Flow" "queue" "LLinkQueues$Queue;", Cond.fieldLink RX2 70 "LinkQueues$Queue" "packets" "I", Cond.methodLink RX2 94 yX1_hits, Cond.instanceMethod yX1_hits, Cond.selects RX1 yX1_hits yX1_hits, Cond.initialized RX1, Cond.code yX1_hits cX1_hits 4 (some .boolean), Cond.fieldLink RX1 27 "LinkQueues$Delay" "drops" "Z", Cond.fieldLink RX1 33 "LinkQueues$Delay" "count" "I", Cond.fieldLink RX1 37 "LinkQueues$Delay" "last" "I"]
def wsX8_lookAt_r4 : List Cond := [Cond.fieldLink RX1 17 "LinkQueues$Delay" "interval" "D", Cond.fieldLink RX1 30 "LinkQueues$Delay" "next" "D", Cond.methodLink RX1 40 yX1_isLate, Cond.instanceMethod yX1_isLate, Cond.selects RX1 yX1_isLate yX1_isLate, Cond.code yX1_isLate cX1_isLate 4 (some .boolean), Cond.fieldLink RX1 9 "LinkQueues$Delay" "target" "D", Cond.fieldLink RX1 20 "LinkQueues$Delay" "isAbove" "Z", Cond.fieldLink RX1 24 "LinkQueues$Delay" "above" "D", Cond.methodLink RX1 44 yX1_countToBeginWith, Cond.instanceMethod yX1_countToBeginWith, Cond.selects RX1 yX1_countToBeginWith yX1_countToBeginWith, Cond.code yX1_countToBeginWith cX1_countToBeginWith 3 (some .int), Cond.constantDouble RX1 52 (4625196817309499392), Cond.methodLink RX1 48 yX1_root, Cond.static yX1_root, Cond.code yX1_root cX1_root 4 (some .double), Cond.constantDouble RX1 54 (4611686018427387904), Cond.methodLink RX2 85 yX2_takesMark, Cond.instanceMethod yX2_takesMark, Cond.selects RX2 yX2_takesMark yX2_takesMark, Cond.code yX2_takesMark cX2_takesMark 2 (some .boolean), Cond.fieldLink RX2 97 "LinkQueues$Packet" "markable" "Z", Cond.fieldLink RX2 101 "LinkQueues$Packet" "marked" "Z"]
def wsX8_lookAt_r5 : List Cond := [Cond.fieldLink RX2 64 "LinkQueues$Flow" "marked" "I", Cond.methodLink RX8 274 yX7_leave, Cond.instanceMethod yX7_leave, Cond.selects RX7 yX7_leave yX7_leave, Cond.code yX7_leave cX7_leave 2 none]
def wsX8_lookAt : List Cond := .code yX8_lookAt cX8_lookAt 4 (some (.object "LinkQueues$Packet")) :: ((wsX8_lookAt_r1 ++ (wsX8_lookAt_r2 ++ (wsX8_lookAt_r3 ++ (wsX8_lookAt_r4 ++ wsX8_lookAt_r5)))) ++ wsX80 ++ wsX20 ++ wsX60 ++ wsX50 ++ wsX30 ++ wsX70 ++ wsX10)
def wsX8_choose_r1 : List Cond := [Cond.constant RX8 49 (1000000), Cond.fieldLink RX8 18 "LinkQueues" "turns" "LLinkQueues$Turns;", Cond.fieldLink RX8 251 "LinkQueues$Turns" "first" "LLinkQueues$Flow;", Cond.methodLink RX8 254 yX8_lookAt, Cond.instanceMethod yX8_lookAt, Cond.selects RX8 yX8_lookAt yX8_lookAt, Cond.initialized RX8, Cond.code yX8_lookAt cX8_lookAt 4 (some (.object "LinkQueues$Packet")), Cond.fieldLink RX8 186 "LinkQueues$Flow" "queue" "LLinkQueues$Queue;", Cond.fieldLink RX8 261 "LinkQueues$Queue" "first" "LLinkQueues$Packet;", Cond.fieldLink RX8 231 "LinkQueues$Packet" "bytes" "I", Cond.fieldLink RX8 201 "LinkQueues$Flow" "deficit" "I", Cond.fieldLink RX8 36 "LinkQueues" "now" "I", Cond.fieldLink RX8 180 "LinkQueues$Flow" "lostDelay" "I", Cond.fieldLink RX8 190 "LinkQueues$Queue" "packets" "I", Cond.fieldLink RX8 84 "LinkQueues$Flow" "mean" "LLinkQueues$Mean;", Cond.fieldLink RX8 277 "LinkQueues$Mean" "emptySince" "I", Cond.methodLink RX8 258 yX7_begin, Cond.instanceMethod yX7_begin, Cond.selects RX7 yX7_begin yX7_begin, Cond.initialized RX7, Cond.code yX7_begin cX7_begin 1 none, Cond.fieldLink RX7 7 "LinkQueues$Turns" "first" "LLinkQueues$Flow;", Cond.fieldLink RX7 16 "LinkQueues$Turns" "begun" "Z"]
def wsX8_choose_r2 : List Cond := [Cond.fieldLink RX7 25 "LinkQueues$Flow" "deficit" "I", Cond.fieldLink RX7 29 "LinkQueues$Flow" "quantum" "I", Cond.methodLink RX8 264 yX7_passOn, Cond.instanceMethod yX7_passOn, Cond.selects RX7 yX7_passOn yX7_passOn, Cond.code yX7_passOn cX7_passOn 2 none, Cond.methodLink RX7 32 yX7_takeFirst, Cond.instanceMethod yX7_takeFirst, Cond.selects RX7 yX7_takeFirst yX7_takeFirst, Cond.code yX7_takeFirst cX7_takeFirst 2 (some (.object "LinkQueues$Flow")), Cond.fieldLink RX7 20 "LinkQueues$Flow" "behind" "LLinkQueues$Flow;", Cond.fieldLink RX7 13 "LinkQueues$Turns" "last" "LLinkQueues$Flow;", Cond.methodLink RX7 36 yX7_join, Cond.instanceMethod yX7_join, Cond.selects RX7 yX7_join yX7_join, Cond.code yX7_join cX7_join 2 none, Cond.methodLink RX8 267 yX8_takeOut, Cond.instanceMethod yX8_takeOut, Cond.selects RX8 yX8_takeOut yX8_takeOut, Cond.code yX8_takeOut cX8_takeOut 2 none, Cond.fieldLink RX8 224 "LinkQueues$Packet" "owner" "LLinkQueues$Flow;", Cond.fieldLink RX8 43 "LinkQueues" "waitingPackets" "I", Cond.fieldLink RX8 46 "LinkQueues" "waitingBytes" "I", Cond.fieldLink RX8 288 "LinkQueues$Packet" "cameAt" "I"]
def wsX8_choose_r3 : List Cond := [Cond.fieldLink RX8 232 "LinkQueues$Packet" "wait" "I", Cond.methodLink RX8 285 yX6_removeFirst, Cond.instanceMethod yX6_removeFirst, Cond.selects RX6 yX6_removeFirst yX6_removeFirst, Cond.initialized RX6, Cond.code yX6_removeFirst cX6_removeFirst 2 none, Cond.fieldLink RX6 7 "LinkQueues$Queue" "first" "LLinkQueues$Packet;", Cond.fieldLink RX6 23 "LinkQueues$Packet" "behind" "LLinkQueues$Packet;", Cond.fieldLink RX6 13 "LinkQueues$Queue" "last" "LLinkQueues$Packet;", Cond.fieldLink RX6 16 "LinkQueues$Queue" "packets" "I", Cond.fieldLink RX6 20 "LinkQueues$Queue" "bytes" "I", Cond.fieldLink RX6 28 "LinkQueues$Packet" "bytes" "I", Cond.methodLink RX8 270 yX2_letsOut, Cond.instanceMethod yX2_letsOut, Cond.selects RX2 yX2_letsOut yX2_letsOut, Cond.initialized RX2, Cond.code yX2_letsOut cX2_letsOut 3 (some .boolean), Cond.fieldLink RX2 32 "LinkQueues$Flow" "kind" "I", Cond.fieldLink RX2 28 "LinkQueues$Flow" "delay" "LLinkQueues$Delay;", Cond.fieldLink RX2 89 "LinkQueues$Packet" "wait" "I", Cond.fieldLink RX2 12 "LinkQueues$Flow" "queue" "LLinkQueues$Queue;", Cond.fieldLink RX2 70 "LinkQueues$Queue" "packets" "I", Cond.methodLink RX2 94 yX1_hits, Cond.instanceMethod yX1_hits]
def wsX8_choose_r4 : List Cond := [Cond.selects RX1 yX1_hits yX1_hits, Cond.initialized RX1, Cond.code yX1_hits cX1_hits 4 (some .boolean), Cond.fieldLink RX1 27 "LinkQueues$Delay" "drops" "Z", Cond.fieldLink RX1 33 "LinkQueues$Delay" "count" "I", Cond.fieldLink RX1 37 "LinkQueues$Delay" "last" "I", Cond.fieldLink RX1 17 "LinkQueues$Delay" "interval" "D", Cond.fieldLink RX1 30 "LinkQueues$Delay" "next" "D", Cond.methodLink RX1 40 yX1_isLate, Cond.instanceMethod yX1_isLate, Cond.selects RX1 yX1_isLate yX1_isLate, Cond.code yX1_isLate cX1_isLate 4 (some .boolean), Cond.fieldLink RX1 9 "LinkQueues$Delay" "target" "D", Cond.fieldLink RX1 20 "LinkQueues$Delay" "isAbove" "Z", Cond.fieldLink RX1 24 "LinkQueues$Delay" "above" "D", Cond.methodLink RX1 44 yX1_countToBeginWith, Cond.instanceMethod yX1_countToBeginWith, Cond.selects RX1 yX1_countToBeginWith yX1_countToBeginWith, Cond.code yX1_countToBeginWith cX1_countToBeginWith 3 (some .int), Cond.constantDouble RX1 52 (4625196817309499392), Cond.methodLink RX1 48 yX1_root, Cond.static yX1_root, Cond.code yX1_root cX1_root 4 (some .double), Cond.constantDouble RX1 54 (4611686018427387904)]
def wsX8_choose_r5 : List Cond := [Cond.methodLink RX2 85 yX2_takesMark, Cond.instanceMethod yX2_takesMark, Cond.selects RX2 yX2_takesMark yX2_takesMark, Cond.code yX2_takesMark cX2_takesMark 2 (some .boolean), Cond.fieldLink RX2 97 "LinkQueues$Packet" "markable" "Z", Cond.fieldLink RX2 101 "LinkQueues$Packet" "marked" "Z", Cond.fieldLink RX2 64 "LinkQueues$Flow" "marked" "I", Cond.methodLink RX8 274 yX7_leave, Cond.instanceMethod yX7_leave, Cond.selects RX7 yX7_leave yX7_leave, Cond.code yX7_leave cX7_leave 2 none]
def wsX8_choose : List Cond := .code yX8_choose cX8_choose 3 (some (.object "LinkQueues$Packet")) :: ((wsX8_choose_r1 ++ (wsX8_choose_r2 ++ (wsX8_choose_r3 ++ (wsX8_choose_r4 ++ wsX8_choose_r5)))) ++ wsX80 ++ wsX70 ++ wsX20 ++ wsX60 ++ wsX50 ++ wsX30 ++ wsX10)
def wsX8_send : List Cond := .code yX8_send cX8_send 2 none :: ([.fieldLink RX8 224 "LinkQueues$Packet" "owner" "LLinkQueues$Flow;", .fieldLink RX8 177 "LinkQueues$Flow" "sent" "I", .fieldLink RX8 198 "LinkQueues$Flow" "sentBytes" "I", .fieldLink RX8 231 "LinkQueues$Packet" "bytes" "I", .fieldLink RX8 32 "LinkQueues" "outlog" "LLinkQueues$Outlog;", .fieldLink RX8 59 "LinkQueues" "freeFrom" "D", .fieldLink RX8 55 "LinkQueues" "rate" "D", .methodLink RX8 249 yX4_add, .instanceMethod yX4_add, .selects RX4 yX4_add yX4_add, .initialized RX4, .code yX4_add cX4_add 2 none, .fieldLink RX4 15 "LinkQueues$Outlog" "nth" "I", .fieldLink RX4 11 "LinkQueues$Outlog" "row" "[LLinkQueues$Packet;", .methodLink RX4 19 yX4_place, .static yX4_place, .code yX4_place cX4_place 1 (some .int)] ++ wsX50 ++ wsX20 ++ wsX80 ++ wsX40)
def wsX8_oneTick_r1 : List Cond := [Cond.fieldLink RX8 36 "LinkQueues" "now" "I", Cond.fieldLink RX8 59 "LinkQueues" "freeFrom" "D", Cond.methodLink RX8 242 yX8_choose, Cond.instanceMethod yX8_choose, Cond.selects RX8 yX8_choose yX8_choose, Cond.initialized RX8, Cond.code yX8_choose cX8_choose 3 (some (.object "LinkQueues$Packet")), Cond.constant RX8 49 (1000000), Cond.fieldLink RX8 18 "LinkQueues" "turns" "LLinkQueues$Turns;", Cond.fieldLink RX8 251 "LinkQueues$Turns" "first" "LLinkQueues$Flow;", Cond.methodLink RX8 254 yX8_lookAt, Cond.instanceMethod yX8_lookAt, Cond.selects RX8 yX8_lookAt yX8_lookAt, Cond.code yX8_lookAt cX8_lookAt 4 (some (.object "LinkQueues$Packet")), Cond.fieldLink RX8 186 "LinkQueues$Flow" "queue" "LLinkQueues$Queue;", Cond.fieldLink RX8 261 "LinkQueues$Queue" "first" "LLinkQueues$Packet;", Cond.fieldLink RX8 231 "LinkQueues$Packet" "bytes" "I", Cond.fieldLink RX8 201 "LinkQueues$Flow" "deficit" "I", Cond.fieldLink RX8 180 "LinkQueues$Flow" "lostDelay" "I", Cond.fieldLink RX8 190 "LinkQueues$Queue" "packets" "I", Cond.fieldLink RX8 84 "LinkQueues$Flow" "mean" "LLinkQueues$Mean;", Cond.fieldLink RX8 277 "LinkQueues$Mean" "emptySince" "I", Cond.methodLink RX8 258 yX7_begin, Cond.instanceMethod yX7_begin]
def wsX8_oneTick_r2 : List Cond := [Cond.selects RX7 yX7_begin yX7_begin, Cond.initialized RX7, Cond.code yX7_begin cX7_begin 1 none, Cond.fieldLink RX7 7 "LinkQueues$Turns" "first" "LLinkQueues$Flow;", Cond.fieldLink RX7 16 "LinkQueues$Turns" "begun" "Z", Cond.fieldLink RX7 25 "LinkQueues$Flow" "deficit" "I", Cond.fieldLink RX7 29 "LinkQueues$Flow" "quantum" "I", Cond.methodLink RX8 264 yX7_passOn, Cond.instanceMethod yX7_passOn, Cond.selects RX7 yX7_passOn yX7_passOn, Cond.code yX7_passOn cX7_passOn 2 none, Cond.methodLink RX7 32 yX7_takeFirst, Cond.instanceMethod yX7_takeFirst, Cond.selects RX7 yX7_takeFirst yX7_takeFirst, Cond.code yX7_takeFirst cX7_takeFirst 2 (some (.object "LinkQueues$Flow")), Cond.fieldLink RX7 20 "LinkQueues$Flow" "behind" "LLinkQueues$Flow;", Cond.fieldLink RX7 13 "LinkQueues$Turns" "last" "LLinkQueues$Flow;", Cond.methodLink RX7 36 yX7_join, Cond.instanceMethod yX7_join, Cond.selects RX7 yX7_join yX7_join, Cond.code yX7_join cX7_join 2 none, Cond.methodLink RX8 267 yX8_takeOut, Cond.instanceMethod yX8_takeOut, Cond.selects RX8 yX8_takeOut yX8_takeOut]
def wsX8_oneTick_r3 : List Cond := [Cond.code yX8_takeOut cX8_takeOut 2 none, Cond.fieldLink RX8 224 "LinkQueues$Packet" "owner" "LLinkQueues$Flow;", Cond.fieldLink RX8 43 "LinkQueues" "waitingPackets" "I", Cond.fieldLink RX8 46 "LinkQueues" "waitingBytes" "I", Cond.fieldLink RX8 288 "LinkQueues$Packet" "cameAt" "I", Cond.fieldLink RX8 232 "LinkQueues$Packet" "wait" "I", Cond.methodLink RX8 285 yX6_removeFirst, Cond.instanceMethod yX6_removeFirst, Cond.selects RX6 yX6_removeFirst yX6_removeFirst, Cond.initialized RX6, Cond.code yX6_removeFirst cX6_removeFirst 2 none, Cond.fieldLink RX6 7 "LinkQueues$Queue" "first" "LLinkQueues$Packet;", Cond.fieldLink RX6 23 "LinkQueues$Packet" "behind" "LLinkQueues$Packet;", Cond.fieldLink RX6 13 "LinkQueues$Queue" "last" "LLinkQueues$Packet;", Cond.fieldLink RX6 16 "LinkQueues$Queue" "packets" "I", Cond.fieldLink RX6 20 "LinkQueues$Queue" "bytes" "I", Cond.fieldLink RX6 28 "LinkQueues$Packet" "bytes" "I", Cond.methodLink RX8 270 yX2_letsOut, Cond.instanceMethod yX2_letsOut, Cond.selects RX2 yX2_letsOut yX2_letsOut, Cond.initialized RX2, Cond.code yX2_letsOut cX2_letsOut 3 (some .boolean), Cond.fieldLink RX2 32 "LinkQueues$Flow" "kind" "I", Cond.fieldLink RX2 28 "LinkQueues$Flow" "delay" "LLinkQueues$Delay;"]
def wsX8_oneTick_r4 : List Cond := [Cond.fieldLink RX2 89 "LinkQueues$Packet" "wait" "I", Cond.fieldLink RX2 12 "LinkQueues$Flow" "queue" "LLinkQueues$Queue;", Cond.fieldLink RX2 70 "LinkQueues$Queue" "packets" "I", Cond.methodLink RX2 94 yX1_hits, Cond.instanceMethod yX1_hits, Cond.selects RX1 yX1_hits yX1_hits, Cond.initialized RX1, Cond.code yX1_hits cX1_hits 4 (some .boolean), Cond.fieldLink RX1 27 "LinkQueues$Delay" "drops" "Z", Cond.fieldLink RX1 33 "LinkQueues$Delay" "count" "I", Cond.fieldLink RX1 37 "LinkQueues$Delay" "last" "I", Cond.fieldLink RX1 17 "LinkQueues$Delay" "interval" "D", Cond.fieldLink RX1 30 "LinkQueues$Delay" "next" "D", Cond.methodLink RX1 40 yX1_isLate, Cond.instanceMethod yX1_isLate, Cond.selects RX1 yX1_isLate yX1_isLate, Cond.code yX1_isLate cX1_isLate 4 (some .boolean), Cond.fieldLink RX1 9 "LinkQueues$Delay" "target" "D", Cond.fieldLink RX1 20 "LinkQueues$Delay" "isAbove" "Z", Cond.fieldLink RX1 24 "LinkQueues$Delay" "above" "D", Cond.methodLink RX1 44 yX1_countToBeginWith, Cond.instanceMethod yX1_countToBeginWith, Cond.selects RX1 yX1_countToBeginWith yX1_countToBeginWith, Cond.code yX1_countToBeginWith cX1_countToBeginWith 3 (some .int)]
def wsX8_oneTick_r5 : List Cond := [Cond.constantDouble RX1 52 (4625196817309499392), Cond.methodLink RX1 48 yX1_root, Cond.static yX1_root, Cond.code yX1_root cX1_root 4 (some .double), Cond.constantDouble RX1 54 (4611686018427387904), Cond.methodLink RX2 85 yX2_takesMark, Cond.instanceMethod yX2_takesMark, Cond.selects RX2 yX2_takesMark yX2_takesMark, Cond.code yX2_takesMark cX2_takesMark 2 (some .boolean), Cond.fieldLink RX2 97 "LinkQueues$Packet" "markable" "Z", Cond.fieldLink RX2 101 "LinkQueues$Packet" "marked" "Z", Cond.fieldLink RX2 64 "LinkQueues$Flow" "marked" "I", Cond.methodLink RX8 274 yX7_leave, Cond.instanceMethod yX7_leave, Cond.selects RX7 yX7_leave yX7_leave, Cond.code yX7_leave cX7_leave 2 none, Cond.methodLink RX8 246 yX8_send, Cond.instanceMethod yX8_send, Cond.selects RX8 yX8_send yX8_send, Cond.code yX8_send cX8_send 2 none, Cond.fieldLink RX8 177 "LinkQueues$Flow" "sent" "I", Cond.fieldLink RX8 198 "LinkQueues$Flow" "sentBytes" "I", Cond.fieldLink RX8 32 "LinkQueues" "outlog" "LLinkQueues$Outlog;", Cond.fieldLink RX8 55 "LinkQueues" "rate" "D"]
def wsX8_oneTick_r6 : List Cond := [Cond.methodLink RX8 249 yX4_add, Cond.instanceMethod yX4_add, Cond.selects RX4 yX4_add yX4_add, Cond.initialized RX4, Cond.code yX4_add cX4_add 2 none, Cond.fieldLink RX4 15 "LinkQueues$Outlog" "nth" "I", Cond.fieldLink RX4 11 "LinkQueues$Outlog" "row" "[LLinkQueues$Packet;", Cond.methodLink RX4 19 yX4_place, Cond.static yX4_place, Cond.code yX4_place cX4_place 1 (some .int)]
def wsX8_oneTick : List Cond := .code yX8_oneTick cX8_oneTick 3 (some .int) :: ((wsX8_oneTick_r1 ++ (wsX8_oneTick_r2 ++ (wsX8_oneTick_r3 ++ (wsX8_oneTick_r4 ++ (wsX8_oneTick_r5 ++ wsX8_oneTick_r6))))) ++ wsX80 ++ wsX70 ++ wsX20 ++ wsX60 ++ wsX50 ++ wsX30 ++ wsX10 ++ wsX40)
def wsX8_tick_r1 : List Cond := [Cond.classLink RX8 69 "java/lang/IllegalArgumentException", Cond.initialized "java/lang/IllegalArgumentException", Cond.methodLink RX8 174 yX8_oneTick, Cond.instanceMethod yX8_oneTick, Cond.selects RX8 yX8_oneTick yX8_oneTick, Cond.initialized RX8, Cond.code yX8_oneTick cX8_oneTick 3 (some .int), Cond.fieldLink RX8 36 "LinkQueues" "now" "I", Cond.fieldLink RX8 59 "LinkQueues" "freeFrom" "D", Cond.methodLink RX8 242 yX8_choose, Cond.instanceMethod yX8_choose, Cond.selects RX8 yX8_choose yX8_choose, Cond.code yX8_choose cX8_choose 3 (some (.object "LinkQueues$Packet")), Cond.constant RX8 49 (1000000), Cond.fieldLink RX8 18 "LinkQueues" "turns" "LLinkQueues$Turns;", Cond.fieldLink RX8 251 "LinkQueues$Turns" "first" "LLinkQueues$Flow;", Cond.methodLink RX8 254 yX8_lookAt, Cond.instanceMethod yX8_lookAt, Cond.selects RX8 yX8_lookAt yX8_lookAt, Cond.code yX8_lookAt cX8_lookAt 4 (some (.object "LinkQueues$Packet")), Cond.fieldLink RX8 186 "LinkQueues$Flow" "queue" "LLinkQueues$Queue;", Cond.fieldLink RX8 261 "LinkQueues$Queue" "first" "LLinkQueues$Packet;", Cond.fieldLink RX8 231 "LinkQueues$Packet" "bytes" "I", Cond.fieldLink RX8 201 "LinkQueues$Flow" "deficit" "I"]
def wsX8_tick_r2 : List Cond := [Cond.fieldLink RX8 180 "LinkQueues$Flow" "lostDelay" "I", Cond.fieldLink RX8 190 "LinkQueues$Queue" "packets" "I", Cond.fieldLink RX8 84 "LinkQueues$Flow" "mean" "LLinkQueues$Mean;", Cond.fieldLink RX8 277 "LinkQueues$Mean" "emptySince" "I", Cond.methodLink RX8 258 yX7_begin, Cond.instanceMethod yX7_begin, Cond.selects RX7 yX7_begin yX7_begin, Cond.initialized RX7, Cond.code yX7_begin cX7_begin 1 none, Cond.fieldLink RX7 7 "LinkQueues$Turns" "first" "LLinkQueues$Flow;", Cond.fieldLink RX7 16 "LinkQueues$Turns" "begun" "Z", Cond.fieldLink RX7 25 "LinkQueues$Flow" "deficit" "I", Cond.fieldLink RX7 29 "LinkQueues$Flow" "quantum" "I", Cond.methodLink RX8 264 yX7_passOn, Cond.instanceMethod yX7_passOn, Cond.selects RX7 yX7_passOn yX7_passOn, Cond.code yX7_passOn cX7_passOn 2 none, Cond.methodLink RX7 32 yX7_takeFirst, Cond.instanceMethod yX7_takeFirst, Cond.selects RX7 yX7_takeFirst yX7_takeFirst, Cond.code yX7_takeFirst cX7_takeFirst 2 (some (.object "LinkQueues$Flow")), Cond.fieldLink RX7 20 "LinkQueues$Flow" "behind" "LLinkQueues$Flow;", Cond.fieldLink RX7 13 "LinkQueues$Turns" "last" "LLinkQueues$Flow;", Cond.methodLink RX7 36 yX7_join]
def wsX8_tick_r3 : List Cond := [Cond.instanceMethod yX7_join, Cond.selects RX7 yX7_join yX7_join, Cond.code yX7_join cX7_join 2 none, Cond.methodLink RX8 267 yX8_takeOut, Cond.instanceMethod yX8_takeOut, Cond.selects RX8 yX8_takeOut yX8_takeOut, Cond.code yX8_takeOut cX8_takeOut 2 none, Cond.fieldLink RX8 224 "LinkQueues$Packet" "owner" "LLinkQueues$Flow;", Cond.fieldLink RX8 43 "LinkQueues" "waitingPackets" "I", Cond.fieldLink RX8 46 "LinkQueues" "waitingBytes" "I", Cond.fieldLink RX8 288 "LinkQueues$Packet" "cameAt" "I", Cond.fieldLink RX8 232 "LinkQueues$Packet" "wait" "I", Cond.methodLink RX8 285 yX6_removeFirst, Cond.instanceMethod yX6_removeFirst, Cond.selects RX6 yX6_removeFirst yX6_removeFirst, Cond.initialized RX6, Cond.code yX6_removeFirst cX6_removeFirst 2 none, Cond.fieldLink RX6 7 "LinkQueues$Queue" "first" "LLinkQueues$Packet;", Cond.fieldLink RX6 23 "LinkQueues$Packet" "behind" "LLinkQueues$Packet;", Cond.fieldLink RX6 13 "LinkQueues$Queue" "last" "LLinkQueues$Packet;", Cond.fieldLink RX6 16 "LinkQueues$Queue" "packets" "I", Cond.fieldLink RX6 20 "LinkQueues$Queue" "bytes" "I", Cond.fieldLink RX6 28 "LinkQueues$Packet" "bytes" "I", Cond.methodLink RX8 270 yX2_letsOut]
def wsX8_tick_r4 : List Cond := [Cond.instanceMethod yX2_letsOut, Cond.selects RX2 yX2_letsOut yX2_letsOut, Cond.initialized RX2, Cond.code yX2_letsOut cX2_letsOut 3 (some .boolean), Cond.fieldLink RX2 32 "LinkQueues$Flow" "kind" "I", Cond.fieldLink RX2 28 "LinkQueues$Flow" "delay" "LLinkQueues$Delay;", Cond.fieldLink RX2 89 "LinkQueues$Packet" "wait" "I", Cond.fieldLink RX2 12 "LinkQueues$Flow" "queue" "LLinkQueues$Queue;", Cond.fieldLink RX2 70 "LinkQueues$Queue" "packets" "I", Cond.methodLink RX2 94 yX1_hits, Cond.instanceMethod yX1_hits, Cond.selects RX1 yX1_hits yX1_hits, Cond.initialized RX1, Cond.code yX1_hits cX1_hits 4 (some .boolean), Cond.fieldLink RX1 27 "LinkQueues$Delay" "drops" "Z", Cond.fieldLink RX1 33 "LinkQueues$Delay" "count" "I", Cond.fieldLink RX1 37 "LinkQueues$Delay" "last" "I", Cond.fieldLink RX1 17 "LinkQueues$Delay" "interval" "D", Cond.fieldLink RX1 30 "LinkQueues$Delay" "next" "D", Cond.methodLink RX1 40 yX1_isLate, Cond.instanceMethod yX1_isLate, Cond.selects RX1 yX1_isLate yX1_isLate, Cond.code yX1_isLate cX1_isLate 4 (some .boolean), Cond.fieldLink RX1 9 "LinkQueues$Delay" "target" "D"]
def wsX8_tick_r5 : List Cond := [Cond.fieldLink RX1 20 "LinkQueues$Delay" "isAbove" "Z", Cond.fieldLink RX1 24 "LinkQueues$Delay" "above" "D", Cond.methodLink RX1 44 yX1_countToBeginWith, Cond.instanceMethod yX1_countToBeginWith, Cond.selects RX1 yX1_countToBeginWith yX1_countToBeginWith, Cond.code yX1_countToBeginWith cX1_countToBeginWith 3 (some .int), Cond.constantDouble RX1 52 (4625196817309499392), Cond.methodLink RX1 48 yX1_root, Cond.static yX1_root, Cond.code yX1_root cX1_root 4 (some .double), Cond.constantDouble RX1 54 (4611686018427387904), Cond.methodLink RX2 85 yX2_takesMark, Cond.instanceMethod yX2_takesMark, Cond.selects RX2 yX2_takesMark yX2_takesMark, Cond.code yX2_takesMark cX2_takesMark 2 (some .boolean), Cond.fieldLink RX2 97 "LinkQueues$Packet" "markable" "Z", Cond.fieldLink RX2 101 "LinkQueues$Packet" "marked" "Z", Cond.fieldLink RX2 64 "LinkQueues$Flow" "marked" "I", Cond.methodLink RX8 274 yX7_leave, Cond.instanceMethod yX7_leave, Cond.selects RX7 yX7_leave yX7_leave, Cond.code yX7_leave cX7_leave 2 none, Cond.methodLink RX8 246 yX8_send, Cond.instanceMethod yX8_send]
def wsX8_tick_r6 : List Cond := [Cond.selects RX8 yX8_send yX8_send, Cond.code yX8_send cX8_send 2 none, Cond.fieldLink RX8 177 "LinkQueues$Flow" "sent" "I", Cond.fieldLink RX8 198 "LinkQueues$Flow" "sentBytes" "I", Cond.fieldLink RX8 32 "LinkQueues" "outlog" "LLinkQueues$Outlog;", Cond.fieldLink RX8 55 "LinkQueues" "rate" "D", Cond.methodLink RX8 249 yX4_add, Cond.instanceMethod yX4_add, Cond.selects RX4 yX4_add yX4_add, Cond.initialized RX4, Cond.code yX4_add cX4_add 2 none, Cond.fieldLink RX4 15 "LinkQueues$Outlog" "nth" "I", Cond.fieldLink RX4 11 "LinkQueues$Outlog" "row" "[LLinkQueues$Packet;", Cond.methodLink RX4 19 yX4_place, Cond.static yX4_place, Cond.code yX4_place cX4_place 1 (some .int)]
def wsX8_tick : List Cond := .code yX8_tick cX8_tick 4 (some .int) :: ((wsX8_tick_r1 ++ (wsX8_tick_r2 ++ (wsX8_tick_r3 ++ (wsX8_tick_r4 ++ (wsX8_tick_r5 ++ wsX8_tick_r6))))) ++ wsX80 ++ wsX70 ++ wsX20 ++ wsX60 ++ wsX50 ++ wsX30 ++ wsX10 ++ wsX40 ++ (vx_atS RX8 73 "java/lang/IllegalArgumentException" ["java/lang/RuntimeException", "java/lang/Exception"]).filter goodWord)
def wsX8_count : List Cond := .code yX8_count cX8_count 4 (some .int) :: ([.classLink RX8 69 "java/lang/IllegalArgumentException", .initialized "java/lang/IllegalArgumentException", .fieldLink RX8 152 "LinkQueues$Flow" "came" "I", .fieldLink RX8 177 "LinkQueues$Flow" "sent" "I", .fieldLink RX8 155 "LinkQueues$Flow" "lostFull" "I", .fieldLink RX8 162 "LinkQueues$Flow" "lostMean" "I", .fieldLink RX8 180 "LinkQueues$Flow" "lostDelay" "I", .fieldLink RX8 183 "LinkQueues$Flow" "marked" "I", .fieldLink RX8 186 "LinkQueues$Flow" "queue" "LLinkQueues$Queue;", .fieldLink RX8 190 "LinkQueues$Queue" "packets" "I", .fieldLink RX8 195 "LinkQueues$Queue" "bytes" "I", .fieldLink RX8 198 "LinkQueues$Flow" "sentBytes" "I", .fieldLink RX8 201 "LinkQueues$Flow" "deficit" "I", .methodLink RX8 65 yX8_flowAt, .instanceMethod yX8_flowAt, .selects RX8 yX8_flowAt yX8_flowAt, .initialized RX8, .code yX8_flowAt cX8_flowAt 3 (some (.object "LinkQueues$Flow")), .fieldLink RX8 11 "LinkQueues" "flows" "[LLinkQueues$Flow;"] ++ wsX20 ++ wsX60 ++ wsX80 ++ (vx_atS RX8 73 "java/lang/IllegalArgumentException" ["java/lang/RuntimeException", "java/lang/Exception"]).filter goodWord)
def wsX8_average : List Cond := .code yX8_average cX8_average 2 (some .double) :: ([.fieldLink RX8 84 "LinkQueues$Flow" "mean" "LLinkQueues$Mean;", .fieldLink RX8 206 "LinkQueues$Mean" "average" "D", .methodLink RX8 65 yX8_flowAt, .instanceMethod yX8_flowAt, .selects RX8 yX8_flowAt yX8_flowAt, .initialized RX8, .code yX8_flowAt cX8_flowAt 3 (some (.object "LinkQueues$Flow")), .classLink RX8 69 "java/lang/IllegalArgumentException", .initialized "java/lang/IllegalArgumentException", .fieldLink RX8 11 "LinkQueues" "flows" "[LLinkQueues$Flow;"] ++ wsX20 ++ wsX30 ++ wsX80 ++ (vx_atS RX8 73 "java/lang/IllegalArgumentException" ["java/lang/RuntimeException", "java/lang/Exception"]).filter goodWord)
def wsX8_next : List Cond := .code yX8_next cX8_next 3 (some .double) :: ([.fieldLink RX8 93 "LinkQueues$Flow" "delay" "LLinkQueues$Delay;", .fieldLink RX8 209 "LinkQueues$Delay" "drops" "Z", .fieldLink RX8 213 "LinkQueues$Delay" "next" "D", .constantDouble RX8 216 (13830554455654793216), .methodLink RX8 65 yX8_flowAt, .instanceMethod yX8_flowAt, .selects RX8 yX8_flowAt yX8_flowAt, .initialized RX8, .code yX8_flowAt cX8_flowAt 3 (some (.object "LinkQueues$Flow")), .classLink RX8 69 "java/lang/IllegalArgumentException", .initialized "java/lang/IllegalArgumentException", .fieldLink RX8 11 "LinkQueues" "flows" "[LLinkQueues$Flow;"] ++ wsX20 ++ wsX10 ++ wsX80 ++ (vx_atS RX8 73 "java/lang/IllegalArgumentException" ["java/lang/RuntimeException", "java/lang/Exception"]).filter goodWord)
def wsX8_free : List Cond := .code yX8_free cX8_free 1 (some .double) :: ([.fieldLink RX8 59 "LinkQueues" "freeFrom" "D"] ++ wsX80)
def wsX8_sent : List Cond := .code yX8_sent cX8_sent 4 (some .int) :: ([.classLink RX8 69 "java/lang/IllegalArgumentException", .initialized "java/lang/IllegalArgumentException", .fieldLink RX8 32 "LinkQueues" "outlog" "LLinkQueues$Outlog;", .fieldLink RX8 169 "LinkQueues$Packet" "number" "I", .fieldLink RX8 224 "LinkQueues$Packet" "owner" "LLinkQueues$Flow;", .fieldLink RX8 228 "LinkQueues$Flow" "place" "I", .fieldLink RX8 231 "LinkQueues$Packet" "bytes" "I", .fieldLink RX8 232 "LinkQueues$Packet" "wait" "I", .fieldLink RX8 235 "LinkQueues$Packet" "marked" "Z", .methodLink RX8 220 yX4_lastBut, .instanceMethod yX4_lastBut, .selects RX4 yX4_lastBut yX4_lastBut, .initialized RX4, .code yX4_lastBut cX4_lastBut 2 (some (.object "LinkQueues$Packet")), .fieldLink RX4 11 "LinkQueues$Outlog" "row" "[LLinkQueues$Packet;", .fieldLink RX4 15 "LinkQueues$Outlog" "nth" "I", .methodLink RX4 19 yX4_place, .static yX4_place, .code yX4_place cX4_place 1 (some .int)] ++ wsX80 ++ wsX50 ++ wsX20 ++ wsX40 ++ (vx_atS RX8 73 "java/lang/IllegalArgumentException" ["java/lang/RuntimeException", "java/lang/Exception"]).filter goodWord)
def wsX8_round : List Cond := .code yX8_round cX8_round 3 (some .int) :: ([.fieldLink RX8 18 "LinkQueues" "turns" "LLinkQueues$Turns;", .fieldLink RX8 228 "LinkQueues$Flow" "place" "I", .methodLink RX8 237 yX7_flowAfter, .instanceMethod yX7_flowAfter, .selects RX7 yX7_flowAfter yX7_flowAfter, .initialized RX7, .code yX7_flowAfter cX7_flowAfter 4 (some (.object "LinkQueues$Flow")), .fieldLink RX7 7 "LinkQueues$Turns" "first" "LLinkQueues$Flow;", .fieldLink RX7 20 "LinkQueues$Flow" "behind" "LLinkQueues$Flow;"] ++ wsX80 ++ wsX20 ++ wsX70)
def wsX8_clock : List Cond := .code yX8_clock cX8_clock 1 (some .int) :: ([.fieldLink RX8 36 "LinkQueues" "now" "I"] ++ wsX80)
def wsX9_init_r1 : List Cond := [Cond.methodLink RX9 1 objectInit, Cond.instanceMethod objectInit, Cond.code objectInit ⟨#[0xb1]⟩ 1 none, Cond.constantDouble RX9 7 (4636737291354636288), Cond.fieldLink RX9 9 "LinkQueuesModel" "rate" "D", Cond.constant RX9 15 (1000000), Cond.fieldLink RX9 16 "LinkQueuesModel" "limit" "I", Cond.arrayClass .int, Cond.fieldLink RX9 20 "LinkQueuesModel" "kinds" "[I", Cond.fieldLink RX9 24 "LinkQueuesModel" "quanta" "[I", Cond.arrayClass .double, Cond.fieldLink RX9 27 "LinkQueuesModel" "low" "[D", Cond.fieldLink RX9 31 "LinkQueuesModel" "high" "[D", Cond.fieldLink RX9 34 "LinkQueuesModel" "top" "[D", Cond.fieldLink RX9 37 "LinkQueuesModel" "weight" "[D", Cond.fieldLink RX9 40 "LinkQueuesModel" "average" "[D", Cond.fieldLink RX9 43 "LinkQueuesModel" "meanCount" "[I", Cond.fieldLink RX9 46 "LinkQueuesModel" "emptySince" "[I", Cond.fieldLink RX9 49 "LinkQueuesModel" "target" "[D", Cond.fieldLink RX9 52 "LinkQueuesModel" "interval" "[D", Cond.fieldLink RX9 55 "LinkQueuesModel" "above" "[D", Cond.arrayClass .boolean, Cond.fieldLink RX9 58 "LinkQueuesModel" "hasAbove" "[Z", Cond.fieldLink RX9 62 "LinkQueuesModel" "drops" "[Z"]
def wsX9_init_r2 : List Cond := [Cond.fieldLink RX9 65 "LinkQueuesModel" "nextTime" "[D", Cond.fieldLink RX9 68 "LinkQueuesModel" "delayCount" "[I", Cond.fieldLink RX9 71 "LinkQueuesModel" "lastCount" "[I", Cond.fieldLink RX9 74 "LinkQueuesModel" "sizes" "[I", Cond.fieldLink RX9 77 "LinkQueuesModel" "numbers" "[I", Cond.fieldLink RX9 80 "LinkQueuesModel" "bytesOf" "[I", Cond.fieldLink RX9 83 "LinkQueuesModel" "times" "[I", Cond.fieldLink RX9 86 "LinkQueuesModel" "markable" "[Z", Cond.fieldLink RX9 89 "LinkQueuesModel" "marked" "[Z", Cond.fieldLink RX9 92 "LinkQueuesModel" "counts" "[I", Cond.fieldLink RX9 95 "LinkQueuesModel" "round" "[I", Cond.fieldLink RX9 98 "LinkQueuesModel" "deficits" "[I", Cond.fieldLink RX9 101 "LinkQueuesModel" "coinOf" "[D", Cond.fieldLink RX9 104 "LinkQueuesModel" "sentOf" "[I", Cond.constantDouble RX9 107 (4617315517961601024), Cond.constantDouble RX9 109 (4624633867356078080), Cond.constantDouble RX9 111 (4591870180066957722), Cond.constantDouble RX9 113 (4598175219545276416)]
def wsX9_init : List Cond := .code yX9_init cX9_init 2 none :: ((wsX9_init_r1 ++ wsX9_init_r2) ++ wsX90)
def wsX9_thrown : List Cond := .code yX9_thrown cX9_thrown 1 (some .int) :: ([.fieldLink RX9 115 "LinkQueuesModel" "refusal" "I"] ++ wsX90)
def wsX9_refused : List Cond := .code yX9_refused cX9_refused 2 (some .boolean) :: ([.fieldLink RX9 115 "LinkQueuesModel" "refusal" "I"] ++ wsX90)
def wsX9_isIn : List Cond := .code yX9_isIn cX9_isIn 3 (some .boolean) :: ([])
def wsX9_kind : List Cond := .code yX9_kind cX9_kind 4 none :: ([.fieldLink RX9 20 "LinkQueuesModel" "kinds" "[I", .fieldLink RX9 24 "LinkQueuesModel" "quanta" "[I", .fieldLink RX9 40 "LinkQueuesModel" "average" "[D", .fieldLink RX9 43 "LinkQueuesModel" "meanCount" "[I", .fieldLink RX9 46 "LinkQueuesModel" "emptySince" "[I", .fieldLink RX9 126 "LinkQueuesModel" "now" "I", .fieldLink RX9 58 "LinkQueuesModel" "hasAbove" "[Z", .fieldLink RX9 62 "LinkQueuesModel" "drops" "[Z", .fieldLink RX9 65 "LinkQueuesModel" "nextTime" "[D", .fieldLink RX9 68 "LinkQueuesModel" "delayCount" "[I", .fieldLink RX9 71 "LinkQueuesModel" "lastCount" "[I", .methodLink RX9 118 yX9_isIn, .static yX9_isIn, .initialized RX9, .code yX9_isIn cX9_isIn 3 (some .boolean), .methodLink RX9 122 yX9_refused, .instanceMethod yX9_refused, .selects RX9 yX9_refused yX9_refused, .code yX9_refused cX9_refused 2 (some .boolean), .fieldLink RX9 115 "LinkQueuesModel" "refusal" "I"] ++ wsX90)
def wsX9_mean : List Cond := .code yX9_mean cX9_mean 11 none :: ([.constantDouble RX9 129 (4652007308841189376), .fieldLink RX9 27 "LinkQueuesModel" "low" "[D", .fieldLink RX9 31 "LinkQueuesModel" "high" "[D", .fieldLink RX9 34 "LinkQueuesModel" "top" "[D", .fieldLink RX9 37 "LinkQueuesModel" "weight" "[D", .methodLink RX9 118 yX9_isIn, .static yX9_isIn, .initialized RX9, .code yX9_isIn cX9_isIn 3 (some .boolean), .methodLink RX9 122 yX9_refused, .instanceMethod yX9_refused, .selects RX9 yX9_refused yX9_refused, .code yX9_refused cX9_refused 2 (some .boolean), .fieldLink RX9 115 "LinkQueuesModel" "refusal" "I"] ++ wsX90)
def wsX9_delay : List Cond := .code yX9_delay cX9_delay 7 none :: ([.constantDouble RX9 131 (4666723172467343360), .fieldLink RX9 49 "LinkQueuesModel" "target" "[D", .fieldLink RX9 52 "LinkQueuesModel" "interval" "[D", .methodLink RX9 118 yX9_isIn, .static yX9_isIn, .initialized RX9, .code yX9_isIn cX9_isIn 3 (some .boolean), .methodLink RX9 122 yX9_refused, .instanceMethod yX9_refused, .selects RX9 yX9_refused yX9_refused, .code yX9_refused cX9_refused 2 (some .boolean), .fieldLink RX9 115 "LinkQueuesModel" "refusal" "I"] ++ wsX90)
def wsX9_link : List Cond := .code yX9_link cX9_link 5 none :: ([.constantDouble RX9 133 (4593671619917905920), .constantDouble RX9 131 (4666723172467343360), .constant RX9 15 (1000000), .fieldLink RX9 9 "LinkQueuesModel" "rate" "D", .fieldLink RX9 16 "LinkQueuesModel" "limit" "I", .methodLink RX9 118 yX9_isIn, .static yX9_isIn, .initialized RX9, .code yX9_isIn cX9_isIn 3 (some .boolean), .methodLink RX9 122 yX9_refused, .instanceMethod yX9_refused, .selects RX9 yX9_refused yX9_refused, .code yX9_refused cX9_refused 2 (some .boolean), .fieldLink RX9 115 "LinkQueuesModel" "refusal" "I"] ++ wsX90)
def wsX9_coin : List Cond := .code yX9_coin cX9_coin 3 (some .int) :: ([.fieldLink RX9 135 "LinkQueuesModel" "coins" "I", .fieldLink RX9 101 "LinkQueuesModel" "coinOf" "[D", .methodLink RX9 122 yX9_refused, .instanceMethod yX9_refused, .selects RX9 yX9_refused yX9_refused, .initialized RX9, .code yX9_refused cX9_refused 2 (some .boolean), .fieldLink RX9 115 "LinkQueuesModel" "refusal" "I"] ++ wsX90)
def wsX9_useCoin : List Cond := .code yX9_useCoin cX9_useCoin 4 (some .double) :: ([.fieldLink RX9 135 "LinkQueuesModel" "coins" "I", .constantDouble RX9 138 (4602678819172646912), .fieldLink RX9 101 "LinkQueuesModel" "coinOf" "[D"] ++ wsX90)
def wsX9_waiting : List Cond := .code yX9_waiting cX9_waiting 3 (some .int) :: ([.fieldLink RX9 74 "LinkQueuesModel" "sizes" "[I"] ++ wsX90)
def wsX9_bytesWaiting : List Cond := .code yX9_bytesWaiting cX9_bytesWaiting 4 (some .int) :: ([.fieldLink RX9 74 "LinkQueuesModel" "sizes" "[I", .fieldLink RX9 80 "LinkQueuesModel" "bytesOf" "[I"] ++ wsX90)
def wsX9_look : List Cond := .code yX9_look cX9_look 7 (some .int) :: ([.fieldLink RX9 74 "LinkQueuesModel" "sizes" "[I", .fieldLink RX9 126 "LinkQueuesModel" "now" "I", .fieldLink RX9 46 "LinkQueuesModel" "emptySince" "[I", .fieldLink RX9 40 "LinkQueuesModel" "average" "[D", .fieldLink RX9 37 "LinkQueuesModel" "weight" "[D", .fieldLink RX9 27 "LinkQueuesModel" "low" "[D", .fieldLink RX9 43 "LinkQueuesModel" "meanCount" "[I", .fieldLink RX9 31 "LinkQueuesModel" "high" "[D", .fieldLink RX9 34 "LinkQueuesModel" "top" "[D", .methodLink RX9 140 yX9_useCoin, .instanceMethod yX9_useCoin, .selects RX9 yX9_useCoin yX9_useCoin, .initialized RX9, .code yX9_useCoin cX9_useCoin 4 (some .double), .fieldLink RX9 135 "LinkQueuesModel" "coins" "I", .constantDouble RX9 138 (4602678819172646912), .fieldLink RX9 101 "LinkQueuesModel" "coinOf" "[D"] ++ wsX90)
def wsX9_come_r1 : List Cond := [Cond.fieldLink RX9 144 "LinkQueuesModel" "packets" "I", Cond.fieldLink RX9 92 "LinkQueuesModel" "counts" "[I", Cond.fieldLink RX9 16 "LinkQueuesModel" "limit" "I", Cond.fieldLink RX9 20 "LinkQueuesModel" "kinds" "[I", Cond.fieldLink RX9 74 "LinkQueuesModel" "sizes" "[I", Cond.fieldLink RX9 95 "LinkQueuesModel" "round" "[I", Cond.fieldLink RX9 158 "LinkQueuesModel" "roundSize" "I", Cond.fieldLink RX9 98 "LinkQueuesModel" "deficits" "[I", Cond.fieldLink RX9 77 "LinkQueuesModel" "numbers" "[I", Cond.fieldLink RX9 80 "LinkQueuesModel" "bytesOf" "[I", Cond.fieldLink RX9 83 "LinkQueuesModel" "times" "[I", Cond.fieldLink RX9 126 "LinkQueuesModel" "now" "I", Cond.fieldLink RX9 86 "LinkQueuesModel" "markable" "[Z", Cond.fieldLink RX9 89 "LinkQueuesModel" "marked" "[Z", Cond.methodLink RX9 118 yX9_isIn, Cond.static yX9_isIn, Cond.initialized RX9, Cond.code yX9_isIn cX9_isIn 3 (some .boolean), Cond.methodLink RX9 122 yX9_refused, Cond.instanceMethod yX9_refused, Cond.selects RX9 yX9_refused yX9_refused, Cond.code yX9_refused cX9_refused 2 (some .boolean), Cond.fieldLink RX9 115 "LinkQueuesModel" "refusal" "I", Cond.methodLink RX9 147 yX9_bytesWaiting]
def wsX9_come_r2 : List Cond := [Cond.instanceMethod yX9_bytesWaiting, Cond.selects RX9 yX9_bytesWaiting yX9_bytesWaiting, Cond.code yX9_bytesWaiting cX9_bytesWaiting 4 (some .int), Cond.methodLink RX9 151 yX9_waiting, Cond.instanceMethod yX9_waiting, Cond.selects RX9 yX9_waiting yX9_waiting, Cond.code yX9_waiting cX9_waiting 3 (some .int), Cond.methodLink RX9 155 yX9_look, Cond.instanceMethod yX9_look, Cond.selects RX9 yX9_look yX9_look, Cond.code yX9_look cX9_look 7 (some .int), Cond.fieldLink RX9 46 "LinkQueuesModel" "emptySince" "[I", Cond.fieldLink RX9 40 "LinkQueuesModel" "average" "[D", Cond.fieldLink RX9 37 "LinkQueuesModel" "weight" "[D", Cond.fieldLink RX9 27 "LinkQueuesModel" "low" "[D", Cond.fieldLink RX9 43 "LinkQueuesModel" "meanCount" "[I", Cond.fieldLink RX9 31 "LinkQueuesModel" "high" "[D", Cond.fieldLink RX9 34 "LinkQueuesModel" "top" "[D", Cond.methodLink RX9 140 yX9_useCoin, Cond.instanceMethod yX9_useCoin, Cond.selects RX9 yX9_useCoin yX9_useCoin, Cond.code yX9_useCoin cX9_useCoin 4 (some .double), Cond.fieldLink RX9 135 "LinkQueuesModel" "coins" "I", Cond.constantDouble RX9 138 (4602678819172646912)]
def wsX9_come_r3 : List Cond := [Cond.fieldLink RX9 101 "LinkQueuesModel" "coinOf" "[D"]
def wsX9_come : List Cond := .code yX9_come cX9_come 8 (some .int) :: ((wsX9_come_r1 ++ (wsX9_come_r2 ++ wsX9_come_r3)) ++ wsX90)
def wsX9_takeOut : List Cond := .code yX9_takeOut cX9_takeOut 4 none :: ([.fieldLink RX9 77 "LinkQueuesModel" "numbers" "[I", .fieldLink RX9 161 "LinkQueuesModel" "outNumber" "I", .fieldLink RX9 80 "LinkQueuesModel" "bytesOf" "[I", .fieldLink RX9 164 "LinkQueuesModel" "outBytes" "I", .fieldLink RX9 83 "LinkQueuesModel" "times" "[I", .fieldLink RX9 167 "LinkQueuesModel" "outTime" "I", .fieldLink RX9 86 "LinkQueuesModel" "markable" "[Z", .fieldLink RX9 170 "LinkQueuesModel" "outMarkable" "Z", .fieldLink RX9 89 "LinkQueuesModel" "marked" "[Z", .fieldLink RX9 174 "LinkQueuesModel" "outMarked" "Z", .fieldLink RX9 74 "LinkQueuesModel" "sizes" "[I", .fieldLink RX9 46 "LinkQueuesModel" "emptySince" "[I", .fieldLink RX9 126 "LinkQueuesModel" "now" "I"] ++ wsX90)
def wsX9_root : List Cond := .code yX9_root cX9_root 4 (some .double) :: ([.constantDouble RX9 177 (4611686018427387904)])
def wsX9_isHit : List Cond := .code yX9_isHit cX9_isHit 6 (some .boolean) :: ([.fieldLink RX9 126 "LinkQueuesModel" "now" "I", .fieldLink RX9 167 "LinkQueuesModel" "outTime" "I", .fieldLink RX9 49 "LinkQueuesModel" "target" "[D", .fieldLink RX9 74 "LinkQueuesModel" "sizes" "[I", .fieldLink RX9 58 "LinkQueuesModel" "hasAbove" "[Z", .fieldLink RX9 55 "LinkQueuesModel" "above" "[D", .fieldLink RX9 52 "LinkQueuesModel" "interval" "[D", .fieldLink RX9 62 "LinkQueuesModel" "drops" "[Z", .fieldLink RX9 65 "LinkQueuesModel" "nextTime" "[D", .fieldLink RX9 68 "LinkQueuesModel" "delayCount" "[I", .fieldLink RX9 71 "LinkQueuesModel" "lastCount" "[I", .constantDouble RX9 183 (4625196817309499392), .methodLink RX9 179 yX9_root, .static yX9_root, .initialized RX9, .code yX9_root cX9_root 4 (some .double), .constantDouble RX9 177 (4611686018427387904)] ++ wsX90)
def wsX9_leaveRound : List Cond := .code yX9_leaveRound cX9_leaveRound 2 none :: ([.fieldLink RX9 158 "LinkQueuesModel" "roundSize" "I", .fieldLink RX9 95 "LinkQueuesModel" "round" "[I", .fieldLink RX9 185 "LinkQueuesModel" "isTurn" "Z"] ++ wsX90)
def wsX9_choose_r1 : List Cond := [Cond.fieldLink RX9 158 "LinkQueuesModel" "roundSize" "I", Cond.fieldLink RX9 95 "LinkQueuesModel" "round" "[I", Cond.fieldLink RX9 185 "LinkQueuesModel" "isTurn" "Z", Cond.fieldLink RX9 98 "LinkQueuesModel" "deficits" "[I", Cond.fieldLink RX9 24 "LinkQueuesModel" "quanta" "[I", Cond.fieldLink RX9 80 "LinkQueuesModel" "bytesOf" "[I", Cond.fieldLink RX9 20 "LinkQueuesModel" "kinds" "[I", Cond.fieldLink RX9 170 "LinkQueuesModel" "outMarkable" "Z", Cond.fieldLink RX9 92 "LinkQueuesModel" "counts" "[I", Cond.fieldLink RX9 164 "LinkQueuesModel" "outBytes" "I", Cond.fieldLink RX9 174 "LinkQueuesModel" "outMarked" "Z", Cond.fieldLink RX9 74 "LinkQueuesModel" "sizes" "[I", Cond.methodLink RX9 188 yX9_leaveRound, Cond.instanceMethod yX9_leaveRound, Cond.selects RX9 yX9_leaveRound yX9_leaveRound, Cond.initialized RX9, Cond.code yX9_leaveRound cX9_leaveRound 2 none, Cond.methodLink RX9 191 yX9_takeOut, Cond.instanceMethod yX9_takeOut, Cond.selects RX9 yX9_takeOut yX9_takeOut, Cond.code yX9_takeOut cX9_takeOut 4 none, Cond.fieldLink RX9 77 "LinkQueuesModel" "numbers" "[I", Cond.fieldLink RX9 161 "LinkQueuesModel" "outNumber" "I", Cond.fieldLink RX9 83 "LinkQueuesModel" "times" "[I"]
def wsX9_choose_r2 : List Cond := [Cond.fieldLink RX9 167 "LinkQueuesModel" "outTime" "I", Cond.fieldLink RX9 86 "LinkQueuesModel" "markable" "[Z", Cond.fieldLink RX9 89 "LinkQueuesModel" "marked" "[Z", Cond.fieldLink RX9 46 "LinkQueuesModel" "emptySince" "[I", Cond.fieldLink RX9 126 "LinkQueuesModel" "now" "I", Cond.methodLink RX9 195 yX9_isHit, Cond.instanceMethod yX9_isHit, Cond.selects RX9 yX9_isHit yX9_isHit, Cond.code yX9_isHit cX9_isHit 6 (some .boolean), Cond.fieldLink RX9 49 "LinkQueuesModel" "target" "[D", Cond.fieldLink RX9 58 "LinkQueuesModel" "hasAbove" "[Z", Cond.fieldLink RX9 55 "LinkQueuesModel" "above" "[D", Cond.fieldLink RX9 52 "LinkQueuesModel" "interval" "[D", Cond.fieldLink RX9 62 "LinkQueuesModel" "drops" "[Z", Cond.fieldLink RX9 65 "LinkQueuesModel" "nextTime" "[D", Cond.fieldLink RX9 68 "LinkQueuesModel" "delayCount" "[I", Cond.fieldLink RX9 71 "LinkQueuesModel" "lastCount" "[I", Cond.constantDouble RX9 183 (4625196817309499392), Cond.methodLink RX9 179 yX9_root, Cond.static yX9_root, Cond.code yX9_root cX9_root 4 (some .double), Cond.constantDouble RX9 177 (4611686018427387904)]
def wsX9_choose : List Cond := .code yX9_choose cX9_choose 4 (some .int) :: ((wsX9_choose_r1 ++ wsX9_choose_r2) ++ wsX90)
def wsX9_send : List Cond := .code yX9_send cX9_send 3 none :: ([.fieldLink RX9 92 "LinkQueuesModel" "counts" "[I", .fieldLink RX9 164 "LinkQueuesModel" "outBytes" "I", .fieldLink RX9 198 "LinkQueuesModel" "free" "D", .fieldLink RX9 9 "LinkQueuesModel" "rate" "D", .fieldLink RX9 104 "LinkQueuesModel" "sentOf" "[I", .fieldLink RX9 161 "LinkQueuesModel" "outNumber" "I", .fieldLink RX9 126 "LinkQueuesModel" "now" "I", .fieldLink RX9 167 "LinkQueuesModel" "outTime" "I", .fieldLink RX9 174 "LinkQueuesModel" "outMarked" "Z", .fieldLink RX9 201 "LinkQueuesModel" "sentSize" "I"] ++ wsX90)
def wsX9_tick_r1 : List Cond := [Cond.fieldLink RX9 126 "LinkQueuesModel" "now" "I", Cond.fieldLink RX9 198 "LinkQueuesModel" "free" "D", Cond.methodLink RX9 118 yX9_isIn, Cond.static yX9_isIn, Cond.initialized RX9, Cond.code yX9_isIn cX9_isIn 3 (some .boolean), Cond.methodLink RX9 122 yX9_refused, Cond.instanceMethod yX9_refused, Cond.selects RX9 yX9_refused yX9_refused, Cond.code yX9_refused cX9_refused 2 (some .boolean), Cond.fieldLink RX9 115 "LinkQueuesModel" "refusal" "I", Cond.methodLink RX9 204 yX9_choose, Cond.instanceMethod yX9_choose, Cond.selects RX9 yX9_choose yX9_choose, Cond.code yX9_choose cX9_choose 4 (some .int), Cond.fieldLink RX9 158 "LinkQueuesModel" "roundSize" "I", Cond.fieldLink RX9 95 "LinkQueuesModel" "round" "[I", Cond.fieldLink RX9 185 "LinkQueuesModel" "isTurn" "Z", Cond.fieldLink RX9 98 "LinkQueuesModel" "deficits" "[I", Cond.fieldLink RX9 24 "LinkQueuesModel" "quanta" "[I", Cond.fieldLink RX9 80 "LinkQueuesModel" "bytesOf" "[I", Cond.fieldLink RX9 20 "LinkQueuesModel" "kinds" "[I", Cond.fieldLink RX9 170 "LinkQueuesModel" "outMarkable" "Z", Cond.fieldLink RX9 92 "LinkQueuesModel" "counts" "[I"]
def wsX9_tick_r2 : List Cond := [Cond.fieldLink RX9 164 "LinkQueuesModel" "outBytes" "I", Cond.fieldLink RX9 174 "LinkQueuesModel" "outMarked" "Z", Cond.fieldLink RX9 74 "LinkQueuesModel" "sizes" "[I", Cond.methodLink RX9 188 yX9_leaveRound, Cond.instanceMethod yX9_leaveRound, Cond.selects RX9 yX9_leaveRound yX9_leaveRound, Cond.code yX9_leaveRound cX9_leaveRound 2 none, Cond.methodLink RX9 191 yX9_takeOut, Cond.instanceMethod yX9_takeOut, Cond.selects RX9 yX9_takeOut yX9_takeOut, Cond.code yX9_takeOut cX9_takeOut 4 none, Cond.fieldLink RX9 77 "LinkQueuesModel" "numbers" "[I", Cond.fieldLink RX9 161 "LinkQueuesModel" "outNumber" "I", Cond.fieldLink RX9 83 "LinkQueuesModel" "times" "[I", Cond.fieldLink RX9 167 "LinkQueuesModel" "outTime" "I", Cond.fieldLink RX9 86 "LinkQueuesModel" "markable" "[Z", Cond.fieldLink RX9 89 "LinkQueuesModel" "marked" "[Z", Cond.fieldLink RX9 46 "LinkQueuesModel" "emptySince" "[I", Cond.methodLink RX9 195 yX9_isHit, Cond.instanceMethod yX9_isHit, Cond.selects RX9 yX9_isHit yX9_isHit, Cond.code yX9_isHit cX9_isHit 6 (some .boolean), Cond.fieldLink RX9 49 "LinkQueuesModel" "target" "[D", Cond.fieldLink RX9 58 "LinkQueuesModel" "hasAbove" "[Z"]
def wsX9_tick_r3 : List Cond := [Cond.fieldLink RX9 55 "LinkQueuesModel" "above" "[D", Cond.fieldLink RX9 52 "LinkQueuesModel" "interval" "[D", Cond.fieldLink RX9 62 "LinkQueuesModel" "drops" "[Z", Cond.fieldLink RX9 65 "LinkQueuesModel" "nextTime" "[D", Cond.fieldLink RX9 68 "LinkQueuesModel" "delayCount" "[I", Cond.fieldLink RX9 71 "LinkQueuesModel" "lastCount" "[I", Cond.constantDouble RX9 183 (4625196817309499392), Cond.methodLink RX9 179 yX9_root, Cond.static yX9_root, Cond.code yX9_root cX9_root 4 (some .double), Cond.constantDouble RX9 177 (4611686018427387904), Cond.methodLink RX9 207 yX9_send, Cond.instanceMethod yX9_send, Cond.selects RX9 yX9_send yX9_send, Cond.code yX9_send cX9_send 3 none, Cond.fieldLink RX9 9 "LinkQueuesModel" "rate" "D", Cond.fieldLink RX9 104 "LinkQueuesModel" "sentOf" "[I", Cond.fieldLink RX9 201 "LinkQueuesModel" "sentSize" "I"]
def wsX9_tick : List Cond := .code yX9_tick cX9_tick 6 (some .int) :: ((wsX9_tick_r1 ++ (wsX9_tick_r2 ++ wsX9_tick_r3)) ++ wsX90)
def wsX9_isRound : List Cond := .code yX9_isRound cX9_isRound 4 (some .boolean) :: ([.fieldLink RX9 158 "LinkQueuesModel" "roundSize" "I", .fieldLink RX9 95 "LinkQueuesModel" "round" "[I"] ++ wsX90)
def wsX9_count : List Cond := .code yX9_count cX9_count 3 (some .int) :: ([.fieldLink RX9 74 "LinkQueuesModel" "sizes" "[I", .fieldLink RX9 98 "LinkQueuesModel" "deficits" "[I", .fieldLink RX9 92 "LinkQueuesModel" "counts" "[I", .methodLink RX9 118 yX9_isIn, .static yX9_isIn, .initialized RX9, .code yX9_isIn cX9_isIn 3 (some .boolean), .methodLink RX9 122 yX9_refused, .instanceMethod yX9_refused, .selects RX9 yX9_refused yX9_refused, .code yX9_refused cX9_refused 2 (some .boolean), .fieldLink RX9 115 "LinkQueuesModel" "refusal" "I", .methodLink RX9 147 yX9_bytesWaiting, .instanceMethod yX9_bytesWaiting, .selects RX9 yX9_bytesWaiting yX9_bytesWaiting, .code yX9_bytesWaiting cX9_bytesWaiting 4 (some .int), .fieldLink RX9 80 "LinkQueuesModel" "bytesOf" "[I", .methodLink RX9 210 yX9_isRound, .instanceMethod yX9_isRound, .selects RX9 yX9_isRound yX9_isRound, .code yX9_isRound cX9_isRound 4 (some .boolean), .fieldLink RX9 158 "LinkQueuesModel" "roundSize" "I", .fieldLink RX9 95 "LinkQueuesModel" "round" "[I"] ++ wsX90)
def wsX9_average : List Cond := .code yX9_average cX9_average 2 (some .double) :: ([.fieldLink RX9 40 "LinkQueuesModel" "average" "[D", .methodLink RX9 118 yX9_isIn, .static yX9_isIn, .initialized RX9, .code yX9_isIn cX9_isIn 3 (some .boolean), .methodLink RX9 122 yX9_refused, .instanceMethod yX9_refused, .selects RX9 yX9_refused yX9_refused, .code yX9_refused cX9_refused 2 (some .boolean), .fieldLink RX9 115 "LinkQueuesModel" "refusal" "I"] ++ wsX90)
def wsX9_next : List Cond := .code yX9_next cX9_next 2 (some .double) :: ([.fieldLink RX9 62 "LinkQueuesModel" "drops" "[Z", .fieldLink RX9 65 "LinkQueuesModel" "nextTime" "[D", .constantDouble RX9 213 (13830554455654793216), .methodLink RX9 118 yX9_isIn, .static yX9_isIn, .initialized RX9, .code yX9_isIn cX9_isIn 3 (some .boolean), .methodLink RX9 122 yX9_refused, .instanceMethod yX9_refused, .selects RX9 yX9_refused yX9_refused, .code yX9_refused cX9_refused 2 (some .boolean), .fieldLink RX9 115 "LinkQueuesModel" "refusal" "I"] ++ wsX90)
def wsX9_free : List Cond := .code yX9_free cX9_free 1 (some .double) :: ([.fieldLink RX9 115 "LinkQueuesModel" "refusal" "I", .fieldLink RX9 198 "LinkQueuesModel" "free" "D"] ++ wsX90)
def wsX9_sent : List Cond := .code yX9_sent cX9_sent 3 (some .int) :: ([.fieldLink RX9 201 "LinkQueuesModel" "sentSize" "I", .fieldLink RX9 104 "LinkQueuesModel" "sentOf" "[I", .methodLink RX9 118 yX9_isIn, .static yX9_isIn, .initialized RX9, .code yX9_isIn cX9_isIn 3 (some .boolean), .methodLink RX9 122 yX9_refused, .instanceMethod yX9_refused, .selects RX9 yX9_refused yX9_refused, .code yX9_refused cX9_refused 2 (some .boolean), .fieldLink RX9 115 "LinkQueuesModel" "refusal" "I"] ++ wsX90)
def wsX9_round : List Cond := .code yX9_round cX9_round 2 (some .int) :: ([.fieldLink RX9 115 "LinkQueuesModel" "refusal" "I", .fieldLink RX9 158 "LinkQueuesModel" "roundSize" "I", .fieldLink RX9 95 "LinkQueuesModel" "round" "[I", .methodLink RX9 118 yX9_isIn, .static yX9_isIn, .initialized RX9, .code yX9_isIn cX9_isIn 3 (some .boolean)] ++ wsX90)
def wsX9_clock : List Cond := .code yX9_clock cX9_clock 1 (some .int) :: ([.fieldLink RX9 115 "LinkQueuesModel" "refusal" "I", .fieldLink RX9 126 "LinkQueuesModel" "now" "I"] ++ wsX90)
def wsJ9_min_7cf53 : List Cond := .code yJ9_min_7cf53 cJ9_min_7cf53 2 (some .int) :: ([])
def wsL_kind_r1 : List Cond := [Cond.classLink RL 13 "java/lang/IllegalArgumentException", Cond.methodLink RL 7 yX8_kind, Cond.instanceMethod yX8_kind, Cond.selects RX8 yX8_kind yX8_kind, Cond.initialized RX8, Cond.code yX8_kind cX8_kind 5 none, Cond.classLink RX8 69 "java/lang/IllegalArgumentException", Cond.initialized "java/lang/IllegalArgumentException", Cond.fieldLink RX8 78 "LinkQueues$Flow" "kind" "I", Cond.fieldLink RX8 81 "LinkQueues$Flow" "quantum" "I", Cond.fieldLink RX8 84 "LinkQueues$Flow" "mean" "LLinkQueues$Mean;", Cond.fieldLink RX8 36 "LinkQueues" "now" "I", Cond.fieldLink RX8 93 "LinkQueues$Flow" "delay" "LLinkQueues$Delay;", Cond.methodLink RX8 65 yX8_flowAt, Cond.instanceMethod yX8_flowAt, Cond.selects RX8 yX8_flowAt yX8_flowAt, Cond.code yX8_flowAt cX8_flowAt 3 (some (.object "LinkQueues$Flow")), Cond.fieldLink RX8 11 "LinkQueues" "flows" "[LLinkQueues$Flow;", Cond.methodLink RX8 88 yX3_restart, Cond.instanceMethod yX3_restart, Cond.selects RX3 yX3_restart yX3_restart, Cond.initialized RX3, Cond.code yX3_restart cX3_restart 2 none, Cond.fieldLink RX3 30 "LinkQueues$Mean" "average" "D"]
def wsL_kind_r2 : List Cond := [Cond.fieldLink RX3 33 "LinkQueues$Mean" "count" "I", Cond.fieldLink RX3 37 "LinkQueues$Mean" "emptySince" "I", Cond.methodLink RX8 97 yX1_restart, Cond.instanceMethod yX1_restart, Cond.selects RX1 yX1_restart yX1_restart, Cond.initialized RX1, Cond.code yX1_restart cX1_restart 1 none, Cond.fieldLink RX1 20 "LinkQueues$Delay" "isAbove" "Z", Cond.fieldLink RX1 27 "LinkQueues$Delay" "drops" "Z", Cond.fieldLink RX1 33 "LinkQueues$Delay" "count" "I", Cond.fieldLink RX1 37 "LinkQueues$Delay" "last" "I"]
def wsL_kind : List Cond := .codeWith yL_kind cL_kind 5 (some .int) [(0, 7, 10, 13)] :: ((wsL_kind_r1 ++ wsL_kind_r2) ++ wsX20 ++ wsX80 ++ wsX30 ++ wsX10 ++ (vx_atS RX8 73 "java/lang/IllegalArgumentException" ["java/lang/RuntimeException", "java/lang/Exception"]).filter goodWord)
def wsL_mean : List Cond := .codeWith yL_mean cL_mean 11 (some .int) [(0, 12, 15, 13)] :: ([.classLink RL 13 "java/lang/IllegalArgumentException", .methodLink RL 15 yX8_mean, .instanceMethod yX8_mean, .selects RX8 yX8_mean yX8_mean, .initialized RX8, .code yX8_mean cX8_mean 11 none, .classLink RX8 69 "java/lang/IllegalArgumentException", .initialized "java/lang/IllegalArgumentException", .constantDouble RX8 101 (4652007308841189376), .fieldLink RX8 84 "LinkQueues$Flow" "mean" "LLinkQueues$Mean;", .methodLink RX8 65 yX8_flowAt, .instanceMethod yX8_flowAt, .selects RX8 yX8_flowAt yX8_flowAt, .code yX8_flowAt cX8_flowAt 3 (some (.object "LinkQueues$Flow")), .fieldLink RX8 11 "LinkQueues" "flows" "[LLinkQueues$Flow;", .methodLink RX8 109 yX3_tell, .instanceMethod yX3_tell, .selects RX3 yX3_tell yX3_tell, .initialized RX3, .code yX3_tell cX3_tell 9 none, .fieldLink RX3 9 "LinkQueues$Mean" "low" "D", .fieldLink RX3 17 "LinkQueues$Mean" "high" "D", .fieldLink RX3 22 "LinkQueues$Mean" "top" "D", .fieldLink RX3 27 "LinkQueues$Mean" "weight" "D"] ++ wsX20 ++ wsX80 ++ wsX30 ++ (vx_atS RX8 73 "java/lang/IllegalArgumentException" ["java/lang/RuntimeException", "java/lang/Exception"]).filter goodWord)
def wsL_delay : List Cond := .codeWith yL_delay cL_delay 7 (some .int) [(0, 8, 11, 13)] :: ([.classLink RL 13 "java/lang/IllegalArgumentException", .methodLink RL 19 yX8_delay, .instanceMethod yX8_delay, .selects RX8 yX8_delay yX8_delay, .initialized RX8, .code yX8_delay cX8_delay 7 none, .classLink RX8 69 "java/lang/IllegalArgumentException", .initialized "java/lang/IllegalArgumentException", .constantDouble RX8 113 (4666723172467343360), .fieldLink RX8 93 "LinkQueues$Flow" "delay" "LLinkQueues$Delay;", .methodLink RX8 65 yX8_flowAt, .instanceMethod yX8_flowAt, .selects RX8 yX8_flowAt yX8_flowAt, .code yX8_flowAt cX8_flowAt 3 (some (.object "LinkQueues$Flow")), .fieldLink RX8 11 "LinkQueues" "flows" "[LLinkQueues$Flow;", .methodLink RX8 117 yX1_tell, .instanceMethod yX1_tell, .selects RX1 yX1_tell yX1_tell, .initialized RX1, .code yX1_tell cX1_tell 5 none, .fieldLink RX1 9 "LinkQueues$Delay" "target" "D", .fieldLink RX1 17 "LinkQueues$Delay" "interval" "D"] ++ wsX20 ++ wsX80 ++ wsX10 ++ (vx_atS RX8 73 "java/lang/IllegalArgumentException" ["java/lang/RuntimeException", "java/lang/Exception"]).filter goodWord)
def wsL_link : List Cond := .codeWith yL_link cL_link 5 (some .int) [(0, 6, 9, 13)] :: ([.classLink RL 13 "java/lang/IllegalArgumentException", .methodLink RL 23 yX8_link, .instanceMethod yX8_link, .selects RX8 yX8_link yX8_link, .initialized RX8, .code yX8_link cX8_link 4 none, .classLink RX8 69 "java/lang/IllegalArgumentException", .initialized "java/lang/IllegalArgumentException", .constantDouble RX8 120 (4593671619917905920), .constantDouble RX8 113 (4666723172467343360), .constant RX8 49 (1000000), .fieldLink RX8 55 "LinkQueues" "rate" "D", .fieldLink RX8 50 "LinkQueues" "limit" "I"] ++ wsX80 ++ (vx_atS RX8 73 "java/lang/IllegalArgumentException" ["java/lang/RuntimeException", "java/lang/Exception"]).filter goodWord)
def wsL_coin_r1 : List Cond := [Cond.classLink RL 13 "java/lang/IllegalArgumentException", Cond.classLink RL 31 "java/lang/IllegalStateException", Cond.methodLink RL 27 yX8_coin, Cond.instanceMethod yX8_coin, Cond.selects RX8 yX8_coin yX8_coin, Cond.initialized RX8, Cond.code yX8_coin cX8_coin 3 (some .int), Cond.classLink RX8 69 "java/lang/IllegalArgumentException", Cond.initialized "java/lang/IllegalArgumentException", Cond.classLink RX8 132 "java/lang/IllegalStateException", Cond.initialized "java/lang/IllegalStateException", Cond.fieldLink RX8 25 "LinkQueues" "coins" "LLinkQueues$Coins;", Cond.methodLink RX8 128 yX0_isFull, Cond.instanceMethod yX0_isFull, Cond.selects RX0 yX0_isFull yX0_isFull, Cond.initialized RX0, Cond.code yX0_isFull cX0_isFull 1 (some .boolean), Cond.methodLink RX0 20 yX0_waiting, Cond.instanceMethod yX0_waiting, Cond.selects RX0 yX0_waiting yX0_waiting, Cond.code yX0_waiting cX0_waiting 1 (some .int), Cond.fieldLink RX0 13 "LinkQueues$Coins" "told" "I", Cond.fieldLink RX0 17 "LinkQueues$Coins" "used" "I", Cond.methodLink RX8 137 yX0_add]
def wsL_coin_r2 : List Cond := [Cond.instanceMethod yX0_add, Cond.selects RX0 yX0_add yX0_add, Cond.code yX0_add cX0_add 3 none, Cond.fieldLink RX0 9 "LinkQueues$Coins" "row" "[D", Cond.methodLink RX0 24 yX0_place, Cond.static yX0_place, Cond.code yX0_place cX0_place 1 (some .int), Cond.methodLink RX8 141 yX0_waiting]
def wsL_coin : List Cond := .codeWith yL_coin cL_coin 5 (some .int) [(0, 9, 12, 13), (0, 9, 16, 31)] :: ((wsL_coin_r1 ++ wsL_coin_r2) ++ wsX80 ++ wsX00 ++ (vx_atS RX8 73 "java/lang/IllegalArgumentException" ["java/lang/RuntimeException", "java/lang/Exception"]).filter goodWord ++ (vx_atS RX8 136 "java/lang/IllegalStateException" ["java/lang/RuntimeException", "java/lang/Exception"]).filter goodWord)
def wsL_come_r1 : List Cond := [Cond.classLink RL 13 "java/lang/IllegalArgumentException", Cond.methodLink RL 33 yX8_come, Cond.instanceMethod yX8_come, Cond.selects RX8 yX8_come yX8_come, Cond.initialized RX8, Cond.code yX8_come cX8_come 6 (some .int), Cond.classLink RX8 69 "java/lang/IllegalArgumentException", Cond.initialized "java/lang/IllegalArgumentException", Cond.classLink RX8 147 RX5, Cond.instantiable RX5 8, Cond.initialized RX5, Cond.fieldLink RX8 40 "LinkQueues" "numbers" "I", Cond.fieldLink RX8 36 "LinkQueues" "now" "I", Cond.fieldLink RX8 152 "LinkQueues$Flow" "came" "I", Cond.fieldLink RX8 43 "LinkQueues" "waitingPackets" "I", Cond.fieldLink RX8 46 "LinkQueues" "waitingBytes" "I", Cond.fieldLink RX8 50 "LinkQueues" "limit" "I", Cond.fieldLink RX8 155 "LinkQueues$Flow" "lostFull" "I", Cond.fieldLink RX8 25 "LinkQueues" "coins" "LLinkQueues$Coins;", Cond.fieldLink RX8 162 "LinkQueues$Flow" "lostMean" "I", Cond.fieldLink RX8 169 "LinkQueues$Packet" "number" "I", Cond.methodLink RX8 65 yX8_flowAt, Cond.instanceMethod yX8_flowAt, Cond.selects RX8 yX8_flowAt yX8_flowAt]
def wsL_come_r2 : List Cond := [Cond.code yX8_flowAt cX8_flowAt 3 (some (.object "LinkQueues$Flow")), Cond.fieldLink RX8 11 "LinkQueues" "flows" "[LLinkQueues$Flow;", Cond.methodLink RX8 149 yX5_init, Cond.instanceMethod yX5_init, Cond.code yX5_init cX5_init 6 none, Cond.methodLink RX5 1 objectInit, Cond.instanceMethod objectInit, Cond.code objectInit ⟨#[0xb1]⟩ 1 none, Cond.fieldLink RX5 7 "LinkQueues$Packet" "marked" "Z", Cond.fieldLink RX5 13 "LinkQueues$Packet" "wait" "I", Cond.fieldLink RX5 17 "LinkQueues$Packet" "behind" "LLinkQueues$Packet;", Cond.fieldLink RX5 21 "LinkQueues$Packet" "number" "I", Cond.fieldLink RX5 24 "LinkQueues$Packet" "owner" "LLinkQueues$Flow;", Cond.fieldLink RX5 28 "LinkQueues$Packet" "bytes" "I", Cond.fieldLink RX5 31 "LinkQueues$Packet" "cameAt" "I", Cond.fieldLink RX5 34 "LinkQueues$Packet" "markable" "Z", Cond.methodLink RX8 158 yX2_letsIn, Cond.instanceMethod yX2_letsIn, Cond.selects RX2 yX2_letsIn yX2_letsIn, Cond.initialized RX2, Cond.code yX2_letsIn cX2_letsIn 4 (some .boolean), Cond.fieldLink RX2 32 "LinkQueues$Flow" "kind" "I", Cond.fieldLink RX2 21 "LinkQueues$Flow" "mean" "LLinkQueues$Mean;", Cond.fieldLink RX2 12 "LinkQueues$Flow" "queue" "LLinkQueues$Queue;"]
def wsL_come_r3 : List Cond := [Cond.fieldLink RX2 70 "LinkQueues$Queue" "packets" "I", Cond.methodLink RX2 73 yX3_reckon, Cond.instanceMethod yX3_reckon, Cond.selects RX3 yX3_reckon yX3_reckon, Cond.initialized RX3, Cond.code yX3_reckon cX3_reckon 5 none, Cond.fieldLink RX3 30 "LinkQueues$Mean" "average" "D", Cond.fieldLink RX3 27 "LinkQueues$Mean" "weight" "D", Cond.fieldLink RX3 37 "LinkQueues$Mean" "emptySince" "I", Cond.methodLink RX3 40 Lib.Math.min.name, Cond.static Lib.Math.min.name, Cond.initialized "java/lang/Math", Cond.code Lib.Math.min.name Lib.Math.min.code 2 (some .int), Cond.methodLink RX2 77 yX3_refuses, Cond.instanceMethod yX3_refuses, Cond.selects RX3 yX3_refuses yX3_refuses, Cond.code yX3_refuses cX3_refuses 1 (some .boolean), Cond.fieldLink RX3 17 "LinkQueues$Mean" "high" "D", Cond.fieldLink RX3 33 "LinkQueues$Mean" "count" "I", Cond.methodLink RX2 81 yX3_hits, Cond.instanceMethod yX3_hits, Cond.selects RX3 yX3_hits yX3_hits, Cond.code yX3_hits cX3_hits 7 (some .boolean), Cond.fieldLink RX3 9 "LinkQueues$Mean" "low" "D"]
def wsL_come_r4 : List Cond := [Cond.fieldLink RX3 22 "LinkQueues$Mean" "top" "D", Cond.methodLink RX3 46 yX0_use, Cond.instanceMethod yX0_use, Cond.selects RX0 yX0_use yX0_use, Cond.initialized RX0, Cond.code yX0_use cX0_use 3 (some .double), Cond.constantDouble RX0 28 (4602678819172646912), Cond.fieldLink RX0 9 "LinkQueues$Coins" "row" "[D", Cond.fieldLink RX0 17 "LinkQueues$Coins" "used" "I", Cond.methodLink RX0 20 yX0_waiting, Cond.instanceMethod yX0_waiting, Cond.selects RX0 yX0_waiting yX0_waiting, Cond.code yX0_waiting cX0_waiting 1 (some .int), Cond.fieldLink RX0 13 "LinkQueues$Coins" "told" "I", Cond.methodLink RX0 24 yX0_place, Cond.static yX0_place, Cond.code yX0_place cX0_place 1 (some .int), Cond.methodLink RX2 85 yX2_takesMark, Cond.instanceMethod yX2_takesMark, Cond.selects RX2 yX2_takesMark yX2_takesMark, Cond.code yX2_takesMark cX2_takesMark 2 (some .boolean), Cond.fieldLink RX2 97 "LinkQueues$Packet" "markable" "Z", Cond.fieldLink RX2 101 "LinkQueues$Packet" "marked" "Z", Cond.fieldLink RX2 64 "LinkQueues$Flow" "marked" "I"]
def wsL_come_r5 : List Cond := [Cond.methodLink RX8 165 yX8_putIn, Cond.instanceMethod yX8_putIn, Cond.selects RX8 yX8_putIn yX8_putIn, Cond.code yX8_putIn cX8_putIn 2 none, Cond.fieldLink RX8 224 "LinkQueues$Packet" "owner" "LLinkQueues$Flow;", Cond.fieldLink RX8 186 "LinkQueues$Flow" "queue" "LLinkQueues$Queue;", Cond.fieldLink RX8 190 "LinkQueues$Queue" "packets" "I", Cond.fieldLink RX8 18 "LinkQueues" "turns" "LLinkQueues$Turns;", Cond.fieldLink RX8 231 "LinkQueues$Packet" "bytes" "I", Cond.methodLink RX8 280 yX7_join, Cond.instanceMethod yX7_join, Cond.selects RX7 yX7_join yX7_join, Cond.initialized RX7, Cond.code yX7_join cX7_join 2 none, Cond.fieldLink RX7 13 "LinkQueues$Turns" "last" "LLinkQueues$Flow;", Cond.fieldLink RX7 7 "LinkQueues$Turns" "first" "LLinkQueues$Flow;", Cond.fieldLink RX7 20 "LinkQueues$Flow" "behind" "LLinkQueues$Flow;", Cond.methodLink RX8 284 yX6_add, Cond.instanceMethod yX6_add, Cond.selects RX6 yX6_add yX6_add, Cond.initialized RX6, Cond.code yX6_add cX6_add 2 none, Cond.fieldLink RX6 13 "LinkQueues$Queue" "last" "LLinkQueues$Packet;", Cond.fieldLink RX6 7 "LinkQueues$Queue" "first" "LLinkQueues$Packet;"]
def wsL_come_r6 : List Cond := [Cond.fieldLink RX6 23 "LinkQueues$Packet" "behind" "LLinkQueues$Packet;", Cond.fieldLink RX6 16 "LinkQueues$Queue" "packets" "I", Cond.fieldLink RX6 20 "LinkQueues$Queue" "bytes" "I", Cond.fieldLink RX6 28 "LinkQueues$Packet" "bytes" "I"]
def wsL_come : List Cond := .codeWith yL_come cL_come 6 (some .int) [(0, 12, 15, 13)] :: ((wsL_come_r1 ++ (wsL_come_r2 ++ (wsL_come_r3 ++ (wsL_come_r4 ++ (wsL_come_r5 ++ wsL_come_r6))))) ++ wsX50 ++ wsX80 ++ wsX20 ++ wsX60 ++ wsX30 ++ wsX00 ++ wsX70 ++ (vx_atS RX8 73 "java/lang/IllegalArgumentException" ["java/lang/RuntimeException", "java/lang/Exception"]).filter goodWord)
def wsL_tick_r1 : List Cond := [Cond.classLink RL 13 "java/lang/IllegalArgumentException", Cond.methodLink RL 37 yX8_tick, Cond.instanceMethod yX8_tick, Cond.selects RX8 yX8_tick yX8_tick, Cond.initialized RX8, Cond.code yX8_tick cX8_tick 4 (some .int), Cond.classLink RX8 69 "java/lang/IllegalArgumentException", Cond.initialized "java/lang/IllegalArgumentException", Cond.methodLink RX8 174 yX8_oneTick, Cond.instanceMethod yX8_oneTick, Cond.selects RX8 yX8_oneTick yX8_oneTick, Cond.code yX8_oneTick cX8_oneTick 3 (some .int), Cond.fieldLink RX8 36 "LinkQueues" "now" "I", Cond.fieldLink RX8 59 "LinkQueues" "freeFrom" "D", Cond.methodLink RX8 242 yX8_choose, Cond.instanceMethod yX8_choose, Cond.selects RX8 yX8_choose yX8_choose, Cond.code yX8_choose cX8_choose 3 (some (.object "LinkQueues$Packet")), Cond.constant RX8 49 (1000000), Cond.fieldLink RX8 18 "LinkQueues" "turns" "LLinkQueues$Turns;", Cond.fieldLink RX8 251 "LinkQueues$Turns" "first" "LLinkQueues$Flow;", Cond.methodLink RX8 254 yX8_lookAt, Cond.instanceMethod yX8_lookAt, Cond.selects RX8 yX8_lookAt yX8_lookAt]
def wsL_tick_r2 : List Cond := [Cond.code yX8_lookAt cX8_lookAt 4 (some (.object "LinkQueues$Packet")), Cond.fieldLink RX8 186 "LinkQueues$Flow" "queue" "LLinkQueues$Queue;", Cond.fieldLink RX8 261 "LinkQueues$Queue" "first" "LLinkQueues$Packet;", Cond.fieldLink RX8 231 "LinkQueues$Packet" "bytes" "I", Cond.fieldLink RX8 201 "LinkQueues$Flow" "deficit" "I", Cond.fieldLink RX8 180 "LinkQueues$Flow" "lostDelay" "I", Cond.fieldLink RX8 190 "LinkQueues$Queue" "packets" "I", Cond.fieldLink RX8 84 "LinkQueues$Flow" "mean" "LLinkQueues$Mean;", Cond.fieldLink RX8 277 "LinkQueues$Mean" "emptySince" "I", Cond.methodLink RX8 258 yX7_begin, Cond.instanceMethod yX7_begin, Cond.selects RX7 yX7_begin yX7_begin, Cond.initialized RX7, Cond.code yX7_begin cX7_begin 1 none, Cond.fieldLink RX7 7 "LinkQueues$Turns" "first" "LLinkQueues$Flow;", Cond.fieldLink RX7 16 "LinkQueues$Turns" "begun" "Z", Cond.fieldLink RX7 25 "LinkQueues$Flow" "deficit" "I", Cond.fieldLink RX7 29 "LinkQueues$Flow" "quantum" "I", Cond.methodLink RX8 264 yX7_passOn, Cond.instanceMethod yX7_passOn, Cond.selects RX7 yX7_passOn yX7_passOn, Cond.code yX7_passOn cX7_passOn 2 none, Cond.methodLink RX7 32 yX7_takeFirst, Cond.instanceMethod yX7_takeFirst]
def wsL_tick_r3 : List Cond := [Cond.selects RX7 yX7_takeFirst yX7_takeFirst, Cond.code yX7_takeFirst cX7_takeFirst 2 (some (.object "LinkQueues$Flow")), Cond.fieldLink RX7 20 "LinkQueues$Flow" "behind" "LLinkQueues$Flow;", Cond.fieldLink RX7 13 "LinkQueues$Turns" "last" "LLinkQueues$Flow;", Cond.methodLink RX7 36 yX7_join, Cond.instanceMethod yX7_join, Cond.selects RX7 yX7_join yX7_join, Cond.code yX7_join cX7_join 2 none, Cond.methodLink RX8 267 yX8_takeOut, Cond.instanceMethod yX8_takeOut, Cond.selects RX8 yX8_takeOut yX8_takeOut, Cond.code yX8_takeOut cX8_takeOut 2 none, Cond.fieldLink RX8 224 "LinkQueues$Packet" "owner" "LLinkQueues$Flow;", Cond.fieldLink RX8 43 "LinkQueues" "waitingPackets" "I", Cond.fieldLink RX8 46 "LinkQueues" "waitingBytes" "I", Cond.fieldLink RX8 288 "LinkQueues$Packet" "cameAt" "I", Cond.fieldLink RX8 232 "LinkQueues$Packet" "wait" "I", Cond.methodLink RX8 285 yX6_removeFirst, Cond.instanceMethod yX6_removeFirst, Cond.selects RX6 yX6_removeFirst yX6_removeFirst, Cond.initialized RX6, Cond.code yX6_removeFirst cX6_removeFirst 2 none, Cond.fieldLink RX6 7 "LinkQueues$Queue" "first" "LLinkQueues$Packet;", Cond.fieldLink RX6 23 "LinkQueues$Packet" "behind" "LLinkQueues$Packet;"]
def wsL_tick_r4 : List Cond := [Cond.fieldLink RX6 13 "LinkQueues$Queue" "last" "LLinkQueues$Packet;", Cond.fieldLink RX6 16 "LinkQueues$Queue" "packets" "I", Cond.fieldLink RX6 20 "LinkQueues$Queue" "bytes" "I", Cond.fieldLink RX6 28 "LinkQueues$Packet" "bytes" "I", Cond.methodLink RX8 270 yX2_letsOut, Cond.instanceMethod yX2_letsOut, Cond.selects RX2 yX2_letsOut yX2_letsOut, Cond.initialized RX2, Cond.code yX2_letsOut cX2_letsOut 3 (some .boolean), Cond.fieldLink RX2 32 "LinkQueues$Flow" "kind" "I", Cond.fieldLink RX2 28 "LinkQueues$Flow" "delay" "LLinkQueues$Delay;", Cond.fieldLink RX2 89 "LinkQueues$Packet" "wait" "I", Cond.fieldLink RX2 12 "LinkQueues$Flow" "queue" "LLinkQueues$Queue;", Cond.fieldLink RX2 70 "LinkQueues$Queue" "packets" "I", Cond.methodLink RX2 94 yX1_hits, Cond.instanceMethod yX1_hits, Cond.selects RX1 yX1_hits yX1_hits, Cond.initialized RX1, Cond.code yX1_hits cX1_hits 4 (some .boolean), Cond.fieldLink RX1 27 "LinkQueues$Delay" "drops" "Z", Cond.fieldLink RX1 33 "LinkQueues$Delay" "count" "I", Cond.fieldLink RX1 37 "LinkQueues$Delay" "last" "I", Cond.fieldLink RX1 17 "LinkQueues$Delay" "interval" "D", Cond.fieldLink RX1 30 "LinkQueues$Delay" "next" "D"]
def wsL_tick_r5 : List Cond := [Cond.methodLink RX1 40 yX1_isLate, Cond.instanceMethod yX1_isLate, Cond.selects RX1 yX1_isLate yX1_isLate, Cond.code yX1_isLate cX1_isLate 4 (some .boolean), Cond.fieldLink RX1 9 "LinkQueues$Delay" "target" "D", Cond.fieldLink RX1 20 "LinkQueues$Delay" "isAbove" "Z", Cond.fieldLink RX1 24 "LinkQueues$Delay" "above" "D", Cond.methodLink RX1 44 yX1_countToBeginWith, Cond.instanceMethod yX1_countToBeginWith, Cond.selects RX1 yX1_countToBeginWith yX1_countToBeginWith, Cond.code yX1_countToBeginWith cX1_countToBeginWith 3 (some .int), Cond.constantDouble RX1 52 (4625196817309499392), Cond.methodLink RX1 48 yX1_root, Cond.static yX1_root, Cond.code yX1_root cX1_root 4 (some .double), Cond.constantDouble RX1 54 (4611686018427387904), Cond.methodLink RX2 85 yX2_takesMark, Cond.instanceMethod yX2_takesMark, Cond.selects RX2 yX2_takesMark yX2_takesMark, Cond.code yX2_takesMark cX2_takesMark 2 (some .boolean), Cond.fieldLink RX2 97 "LinkQueues$Packet" "markable" "Z", Cond.fieldLink RX2 101 "LinkQueues$Packet" "marked" "Z", Cond.fieldLink RX2 64 "LinkQueues$Flow" "marked" "I", Cond.methodLink RX8 274 yX7_leave]
def wsL_tick_r6 : List Cond := [Cond.instanceMethod yX7_leave, Cond.selects RX7 yX7_leave yX7_leave, Cond.code yX7_leave cX7_leave 2 none, Cond.methodLink RX8 246 yX8_send, Cond.instanceMethod yX8_send, Cond.selects RX8 yX8_send yX8_send, Cond.code yX8_send cX8_send 2 none, Cond.fieldLink RX8 177 "LinkQueues$Flow" "sent" "I", Cond.fieldLink RX8 198 "LinkQueues$Flow" "sentBytes" "I", Cond.fieldLink RX8 32 "LinkQueues" "outlog" "LLinkQueues$Outlog;", Cond.fieldLink RX8 55 "LinkQueues" "rate" "D", Cond.methodLink RX8 249 yX4_add, Cond.instanceMethod yX4_add, Cond.selects RX4 yX4_add yX4_add, Cond.initialized RX4, Cond.code yX4_add cX4_add 2 none, Cond.fieldLink RX4 15 "LinkQueues$Outlog" "nth" "I", Cond.fieldLink RX4 11 "LinkQueues$Outlog" "row" "[LLinkQueues$Packet;", Cond.methodLink RX4 19 yX4_place, Cond.static yX4_place, Cond.code yX4_place cX4_place 1 (some .int)]
def wsL_tick : List Cond := .codeWith yL_tick cL_tick 4 (some .int) [(0, 9, 12, 13)] :: ((wsL_tick_r1 ++ (wsL_tick_r2 ++ (wsL_tick_r3 ++ (wsL_tick_r4 ++ (wsL_tick_r5 ++ wsL_tick_r6))))) ++ wsX80 ++ wsX70 ++ wsX20 ++ wsX60 ++ wsX50 ++ wsX30 ++ wsX10 ++ wsX40 ++ (vx_atS RX8 73 "java/lang/IllegalArgumentException" ["java/lang/RuntimeException", "java/lang/Exception"]).filter goodWord)
def wsL_count : List Cond := .codeWith yL_count cL_count 5 (some .int) [(0, 10, 13, 13)] :: ([.classLink RL 13 "java/lang/IllegalArgumentException", .methodLink RL 41 yX8_count, .instanceMethod yX8_count, .selects RX8 yX8_count yX8_count, .initialized RX8, .code yX8_count cX8_count 4 (some .int), .classLink RX8 69 "java/lang/IllegalArgumentException", .initialized "java/lang/IllegalArgumentException", .fieldLink RX8 152 "LinkQueues$Flow" "came" "I", .fieldLink RX8 177 "LinkQueues$Flow" "sent" "I", .fieldLink RX8 155 "LinkQueues$Flow" "lostFull" "I", .fieldLink RX8 162 "LinkQueues$Flow" "lostMean" "I", .fieldLink RX8 180 "LinkQueues$Flow" "lostDelay" "I", .fieldLink RX8 183 "LinkQueues$Flow" "marked" "I", .fieldLink RX8 186 "LinkQueues$Flow" "queue" "LLinkQueues$Queue;", .fieldLink RX8 190 "LinkQueues$Queue" "packets" "I", .fieldLink RX8 195 "LinkQueues$Queue" "bytes" "I", .fieldLink RX8 198 "LinkQueues$Flow" "sentBytes" "I", .fieldLink RX8 201 "LinkQueues$Flow" "deficit" "I", .methodLink RX8 65 yX8_flowAt, .instanceMethod yX8_flowAt, .selects RX8 yX8_flowAt yX8_flowAt, .code yX8_flowAt cX8_flowAt 3 (some (.object "LinkQueues$Flow")), .fieldLink RX8 11 "LinkQueues" "flows" "[LLinkQueues$Flow;"] ++ wsX20 ++ wsX60 ++ wsX80 ++ (vx_atS RX8 73 "java/lang/IllegalArgumentException" ["java/lang/RuntimeException", "java/lang/Exception"]).filter goodWord)
def wsL_average : List Cond := .codeWith yL_average cL_average 4 (some .int) [(0, 8, 11, 13)] :: ([.classLink RL 13 "java/lang/IllegalArgumentException", .methodLink RL 45 yX8_average, .instanceMethod yX8_average, .selects RX8 yX8_average yX8_average, .initialized RX8, .code yX8_average cX8_average 2 (some .double), .fieldLink RX8 84 "LinkQueues$Flow" "mean" "LLinkQueues$Mean;", .fieldLink RX8 206 "LinkQueues$Mean" "average" "D", .methodLink RX8 65 yX8_flowAt, .instanceMethod yX8_flowAt, .selects RX8 yX8_flowAt yX8_flowAt, .code yX8_flowAt cX8_flowAt 3 (some (.object "LinkQueues$Flow")), .classLink RX8 69 "java/lang/IllegalArgumentException", .initialized "java/lang/IllegalArgumentException", .fieldLink RX8 11 "LinkQueues" "flows" "[LLinkQueues$Flow;"] ++ wsX20 ++ wsX30 ++ wsX80 ++ (vx_atS RX8 73 "java/lang/IllegalArgumentException" ["java/lang/RuntimeException", "java/lang/Exception"]).filter goodWord)
def wsL_next : List Cond := .codeWith yL_next cL_next 4 (some .int) [(0, 8, 11, 13)] :: ([.classLink RL 13 "java/lang/IllegalArgumentException", .methodLink RL 49 yX8_next, .instanceMethod yX8_next, .selects RX8 yX8_next yX8_next, .initialized RX8, .code yX8_next cX8_next 3 (some .double), .fieldLink RX8 93 "LinkQueues$Flow" "delay" "LLinkQueues$Delay;", .fieldLink RX8 209 "LinkQueues$Delay" "drops" "Z", .fieldLink RX8 213 "LinkQueues$Delay" "next" "D", .constantDouble RX8 216 (13830554455654793216), .methodLink RX8 65 yX8_flowAt, .instanceMethod yX8_flowAt, .selects RX8 yX8_flowAt yX8_flowAt, .code yX8_flowAt cX8_flowAt 3 (some (.object "LinkQueues$Flow")), .classLink RX8 69 "java/lang/IllegalArgumentException", .initialized "java/lang/IllegalArgumentException", .fieldLink RX8 11 "LinkQueues" "flows" "[LLinkQueues$Flow;"] ++ wsX20 ++ wsX10 ++ wsX80 ++ (vx_atS RX8 73 "java/lang/IllegalArgumentException" ["java/lang/RuntimeException", "java/lang/Exception"]).filter goodWord)
def wsL_sent_r1 : List Cond := [Cond.classLink RL 13 "java/lang/IllegalArgumentException", Cond.methodLink RL 52 yX8_sent, Cond.instanceMethod yX8_sent, Cond.selects RX8 yX8_sent yX8_sent, Cond.initialized RX8, Cond.code yX8_sent cX8_sent 4 (some .int), Cond.classLink RX8 69 "java/lang/IllegalArgumentException", Cond.initialized "java/lang/IllegalArgumentException", Cond.fieldLink RX8 32 "LinkQueues" "outlog" "LLinkQueues$Outlog;", Cond.fieldLink RX8 169 "LinkQueues$Packet" "number" "I", Cond.fieldLink RX8 224 "LinkQueues$Packet" "owner" "LLinkQueues$Flow;", Cond.fieldLink RX8 228 "LinkQueues$Flow" "place" "I", Cond.fieldLink RX8 231 "LinkQueues$Packet" "bytes" "I", Cond.fieldLink RX8 232 "LinkQueues$Packet" "wait" "I", Cond.fieldLink RX8 235 "LinkQueues$Packet" "marked" "Z", Cond.methodLink RX8 220 yX4_lastBut, Cond.instanceMethod yX4_lastBut, Cond.selects RX4 yX4_lastBut yX4_lastBut, Cond.initialized RX4, Cond.code yX4_lastBut cX4_lastBut 2 (some (.object "LinkQueues$Packet")), Cond.fieldLink RX4 11 "LinkQueues$Outlog" "row" "[LLinkQueues$Packet;", Cond.fieldLink RX4 15 "LinkQueues$Outlog" "nth" "I", Cond.methodLink RX4 19 yX4_place, Cond.static yX4_place]
def wsL_sent_r2 : List Cond := [Cond.code yX4_place cX4_place 1 (some .int)]
def wsL_sent : List Cond := .codeWith yL_sent cL_sent 5 (some .int) [(0, 10, 13, 13)] :: ((wsL_sent_r1 ++ wsL_sent_r2) ++ wsX80 ++ wsX50 ++ wsX20 ++ wsX40 ++ (vx_atS RX8 73 "java/lang/IllegalArgumentException" ["java/lang/RuntimeException", "java/lang/Exception"]).filter goodWord)
theorem dJ9_min_7cf53_0 : decode cJ9_min_7cf53 0 = .ok (.iload_n 0, 1) := by decide +kernel
theorem dJ9_min_7cf53_1 : decode cJ9_min_7cf53 1 = .ok (.iload_n 1, 1) := by decide +kernel
theorem dJ9_min_7cf53_2 : decode cJ9_min_7cf53 2 = .ok (.if_icmp .gt 7, 3) := by decide +kernel
theorem dJ9_min_7cf53_5 : decode cJ9_min_7cf53 5 = .ok (.iload_n 0, 1) := by decide +kernel
theorem dJ9_min_7cf53_6 : decode cJ9_min_7cf53 6 = .ok (.goto 4, 3) := by decide +kernel
theorem dJ9_min_7cf53_9 : decode cJ9_min_7cf53 9 = .ok (.iload_n 1, 1) := by decide +kernel
theorem dJ9_min_7cf53_10 : decode cJ9_min_7cf53 10 = .ok (.ireturn, 1) := by decide +kernel
abbrev vwCl : List vw_C := [(RX0, TX0, 3), (RX1, TX1, 8), (RX2, TX2, 15), (RX3, TX3, 7), (RX4, TX4, 2), (RX5, TX5, 8), (RX6, TX6, 4), (RX7, TX7, 3), (RX8, TX8, 11), (RX9, TX9, 43)]
end
section
theorem dX0_init_0 : decode cX0_init 0 = .ok (.aload_n 0, 1) := by decide +kernel
theorem dX0_init_1 : decode cX0_init 1 = .ok (.invokespecial 1, 3) := by decide +kernel
theorem dX0_init_4 : decode cX0_init 4 = .ok (.aload_n 0, 1) := by decide +kernel
theorem dX0_init_5 : decode cX0_init 5 = .ok (.bipush 64, 2) := by decide +kernel
theorem dX0_init_7 : decode cX0_init 7 = .ok (.newarray .double, 2) := by decide +kernel
theorem dX0_init_9 : decode cX0_init 9 = .ok (.putfield 9, 3) := by decide +kernel
theorem dX0_init_12 : decode cX0_init 12 = .ok (.aload_n 0, 1) := by decide +kernel
theorem dX0_init_13 : decode cX0_init 13 = .ok (.iconst 0, 1) := by decide +kernel
theorem dX0_init_14 : decode cX0_init 14 = .ok (.putfield 13, 3) := by decide +kernel
theorem dX0_init_17 : decode cX0_init 17 = .ok (.aload_n 0, 1) := by decide +kernel
theorem dX0_init_18 : decode cX0_init 18 = .ok (.iconst 0, 1) := by decide +kernel
theorem dX0_init_19 : decode cX0_init 19 = .ok (.putfield 17, 3) := by decide +kernel
theorem dX0_init_22 : decode cX0_init 22 = .ok (.return_, 1) := by decide +kernel
theorem dX0_waiting_0 : decode cX0_waiting 0 = .ok (.aload_n 0, 1) := by decide +kernel
theorem dX0_waiting_1 : decode cX0_waiting 1 = .ok (.getfield 13, 3) := by decide +kernel
theorem dX0_waiting_4 : decode cX0_waiting 4 = .ok (.aload_n 0, 1) := by decide +kernel
theorem dX0_waiting_5 : decode cX0_waiting 5 = .ok (.getfield 17, 3) := by decide +kernel
theorem dX0_waiting_8 : decode cX0_waiting 8 = .ok (.isub, 1) := by decide +kernel
theorem dX0_waiting_9 : decode cX0_waiting 9 = .ok (.ireturn, 1) := by decide +kernel
set_option maxRecDepth 20000 in
theorem ggX0_isFull_X0_waiting : GoodIn wsX0_isFull wsX0_waiting := goodIn_r _ [5, 6, 7, 8, 9, 10] (by decide +kernel) (by decide +kernel)
set_option maxRecDepth 20000 in
theorem gX0_isFull_X0_waiting : GoodIn wsX0_isFull (wsV RX0 20 RX0 yX0_waiting wsX0_waiting) := goodIn_app (goodIn_of _ (by decide +kernel)) ggX0_isFull_X0_waiting
theorem dX0_isFull_0 : decode cX0_isFull 0 = .ok (.aload_n 0, 1) := by decide +kernel
theorem dX0_isFull_1 : decode cX0_isFull 1 = .ok (.invokevirtual 20, 3) := by decide +kernel
theorem dX0_isFull_4 : decode cX0_isFull 4 = .ok (.bipush 64, 2) := by decide +kernel
theorem dX0_isFull_6 : decode cX0_isFull 6 = .ok (.if_icmp .lt 7, 3) := by decide +kernel
theorem dX0_isFull_9 : decode cX0_isFull 9 = .ok (.iconst 1, 1) := by decide +kernel
theorem dX0_isFull_10 : decode cX0_isFull 10 = .ok (.goto 4, 3) := by decide +kernel
theorem dX0_isFull_13 : decode cX0_isFull 13 = .ok (.iconst 0, 1) := by decide +kernel
theorem dX0_isFull_14 : decode cX0_isFull 14 = .ok (.ireturn, 1) := by decide +kernel
set_option maxRecDepth 20000 in
theorem ggX0_add_X0_place : GoodIn wsX0_add wsX0_place := goodIn_r _ [6] (by decide +kernel) (by decide +kernel)
set_option maxRecDepth 20000 in
theorem gX0_add_X0_place : GoodIn wsX0_add (va_wsS RX0 24 yX0_place wsX0_place) := goodIn_app (goodIn_of _ (by decide +kernel)) ggX0_add_X0_place
theorem dX0_add_0 : decode cX0_add 0 = .ok (.aload_n 0, 1) := by decide +kernel
theorem dX0_add_1 : decode cX0_add 1 = .ok (.getfield 9, 3) := by decide +kernel
theorem dX0_add_4 : decode cX0_add 4 = .ok (.aload_n 0, 1) := by decide +kernel
theorem dX0_add_5 : decode cX0_add 5 = .ok (.getfield 13, 3) := by decide +kernel
theorem dX0_add_8 : decode cX0_add 8 = .ok (.invokestatic 24, 3) := by decide +kernel
theorem dX0_add_11 : decode cX0_add 11 = .ok (.dload_n 1, 1) := by decide +kernel
theorem dX0_add_12 : decode cX0_add 12 = .ok (.dastore, 1) := by decide +kernel
theorem dX0_add_13 : decode cX0_add 13 = .ok (.aload_n 0, 1) := by decide +kernel
theorem dX0_add_14 : decode cX0_add 14 = .ok (.dup, 1) := by decide +kernel
theorem dX0_add_15 : decode cX0_add 15 = .ok (.getfield 13, 3) := by decide +kernel
theorem dX0_add_18 : decode cX0_add 18 = .ok (.iconst 1, 1) := by decide +kernel
theorem dX0_add_19 : decode cX0_add 19 = .ok (.iadd, 1) := by decide +kernel
theorem dX0_add_20 : decode cX0_add 20 = .ok (.putfield 13, 3) := by decide +kernel
theorem dX0_add_23 : decode cX0_add 23 = .ok (.return_, 1) := by decide +kernel
set_option maxRecDepth 20000 in
theorem ggX0_use_X0_waiting : GoodIn wsX0_use wsX0_waiting := goodIn_r _ [8, 9, 3, 13, 14, 15] (by decide +kernel) (by decide +kernel)
set_option maxRecDepth 20000 in
theorem gX0_use_X0_waiting : GoodIn wsX0_use (wsV RX0 20 RX0 yX0_waiting wsX0_waiting) := goodIn_app (goodIn_of _ (by decide +kernel)) ggX0_use_X0_waiting
set_option maxRecDepth 20000 in
theorem ggX0_use_X0_place : GoodIn wsX0_use wsX0_place := goodIn_r _ [12] (by decide +kernel) (by decide +kernel)
set_option maxRecDepth 20000 in
theorem gX0_use_X0_place : GoodIn wsX0_use (va_wsS RX0 24 yX0_place wsX0_place) := goodIn_app (goodIn_of _ (by decide +kernel)) ggX0_use_X0_place
theorem dX0_use_0 : decode cX0_use 0 = .ok (.aload_n 0, 1) := by decide +kernel
theorem dX0_use_1 : decode cX0_use 1 = .ok (.invokevirtual 20, 3) := by decide +kernel
theorem dX0_use_4 : decode cX0_use 4 = .ok (.ifCond .gt 7, 3) := by decide +kernel
theorem dX0_use_7 : decode cX0_use 7 = .ok (.ldc2_w 28, 3) := by decide +kernel
theorem dX0_use_10 : decode cX0_use 10 = .ok (.dreturn, 1) := by decide +kernel
theorem dX0_use_11 : decode cX0_use 11 = .ok (.aload_n 0, 1) := by decide +kernel
theorem dX0_use_12 : decode cX0_use 12 = .ok (.getfield 9, 3) := by decide +kernel
theorem dX0_use_15 : decode cX0_use 15 = .ok (.aload_n 0, 1) := by decide +kernel
theorem dX0_use_16 : decode cX0_use 16 = .ok (.getfield 17, 3) := by decide +kernel
theorem dX0_use_19 : decode cX0_use 19 = .ok (.invokestatic 24, 3) := by decide +kernel
theorem dX0_use_22 : decode cX0_use 22 = .ok (.daload, 1) := by decide +kernel
theorem dX0_use_23 : decode cX0_use 23 = .ok (.dstore_n 1, 1) := by decide +kernel
theorem dX0_use_24 : decode cX0_use 24 = .ok (.aload_n 0, 1) := by decide +kernel
theorem dX0_use_25 : decode cX0_use 25 = .ok (.dup, 1) := by decide +kernel
theorem dX0_use_26 : decode cX0_use 26 = .ok (.getfield 17, 3) := by decide +kernel
theorem dX0_use_29 : decode cX0_use 29 = .ok (.iconst 1, 1) := by decide +kernel
theorem dX0_use_30 : decode cX0_use 30 = .ok (.iadd, 1) := by decide +kernel
theorem dX0_use_31 : decode cX0_use 31 = .ok (.putfield 17, 3) := by decide +kernel
theorem dX0_use_34 : decode cX0_use 34 = .ok (.dload_n 1, 1) := by decide +kernel
theorem dX0_use_35 : decode cX0_use 35 = .ok (.dreturn, 1) := by decide +kernel
theorem dX0_place_0 : decode cX0_place 0 = .ok (.iload_n 0, 1) := by decide +kernel
theorem dX0_place_1 : decode cX0_place 1 = .ok (.bipush 63, 2) := by decide +kernel
theorem dX0_place_3 : decode cX0_place 3 = .ok (.iand, 1) := by decide +kernel
theorem dX0_place_4 : decode cX0_place 4 = .ok (.ireturn, 1) := by decide +kernel
theorem dX1_init_0 : decode cX1_init 0 = .ok (.aload_n 0, 1) := by decide +kernel
theorem dX1_init_1 : decode cX1_init 1 = .ok (.invokespecial 1, 3) := by decide +kernel
theorem dX1_init_4 : decode cX1_init 4 = .ok (.aload_n 0, 1) := by decide +kernel
theorem dX1_init_5 : decode cX1_init 5 = .ok (.ldc2_w 7, 3) := by decide +kernel
theorem dX1_init_8 : decode cX1_init 8 = .ok (.putfield 9, 3) := by decide +kernel
theorem dX1_init_11 : decode cX1_init 11 = .ok (.aload_n 0, 1) := by decide +kernel
theorem dX1_init_12 : decode cX1_init 12 = .ok (.ldc2_w 15, 3) := by decide +kernel
theorem dX1_init_15 : decode cX1_init 15 = .ok (.putfield 17, 3) := by decide +kernel
theorem dX1_init_18 : decode cX1_init 18 = .ok (.aload_n 0, 1) := by decide +kernel
theorem dX1_init_19 : decode cX1_init 19 = .ok (.iconst 0, 1) := by decide +kernel
theorem dX1_init_20 : decode cX1_init 20 = .ok (.putfield 20, 3) := by decide +kernel
theorem dX1_init_23 : decode cX1_init 23 = .ok (.aload_n 0, 1) := by decide +kernel
theorem dX1_init_24 : decode cX1_init 24 = .ok (.dconst 0, 1) := by decide +kernel
theorem dX1_init_25 : decode cX1_init 25 = .ok (.putfield 24, 3) := by decide +kernel
theorem dX1_init_28 : decode cX1_init 28 = .ok (.aload_n 0, 1) := by decide +kernel
theorem dX1_init_29 : decode cX1_init 29 = .ok (.iconst 0, 1) := by decide +kernel
theorem dX1_init_30 : decode cX1_init 30 = .ok (.putfield 27, 3) := by decide +kernel
theorem dX1_init_33 : decode cX1_init 33 = .ok (.aload_n 0, 1) := by decide +kernel
theorem dX1_init_34 : decode cX1_init 34 = .ok (.dconst 0, 1) := by decide +kernel
theorem dX1_init_35 : decode cX1_init 35 = .ok (.putfield 30, 3) := by decide +kernel
theorem dX1_init_38 : decode cX1_init 38 = .ok (.aload_n 0, 1) := by decide +kernel
theorem dX1_init_39 : decode cX1_init 39 = .ok (.iconst 0, 1) := by decide +kernel
theorem dX1_init_40 : decode cX1_init 40 = .ok (.putfield 33, 3) := by decide +kernel
theorem dX1_init_43 : decode cX1_init 43 = .ok (.aload_n 0, 1) := by decide +kernel
theorem dX1_init_44 : decode cX1_init 44 = .ok (.iconst 0, 1) := by decide +kernel
theorem dX1_init_45 : decode cX1_init 45 = .ok (.putfield 37, 3) := by decide +kernel
theorem dX1_init_48 : decode cX1_init 48 = .ok (.return_, 1) := by decide +kernel
theorem dX1_tell_0 : decode cX1_tell 0 = .ok (.aload_n 0, 1) := by decide +kernel
theorem dX1_tell_1 : decode cX1_tell 1 = .ok (.dload_n 1, 1) := by decide +kernel
theorem dX1_tell_2 : decode cX1_tell 2 = .ok (.putfield 9, 3) := by decide +kernel
theorem dX1_tell_5 : decode cX1_tell 5 = .ok (.aload_n 0, 1) := by decide +kernel
theorem dX1_tell_6 : decode cX1_tell 6 = .ok (.dload_n 3, 1) := by decide +kernel
theorem dX1_tell_7 : decode cX1_tell 7 = .ok (.putfield 17, 3) := by decide +kernel
theorem dX1_tell_10 : decode cX1_tell 10 = .ok (.return_, 1) := by decide +kernel
theorem dX1_restart_0 : decode cX1_restart 0 = .ok (.aload_n 0, 1) := by decide +kernel
theorem dX1_restart_1 : decode cX1_restart 1 = .ok (.iconst 0, 1) := by decide +kernel
theorem dX1_restart_2 : decode cX1_restart 2 = .ok (.putfield 20, 3) := by decide +kernel
theorem dX1_restart_5 : decode cX1_restart 5 = .ok (.aload_n 0, 1) := by decide +kernel
theorem dX1_restart_6 : decode cX1_restart 6 = .ok (.iconst 0, 1) := by decide +kernel
theorem dX1_restart_7 : decode cX1_restart 7 = .ok (.putfield 27, 3) := by decide +kernel
theorem dX1_restart_10 : decode cX1_restart 10 = .ok (.aload_n 0, 1) := by decide +kernel
theorem dX1_restart_11 : decode cX1_restart 11 = .ok (.iconst 0, 1) := by decide +kernel
theorem dX1_restart_12 : decode cX1_restart 12 = .ok (.putfield 33, 3) := by decide +kernel
theorem dX1_restart_15 : decode cX1_restart 15 = .ok (.aload_n 0, 1) := by decide +kernel
theorem dX1_restart_16 : decode cX1_restart 16 = .ok (.iconst 0, 1) := by decide +kernel
theorem dX1_restart_17 : decode cX1_restart 17 = .ok (.putfield 37, 3) := by decide +kernel
theorem dX1_restart_20 : decode cX1_restart 20 = .ok (.return_, 1) := by decide +kernel
set_option maxRecDepth 20000 in
theorem ggX1_hits_X1_isLate : GoodIn wsX1_hits wsX1_isLate := goodIn_r _ [10, 11, 12, 4, 13, 23, 24, 25, 26, 27, 28, 29, 30] (by decide +kernel) (by decide +kernel)
set_option maxRecDepth 20000 in
theorem gX1_hits_X1_isLate : GoodIn wsX1_hits (wsV RX1 40 RX1 yX1_isLate wsX1_isLate) := goodIn_app (goodIn_of _ (by decide +kernel)) ggX1_hits_X1_isLate
set_option maxRecDepth 20000 in
theorem ggX1_hits_X1_countToBeginWith : GoodIn wsX1_hits wsX1_countToBeginWith := goodIn_r _ [17, 2, 3, 5, 18, 4, 23, 24, 25, 26, 27, 28, 29, 30] (by decide +kernel) (by decide +kernel)
set_option maxRecDepth 20000 in
theorem gX1_hits_X1_countToBeginWith : GoodIn wsX1_hits (wsV RX1 44 RX1 yX1_countToBeginWith wsX1_countToBeginWith) := goodIn_app (goodIn_of _ (by decide +kernel)) ggX1_hits_X1_countToBeginWith
set_option maxRecDepth 20000 in
theorem ggX1_hits_X1_root : GoodIn wsX1_hits wsX1_root := goodIn_r _ [21, 22] (by decide +kernel) (by decide +kernel)
set_option maxRecDepth 20000 in
theorem gX1_hits_X1_root : GoodIn wsX1_hits (va_wsS RX1 48 yX1_root wsX1_root) := goodIn_app (goodIn_of _ (by decide +kernel)) ggX1_hits_X1_root
theorem dX1_hits_0 : decode cX1_hits 0 = .ok (.aload_n 0, 1) := by decide +kernel
theorem dX1_hits_1 : decode cX1_hits 1 = .ok (.iload_n 1, 1) := by decide +kernel
theorem dX1_hits_2 : decode cX1_hits 2 = .ok (.iload_n 2, 1) := by decide +kernel
theorem dX1_hits_3 : decode cX1_hits 3 = .ok (.iload_n 3, 1) := by decide +kernel
theorem dX1_hits_4 : decode cX1_hits 4 = .ok (.invokevirtual 40, 3) := by decide +kernel
theorem dX1_hits_7 : decode cX1_hits 7 = .ok (.ifCond .ne 10, 3) := by decide +kernel
theorem dX1_hits_10 : decode cX1_hits 10 = .ok (.aload_n 0, 1) := by decide +kernel
theorem dX1_hits_11 : decode cX1_hits 11 = .ok (.iconst 0, 1) := by decide +kernel
theorem dX1_hits_12 : decode cX1_hits 12 = .ok (.putfield 27, 3) := by decide +kernel
theorem dX1_hits_15 : decode cX1_hits 15 = .ok (.iconst 0, 1) := by decide +kernel
theorem dX1_hits_16 : decode cX1_hits 16 = .ok (.ireturn, 1) := by decide +kernel
theorem dX1_hits_17 : decode cX1_hits 17 = .ok (.aload_n 0, 1) := by decide +kernel
theorem dX1_hits_18 : decode cX1_hits 18 = .ok (.getfield 27, 3) := by decide +kernel
theorem dX1_hits_21 : decode cX1_hits 21 = .ok (.ifCond .ne 46, 3) := by decide +kernel
theorem dX1_hits_24 : decode cX1_hits 24 = .ok (.aload_n 0, 1) := by decide +kernel
theorem dX1_hits_25 : decode cX1_hits 25 = .ok (.iconst 1, 1) := by decide +kernel
theorem dX1_hits_26 : decode cX1_hits 26 = .ok (.putfield 27, 3) := by decide +kernel
theorem dX1_hits_29 : decode cX1_hits 29 = .ok (.aload_n 0, 1) := by decide +kernel
theorem dX1_hits_30 : decode cX1_hits 30 = .ok (.aload_n 0, 1) := by decide +kernel
theorem dX1_hits_31 : decode cX1_hits 31 = .ok (.iload_n 2, 1) := by decide +kernel
theorem dX1_hits_32 : decode cX1_hits 32 = .ok (.invokevirtual 44, 3) := by decide +kernel
theorem dX1_hits_35 : decode cX1_hits 35 = .ok (.putfield 33, 3) := by decide +kernel
theorem dX1_hits_38 : decode cX1_hits 38 = .ok (.aload_n 0, 1) := by decide +kernel
theorem dX1_hits_39 : decode cX1_hits 39 = .ok (.aload_n 0, 1) := by decide +kernel
theorem dX1_hits_40 : decode cX1_hits 40 = .ok (.getfield 33, 3) := by decide +kernel
theorem dX1_hits_43 : decode cX1_hits 43 = .ok (.putfield 37, 3) := by decide +kernel
theorem dX1_hits_46 : decode cX1_hits 46 = .ok (.aload_n 0, 1) := by decide +kernel
theorem dX1_hits_47 : decode cX1_hits 47 = .ok (.iload_n 2, 1) := by decide +kernel
theorem dX1_hits_48 : decode cX1_hits 48 = .ok (.i2d, 1) := by decide +kernel
theorem dX1_hits_49 : decode cX1_hits 49 = .ok (.aload_n 0, 1) := by decide +kernel
theorem dX1_hits_50 : decode cX1_hits 50 = .ok (.getfield 17, 3) := by decide +kernel
theorem dX1_hits_53 : decode cX1_hits 53 = .ok (.aload_n 0, 1) := by decide +kernel
theorem dX1_hits_54 : decode cX1_hits 54 = .ok (.getfield 33, 3) := by decide +kernel
theorem dX1_hits_57 : decode cX1_hits 57 = .ok (.invokestatic 48, 3) := by decide +kernel
theorem dX1_hits_60 : decode cX1_hits 60 = .ok (.ddiv, 1) := by decide +kernel
theorem dX1_hits_61 : decode cX1_hits 61 = .ok (.dadd, 1) := by decide +kernel
theorem dX1_hits_62 : decode cX1_hits 62 = .ok (.putfield 30, 3) := by decide +kernel
theorem dX1_hits_65 : decode cX1_hits 65 = .ok (.iconst 1, 1) := by decide +kernel
theorem dX1_hits_66 : decode cX1_hits 66 = .ok (.ireturn, 1) := by decide +kernel
theorem dX1_hits_67 : decode cX1_hits 67 = .ok (.iload_n 2, 1) := by decide +kernel
theorem dX1_hits_68 : decode cX1_hits 68 = .ok (.i2d, 1) := by decide +kernel
theorem dX1_hits_69 : decode cX1_hits 69 = .ok (.aload_n 0, 1) := by decide +kernel
theorem dX1_hits_70 : decode cX1_hits 70 = .ok (.getfield 30, 3) := by decide +kernel
theorem dX1_hits_73 : decode cX1_hits 73 = .ok (.dcmp .g, 1) := by decide +kernel
theorem dX1_hits_74 : decode cX1_hits 74 = .ok (.ifCond .ge 5, 3) := by decide +kernel
theorem dX1_hits_77 : decode cX1_hits 77 = .ok (.iconst 0, 1) := by decide +kernel
theorem dX1_hits_78 : decode cX1_hits 78 = .ok (.ireturn, 1) := by decide +kernel
theorem dX1_hits_79 : decode cX1_hits 79 = .ok (.aload_n 0, 1) := by decide +kernel
theorem dX1_hits_80 : decode cX1_hits 80 = .ok (.dup, 1) := by decide +kernel
theorem dX1_hits_81 : decode cX1_hits 81 = .ok (.getfield 33, 3) := by decide +kernel
theorem dX1_hits_84 : decode cX1_hits 84 = .ok (.iconst 1, 1) := by decide +kernel
theorem dX1_hits_85 : decode cX1_hits 85 = .ok (.iadd, 1) := by decide +kernel
theorem dX1_hits_86 : decode cX1_hits 86 = .ok (.putfield 33, 3) := by decide +kernel
theorem dX1_hits_89 : decode cX1_hits 89 = .ok (.aload_n 0, 1) := by decide +kernel
theorem dX1_hits_90 : decode cX1_hits 90 = .ok (.aload_n 0, 1) := by decide +kernel
theorem dX1_hits_91 : decode cX1_hits 91 = .ok (.getfield 30, 3) := by decide +kernel
theorem dX1_hits_94 : decode cX1_hits 94 = .ok (.aload_n 0, 1) := by decide +kernel
theorem dX1_hits_95 : decode cX1_hits 95 = .ok (.getfield 17, 3) := by decide +kernel
theorem dX1_hits_98 : decode cX1_hits 98 = .ok (.aload_n 0, 1) := by decide +kernel
theorem dX1_hits_99 : decode cX1_hits 99 = .ok (.getfield 33, 3) := by decide +kernel
theorem dX1_hits_102 : decode cX1_hits 102 = .ok (.invokestatic 48, 3) := by decide +kernel
theorem dX1_hits_105 : decode cX1_hits 105 = .ok (.ddiv, 1) := by decide +kernel
theorem dX1_hits_106 : decode cX1_hits 106 = .ok (.dadd, 1) := by decide +kernel
theorem dX1_hits_107 : decode cX1_hits 107 = .ok (.putfield 30, 3) := by decide +kernel
theorem dX1_hits_110 : decode cX1_hits 110 = .ok (.iconst 1, 1) := by decide +kernel
theorem dX1_hits_111 : decode cX1_hits 111 = .ok (.ireturn, 1) := by decide +kernel
theorem dX1_isLate_0 : decode cX1_isLate 0 = .ok (.iload_n 1, 1) := by decide +kernel
theorem dX1_isLate_1 : decode cX1_isLate 1 = .ok (.i2d, 1) := by decide +kernel
theorem dX1_isLate_2 : decode cX1_isLate 2 = .ok (.aload_n 0, 1) := by decide +kernel
theorem dX1_isLate_3 : decode cX1_isLate 3 = .ok (.getfield 9, 3) := by decide +kernel
theorem dX1_isLate_6 : decode cX1_isLate 6 = .ok (.dcmp .g, 1) := by decide +kernel
theorem dX1_isLate_7 : decode cX1_isLate 7 = .ok (.ifCond .lt 7, 3) := by decide +kernel
theorem dX1_isLate_10 : decode cX1_isLate 10 = .ok (.iload_n 3, 1) := by decide +kernel
theorem dX1_isLate_11 : decode cX1_isLate 11 = .ok (.ifCond .eq 10, 3) := by decide +kernel
theorem dX1_isLate_14 : decode cX1_isLate 14 = .ok (.aload_n 0, 1) := by decide +kernel
theorem dX1_isLate_15 : decode cX1_isLate 15 = .ok (.iconst 0, 1) := by decide +kernel
theorem dX1_isLate_16 : decode cX1_isLate 16 = .ok (.putfield 20, 3) := by decide +kernel
theorem dX1_isLate_19 : decode cX1_isLate 19 = .ok (.iconst 0, 1) := by decide +kernel
theorem dX1_isLate_20 : decode cX1_isLate 20 = .ok (.ireturn, 1) := by decide +kernel
theorem dX1_isLate_21 : decode cX1_isLate 21 = .ok (.aload_n 0, 1) := by decide +kernel
theorem dX1_isLate_22 : decode cX1_isLate 22 = .ok (.getfield 20, 3) := by decide +kernel
theorem dX1_isLate_25 : decode cX1_isLate 25 = .ok (.ifCond .ne 21, 3) := by decide +kernel
theorem dX1_isLate_28 : decode cX1_isLate 28 = .ok (.aload_n 0, 1) := by decide +kernel
theorem dX1_isLate_29 : decode cX1_isLate 29 = .ok (.iconst 1, 1) := by decide +kernel
theorem dX1_isLate_30 : decode cX1_isLate 30 = .ok (.putfield 20, 3) := by decide +kernel
theorem dX1_isLate_33 : decode cX1_isLate 33 = .ok (.aload_n 0, 1) := by decide +kernel
theorem dX1_isLate_34 : decode cX1_isLate 34 = .ok (.iload_n 2, 1) := by decide +kernel
theorem dX1_isLate_35 : decode cX1_isLate 35 = .ok (.i2d, 1) := by decide +kernel
theorem dX1_isLate_36 : decode cX1_isLate 36 = .ok (.aload_n 0, 1) := by decide +kernel
theorem dX1_isLate_37 : decode cX1_isLate 37 = .ok (.getfield 17, 3) := by decide +kernel
theorem dX1_isLate_40 : decode cX1_isLate 40 = .ok (.dadd, 1) := by decide +kernel
theorem dX1_isLate_41 : decode cX1_isLate 41 = .ok (.putfield 24, 3) := by decide +kernel
theorem dX1_isLate_44 : decode cX1_isLate 44 = .ok (.iconst 0, 1) := by decide +kernel
theorem dX1_isLate_45 : decode cX1_isLate 45 = .ok (.ireturn, 1) := by decide +kernel
theorem dX1_isLate_46 : decode cX1_isLate 46 = .ok (.iload_n 2, 1) := by decide +kernel
theorem dX1_isLate_47 : decode cX1_isLate 47 = .ok (.i2d, 1) := by decide +kernel
theorem dX1_isLate_48 : decode cX1_isLate 48 = .ok (.aload_n 0, 1) := by decide +kernel
theorem dX1_isLate_49 : decode cX1_isLate 49 = .ok (.getfield 24, 3) := by decide +kernel
theorem dX1_isLate_52 : decode cX1_isLate 52 = .ok (.dcmp .l, 1) := by decide +kernel
theorem dX1_isLate_53 : decode cX1_isLate 53 = .ok (.ifCond .lt 7, 3) := by decide +kernel
theorem dX1_isLate_56 : decode cX1_isLate 56 = .ok (.iconst 1, 1) := by decide +kernel
theorem dX1_isLate_57 : decode cX1_isLate 57 = .ok (.goto 4, 3) := by decide +kernel
theorem dX1_isLate_60 : decode cX1_isLate 60 = .ok (.iconst 0, 1) := by decide +kernel
theorem dX1_isLate_61 : decode cX1_isLate 61 = .ok (.ireturn, 1) := by decide +kernel
theorem dX1_countToBeginWith_0 : decode cX1_countToBeginWith 0 = .ok (.aload_n 0, 1) := by decide +kernel
theorem dX1_countToBeginWith_1 : decode cX1_countToBeginWith 1 = .ok (.getfield 33, 3) := by decide +kernel
theorem dX1_countToBeginWith_4 : decode cX1_countToBeginWith 4 = .ok (.aload_n 0, 1) := by decide +kernel
theorem dX1_countToBeginWith_5 : decode cX1_countToBeginWith 5 = .ok (.getfield 37, 3) := by decide +kernel
theorem dX1_countToBeginWith_8 : decode cX1_countToBeginWith 8 = .ok (.isub, 1) := by decide +kernel
theorem dX1_countToBeginWith_9 : decode cX1_countToBeginWith 9 = .ok (.istore_n 2, 1) := by decide +kernel
theorem dX1_countToBeginWith_10 : decode cX1_countToBeginWith 10 = .ok (.iload_n 2, 1) := by decide +kernel
theorem dX1_countToBeginWith_11 : decode cX1_countToBeginWith 11 = .ok (.iconst 1, 1) := by decide +kernel
theorem dX1_countToBeginWith_12 : decode cX1_countToBeginWith 12 = .ok (.if_icmp .le 26, 3) := by decide +kernel
theorem dX1_countToBeginWith_15 : decode cX1_countToBeginWith 15 = .ok (.iload_n 1, 1) := by decide +kernel
theorem dX1_countToBeginWith_16 : decode cX1_countToBeginWith 16 = .ok (.i2d, 1) := by decide +kernel
theorem dX1_countToBeginWith_17 : decode cX1_countToBeginWith 17 = .ok (.aload_n 0, 1) := by decide +kernel
theorem dX1_countToBeginWith_18 : decode cX1_countToBeginWith 18 = .ok (.getfield 30, 3) := by decide +kernel
theorem dX1_countToBeginWith_21 : decode cX1_countToBeginWith 21 = .ok (.dsub, 1) := by decide +kernel
theorem dX1_countToBeginWith_22 : decode cX1_countToBeginWith 22 = .ok (.ldc2_w 52, 3) := by decide +kernel
theorem dX1_countToBeginWith_25 : decode cX1_countToBeginWith 25 = .ok (.aload_n 0, 1) := by decide +kernel
theorem dX1_countToBeginWith_26 : decode cX1_countToBeginWith 26 = .ok (.getfield 17, 3) := by decide +kernel
theorem dX1_countToBeginWith_29 : decode cX1_countToBeginWith 29 = .ok (.dmul, 1) := by decide +kernel
theorem dX1_countToBeginWith_30 : decode cX1_countToBeginWith 30 = .ok (.dcmp .g, 1) := by decide +kernel
theorem dX1_countToBeginWith_31 : decode cX1_countToBeginWith 31 = .ok (.ifCond .ge 7, 3) := by decide +kernel
theorem dX1_countToBeginWith_34 : decode cX1_countToBeginWith 34 = .ok (.iload_n 2, 1) := by decide +kernel
theorem dX1_countToBeginWith_35 : decode cX1_countToBeginWith 35 = .ok (.goto 4, 3) := by decide +kernel
theorem dX1_countToBeginWith_38 : decode cX1_countToBeginWith 38 = .ok (.iconst 1, 1) := by decide +kernel
theorem dX1_countToBeginWith_39 : decode cX1_countToBeginWith 39 = .ok (.ireturn, 1) := by decide +kernel
theorem dX1_root_0 : decode cX1_root 0 = .ok (.iload_n 0, 1) := by decide +kernel
theorem dX1_root_1 : decode cX1_root 1 = .ok (.i2d, 1) := by decide +kernel
theorem dX1_root_2 : decode cX1_root 2 = .ok (.dstore_n 1, 1) := by decide +kernel
theorem dX1_root_3 : decode cX1_root 3 = .ok (.iconst 0, 1) := by decide +kernel
theorem dX1_root_4 : decode cX1_root 4 = .ok (.istore_n 3, 1) := by decide +kernel
theorem dX1_root_5 : decode cX1_root 5 = .ok (.iload_n 3, 1) := by decide +kernel
theorem dX1_root_6 : decode cX1_root 6 = .ok (.bipush 20, 2) := by decide +kernel
theorem dX1_root_8 : decode cX1_root 8 = .ok (.if_icmp .ge 26, 3) := by decide +kernel
theorem dX1_root_11 : decode cX1_root 11 = .ok (.dload_n 1, 1) := by decide +kernel
theorem dX1_root_12 : decode cX1_root 12 = .ok (.dconst 0, 1) := by decide +kernel
theorem dX1_root_13 : decode cX1_root 13 = .ok (.dcmp .l, 1) := by decide +kernel
theorem dX1_root_14 : decode cX1_root 14 = .ok (.ifCond .le 20, 3) := by decide +kernel
theorem dX1_root_17 : decode cX1_root 17 = .ok (.dload_n 1, 1) := by decide +kernel
theorem dX1_root_18 : decode cX1_root 18 = .ok (.iload_n 0, 1) := by decide +kernel
theorem dX1_root_19 : decode cX1_root 19 = .ok (.i2d, 1) := by decide +kernel
theorem dX1_root_20 : decode cX1_root 20 = .ok (.dload_n 1, 1) := by decide +kernel
theorem dX1_root_21 : decode cX1_root 21 = .ok (.ddiv, 1) := by decide +kernel
theorem dX1_root_22 : decode cX1_root 22 = .ok (.dadd, 1) := by decide +kernel
theorem dX1_root_23 : decode cX1_root 23 = .ok (.ldc2_w 54, 3) := by decide +kernel
theorem dX1_root_26 : decode cX1_root 26 = .ok (.ddiv, 1) := by decide +kernel
theorem dX1_root_27 : decode cX1_root 27 = .ok (.dstore_n 1, 1) := by decide +kernel
theorem dX1_root_28 : decode cX1_root 28 = .ok (.iinc 3 1, 3) := by decide +kernel
theorem dX1_root_31 : decode cX1_root 31 = .ok (.goto (-26), 3) := by decide +kernel
theorem dX1_root_34 : decode cX1_root 34 = .ok (.dload_n 1, 1) := by decide +kernel
theorem dX1_root_35 : decode cX1_root 35 = .ok (.dreturn, 1) := by decide +kernel
set_option maxRecDepth 20000 in
theorem ggX2_init_X6_init : GoodIn wsX2_init wsX6_init := goodIn_r _ [29, 30, 2, 3, 31, 32, 33, 34, 62, 63, 64, 65] (by decide +kernel) (by decide +kernel)
set_option maxRecDepth 20000 in
theorem gX2_init_X6_init_n11 : GoodIn wsX2_init (wsX6_init) := ggX2_init_X6_init
set_option maxRecDepth 20000 in
theorem ggX2_init_X3_init : GoodIn wsX2_init wsX3_init := goodIn_r _ [36, 37, 2, 3, 38, 39, 40, 41, 42, 43, 44, 45, 46, 47, 48, 81, 82, 83, 84, 85, 86, 87] (by decide +kernel) (by decide +kernel)
set_option maxRecDepth 20000 in
theorem gX2_init_X3_init_n20 : GoodIn wsX2_init (wsX3_init) := ggX2_init_X3_init
set_option maxRecDepth 20000 in
theorem ggX2_init_X1_init : GoodIn wsX2_init wsX1_init := goodIn_r _ [50, 51, 2, 3, 52, 53, 54, 55, 56, 57, 58, 59, 60, 61, 88, 89, 90, 91, 92, 93, 94, 95] (by decide +kernel) (by decide +kernel)
set_option maxRecDepth 20000 in
theorem gX2_init_X1_init_n27 : GoodIn wsX2_init (wsX1_init) := ggX2_init_X1_init
theorem dX2_init_0 : decode cX2_init 0 = .ok (.aload_n 0, 1) := by decide +kernel
theorem dX2_init_1 : decode cX2_init 1 = .ok (.invokespecial 3, 3) := by decide +kernel
theorem dX2_init_4 : decode cX2_init 4 = .ok (.aload_n 0, 1) := by decide +kernel
theorem dX2_init_5 : decode cX2_init 5 = .ok (.new 9, 3) := by decide +kernel
theorem dX2_init_8 : decode cX2_init 8 = .ok (.dup, 1) := by decide +kernel
theorem dX2_init_9 : decode cX2_init 9 = .ok (.invokespecial 11, 3) := by decide +kernel
theorem dX2_init_12 : decode cX2_init 12 = .ok (.putfield 12, 3) := by decide +kernel
theorem dX2_init_15 : decode cX2_init 15 = .ok (.aload_n 0, 1) := by decide +kernel
theorem dX2_init_16 : decode cX2_init 16 = .ok (.new 18, 3) := by decide +kernel
theorem dX2_init_19 : decode cX2_init 19 = .ok (.dup, 1) := by decide +kernel
theorem dX2_init_20 : decode cX2_init 20 = .ok (.invokespecial 20, 3) := by decide +kernel
theorem dX2_init_23 : decode cX2_init 23 = .ok (.putfield 21, 3) := by decide +kernel
theorem dX2_init_26 : decode cX2_init 26 = .ok (.aload_n 0, 1) := by decide +kernel
theorem dX2_init_27 : decode cX2_init 27 = .ok (.new 25, 3) := by decide +kernel
theorem dX2_init_30 : decode cX2_init 30 = .ok (.dup, 1) := by decide +kernel
theorem dX2_init_31 : decode cX2_init 31 = .ok (.invokespecial 27, 3) := by decide +kernel
theorem dX2_init_34 : decode cX2_init 34 = .ok (.putfield 28, 3) := by decide +kernel
theorem dX2_init_37 : decode cX2_init 37 = .ok (.aload_n 0, 1) := by decide +kernel
theorem dX2_init_38 : decode cX2_init 38 = .ok (.iconst 0, 1) := by decide +kernel
theorem dX2_init_39 : decode cX2_init 39 = .ok (.putfield 32, 3) := by decide +kernel
theorem dX2_init_42 : decode cX2_init 42 = .ok (.aload_n 0, 1) := by decide +kernel
theorem dX2_init_43 : decode cX2_init 43 = .ok (.sipush 1500, 3) := by decide +kernel
theorem dX2_init_46 : decode cX2_init 46 = .ok (.putfield 36, 3) := by decide +kernel
theorem dX2_init_49 : decode cX2_init 49 = .ok (.aload_n 0, 1) := by decide +kernel
theorem dX2_init_50 : decode cX2_init 50 = .ok (.iconst 0, 1) := by decide +kernel
theorem dX2_init_51 : decode cX2_init 51 = .ok (.putfield 39, 3) := by decide +kernel
theorem dX2_init_54 : decode cX2_init 54 = .ok (.aload_n 0, 1) := by decide +kernel
theorem dX2_init_55 : decode cX2_init 55 = .ok (.aconst_null, 1) := by decide +kernel
theorem dX2_init_56 : decode cX2_init 56 = .ok (.putfield 42, 3) := by decide +kernel
theorem dX2_init_59 : decode cX2_init 59 = .ok (.aload_n 0, 1) := by decide +kernel
theorem dX2_init_60 : decode cX2_init 60 = .ok (.iconst 0, 1) := by decide +kernel
theorem dX2_init_61 : decode cX2_init 61 = .ok (.putfield 46, 3) := by decide +kernel
theorem dX2_init_64 : decode cX2_init 64 = .ok (.aload_n 0, 1) := by decide +kernel
theorem dX2_init_65 : decode cX2_init 65 = .ok (.iconst 0, 1) := by decide +kernel
theorem dX2_init_66 : decode cX2_init 66 = .ok (.putfield 49, 3) := by decide +kernel
theorem dX2_init_69 : decode cX2_init 69 = .ok (.aload_n 0, 1) := by decide +kernel
theorem dX2_init_70 : decode cX2_init 70 = .ok (.iconst 0, 1) := by decide +kernel
theorem dX2_init_71 : decode cX2_init 71 = .ok (.putfield 52, 3) := by decide +kernel
theorem dX2_init_74 : decode cX2_init 74 = .ok (.aload_n 0, 1) := by decide +kernel
theorem dX2_init_75 : decode cX2_init 75 = .ok (.iconst 0, 1) := by decide +kernel
theorem dX2_init_76 : decode cX2_init 76 = .ok (.putfield 55, 3) := by decide +kernel
theorem dX2_init_79 : decode cX2_init 79 = .ok (.aload_n 0, 1) := by decide +kernel
theorem dX2_init_80 : decode cX2_init 80 = .ok (.iconst 0, 1) := by decide +kernel
theorem dX2_init_81 : decode cX2_init 81 = .ok (.putfield 58, 3) := by decide +kernel
theorem dX2_init_84 : decode cX2_init 84 = .ok (.aload_n 0, 1) := by decide +kernel
theorem dX2_init_85 : decode cX2_init 85 = .ok (.iconst 0, 1) := by decide +kernel
theorem dX2_init_86 : decode cX2_init 86 = .ok (.putfield 61, 3) := by decide +kernel
theorem dX2_init_89 : decode cX2_init 89 = .ok (.aload_n 0, 1) := by decide +kernel
theorem dX2_init_90 : decode cX2_init 90 = .ok (.iconst 0, 1) := by decide +kernel
theorem dX2_init_91 : decode cX2_init 91 = .ok (.putfield 64, 3) := by decide +kernel
theorem dX2_init_94 : decode cX2_init 94 = .ok (.aload_n 0, 1) := by decide +kernel
theorem dX2_init_95 : decode cX2_init 95 = .ok (.iload_n 1, 1) := by decide +kernel
theorem dX2_init_96 : decode cX2_init 96 = .ok (.putfield 67, 3) := by decide +kernel
theorem dX2_init_99 : decode cX2_init 99 = .ok (.return_, 1) := by decide +kernel
set_option maxRecDepth 20000 in
theorem ggX2_letsIn_X3_reckon : GoodIn wsX2_letsIn wsX3_reckon := goodIn_r _ [9, 10, 11, 12, 13, 14, 15, 16, 72, 73, 74, 75, 76, 77, 78] (by decide +kernel) (by decide +kernel)
set_option maxRecDepth 20000 in
theorem gX2_letsIn_X3_reckon : GoodIn wsX2_letsIn (wsV RX2 73 RX3 yX3_reckon wsX3_reckon) := goodIn_app (goodIn_of _ (by decide +kernel)) ggX2_letsIn_X3_reckon
set_option maxRecDepth 20000 in
theorem ggX2_letsIn_X3_refuses : GoodIn wsX2_letsIn wsX3_refuses := goodIn_r _ [20, 10, 21, 22, 72, 73, 74, 75, 76, 77, 78] (by decide +kernel) (by decide +kernel)
set_option maxRecDepth 20000 in
theorem gX2_letsIn_X3_refuses : GoodIn wsX2_letsIn (wsV RX2 77 RX3 yX3_refuses wsX3_refuses) := goodIn_app (goodIn_of _ (by decide +kernel)) ggX2_letsIn_X3_refuses
set_option maxRecDepth 20000 in
theorem ggX2_letsIn_X3_hits : GoodIn wsX2_letsIn wsX3_hits := goodIn_r _ [26, 10, 27, 22, 28, 21, 29, 30, 31, 32, 33, 34, 35, 36, 37, 38, 39, 40, 41, 42, 43, 44, 72, 73, 74, 75, 76, 77, 78, 79, 80, 81] (by decide +kernel) (by decide +kernel)
set_option maxRecDepth 20000 in
theorem gX2_letsIn_X3_hits : GoodIn wsX2_letsIn (wsV RX2 81 RX3 yX3_hits wsX3_hits) := goodIn_app (goodIn_of _ (by decide +kernel)) ggX2_letsIn_X3_hits
set_option maxRecDepth 20000 in
theorem ggX2_letsIn_X2_takesMark : GoodIn wsX2_letsIn wsX2_takesMark := goodIn_r _ [49, 50, 51, 52, 82, 83, 84, 85, 86, 87, 88, 89, 53, 54, 55, 56, 57, 58, 59, 60, 61, 62, 63, 64, 65, 66, 67] (by decide +kernel) (by decide +kernel)
set_option maxRecDepth 20000 in
theorem gX2_letsIn_X2_takesMark : GoodIn wsX2_letsIn (wsV RX2 85 RX2 yX2_takesMark wsX2_takesMark) := goodIn_app (goodIn_of _ (by decide +kernel)) ggX2_letsIn_X2_takesMark
theorem dX2_letsIn_0 : decode cX2_letsIn 0 = .ok (.aload_n 0, 1) := by decide +kernel
theorem dX2_letsIn_1 : decode cX2_letsIn 1 = .ok (.getfield 32, 3) := by decide +kernel
theorem dX2_letsIn_4 : decode cX2_letsIn 4 = .ok (.iconst 1, 1) := by decide +kernel
theorem dX2_letsIn_5 : decode cX2_letsIn 5 = .ok (.if_icmp .eq 5, 3) := by decide +kernel
theorem dX2_letsIn_8 : decode cX2_letsIn 8 = .ok (.iconst 1, 1) := by decide +kernel
theorem dX2_letsIn_9 : decode cX2_letsIn 9 = .ok (.ireturn, 1) := by decide +kernel
theorem dX2_letsIn_10 : decode cX2_letsIn 10 = .ok (.aload_n 0, 1) := by decide +kernel
theorem dX2_letsIn_11 : decode cX2_letsIn 11 = .ok (.getfield 21, 3) := by decide +kernel
theorem dX2_letsIn_14 : decode cX2_letsIn 14 = .ok (.aload_n 0, 1) := by decide +kernel
theorem dX2_letsIn_15 : decode cX2_letsIn 15 = .ok (.getfield 12, 3) := by decide +kernel
theorem dX2_letsIn_18 : decode cX2_letsIn 18 = .ok (.getfield 70, 3) := by decide +kernel
theorem dX2_letsIn_21 : decode cX2_letsIn 21 = .ok (.iload_n 2, 1) := by decide +kernel
theorem dX2_letsIn_22 : decode cX2_letsIn 22 = .ok (.invokevirtual 73, 3) := by decide +kernel
theorem dX2_letsIn_25 : decode cX2_letsIn 25 = .ok (.aload_n 0, 1) := by decide +kernel
theorem dX2_letsIn_26 : decode cX2_letsIn 26 = .ok (.getfield 21, 3) := by decide +kernel
theorem dX2_letsIn_29 : decode cX2_letsIn 29 = .ok (.invokevirtual 77, 3) := by decide +kernel
theorem dX2_letsIn_32 : decode cX2_letsIn 32 = .ok (.ifCond .eq 5, 3) := by decide +kernel
theorem dX2_letsIn_35 : decode cX2_letsIn 35 = .ok (.iconst 0, 1) := by decide +kernel
theorem dX2_letsIn_36 : decode cX2_letsIn 36 = .ok (.ireturn, 1) := by decide +kernel
theorem dX2_letsIn_37 : decode cX2_letsIn 37 = .ok (.aload_n 0, 1) := by decide +kernel
theorem dX2_letsIn_38 : decode cX2_letsIn 38 = .ok (.getfield 21, 3) := by decide +kernel
theorem dX2_letsIn_41 : decode cX2_letsIn 41 = .ok (.aload_n 3, 1) := by decide +kernel
theorem dX2_letsIn_42 : decode cX2_letsIn 42 = .ok (.invokevirtual 81, 3) := by decide +kernel
theorem dX2_letsIn_45 : decode cX2_letsIn 45 = .ok (.ifCond .eq 11, 3) := by decide +kernel
theorem dX2_letsIn_48 : decode cX2_letsIn 48 = .ok (.aload_n 0, 1) := by decide +kernel
theorem dX2_letsIn_49 : decode cX2_letsIn 49 = .ok (.aload_n 1, 1) := by decide +kernel
theorem dX2_letsIn_50 : decode cX2_letsIn 50 = .ok (.invokevirtual 85, 3) := by decide +kernel
theorem dX2_letsIn_53 : decode cX2_letsIn 53 = .ok (.ifCond .eq 7, 3) := by decide +kernel
theorem dX2_letsIn_56 : decode cX2_letsIn 56 = .ok (.iconst 1, 1) := by decide +kernel
theorem dX2_letsIn_57 : decode cX2_letsIn 57 = .ok (.goto 4, 3) := by decide +kernel
theorem dX2_letsIn_60 : decode cX2_letsIn 60 = .ok (.iconst 0, 1) := by decide +kernel
theorem dX2_letsIn_61 : decode cX2_letsIn 61 = .ok (.ireturn, 1) := by decide +kernel
set_option maxRecDepth 20000 in
theorem ggX2_letsOut_X1_hits : GoodIn wsX2_letsOut wsX1_hits := goodIn_r _ [10, 11, 12, 13, 14, 15, 16, 17, 18, 9, 19, 20, 21, 22, 23, 24, 25, 26, 27, 28, 29, 30, 31, 67, 68, 69, 70, 71, 72, 73, 74] (by decide +kernel) (by decide +kernel)
set_option maxRecDepth 20000 in
theorem gX2_letsOut_X1_hits : GoodIn wsX2_letsOut (wsV RX2 94 RX1 yX1_hits wsX1_hits) := goodIn_app (goodIn_of _ (by decide +kernel)) ggX2_letsOut_X1_hits
set_option maxRecDepth 20000 in
theorem ggX2_letsOut_X2_takesMark : GoodIn wsX2_letsOut wsX2_takesMark := goodIn_r _ [36, 37, 38, 39, 55, 56, 57, 58, 59, 60, 61, 62, 40, 41, 42, 43, 44, 45, 46, 47, 48, 49, 50, 51, 52, 53, 54] (by decide +kernel) (by decide +kernel)
set_option maxRecDepth 20000 in
theorem gX2_letsOut_X2_takesMark : GoodIn wsX2_letsOut (wsV RX2 85 RX2 yX2_takesMark wsX2_takesMark) := goodIn_app (goodIn_of _ (by decide +kernel)) ggX2_letsOut_X2_takesMark
theorem dX2_letsOut_0 : decode cX2_letsOut 0 = .ok (.aload_n 0, 1) := by decide +kernel
theorem dX2_letsOut_1 : decode cX2_letsOut 1 = .ok (.getfield 32, 3) := by decide +kernel
theorem dX2_letsOut_4 : decode cX2_letsOut 4 = .ok (.iconst 2, 1) := by decide +kernel
theorem dX2_letsOut_5 : decode cX2_letsOut 5 = .ok (.if_icmp .eq 5, 3) := by decide +kernel
theorem dX2_letsOut_8 : decode cX2_letsOut 8 = .ok (.iconst 1, 1) := by decide +kernel
theorem dX2_letsOut_9 : decode cX2_letsOut 9 = .ok (.ireturn, 1) := by decide +kernel
theorem dX2_letsOut_10 : decode cX2_letsOut 10 = .ok (.aload_n 0, 1) := by decide +kernel
theorem dX2_letsOut_11 : decode cX2_letsOut 11 = .ok (.getfield 28, 3) := by decide +kernel
theorem dX2_letsOut_14 : decode cX2_letsOut 14 = .ok (.aload_n 1, 1) := by decide +kernel
theorem dX2_letsOut_15 : decode cX2_letsOut 15 = .ok (.getfield 89, 3) := by decide +kernel
theorem dX2_letsOut_18 : decode cX2_letsOut 18 = .ok (.iload_n 2, 1) := by decide +kernel
theorem dX2_letsOut_19 : decode cX2_letsOut 19 = .ok (.aload_n 0, 1) := by decide +kernel
theorem dX2_letsOut_20 : decode cX2_letsOut 20 = .ok (.getfield 12, 3) := by decide +kernel
theorem dX2_letsOut_23 : decode cX2_letsOut 23 = .ok (.getfield 70, 3) := by decide +kernel
theorem dX2_letsOut_26 : decode cX2_letsOut 26 = .ok (.ifCond .ne 7, 3) := by decide +kernel
theorem dX2_letsOut_29 : decode cX2_letsOut 29 = .ok (.iconst 1, 1) := by decide +kernel
theorem dX2_letsOut_30 : decode cX2_letsOut 30 = .ok (.goto 4, 3) := by decide +kernel
theorem dX2_letsOut_33 : decode cX2_letsOut 33 = .ok (.iconst 0, 1) := by decide +kernel
theorem dX2_letsOut_34 : decode cX2_letsOut 34 = .ok (.invokevirtual 94, 3) := by decide +kernel
theorem dX2_letsOut_37 : decode cX2_letsOut 37 = .ok (.ifCond .eq 11, 3) := by decide +kernel
theorem dX2_letsOut_40 : decode cX2_letsOut 40 = .ok (.aload_n 0, 1) := by decide +kernel
theorem dX2_letsOut_41 : decode cX2_letsOut 41 = .ok (.aload_n 1, 1) := by decide +kernel
theorem dX2_letsOut_42 : decode cX2_letsOut 42 = .ok (.invokevirtual 85, 3) := by decide +kernel
theorem dX2_letsOut_45 : decode cX2_letsOut 45 = .ok (.ifCond .eq 7, 3) := by decide +kernel
theorem dX2_letsOut_48 : decode cX2_letsOut 48 = .ok (.iconst 1, 1) := by decide +kernel
theorem dX2_letsOut_49 : decode cX2_letsOut 49 = .ok (.goto 4, 3) := by decide +kernel
theorem dX2_letsOut_52 : decode cX2_letsOut 52 = .ok (.iconst 0, 1) := by decide +kernel
theorem dX2_letsOut_53 : decode cX2_letsOut 53 = .ok (.ireturn, 1) := by decide +kernel
theorem dX2_takesMark_0 : decode cX2_takesMark 0 = .ok (.aload_n 1, 1) := by decide +kernel
theorem dX2_takesMark_1 : decode cX2_takesMark 1 = .ok (.getfield 97, 3) := by decide +kernel
theorem dX2_takesMark_4 : decode cX2_takesMark 4 = .ok (.ifCond .eq 25, 3) := by decide +kernel
theorem dX2_takesMark_7 : decode cX2_takesMark 7 = .ok (.aload_n 1, 1) := by decide +kernel
theorem dX2_takesMark_8 : decode cX2_takesMark 8 = .ok (.getfield 101, 3) := by decide +kernel
theorem dX2_takesMark_11 : decode cX2_takesMark 11 = .ok (.ifCond .ne 18, 3) := by decide +kernel
theorem dX2_takesMark_14 : decode cX2_takesMark 14 = .ok (.aload_n 1, 1) := by decide +kernel
theorem dX2_takesMark_15 : decode cX2_takesMark 15 = .ok (.iconst 1, 1) := by decide +kernel
theorem dX2_takesMark_16 : decode cX2_takesMark 16 = .ok (.putfield 101, 3) := by decide +kernel
theorem dX2_takesMark_19 : decode cX2_takesMark 19 = .ok (.aload_n 0, 1) := by decide +kernel
theorem dX2_takesMark_20 : decode cX2_takesMark 20 = .ok (.dup, 1) := by decide +kernel
theorem dX2_takesMark_21 : decode cX2_takesMark 21 = .ok (.getfield 64, 3) := by decide +kernel
theorem dX2_takesMark_24 : decode cX2_takesMark 24 = .ok (.iconst 1, 1) := by decide +kernel
theorem dX2_takesMark_25 : decode cX2_takesMark 25 = .ok (.iadd, 1) := by decide +kernel
theorem dX2_takesMark_26 : decode cX2_takesMark 26 = .ok (.putfield 64, 3) := by decide +kernel
theorem dX2_takesMark_29 : decode cX2_takesMark 29 = .ok (.aload_n 1, 1) := by decide +kernel
theorem dX2_takesMark_30 : decode cX2_takesMark 30 = .ok (.getfield 97, 3) := by decide +kernel
theorem dX2_takesMark_33 : decode cX2_takesMark 33 = .ok (.ireturn, 1) := by decide +kernel
theorem dX3_init_0 : decode cX3_init 0 = .ok (.aload_n 0, 1) := by decide +kernel
theorem dX3_init_1 : decode cX3_init 1 = .ok (.invokespecial 1, 3) := by decide +kernel
theorem dX3_init_4 : decode cX3_init 4 = .ok (.aload_n 0, 1) := by decide +kernel
theorem dX3_init_5 : decode cX3_init 5 = .ok (.ldc2_w 7, 3) := by decide +kernel
theorem dX3_init_8 : decode cX3_init 8 = .ok (.putfield 9, 3) := by decide +kernel
theorem dX3_init_11 : decode cX3_init 11 = .ok (.aload_n 0, 1) := by decide +kernel
theorem dX3_init_12 : decode cX3_init 12 = .ok (.ldc2_w 15, 3) := by decide +kernel
theorem dX3_init_15 : decode cX3_init 15 = .ok (.putfield 17, 3) := by decide +kernel
theorem dX3_init_18 : decode cX3_init 18 = .ok (.aload_n 0, 1) := by decide +kernel
theorem dX3_init_19 : decode cX3_init 19 = .ok (.ldc2_w 20, 3) := by decide +kernel
theorem dX3_init_22 : decode cX3_init 22 = .ok (.putfield 22, 3) := by decide +kernel
theorem dX3_init_25 : decode cX3_init 25 = .ok (.aload_n 0, 1) := by decide +kernel
theorem dX3_init_26 : decode cX3_init 26 = .ok (.ldc2_w 25, 3) := by decide +kernel
theorem dX3_init_29 : decode cX3_init 29 = .ok (.putfield 27, 3) := by decide +kernel
theorem dX3_init_32 : decode cX3_init 32 = .ok (.aload_n 0, 1) := by decide +kernel
theorem dX3_init_33 : decode cX3_init 33 = .ok (.dconst 0, 1) := by decide +kernel
theorem dX3_init_34 : decode cX3_init 34 = .ok (.putfield 30, 3) := by decide +kernel
theorem dX3_init_37 : decode cX3_init 37 = .ok (.aload_n 0, 1) := by decide +kernel
theorem dX3_init_38 : decode cX3_init 38 = .ok (.iconst (-1), 1) := by decide +kernel
theorem dX3_init_39 : decode cX3_init 39 = .ok (.putfield 33, 3) := by decide +kernel
theorem dX3_init_42 : decode cX3_init 42 = .ok (.aload_n 0, 1) := by decide +kernel
theorem dX3_init_43 : decode cX3_init 43 = .ok (.iconst 0, 1) := by decide +kernel
theorem dX3_init_44 : decode cX3_init 44 = .ok (.putfield 37, 3) := by decide +kernel
theorem dX3_init_47 : decode cX3_init 47 = .ok (.return_, 1) := by decide +kernel
theorem dX3_tell_0 : decode cX3_tell 0 = .ok (.aload_n 0, 1) := by decide +kernel
theorem dX3_tell_1 : decode cX3_tell 1 = .ok (.dload_n 1, 1) := by decide +kernel
theorem dX3_tell_2 : decode cX3_tell 2 = .ok (.putfield 9, 3) := by decide +kernel
theorem dX3_tell_5 : decode cX3_tell 5 = .ok (.aload_n 0, 1) := by decide +kernel
theorem dX3_tell_6 : decode cX3_tell 6 = .ok (.dload_n 3, 1) := by decide +kernel
theorem dX3_tell_7 : decode cX3_tell 7 = .ok (.putfield 17, 3) := by decide +kernel
theorem dX3_tell_10 : decode cX3_tell 10 = .ok (.aload_n 0, 1) := by decide +kernel
theorem dX3_tell_11 : decode cX3_tell 11 = .ok (.dload 5, 2) := by decide +kernel
theorem dX3_tell_13 : decode cX3_tell 13 = .ok (.putfield 22, 3) := by decide +kernel
theorem dX3_tell_16 : decode cX3_tell 16 = .ok (.aload_n 0, 1) := by decide +kernel
theorem dX3_tell_17 : decode cX3_tell 17 = .ok (.dload 7, 2) := by decide +kernel
theorem dX3_tell_19 : decode cX3_tell 19 = .ok (.putfield 27, 3) := by decide +kernel
theorem dX3_tell_22 : decode cX3_tell 22 = .ok (.return_, 1) := by decide +kernel
theorem dX3_restart_0 : decode cX3_restart 0 = .ok (.aload_n 0, 1) := by decide +kernel
theorem dX3_restart_1 : decode cX3_restart 1 = .ok (.dconst 0, 1) := by decide +kernel
theorem dX3_restart_2 : decode cX3_restart 2 = .ok (.putfield 30, 3) := by decide +kernel
theorem dX3_restart_5 : decode cX3_restart 5 = .ok (.aload_n 0, 1) := by decide +kernel
theorem dX3_restart_6 : decode cX3_restart 6 = .ok (.iconst (-1), 1) := by decide +kernel
theorem dX3_restart_7 : decode cX3_restart 7 = .ok (.putfield 33, 3) := by decide +kernel
theorem dX3_restart_10 : decode cX3_restart 10 = .ok (.aload_n 0, 1) := by decide +kernel
theorem dX3_restart_11 : decode cX3_restart 11 = .ok (.iload_n 1, 1) := by decide +kernel
theorem dX3_restart_12 : decode cX3_restart 12 = .ok (.putfield 37, 3) := by decide +kernel
theorem dX3_restart_15 : decode cX3_restart 15 = .ok (.return_, 1) := by decide +kernel
theorem dX3_reckon_0 : decode cX3_reckon 0 = .ok (.iload_n 1, 1) := by decide +kernel
theorem dX3_reckon_1 : decode cX3_reckon 1 = .ok (.ifCond .le 25, 3) := by decide +kernel
theorem dX3_reckon_4 : decode cX3_reckon 4 = .ok (.aload_n 0, 1) := by decide +kernel
theorem dX3_reckon_5 : decode cX3_reckon 5 = .ok (.aload_n 0, 1) := by decide +kernel
theorem dX3_reckon_6 : decode cX3_reckon 6 = .ok (.getfield 30, 3) := by decide +kernel
theorem dX3_reckon_9 : decode cX3_reckon 9 = .ok (.aload_n 0, 1) := by decide +kernel
theorem dX3_reckon_10 : decode cX3_reckon 10 = .ok (.getfield 27, 3) := by decide +kernel
theorem dX3_reckon_13 : decode cX3_reckon 13 = .ok (.iload_n 1, 1) := by decide +kernel
theorem dX3_reckon_14 : decode cX3_reckon 14 = .ok (.i2d, 1) := by decide +kernel
theorem dX3_reckon_15 : decode cX3_reckon 15 = .ok (.aload_n 0, 1) := by decide +kernel
theorem dX3_reckon_16 : decode cX3_reckon 16 = .ok (.getfield 30, 3) := by decide +kernel
theorem dX3_reckon_19 : decode cX3_reckon 19 = .ok (.dsub, 1) := by decide +kernel
theorem dX3_reckon_20 : decode cX3_reckon 20 = .ok (.dmul, 1) := by decide +kernel
theorem dX3_reckon_21 : decode cX3_reckon 21 = .ok (.dadd, 1) := by decide +kernel
theorem dX3_reckon_22 : decode cX3_reckon 22 = .ok (.putfield 30, 3) := by decide +kernel
theorem dX3_reckon_25 : decode cX3_reckon 25 = .ok (.return_, 1) := by decide +kernel
theorem dX3_reckon_26 : decode cX3_reckon 26 = .ok (.iload_n 2, 1) := by decide +kernel
theorem dX3_reckon_27 : decode cX3_reckon 27 = .ok (.aload_n 0, 1) := by decide +kernel
theorem dX3_reckon_28 : decode cX3_reckon 28 = .ok (.getfield 37, 3) := by decide +kernel
theorem dX3_reckon_31 : decode cX3_reckon 31 = .ok (.isub, 1) := by decide +kernel
theorem dX3_reckon_32 : decode cX3_reckon 32 = .ok (.bipush 100, 2) := by decide +kernel
theorem dX3_reckon_34 : decode cX3_reckon 34 = .ok (.invokestatic 40, 3) := by decide +kernel
theorem dX3_reckon_37 : decode cX3_reckon 37 = .ok (.istore_n 3, 1) := by decide +kernel
theorem dX3_reckon_38 : decode cX3_reckon 38 = .ok (.iconst 0, 1) := by decide +kernel
theorem dX3_reckon_39 : decode cX3_reckon 39 = .ok (.istore 4, 2) := by decide +kernel
theorem dX3_reckon_41 : decode cX3_reckon 41 = .ok (.iload 4, 2) := by decide +kernel
theorem dX3_reckon_43 : decode cX3_reckon 43 = .ok (.iload_n 3, 1) := by decide +kernel
theorem dX3_reckon_44 : decode cX3_reckon 44 = .ok (.if_icmp .ge 24, 3) := by decide +kernel
theorem dX3_reckon_47 : decode cX3_reckon 47 = .ok (.aload_n 0, 1) := by decide +kernel
theorem dX3_reckon_48 : decode cX3_reckon 48 = .ok (.aload_n 0, 1) := by decide +kernel
theorem dX3_reckon_49 : decode cX3_reckon 49 = .ok (.getfield 30, 3) := by decide +kernel
theorem dX3_reckon_52 : decode cX3_reckon 52 = .ok (.dconst 1, 1) := by decide +kernel
theorem dX3_reckon_53 : decode cX3_reckon 53 = .ok (.aload_n 0, 1) := by decide +kernel
theorem dX3_reckon_54 : decode cX3_reckon 54 = .ok (.getfield 27, 3) := by decide +kernel
theorem dX3_reckon_57 : decode cX3_reckon 57 = .ok (.dsub, 1) := by decide +kernel
theorem dX3_reckon_58 : decode cX3_reckon 58 = .ok (.dmul, 1) := by decide +kernel
theorem dX3_reckon_59 : decode cX3_reckon 59 = .ok (.putfield 30, 3) := by decide +kernel
theorem dX3_reckon_62 : decode cX3_reckon 62 = .ok (.iinc 4 1, 3) := by decide +kernel
theorem dX3_reckon_65 : decode cX3_reckon 65 = .ok (.goto (-24), 3) := by decide +kernel
theorem dX3_reckon_68 : decode cX3_reckon 68 = .ok (.aload_n 0, 1) := by decide +kernel
theorem dX3_reckon_69 : decode cX3_reckon 69 = .ok (.iload_n 2, 1) := by decide +kernel
theorem dX3_reckon_70 : decode cX3_reckon 70 = .ok (.putfield 37, 3) := by decide +kernel
theorem dX3_reckon_73 : decode cX3_reckon 73 = .ok (.return_, 1) := by decide +kernel
theorem dX3_refuses_0 : decode cX3_refuses 0 = .ok (.aload_n 0, 1) := by decide +kernel
theorem dX3_refuses_1 : decode cX3_refuses 1 = .ok (.getfield 30, 3) := by decide +kernel
theorem dX3_refuses_4 : decode cX3_refuses 4 = .ok (.aload_n 0, 1) := by decide +kernel
theorem dX3_refuses_5 : decode cX3_refuses 5 = .ok (.getfield 17, 3) := by decide +kernel
theorem dX3_refuses_8 : decode cX3_refuses 8 = .ok (.dcmp .g, 1) := by decide +kernel
theorem dX3_refuses_9 : decode cX3_refuses 9 = .ok (.ifCond .ge 5, 3) := by decide +kernel
theorem dX3_refuses_12 : decode cX3_refuses 12 = .ok (.iconst 0, 1) := by decide +kernel
theorem dX3_refuses_13 : decode cX3_refuses 13 = .ok (.ireturn, 1) := by decide +kernel
theorem dX3_refuses_14 : decode cX3_refuses 14 = .ok (.aload_n 0, 1) := by decide +kernel
theorem dX3_refuses_15 : decode cX3_refuses 15 = .ok (.iconst 0, 1) := by decide +kernel
theorem dX3_refuses_16 : decode cX3_refuses 16 = .ok (.putfield 33, 3) := by decide +kernel
theorem dX3_refuses_19 : decode cX3_refuses 19 = .ok (.iconst 1, 1) := by decide +kernel
theorem dX3_refuses_20 : decode cX3_refuses 20 = .ok (.ireturn, 1) := by decide +kernel
set_option maxRecDepth 20000 in
theorem ggX3_hits_X0_use : GoodIn wsX3_hits wsX0_use := goodIn_r _ [10, 11, 12, 13, 14, 15, 16, 9, 17, 18, 19, 20, 21, 29, 30, 31] (by decide +kernel) (by decide +kernel)
set_option maxRecDepth 20000 in
theorem gX3_hits_X0_use : GoodIn wsX3_hits (wsV RX3 46 RX0 yX0_use wsX0_use) := goodIn_app (goodIn_of _ (by decide +kernel)) ggX3_hits_X0_use
theorem dX3_hits_0 : decode cX3_hits 0 = .ok (.aload_n 0, 1) := by decide +kernel
theorem dX3_hits_1 : decode cX3_hits 1 = .ok (.getfield 30, 3) := by decide +kernel
theorem dX3_hits_4 : decode cX3_hits 4 = .ok (.aload_n 0, 1) := by decide +kernel
theorem dX3_hits_5 : decode cX3_hits 5 = .ok (.getfield 9, 3) := by decide +kernel
theorem dX3_hits_8 : decode cX3_hits 8 = .ok (.dcmp .g, 1) := by decide +kernel
theorem dX3_hits_9 : decode cX3_hits 9 = .ok (.ifCond .ge 10, 3) := by decide +kernel
theorem dX3_hits_12 : decode cX3_hits 12 = .ok (.aload_n 0, 1) := by decide +kernel
theorem dX3_hits_13 : decode cX3_hits 13 = .ok (.iconst (-1), 1) := by decide +kernel
theorem dX3_hits_14 : decode cX3_hits 14 = .ok (.putfield 33, 3) := by decide +kernel
theorem dX3_hits_17 : decode cX3_hits 17 = .ok (.iconst 0, 1) := by decide +kernel
theorem dX3_hits_18 : decode cX3_hits 18 = .ok (.ireturn, 1) := by decide +kernel
theorem dX3_hits_19 : decode cX3_hits 19 = .ok (.aload_n 0, 1) := by decide +kernel
theorem dX3_hits_20 : decode cX3_hits 20 = .ok (.dup, 1) := by decide +kernel
theorem dX3_hits_21 : decode cX3_hits 21 = .ok (.getfield 33, 3) := by decide +kernel
theorem dX3_hits_24 : decode cX3_hits 24 = .ok (.iconst 1, 1) := by decide +kernel
theorem dX3_hits_25 : decode cX3_hits 25 = .ok (.iadd, 1) := by decide +kernel
theorem dX3_hits_26 : decode cX3_hits 26 = .ok (.putfield 33, 3) := by decide +kernel
theorem dX3_hits_29 : decode cX3_hits 29 = .ok (.aload_n 0, 1) := by decide +kernel
theorem dX3_hits_30 : decode cX3_hits 30 = .ok (.getfield 22, 3) := by decide +kernel
theorem dX3_hits_33 : decode cX3_hits 33 = .ok (.aload_n 0, 1) := by decide +kernel
theorem dX3_hits_34 : decode cX3_hits 34 = .ok (.getfield 30, 3) := by decide +kernel
theorem dX3_hits_37 : decode cX3_hits 37 = .ok (.aload_n 0, 1) := by decide +kernel
theorem dX3_hits_38 : decode cX3_hits 38 = .ok (.getfield 9, 3) := by decide +kernel
theorem dX3_hits_41 : decode cX3_hits 41 = .ok (.dsub, 1) := by decide +kernel
theorem dX3_hits_42 : decode cX3_hits 42 = .ok (.dmul, 1) := by decide +kernel
theorem dX3_hits_43 : decode cX3_hits 43 = .ok (.aload_n 0, 1) := by decide +kernel
theorem dX3_hits_44 : decode cX3_hits 44 = .ok (.getfield 17, 3) := by decide +kernel
theorem dX3_hits_47 : decode cX3_hits 47 = .ok (.aload_n 0, 1) := by decide +kernel
theorem dX3_hits_48 : decode cX3_hits 48 = .ok (.getfield 9, 3) := by decide +kernel
theorem dX3_hits_51 : decode cX3_hits 51 = .ok (.dsub, 1) := by decide +kernel
theorem dX3_hits_52 : decode cX3_hits 52 = .ok (.ddiv, 1) := by decide +kernel
theorem dX3_hits_53 : decode cX3_hits 53 = .ok (.dstore_n 2, 1) := by decide +kernel
theorem dX3_hits_54 : decode cX3_hits 54 = .ok (.dconst 1, 1) := by decide +kernel
theorem dX3_hits_55 : decode cX3_hits 55 = .ok (.aload_n 0, 1) := by decide +kernel
theorem dX3_hits_56 : decode cX3_hits 56 = .ok (.getfield 33, 3) := by decide +kernel
theorem dX3_hits_59 : decode cX3_hits 59 = .ok (.i2d, 1) := by decide +kernel
theorem dX3_hits_60 : decode cX3_hits 60 = .ok (.dload_n 2, 1) := by decide +kernel
theorem dX3_hits_61 : decode cX3_hits 61 = .ok (.dmul, 1) := by decide +kernel
theorem dX3_hits_62 : decode cX3_hits 62 = .ok (.dsub, 1) := by decide +kernel
theorem dX3_hits_63 : decode cX3_hits 63 = .ok (.dstore 4, 2) := by decide +kernel
theorem dX3_hits_65 : decode cX3_hits 65 = .ok (.dload 4, 2) := by decide +kernel
theorem dX3_hits_67 : decode cX3_hits 67 = .ok (.dconst 0, 1) := by decide +kernel
theorem dX3_hits_68 : decode cX3_hits 68 = .ok (.dcmp .g, 1) := by decide +kernel
theorem dX3_hits_69 : decode cX3_hits 69 = .ok (.ifCond .le 15, 3) := by decide +kernel
theorem dX3_hits_72 : decode cX3_hits 72 = .ok (.aload_n 1, 1) := by decide +kernel
theorem dX3_hits_73 : decode cX3_hits 73 = .ok (.invokevirtual 46, 3) := by decide +kernel
theorem dX3_hits_76 : decode cX3_hits 76 = .ok (.dload_n 2, 1) := by decide +kernel
theorem dX3_hits_77 : decode cX3_hits 77 = .ok (.dload 4, 2) := by decide +kernel
theorem dX3_hits_79 : decode cX3_hits 79 = .ok (.ddiv, 1) := by decide +kernel
theorem dX3_hits_80 : decode cX3_hits 80 = .ok (.dcmp .g, 1) := by decide +kernel
theorem dX3_hits_81 : decode cX3_hits 81 = .ok (.ifCond .ge 7, 3) := by decide +kernel
theorem dX3_hits_84 : decode cX3_hits 84 = .ok (.iconst 1, 1) := by decide +kernel
theorem dX3_hits_85 : decode cX3_hits 85 = .ok (.goto 4, 3) := by decide +kernel
theorem dX3_hits_88 : decode cX3_hits 88 = .ok (.iconst 0, 1) := by decide +kernel
theorem dX3_hits_89 : decode cX3_hits 89 = .ok (.istore 6, 2) := by decide +kernel
theorem dX3_hits_91 : decode cX3_hits 91 = .ok (.iload 6, 2) := by decide +kernel
theorem dX3_hits_93 : decode cX3_hits 93 = .ok (.ifCond .eq 8, 3) := by decide +kernel
theorem dX3_hits_96 : decode cX3_hits 96 = .ok (.aload_n 0, 1) := by decide +kernel
theorem dX3_hits_97 : decode cX3_hits 97 = .ok (.iconst 0, 1) := by decide +kernel
theorem dX3_hits_98 : decode cX3_hits 98 = .ok (.putfield 33, 3) := by decide +kernel
theorem dX3_hits_101 : decode cX3_hits 101 = .ok (.iload 6, 2) := by decide +kernel
theorem dX3_hits_103 : decode cX3_hits 103 = .ok (.ireturn, 1) := by decide +kernel
theorem dX4_init_0 : decode cX4_init 0 = .ok (.aload_n 0, 1) := by decide +kernel
theorem dX4_init_1 : decode cX4_init 1 = .ok (.invokespecial 1, 3) := by decide +kernel
theorem dX4_init_4 : decode cX4_init 4 = .ok (.aload_n 0, 1) := by decide +kernel
theorem dX4_init_5 : decode cX4_init 5 = .ok (.bipush 32, 2) := by decide +kernel
theorem dX4_init_7 : decode cX4_init 7 = .ok (.anewarray 9, 3) := by decide +kernel
theorem dX4_init_10 : decode cX4_init 10 = .ok (.putfield 11, 3) := by decide +kernel
theorem dX4_init_13 : decode cX4_init 13 = .ok (.aload_n 0, 1) := by decide +kernel
theorem dX4_init_14 : decode cX4_init 14 = .ok (.iconst 0, 1) := by decide +kernel
theorem dX4_init_15 : decode cX4_init 15 = .ok (.putfield 15, 3) := by decide +kernel
theorem dX4_init_18 : decode cX4_init 18 = .ok (.return_, 1) := by decide +kernel
set_option maxRecDepth 20000 in
theorem ggX4_add_X4_place : GoodIn wsX4_add wsX4_place := goodIn_r _ [6] (by decide +kernel) (by decide +kernel)
set_option maxRecDepth 20000 in
theorem gX4_add_X4_place : GoodIn wsX4_add (va_wsS RX4 19 yX4_place wsX4_place) := goodIn_app (goodIn_of _ (by decide +kernel)) ggX4_add_X4_place
theorem dX4_add_0 : decode cX4_add 0 = .ok (.aload_n 0, 1) := by decide +kernel
theorem dX4_add_1 : decode cX4_add 1 = .ok (.dup, 1) := by decide +kernel
theorem dX4_add_2 : decode cX4_add 2 = .ok (.getfield 15, 3) := by decide +kernel
theorem dX4_add_5 : decode cX4_add 5 = .ok (.iconst 1, 1) := by decide +kernel
theorem dX4_add_6 : decode cX4_add 6 = .ok (.iadd, 1) := by decide +kernel
theorem dX4_add_7 : decode cX4_add 7 = .ok (.putfield 15, 3) := by decide +kernel
theorem dX4_add_10 : decode cX4_add 10 = .ok (.aload_n 0, 1) := by decide +kernel
theorem dX4_add_11 : decode cX4_add 11 = .ok (.getfield 11, 3) := by decide +kernel
theorem dX4_add_14 : decode cX4_add 14 = .ok (.aload_n 0, 1) := by decide +kernel
theorem dX4_add_15 : decode cX4_add 15 = .ok (.getfield 15, 3) := by decide +kernel
theorem dX4_add_18 : decode cX4_add 18 = .ok (.invokestatic 19, 3) := by decide +kernel
theorem dX4_add_21 : decode cX4_add 21 = .ok (.aload_n 1, 1) := by decide +kernel
theorem dX4_add_22 : decode cX4_add 22 = .ok (.aastore, 1) := by decide +kernel
theorem dX4_add_23 : decode cX4_add 23 = .ok (.return_, 1) := by decide +kernel
set_option maxRecDepth 20000 in
theorem ggX4_lastBut_X4_place : GoodIn wsX4_lastBut wsX4_place := goodIn_r _ [6] (by decide +kernel) (by decide +kernel)
set_option maxRecDepth 20000 in
theorem gX4_lastBut_X4_place : GoodIn wsX4_lastBut (va_wsS RX4 19 yX4_place wsX4_place) := goodIn_app (goodIn_of _ (by decide +kernel)) ggX4_lastBut_X4_place
theorem dX4_lastBut_0 : decode cX4_lastBut 0 = .ok (.iload_n 1, 1) := by decide +kernel
theorem dX4_lastBut_1 : decode cX4_lastBut 1 = .ok (.ifCond .lt 26, 3) := by decide +kernel
theorem dX4_lastBut_4 : decode cX4_lastBut 4 = .ok (.iload_n 1, 1) := by decide +kernel
theorem dX4_lastBut_5 : decode cX4_lastBut 5 = .ok (.bipush 32, 2) := by decide +kernel
theorem dX4_lastBut_7 : decode cX4_lastBut 7 = .ok (.if_icmp .ge 20, 3) := by decide +kernel
theorem dX4_lastBut_10 : decode cX4_lastBut 10 = .ok (.aload_n 0, 1) := by decide +kernel
theorem dX4_lastBut_11 : decode cX4_lastBut 11 = .ok (.getfield 11, 3) := by decide +kernel
theorem dX4_lastBut_14 : decode cX4_lastBut 14 = .ok (.aload_n 0, 1) := by decide +kernel
theorem dX4_lastBut_15 : decode cX4_lastBut 15 = .ok (.getfield 15, 3) := by decide +kernel
theorem dX4_lastBut_18 : decode cX4_lastBut 18 = .ok (.iload_n 1, 1) := by decide +kernel
theorem dX4_lastBut_19 : decode cX4_lastBut 19 = .ok (.isub, 1) := by decide +kernel
theorem dX4_lastBut_20 : decode cX4_lastBut 20 = .ok (.invokestatic 19, 3) := by decide +kernel
theorem dX4_lastBut_23 : decode cX4_lastBut 23 = .ok (.aaload, 1) := by decide +kernel
theorem dX4_lastBut_24 : decode cX4_lastBut 24 = .ok (.goto 4, 3) := by decide +kernel
theorem dX4_lastBut_27 : decode cX4_lastBut 27 = .ok (.aconst_null, 1) := by decide +kernel
theorem dX4_lastBut_28 : decode cX4_lastBut 28 = .ok (.areturn, 1) := by decide +kernel
theorem dX4_place_0 : decode cX4_place 0 = .ok (.iload_n 0, 1) := by decide +kernel
theorem dX4_place_1 : decode cX4_place 1 = .ok (.bipush 31, 2) := by decide +kernel
theorem dX4_place_3 : decode cX4_place 3 = .ok (.iand, 1) := by decide +kernel
theorem dX4_place_4 : decode cX4_place 4 = .ok (.ireturn, 1) := by decide +kernel
theorem dX5_init_0 : decode cX5_init 0 = .ok (.aload_n 0, 1) := by decide +kernel
theorem dX5_init_1 : decode cX5_init 1 = .ok (.invokespecial 1, 3) := by decide +kernel
theorem dX5_init_4 : decode cX5_init 4 = .ok (.aload_n 0, 1) := by decide +kernel
theorem dX5_init_5 : decode cX5_init 5 = .ok (.iconst 0, 1) := by decide +kernel
theorem dX5_init_6 : decode cX5_init 6 = .ok (.putfield 7, 3) := by decide +kernel
theorem dX5_init_9 : decode cX5_init 9 = .ok (.aload_n 0, 1) := by decide +kernel
theorem dX5_init_10 : decode cX5_init 10 = .ok (.iconst 0, 1) := by decide +kernel
theorem dX5_init_11 : decode cX5_init 11 = .ok (.putfield 13, 3) := by decide +kernel
theorem dX5_init_14 : decode cX5_init 14 = .ok (.aload_n 0, 1) := by decide +kernel
theorem dX5_init_15 : decode cX5_init 15 = .ok (.aconst_null, 1) := by decide +kernel
theorem dX5_init_16 : decode cX5_init 16 = .ok (.putfield 17, 3) := by decide +kernel
theorem dX5_init_19 : decode cX5_init 19 = .ok (.aload_n 0, 1) := by decide +kernel
theorem dX5_init_20 : decode cX5_init 20 = .ok (.iload_n 1, 1) := by decide +kernel
theorem dX5_init_21 : decode cX5_init 21 = .ok (.putfield 21, 3) := by decide +kernel
theorem dX5_init_24 : decode cX5_init 24 = .ok (.aload_n 0, 1) := by decide +kernel
theorem dX5_init_25 : decode cX5_init 25 = .ok (.aload_n 2, 1) := by decide +kernel
theorem dX5_init_26 : decode cX5_init 26 = .ok (.putfield 24, 3) := by decide +kernel
theorem dX5_init_29 : decode cX5_init 29 = .ok (.aload_n 0, 1) := by decide +kernel
theorem dX5_init_30 : decode cX5_init 30 = .ok (.iload_n 3, 1) := by decide +kernel
theorem dX5_init_31 : decode cX5_init 31 = .ok (.putfield 28, 3) := by decide +kernel
theorem dX5_init_34 : decode cX5_init 34 = .ok (.aload_n 0, 1) := by decide +kernel
theorem dX5_init_35 : decode cX5_init 35 = .ok (.iload 4, 2) := by decide +kernel
theorem dX5_init_37 : decode cX5_init 37 = .ok (.putfield 31, 3) := by decide +kernel
theorem dX5_init_40 : decode cX5_init 40 = .ok (.aload_n 0, 1) := by decide +kernel
theorem dX5_init_41 : decode cX5_init 41 = .ok (.iload 5, 2) := by decide +kernel
theorem dX5_init_43 : decode cX5_init 43 = .ok (.putfield 34, 3) := by decide +kernel
theorem dX5_init_46 : decode cX5_init 46 = .ok (.return_, 1) := by decide +kernel
theorem dX6_init_0 : decode cX6_init 0 = .ok (.aload_n 0, 1) := by decide +kernel
theorem dX6_init_1 : decode cX6_init 1 = .ok (.invokespecial 1, 3) := by decide +kernel
theorem dX6_init_4 : decode cX6_init 4 = .ok (.aload_n 0, 1) := by decide +kernel
theorem dX6_init_5 : decode cX6_init 5 = .ok (.aconst_null, 1) := by decide +kernel
theorem dX6_init_6 : decode cX6_init 6 = .ok (.putfield 7, 3) := by decide +kernel
theorem dX6_init_9 : decode cX6_init 9 = .ok (.aload_n 0, 1) := by decide +kernel
theorem dX6_init_10 : decode cX6_init 10 = .ok (.aconst_null, 1) := by decide +kernel
theorem dX6_init_11 : decode cX6_init 11 = .ok (.putfield 13, 3) := by decide +kernel
theorem dX6_init_14 : decode cX6_init 14 = .ok (.aload_n 0, 1) := by decide +kernel
theorem dX6_init_15 : decode cX6_init 15 = .ok (.iconst 0, 1) := by decide +kernel
theorem dX6_init_16 : decode cX6_init 16 = .ok (.putfield 16, 3) := by decide +kernel
theorem dX6_init_19 : decode cX6_init 19 = .ok (.aload_n 0, 1) := by decide +kernel
theorem dX6_init_20 : decode cX6_init 20 = .ok (.iconst 0, 1) := by decide +kernel
theorem dX6_init_21 : decode cX6_init 21 = .ok (.putfield 20, 3) := by decide +kernel
theorem dX6_init_24 : decode cX6_init 24 = .ok (.return_, 1) := by decide +kernel
theorem dX6_add_0 : decode cX6_add 0 = .ok (.aload_n 0, 1) := by decide +kernel
theorem dX6_add_1 : decode cX6_add 1 = .ok (.getfield 13, 3) := by decide +kernel
theorem dX6_add_4 : decode cX6_add 4 = .ok (.ifnonnull 11, 3) := by decide +kernel
theorem dX6_add_7 : decode cX6_add 7 = .ok (.aload_n 0, 1) := by decide +kernel
theorem dX6_add_8 : decode cX6_add 8 = .ok (.aload_n 1, 1) := by decide +kernel
theorem dX6_add_9 : decode cX6_add 9 = .ok (.putfield 7, 3) := by decide +kernel
theorem dX6_add_12 : decode cX6_add 12 = .ok (.goto 11, 3) := by decide +kernel
theorem dX6_add_15 : decode cX6_add 15 = .ok (.aload_n 0, 1) := by decide +kernel
theorem dX6_add_16 : decode cX6_add 16 = .ok (.getfield 13, 3) := by decide +kernel
theorem dX6_add_19 : decode cX6_add 19 = .ok (.aload_n 1, 1) := by decide +kernel
theorem dX6_add_20 : decode cX6_add 20 = .ok (.putfield 23, 3) := by decide +kernel
theorem dX6_add_23 : decode cX6_add 23 = .ok (.aload_n 0, 1) := by decide +kernel
theorem dX6_add_24 : decode cX6_add 24 = .ok (.aload_n 1, 1) := by decide +kernel
theorem dX6_add_25 : decode cX6_add 25 = .ok (.putfield 13, 3) := by decide +kernel
theorem dX6_add_28 : decode cX6_add 28 = .ok (.aload_n 0, 1) := by decide +kernel
theorem dX6_add_29 : decode cX6_add 29 = .ok (.dup, 1) := by decide +kernel
theorem dX6_add_30 : decode cX6_add 30 = .ok (.getfield 16, 3) := by decide +kernel
theorem dX6_add_33 : decode cX6_add 33 = .ok (.iconst 1, 1) := by decide +kernel
theorem dX6_add_34 : decode cX6_add 34 = .ok (.iadd, 1) := by decide +kernel
theorem dX6_add_35 : decode cX6_add 35 = .ok (.putfield 16, 3) := by decide +kernel
theorem dX6_add_38 : decode cX6_add 38 = .ok (.aload_n 0, 1) := by decide +kernel
theorem dX6_add_39 : decode cX6_add 39 = .ok (.dup, 1) := by decide +kernel
theorem dX6_add_40 : decode cX6_add 40 = .ok (.getfield 20, 3) := by decide +kernel
theorem dX6_add_43 : decode cX6_add 43 = .ok (.aload_n 1, 1) := by decide +kernel
theorem dX6_add_44 : decode cX6_add 44 = .ok (.getfield 28, 3) := by decide +kernel
theorem dX6_add_47 : decode cX6_add 47 = .ok (.iadd, 1) := by decide +kernel
theorem dX6_add_48 : decode cX6_add 48 = .ok (.putfield 20, 3) := by decide +kernel
theorem dX6_add_51 : decode cX6_add 51 = .ok (.return_, 1) := by decide +kernel
theorem dX6_removeFirst_0 : decode cX6_removeFirst 0 = .ok (.aload_n 0, 1) := by decide +kernel
theorem dX6_removeFirst_1 : decode cX6_removeFirst 1 = .ok (.getfield 7, 3) := by decide +kernel
theorem dX6_removeFirst_4 : decode cX6_removeFirst 4 = .ok (.astore_n 1, 1) := by decide +kernel
theorem dX6_removeFirst_5 : decode cX6_removeFirst 5 = .ok (.aload_n 1, 1) := by decide +kernel
theorem dX6_removeFirst_6 : decode cX6_removeFirst 6 = .ok (.ifnonnull 4, 3) := by decide +kernel
theorem dX6_removeFirst_9 : decode cX6_removeFirst 9 = .ok (.return_, 1) := by decide +kernel
theorem dX6_removeFirst_10 : decode cX6_removeFirst 10 = .ok (.aload_n 0, 1) := by decide +kernel
theorem dX6_removeFirst_11 : decode cX6_removeFirst 11 = .ok (.aload_n 1, 1) := by decide +kernel
theorem dX6_removeFirst_12 : decode cX6_removeFirst 12 = .ok (.getfield 23, 3) := by decide +kernel
theorem dX6_removeFirst_15 : decode cX6_removeFirst 15 = .ok (.putfield 7, 3) := by decide +kernel
theorem dX6_removeFirst_18 : decode cX6_removeFirst 18 = .ok (.aload_n 0, 1) := by decide +kernel
theorem dX6_removeFirst_19 : decode cX6_removeFirst 19 = .ok (.getfield 7, 3) := by decide +kernel
theorem dX6_removeFirst_22 : decode cX6_removeFirst 22 = .ok (.ifnonnull 8, 3) := by decide +kernel
theorem dX6_removeFirst_25 : decode cX6_removeFirst 25 = .ok (.aload_n 0, 1) := by decide +kernel
theorem dX6_removeFirst_26 : decode cX6_removeFirst 26 = .ok (.aconst_null, 1) := by decide +kernel
theorem dX6_removeFirst_27 : decode cX6_removeFirst 27 = .ok (.putfield 13, 3) := by decide +kernel
theorem dX6_removeFirst_30 : decode cX6_removeFirst 30 = .ok (.aload_n 1, 1) := by decide +kernel
theorem dX6_removeFirst_31 : decode cX6_removeFirst 31 = .ok (.aconst_null, 1) := by decide +kernel
theorem dX6_removeFirst_32 : decode cX6_removeFirst 32 = .ok (.putfield 23, 3) := by decide +kernel
theorem dX6_removeFirst_35 : decode cX6_removeFirst 35 = .ok (.aload_n 0, 1) := by decide +kernel
theorem dX6_removeFirst_36 : decode cX6_removeFirst 36 = .ok (.dup, 1) := by decide +kernel
theorem dX6_removeFirst_37 : decode cX6_removeFirst 37 = .ok (.getfield 16, 3) := by decide +kernel
theorem dX6_removeFirst_40 : decode cX6_removeFirst 40 = .ok (.iconst 1, 1) := by decide +kernel
theorem dX6_removeFirst_41 : decode cX6_removeFirst 41 = .ok (.isub, 1) := by decide +kernel
theorem dX6_removeFirst_42 : decode cX6_removeFirst 42 = .ok (.putfield 16, 3) := by decide +kernel
theorem dX6_removeFirst_45 : decode cX6_removeFirst 45 = .ok (.aload_n 0, 1) := by decide +kernel
theorem dX6_removeFirst_46 : decode cX6_removeFirst 46 = .ok (.dup, 1) := by decide +kernel
theorem dX6_removeFirst_47 : decode cX6_removeFirst 47 = .ok (.getfield 20, 3) := by decide +kernel
theorem dX6_removeFirst_50 : decode cX6_removeFirst 50 = .ok (.aload_n 1, 1) := by decide +kernel
theorem dX6_removeFirst_51 : decode cX6_removeFirst 51 = .ok (.getfield 28, 3) := by decide +kernel
theorem dX6_removeFirst_54 : decode cX6_removeFirst 54 = .ok (.isub, 1) := by decide +kernel
theorem dX6_removeFirst_55 : decode cX6_removeFirst 55 = .ok (.putfield 20, 3) := by decide +kernel
theorem dX6_removeFirst_58 : decode cX6_removeFirst 58 = .ok (.return_, 1) := by decide +kernel
theorem dX7_init_0 : decode cX7_init 0 = .ok (.aload_n 0, 1) := by decide +kernel
theorem dX7_init_1 : decode cX7_init 1 = .ok (.invokespecial 1, 3) := by decide +kernel
theorem dX7_init_4 : decode cX7_init 4 = .ok (.aload_n 0, 1) := by decide +kernel
theorem dX7_init_5 : decode cX7_init 5 = .ok (.aconst_null, 1) := by decide +kernel
theorem dX7_init_6 : decode cX7_init 6 = .ok (.putfield 7, 3) := by decide +kernel
theorem dX7_init_9 : decode cX7_init 9 = .ok (.aload_n 0, 1) := by decide +kernel
theorem dX7_init_10 : decode cX7_init 10 = .ok (.aconst_null, 1) := by decide +kernel
theorem dX7_init_11 : decode cX7_init 11 = .ok (.putfield 13, 3) := by decide +kernel
theorem dX7_init_14 : decode cX7_init 14 = .ok (.aload_n 0, 1) := by decide +kernel
theorem dX7_init_15 : decode cX7_init 15 = .ok (.iconst 0, 1) := by decide +kernel
theorem dX7_init_16 : decode cX7_init 16 = .ok (.putfield 16, 3) := by decide +kernel
theorem dX7_init_19 : decode cX7_init 19 = .ok (.return_, 1) := by decide +kernel
theorem dX7_join_0 : decode cX7_join 0 = .ok (.aload_n 0, 1) := by decide +kernel
theorem dX7_join_1 : decode cX7_join 1 = .ok (.getfield 13, 3) := by decide +kernel
theorem dX7_join_4 : decode cX7_join 4 = .ok (.ifnonnull 11, 3) := by decide +kernel
theorem dX7_join_7 : decode cX7_join 7 = .ok (.aload_n 0, 1) := by decide +kernel
theorem dX7_join_8 : decode cX7_join 8 = .ok (.aload_n 1, 1) := by decide +kernel
theorem dX7_join_9 : decode cX7_join 9 = .ok (.putfield 7, 3) := by decide +kernel
theorem dX7_join_12 : decode cX7_join 12 = .ok (.goto 11, 3) := by decide +kernel
theorem dX7_join_15 : decode cX7_join 15 = .ok (.aload_n 0, 1) := by decide +kernel
theorem dX7_join_16 : decode cX7_join 16 = .ok (.getfield 13, 3) := by decide +kernel
theorem dX7_join_19 : decode cX7_join 19 = .ok (.aload_n 1, 1) := by decide +kernel
theorem dX7_join_20 : decode cX7_join 20 = .ok (.putfield 20, 3) := by decide +kernel
theorem dX7_join_23 : decode cX7_join 23 = .ok (.aload_n 0, 1) := by decide +kernel
theorem dX7_join_24 : decode cX7_join 24 = .ok (.aload_n 1, 1) := by decide +kernel
theorem dX7_join_25 : decode cX7_join 25 = .ok (.putfield 13, 3) := by decide +kernel
theorem dX7_join_28 : decode cX7_join 28 = .ok (.return_, 1) := by decide +kernel
theorem dX7_begin_0 : decode cX7_begin 0 = .ok (.aload_n 0, 1) := by decide +kernel
theorem dX7_begin_1 : decode cX7_begin 1 = .ok (.getfield 7, 3) := by decide +kernel
theorem dX7_begin_4 : decode cX7_begin 4 = .ok (.ifnull 34, 3) := by decide +kernel
theorem dX7_begin_7 : decode cX7_begin 7 = .ok (.aload_n 0, 1) := by decide +kernel
theorem dX7_begin_8 : decode cX7_begin 8 = .ok (.getfield 16, 3) := by decide +kernel
theorem dX7_begin_11 : decode cX7_begin 11 = .ok (.ifCond .ne 27, 3) := by decide +kernel
theorem dX7_begin_14 : decode cX7_begin 14 = .ok (.aload_n 0, 1) := by decide +kernel
theorem dX7_begin_15 : decode cX7_begin 15 = .ok (.getfield 7, 3) := by decide +kernel
theorem dX7_begin_18 : decode cX7_begin 18 = .ok (.dup, 1) := by decide +kernel
theorem dX7_begin_19 : decode cX7_begin 19 = .ok (.getfield 25, 3) := by decide +kernel
theorem dX7_begin_22 : decode cX7_begin 22 = .ok (.aload_n 0, 1) := by decide +kernel
theorem dX7_begin_23 : decode cX7_begin 23 = .ok (.getfield 7, 3) := by decide +kernel
theorem dX7_begin_26 : decode cX7_begin 26 = .ok (.getfield 29, 3) := by decide +kernel
theorem dX7_begin_29 : decode cX7_begin 29 = .ok (.iadd, 1) := by decide +kernel
theorem dX7_begin_30 : decode cX7_begin 30 = .ok (.putfield 25, 3) := by decide +kernel
theorem dX7_begin_33 : decode cX7_begin 33 = .ok (.aload_n 0, 1) := by decide +kernel
theorem dX7_begin_34 : decode cX7_begin 34 = .ok (.iconst 1, 1) := by decide +kernel
theorem dX7_begin_35 : decode cX7_begin 35 = .ok (.putfield 16, 3) := by decide +kernel
theorem dX7_begin_38 : decode cX7_begin 38 = .ok (.return_, 1) := by decide +kernel
set_option maxRecDepth 20000 in
theorem ggX7_passOn_X7_takeFirst : GoodIn wsX7_passOn wsX7_takeFirst := goodIn_r _ [5, 6, 7, 8, 9, 14, 15, 16, 17, 18, 19, 20, 21, 22, 23, 24, 25, 26, 27, 28, 29, 30, 31] (by decide +kernel) (by decide +kernel)
set_option maxRecDepth 20000 in
theorem gX7_passOn_X7_takeFirst : GoodIn wsX7_passOn (wsV RX7 32 RX7 yX7_takeFirst wsX7_takeFirst) := goodIn_app (goodIn_of _ (by decide +kernel)) ggX7_passOn_X7_takeFirst
set_option maxRecDepth 20000 in
theorem ggX7_passOn_X7_join : GoodIn wsX7_passOn wsX7_join := goodIn_r _ [13, 8, 6, 7, 14, 15, 16, 17, 18, 19, 20, 21, 22, 23, 24, 25, 26, 27, 28, 29, 30, 31] (by decide +kernel) (by decide +kernel)
set_option maxRecDepth 20000 in
theorem gX7_passOn_X7_join : GoodIn wsX7_passOn (wsV RX7 36 RX7 yX7_join wsX7_join) := goodIn_app (goodIn_of _ (by decide +kernel)) ggX7_passOn_X7_join
theorem dX7_passOn_0 : decode cX7_passOn 0 = .ok (.aload_n 0, 1) := by decide +kernel
theorem dX7_passOn_1 : decode cX7_passOn 1 = .ok (.invokevirtual 32, 3) := by decide +kernel
theorem dX7_passOn_4 : decode cX7_passOn 4 = .ok (.astore_n 1, 1) := by decide +kernel
theorem dX7_passOn_5 : decode cX7_passOn 5 = .ok (.aload_n 1, 1) := by decide +kernel
theorem dX7_passOn_6 : decode cX7_passOn 6 = .ok (.ifnull 8, 3) := by decide +kernel
theorem dX7_passOn_9 : decode cX7_passOn 9 = .ok (.aload_n 0, 1) := by decide +kernel
theorem dX7_passOn_10 : decode cX7_passOn 10 = .ok (.aload_n 1, 1) := by decide +kernel
theorem dX7_passOn_11 : decode cX7_passOn 11 = .ok (.invokevirtual 36, 3) := by decide +kernel
theorem dX7_passOn_14 : decode cX7_passOn 14 = .ok (.return_, 1) := by decide +kernel
set_option maxRecDepth 20000 in
theorem ggX7_leave_X7_takeFirst : GoodIn wsX7_leave wsX7_takeFirst := goodIn_r _ [6, 7, 8, 9, 10, 26, 27, 28, 11, 12, 13, 14, 15, 16, 17, 18, 19, 20, 21, 22, 23, 24, 25] (by decide +kernel) (by decide +kernel)
set_option maxRecDepth 20000 in
theorem gX7_leave_X7_takeFirst : GoodIn wsX7_leave (wsV RX7 32 RX7 yX7_takeFirst wsX7_takeFirst) := goodIn_app (goodIn_of _ (by decide +kernel)) ggX7_leave_X7_takeFirst
theorem dX7_leave_0 : decode cX7_leave 0 = .ok (.aload_n 0, 1) := by decide +kernel
theorem dX7_leave_1 : decode cX7_leave 1 = .ok (.invokevirtual 32, 3) := by decide +kernel
theorem dX7_leave_4 : decode cX7_leave 4 = .ok (.astore_n 1, 1) := by decide +kernel
theorem dX7_leave_5 : decode cX7_leave 5 = .ok (.aload_n 1, 1) := by decide +kernel
theorem dX7_leave_6 : decode cX7_leave 6 = .ok (.ifnull 8, 3) := by decide +kernel
theorem dX7_leave_9 : decode cX7_leave 9 = .ok (.aload_n 1, 1) := by decide +kernel
theorem dX7_leave_10 : decode cX7_leave 10 = .ok (.iconst 0, 1) := by decide +kernel
theorem dX7_leave_11 : decode cX7_leave 11 = .ok (.putfield 25, 3) := by decide +kernel
theorem dX7_leave_14 : decode cX7_leave 14 = .ok (.return_, 1) := by decide +kernel
theorem dX7_flowAfter_0 : decode cX7_flowAfter 0 = .ok (.iload_n 1, 1) := by decide +kernel
theorem dX7_flowAfter_1 : decode cX7_flowAfter 1 = .ok (.ifCond .ge 7, 3) := by decide +kernel
theorem dX7_flowAfter_4 : decode cX7_flowAfter 4 = .ok (.aconst_null, 1) := by decide +kernel
theorem dX7_flowAfter_5 : decode cX7_flowAfter 5 = .ok (.goto 7, 3) := by decide +kernel
theorem dX7_flowAfter_8 : decode cX7_flowAfter 8 = .ok (.aload_n 0, 1) := by decide +kernel
theorem dX7_flowAfter_9 : decode cX7_flowAfter 9 = .ok (.getfield 7, 3) := by decide +kernel
theorem dX7_flowAfter_12 : decode cX7_flowAfter 12 = .ok (.astore_n 2, 1) := by decide +kernel
theorem dX7_flowAfter_13 : decode cX7_flowAfter 13 = .ok (.iconst 0, 1) := by decide +kernel
theorem dX7_flowAfter_14 : decode cX7_flowAfter 14 = .ok (.istore_n 3, 1) := by decide +kernel
theorem dX7_flowAfter_15 : decode cX7_flowAfter 15 = .ok (.iload_n 3, 1) := by decide +kernel
theorem dX7_flowAfter_16 : decode cX7_flowAfter 16 = .ok (.iload_n 1, 1) := by decide +kernel
theorem dX7_flowAfter_17 : decode cX7_flowAfter 17 = .ok (.if_icmp .ge 18, 3) := by decide +kernel
theorem dX7_flowAfter_20 : decode cX7_flowAfter 20 = .ok (.aload_n 2, 1) := by decide +kernel
theorem dX7_flowAfter_21 : decode cX7_flowAfter 21 = .ok (.ifnull 14, 3) := by decide +kernel
theorem dX7_flowAfter_24 : decode cX7_flowAfter 24 = .ok (.aload_n 2, 1) := by decide +kernel
theorem dX7_flowAfter_25 : decode cX7_flowAfter 25 = .ok (.getfield 20, 3) := by decide +kernel
theorem dX7_flowAfter_28 : decode cX7_flowAfter 28 = .ok (.astore_n 2, 1) := by decide +kernel
theorem dX7_flowAfter_29 : decode cX7_flowAfter 29 = .ok (.iinc 3 1, 3) := by decide +kernel
theorem dX7_flowAfter_32 : decode cX7_flowAfter 32 = .ok (.goto (-17), 3) := by decide +kernel
theorem dX7_flowAfter_35 : decode cX7_flowAfter 35 = .ok (.aload_n 2, 1) := by decide +kernel
theorem dX7_flowAfter_36 : decode cX7_flowAfter 36 = .ok (.areturn, 1) := by decide +kernel
theorem dX7_takeFirst_0 : decode cX7_takeFirst 0 = .ok (.aload_n 0, 1) := by decide +kernel
theorem dX7_takeFirst_1 : decode cX7_takeFirst 1 = .ok (.getfield 7, 3) := by decide +kernel
theorem dX7_takeFirst_4 : decode cX7_takeFirst 4 = .ok (.astore_n 1, 1) := by decide +kernel
theorem dX7_takeFirst_5 : decode cX7_takeFirst 5 = .ok (.aload_n 1, 1) := by decide +kernel
theorem dX7_takeFirst_6 : decode cX7_takeFirst 6 = .ok (.ifnonnull 5, 3) := by decide +kernel
theorem dX7_takeFirst_9 : decode cX7_takeFirst 9 = .ok (.aconst_null, 1) := by decide +kernel
theorem dX7_takeFirst_10 : decode cX7_takeFirst 10 = .ok (.areturn, 1) := by decide +kernel
theorem dX7_takeFirst_11 : decode cX7_takeFirst 11 = .ok (.aload_n 0, 1) := by decide +kernel
theorem dX7_takeFirst_12 : decode cX7_takeFirst 12 = .ok (.aload_n 1, 1) := by decide +kernel
theorem dX7_takeFirst_13 : decode cX7_takeFirst 13 = .ok (.getfield 20, 3) := by decide +kernel
theorem dX7_takeFirst_16 : decode cX7_takeFirst 16 = .ok (.putfield 7, 3) := by decide +kernel
theorem dX7_takeFirst_19 : decode cX7_takeFirst 19 = .ok (.aload_n 0, 1) := by decide +kernel
theorem dX7_takeFirst_20 : decode cX7_takeFirst 20 = .ok (.getfield 7, 3) := by decide +kernel
theorem dX7_takeFirst_23 : decode cX7_takeFirst 23 = .ok (.ifnonnull 8, 3) := by decide +kernel
theorem dX7_takeFirst_26 : decode cX7_takeFirst 26 = .ok (.aload_n 0, 1) := by decide +kernel
theorem dX7_takeFirst_27 : decode cX7_takeFirst 27 = .ok (.aconst_null, 1) := by decide +kernel
theorem dX7_takeFirst_28 : decode cX7_takeFirst 28 = .ok (.putfield 13, 3) := by decide +kernel
theorem dX7_takeFirst_31 : decode cX7_takeFirst 31 = .ok (.aload_n 1, 1) := by decide +kernel
theorem dX7_takeFirst_32 : decode cX7_takeFirst 32 = .ok (.aconst_null, 1) := by decide +kernel
theorem dX7_takeFirst_33 : decode cX7_takeFirst 33 = .ok (.putfield 20, 3) := by decide +kernel
theorem dX7_takeFirst_36 : decode cX7_takeFirst 36 = .ok (.aload_n 0, 1) := by decide +kernel
theorem dX7_takeFirst_37 : decode cX7_takeFirst 37 = .ok (.iconst 0, 1) := by decide +kernel
theorem dX7_takeFirst_38 : decode cX7_takeFirst 38 = .ok (.putfield 16, 3) := by decide +kernel
theorem dX7_takeFirst_41 : decode cX7_takeFirst 41 = .ok (.aload_n 1, 1) := by decide +kernel
theorem dX7_takeFirst_42 : decode cX7_takeFirst 42 = .ok (.areturn, 1) := by decide +kernel
set_option maxRecDepth 20000 in
theorem ggX8_init_X7_init : GoodIn wsX8_init wsX7_init := goodIn_r _ [30, 31, 2, 3, 32, 33, 34, 121, 122, 123] (by decide +kernel) (by decide +kernel)
set_option maxRecDepth 20000 in
theorem gX8_init_X7_init_n17 : GoodIn wsX8_init (wsX7_init) := ggX8_init_X7_init
set_option maxRecDepth 20000 in
theorem ggX8_init_X0_init : GoodIn wsX8_init wsX0_init := goodIn_r _ [36, 37, 2, 3, 38, 39, 40, 41, 124, 125, 126] (by decide +kernel) (by decide +kernel)
set_option maxRecDepth 20000 in
theorem gX8_init_X0_init_n24 : GoodIn wsX8_init (wsX0_init) := ggX8_init_X0_init
set_option maxRecDepth 20000 in
theorem ggX8_init_X4_init : GoodIn wsX8_init wsX4_init := goodIn_r _ [43, 44, 2, 3, 45, 46, 47, 127, 128] (by decide +kernel) (by decide +kernel)
set_option maxRecDepth 20000 in
theorem gX8_init_X4_init_n31 : GoodIn wsX8_init (wsX4_init) := ggX8_init_X4_init
set_option maxRecDepth 20000 in
theorem ggX8_init_X2_init : GoodIn wsX8_init wsX2_init := goodIn_r _ [50, 51, 2, 3, 52, 53, 54, 55, 56, 57, 58, 59, 60, 61, 62, 63, 64, 65, 66, 67, 68, 69, 70, 71, 72, 73, 74, 75, 76, 77, 78, 79, 80, 81, 82, 83, 84, 85, 86, 87, 88, 89, 90, 91, 92, 93, 94, 95, 96, 97, 98, 99, 100, 101, 102, 103, 104, 105, 106, 107, 108, 109, 144, 145, 146, 147, 129, 130, 131, 132, 133, 134, 135, 136, 137, 138, 139, 140, 141, 142, 143, 148, 149, 150, 151, 152, 153, 154, 155, 156, 157, 158, 159, 160, 161, 162] (by decide +kernel) (by decide +kernel)
set_option maxRecDepth 20000 in
theorem gX8_init_X2_init : GoodIn wsX8_init (wsX2_init) := ggX8_init_X2_init
theorem dX8_init_0 : decode cX8_init 0 = .ok (.aload_n 0, 1) := by decide +kernel
theorem dX8_init_1 : decode cX8_init 1 = .ok (.invokespecial 1, 3) := by decide +kernel
theorem dX8_init_4 : decode cX8_init 4 = .ok (.aload_n 0, 1) := by decide +kernel
theorem dX8_init_5 : decode cX8_init 5 = .ok (.bipush 6, 2) := by decide +kernel
theorem dX8_init_7 : decode cX8_init 7 = .ok (.anewarray 9, 3) := by decide +kernel
theorem dX8_init_10 : decode cX8_init 10 = .ok (.putfield 11, 3) := by decide +kernel
theorem dX8_init_13 : decode cX8_init 13 = .ok (.aload_n 0, 1) := by decide +kernel
theorem dX8_init_14 : decode cX8_init 14 = .ok (.new 15, 3) := by decide +kernel
theorem dX8_init_17 : decode cX8_init 17 = .ok (.dup, 1) := by decide +kernel
theorem dX8_init_18 : decode cX8_init 18 = .ok (.invokespecial 17, 3) := by decide +kernel
theorem dX8_init_21 : decode cX8_init 21 = .ok (.putfield 18, 3) := by decide +kernel
theorem dX8_init_24 : decode cX8_init 24 = .ok (.aload_n 0, 1) := by decide +kernel
theorem dX8_init_25 : decode cX8_init 25 = .ok (.new 22, 3) := by decide +kernel
theorem dX8_init_28 : decode cX8_init 28 = .ok (.dup, 1) := by decide +kernel
theorem dX8_init_29 : decode cX8_init 29 = .ok (.invokespecial 24, 3) := by decide +kernel
theorem dX8_init_32 : decode cX8_init 32 = .ok (.putfield 25, 3) := by decide +kernel
theorem dX8_init_35 : decode cX8_init 35 = .ok (.aload_n 0, 1) := by decide +kernel
theorem dX8_init_36 : decode cX8_init 36 = .ok (.new 29, 3) := by decide +kernel
theorem dX8_init_39 : decode cX8_init 39 = .ok (.dup, 1) := by decide +kernel
theorem dX8_init_40 : decode cX8_init 40 = .ok (.invokespecial 31, 3) := by decide +kernel
theorem dX8_init_43 : decode cX8_init 43 = .ok (.putfield 32, 3) := by decide +kernel
theorem dX8_init_46 : decode cX8_init 46 = .ok (.aload_n 0, 1) := by decide +kernel
theorem dX8_init_47 : decode cX8_init 47 = .ok (.iconst 0, 1) := by decide +kernel
theorem dX8_init_48 : decode cX8_init 48 = .ok (.putfield 36, 3) := by decide +kernel
theorem dX8_init_51 : decode cX8_init 51 = .ok (.aload_n 0, 1) := by decide +kernel
theorem dX8_init_52 : decode cX8_init 52 = .ok (.iconst 0, 1) := by decide +kernel
theorem dX8_init_53 : decode cX8_init 53 = .ok (.putfield 40, 3) := by decide +kernel
theorem dX8_init_56 : decode cX8_init 56 = .ok (.aload_n 0, 1) := by decide +kernel
theorem dX8_init_57 : decode cX8_init 57 = .ok (.iconst 0, 1) := by decide +kernel
theorem dX8_init_58 : decode cX8_init 58 = .ok (.putfield 43, 3) := by decide +kernel
theorem dX8_init_61 : decode cX8_init 61 = .ok (.aload_n 0, 1) := by decide +kernel
theorem dX8_init_62 : decode cX8_init 62 = .ok (.iconst 0, 1) := by decide +kernel
theorem dX8_init_63 : decode cX8_init 63 = .ok (.putfield 46, 3) := by decide +kernel
theorem dX8_init_66 : decode cX8_init 66 = .ok (.aload_n 0, 1) := by decide +kernel
theorem dX8_init_67 : decode cX8_init 67 = .ok (.ldc 49, 2) := by decide +kernel
theorem dX8_init_69 : decode cX8_init 69 = .ok (.putfield 50, 3) := by decide +kernel
theorem dX8_init_72 : decode cX8_init 72 = .ok (.aload_n 0, 1) := by decide +kernel
theorem dX8_init_73 : decode cX8_init 73 = .ok (.ldc2_w 53, 3) := by decide +kernel
theorem dX8_init_76 : decode cX8_init 76 = .ok (.putfield 55, 3) := by decide +kernel
theorem dX8_init_79 : decode cX8_init 79 = .ok (.aload_n 0, 1) := by decide +kernel
theorem dX8_init_80 : decode cX8_init 80 = .ok (.dconst 0, 1) := by decide +kernel
theorem dX8_init_81 : decode cX8_init 81 = .ok (.putfield 59, 3) := by decide +kernel
theorem dX8_init_84 : decode cX8_init 84 = .ok (.iconst 0, 1) := by decide +kernel
theorem dX8_init_85 : decode cX8_init 85 = .ok (.istore_n 1, 1) := by decide +kernel
theorem dX8_init_86 : decode cX8_init 86 = .ok (.iload_n 1, 1) := by decide +kernel
theorem dX8_init_87 : decode cX8_init 87 = .ok (.aload_n 0, 1) := by decide +kernel
theorem dX8_init_88 : decode cX8_init 88 = .ok (.getfield 11, 3) := by decide +kernel
theorem dX8_init_91 : decode cX8_init 91 = .ok (.arraylength, 1) := by decide +kernel
theorem dX8_init_92 : decode cX8_init 92 = .ok (.if_icmp .ge 23, 3) := by decide +kernel
theorem dX8_init_95 : decode cX8_init 95 = .ok (.aload_n 0, 1) := by decide +kernel
theorem dX8_init_96 : decode cX8_init 96 = .ok (.getfield 11, 3) := by decide +kernel
theorem dX8_init_99 : decode cX8_init 99 = .ok (.iload_n 1, 1) := by decide +kernel
theorem dX8_init_100 : decode cX8_init 100 = .ok (.new 9, 3) := by decide +kernel
theorem dX8_init_103 : decode cX8_init 103 = .ok (.dup, 1) := by decide +kernel
theorem dX8_init_104 : decode cX8_init 104 = .ok (.iload_n 1, 1) := by decide +kernel
theorem dX8_init_105 : decode cX8_init 105 = .ok (.invokespecial 62, 3) := by decide +kernel
theorem dX8_init_108 : decode cX8_init 108 = .ok (.aastore, 1) := by decide +kernel
theorem dX8_init_109 : decode cX8_init 109 = .ok (.iinc 1 1, 3) := by decide +kernel
theorem dX8_init_112 : decode cX8_init 112 = .ok (.goto (-26), 3) := by decide +kernel
theorem dX8_init_115 : decode cX8_init 115 = .ok (.return_, 1) := by decide +kernel
set_option maxRecDepth 20000 in
theorem ggX8_kind_X8_flowAt : GoodIn wsX8_kind wsX8_flowAt := goodIn_ca (goodIn_r _ [12, 1, 2, 13, 46, 47, 48, 49, 50, 51, 52, 53, 54, 55, 56] (by decide +kernel) (by decide +kernel)) (goodIn_sub (fun _ h => List.mem_cons_of_mem _ (List.mem_append_right _ h)) (by decide +kernel))
set_option maxRecDepth 20000 in
theorem gX8_kind_X8_flowAt : GoodIn wsX8_kind (wsV RX8 65 RX8 yX8_flowAt wsX8_flowAt) := goodIn_app (goodIn_of _ (by decide +kernel)) ggX8_kind_X8_flowAt
set_option maxRecDepth 20000 in
theorem ggX8_kind_X3_restart : GoodIn wsX8_kind wsX3_restart := goodIn_r _ [18, 19, 20, 21, 57, 58, 59, 60, 61, 62, 63] (by decide +kernel) (by decide +kernel)
set_option maxRecDepth 20000 in
theorem gX8_kind_X3_restart : GoodIn wsX8_kind (wsV RX8 88 RX3 yX3_restart wsX3_restart) := goodIn_app (goodIn_of _ (by decide +kernel)) ggX8_kind_X3_restart
set_option maxRecDepth 20000 in
theorem ggX8_kind_X1_restart : GoodIn wsX8_kind wsX1_restart := goodIn_r _ [26, 27, 28, 29, 30, 64, 65, 66, 67, 68, 69, 70, 71] (by decide +kernel) (by decide +kernel)
set_option maxRecDepth 20000 in
theorem gX8_kind_X1_restart : GoodIn wsX8_kind (wsV RX8 97 RX1 yX1_restart wsX1_restart) := goodIn_app (goodIn_of _ (by decide +kernel)) ggX8_kind_X1_restart
theorem dX8_kind_0 : decode cX8_kind 0 = .ok (.aload_n 0, 1) := by decide +kernel
theorem dX8_kind_1 : decode cX8_kind 1 = .ok (.iload_n 1, 1) := by decide +kernel
theorem dX8_kind_2 : decode cX8_kind 2 = .ok (.invokevirtual 65, 3) := by decide +kernel
theorem dX8_kind_5 : decode cX8_kind 5 = .ok (.astore 4, 2) := by decide +kernel
theorem dX8_kind_7 : decode cX8_kind 7 = .ok (.iload_n 2, 1) := by decide +kernel
theorem dX8_kind_8 : decode cX8_kind 8 = .ok (.ifCond .lt 8, 3) := by decide +kernel
theorem dX8_kind_11 : decode cX8_kind 11 = .ok (.iload_n 2, 1) := by decide +kernel
theorem dX8_kind_12 : decode cX8_kind 12 = .ok (.iconst 2, 1) := by decide +kernel
theorem dX8_kind_13 : decode cX8_kind 13 = .ok (.if_icmp .le 13, 3) := by decide +kernel
theorem dX8_kind_16 : decode cX8_kind 16 = .ok (.new 69, 3) := by decide +kernel
theorem dX8_kind_19 : decode cX8_kind 19 = .ok (.dup, 1) := by decide +kernel
theorem dX8_kind_20 : decode cX8_kind 20 = .ok (.ldc 71, 2) := by decide +kernel
theorem dX8_kind_22 : decode cX8_kind 22 = .ok (.invokespecial 73, 3) := by decide +kernel
theorem dX8_kind_25 : decode cX8_kind 25 = .ok (.athrow, 1) := by decide +kernel
theorem dX8_kind_26 : decode cX8_kind 26 = .ok (.iload_n 3, 1) := by decide +kernel
theorem dX8_kind_27 : decode cX8_kind 27 = .ok (.iconst 1, 1) := by decide +kernel
theorem dX8_kind_28 : decode cX8_kind 28 = .ok (.if_icmp .lt 10, 3) := by decide +kernel
theorem dX8_kind_31 : decode cX8_kind 31 = .ok (.iload_n 3, 1) := by decide +kernel
theorem dX8_kind_32 : decode cX8_kind 32 = .ok (.sipush 3000, 3) := by decide +kernel
theorem dX8_kind_35 : decode cX8_kind 35 = .ok (.if_icmp .le 13, 3) := by decide +kernel
theorem dX8_kind_38 : decode cX8_kind 38 = .ok (.new 69, 3) := by decide +kernel
theorem dX8_kind_41 : decode cX8_kind 41 = .ok (.dup, 1) := by decide +kernel
theorem dX8_kind_42 : decode cX8_kind 42 = .ok (.ldc 76, 2) := by decide +kernel
theorem dX8_kind_44 : decode cX8_kind 44 = .ok (.invokespecial 73, 3) := by decide +kernel
theorem dX8_kind_47 : decode cX8_kind 47 = .ok (.athrow, 1) := by decide +kernel
theorem dX8_kind_48 : decode cX8_kind 48 = .ok (.aload 4, 2) := by decide +kernel
theorem dX8_kind_50 : decode cX8_kind 50 = .ok (.iload_n 2, 1) := by decide +kernel
theorem dX8_kind_51 : decode cX8_kind 51 = .ok (.putfield 78, 3) := by decide +kernel
theorem dX8_kind_54 : decode cX8_kind 54 = .ok (.aload 4, 2) := by decide +kernel
theorem dX8_kind_56 : decode cX8_kind 56 = .ok (.iload_n 3, 1) := by decide +kernel
theorem dX8_kind_57 : decode cX8_kind 57 = .ok (.putfield 81, 3) := by decide +kernel
theorem dX8_kind_60 : decode cX8_kind 60 = .ok (.aload 4, 2) := by decide +kernel
theorem dX8_kind_62 : decode cX8_kind 62 = .ok (.getfield 84, 3) := by decide +kernel
theorem dX8_kind_65 : decode cX8_kind 65 = .ok (.aload_n 0, 1) := by decide +kernel
theorem dX8_kind_66 : decode cX8_kind 66 = .ok (.getfield 36, 3) := by decide +kernel
theorem dX8_kind_69 : decode cX8_kind 69 = .ok (.invokevirtual 88, 3) := by decide +kernel
theorem dX8_kind_72 : decode cX8_kind 72 = .ok (.aload 4, 2) := by decide +kernel
theorem dX8_kind_74 : decode cX8_kind 74 = .ok (.getfield 93, 3) := by decide +kernel
theorem dX8_kind_77 : decode cX8_kind 77 = .ok (.invokevirtual 97, 3) := by decide +kernel
theorem dX8_kind_80 : decode cX8_kind 80 = .ok (.return_, 1) := by decide +kernel
set_option maxRecDepth 20000 in
theorem ggX8_mean_X8_flowAt : GoodIn wsX8_mean wsX8_flowAt := goodIn_ca (goodIn_r _ [9, 1, 2, 10, 35, 36, 37, 38, 39, 40, 41, 42, 43, 44, 45] (by decide +kernel) (by decide +kernel)) (goodIn_sub (fun _ h => List.mem_cons_of_mem _ (List.mem_append_right _ h)) (by decide +kernel))
set_option maxRecDepth 20000 in
theorem gX8_mean_X8_flowAt : GoodIn wsX8_mean (wsV RX8 65 RX8 yX8_flowAt wsX8_flowAt) := goodIn_app (goodIn_of _ (by decide +kernel)) ggX8_mean_X8_flowAt
set_option maxRecDepth 20000 in
theorem ggX8_mean_X3_tell : GoodIn wsX8_mean wsX3_tell := goodIn_r _ [15, 16, 17, 18, 19, 46, 47, 48, 49, 50, 51, 52] (by decide +kernel) (by decide +kernel)
set_option maxRecDepth 20000 in
theorem gX8_mean_X3_tell : GoodIn wsX8_mean (wsV RX8 109 RX3 yX3_tell wsX3_tell) := goodIn_app (goodIn_of _ (by decide +kernel)) ggX8_mean_X3_tell
theorem dX8_mean_0 : decode cX8_mean 0 = .ok (.aload_n 0, 1) := by decide +kernel
theorem dX8_mean_1 : decode cX8_mean 1 = .ok (.iload_n 1, 1) := by decide +kernel
theorem dX8_mean_2 : decode cX8_mean 2 = .ok (.invokevirtual 65, 3) := by decide +kernel
theorem dX8_mean_5 : decode cX8_mean 5 = .ok (.astore 10, 2) := by decide +kernel
theorem dX8_mean_7 : decode cX8_mean 7 = .ok (.dload_n 2, 1) := by decide +kernel
theorem dX8_mean_8 : decode cX8_mean 8 = .ok (.dconst 0, 1) := by decide +kernel
theorem dX8_mean_9 : decode cX8_mean 9 = .ok (.dcmp .l, 1) := by decide +kernel
theorem dX8_mean_10 : decode cX8_mean 10 = .ok (.ifCond .lt 19, 3) := by decide +kernel
theorem dX8_mean_13 : decode cX8_mean 13 = .ok (.dload_n 2, 1) := by decide +kernel
theorem dX8_mean_14 : decode cX8_mean 14 = .ok (.dload 4, 2) := by decide +kernel
theorem dX8_mean_16 : decode cX8_mean 16 = .ok (.dcmp .g, 1) := by decide +kernel
theorem dX8_mean_17 : decode cX8_mean 17 = .ok (.ifCond .ge 12, 3) := by decide +kernel
theorem dX8_mean_20 : decode cX8_mean 20 = .ok (.dload 4, 2) := by decide +kernel
theorem dX8_mean_22 : decode cX8_mean 22 = .ok (.ldc2_w 101, 3) := by decide +kernel
theorem dX8_mean_25 : decode cX8_mean 25 = .ok (.dcmp .g, 1) := by decide +kernel
theorem dX8_mean_26 : decode cX8_mean 26 = .ok (.ifCond .le 13, 3) := by decide +kernel
theorem dX8_mean_29 : decode cX8_mean 29 = .ok (.new 69, 3) := by decide +kernel
theorem dX8_mean_32 : decode cX8_mean 32 = .ok (.dup, 1) := by decide +kernel
theorem dX8_mean_33 : decode cX8_mean 33 = .ok (.ldc 103, 2) := by decide +kernel
theorem dX8_mean_35 : decode cX8_mean 35 = .ok (.invokespecial 73, 3) := by decide +kernel
theorem dX8_mean_38 : decode cX8_mean 38 = .ok (.athrow, 1) := by decide +kernel
theorem dX8_mean_39 : decode cX8_mean 39 = .ok (.dload 6, 2) := by decide +kernel
theorem dX8_mean_41 : decode cX8_mean 41 = .ok (.dconst 0, 1) := by decide +kernel
theorem dX8_mean_42 : decode cX8_mean 42 = .ok (.dcmp .l, 1) := by decide +kernel
theorem dX8_mean_43 : decode cX8_mean 43 = .ok (.ifCond .le 10, 3) := by decide +kernel
theorem dX8_mean_46 : decode cX8_mean 46 = .ok (.dload 6, 2) := by decide +kernel
theorem dX8_mean_48 : decode cX8_mean 48 = .ok (.dconst 1, 1) := by decide +kernel
theorem dX8_mean_49 : decode cX8_mean 49 = .ok (.dcmp .g, 1) := by decide +kernel
theorem dX8_mean_50 : decode cX8_mean 50 = .ok (.ifCond .le 13, 3) := by decide +kernel
theorem dX8_mean_53 : decode cX8_mean 53 = .ok (.new 69, 3) := by decide +kernel
theorem dX8_mean_56 : decode cX8_mean 56 = .ok (.dup, 1) := by decide +kernel
theorem dX8_mean_57 : decode cX8_mean 57 = .ok (.ldc 105, 2) := by decide +kernel
theorem dX8_mean_59 : decode cX8_mean 59 = .ok (.invokespecial 73, 3) := by decide +kernel
theorem dX8_mean_62 : decode cX8_mean 62 = .ok (.athrow, 1) := by decide +kernel
theorem dX8_mean_63 : decode cX8_mean 63 = .ok (.dload 8, 2) := by decide +kernel
theorem dX8_mean_65 : decode cX8_mean 65 = .ok (.dconst 0, 1) := by decide +kernel
theorem dX8_mean_66 : decode cX8_mean 66 = .ok (.dcmp .l, 1) := by decide +kernel
theorem dX8_mean_67 : decode cX8_mean 67 = .ok (.ifCond .le 10, 3) := by decide +kernel
theorem dX8_mean_70 : decode cX8_mean 70 = .ok (.dload 8, 2) := by decide +kernel
theorem dX8_mean_72 : decode cX8_mean 72 = .ok (.dconst 1, 1) := by decide +kernel
theorem dX8_mean_73 : decode cX8_mean 73 = .ok (.dcmp .g, 1) := by decide +kernel
theorem dX8_mean_74 : decode cX8_mean 74 = .ok (.ifCond .le 13, 3) := by decide +kernel
theorem dX8_mean_77 : decode cX8_mean 77 = .ok (.new 69, 3) := by decide +kernel
theorem dX8_mean_80 : decode cX8_mean 80 = .ok (.dup, 1) := by decide +kernel
theorem dX8_mean_81 : decode cX8_mean 81 = .ok (.ldc 107, 2) := by decide +kernel
theorem dX8_mean_83 : decode cX8_mean 83 = .ok (.invokespecial 73, 3) := by decide +kernel
theorem dX8_mean_86 : decode cX8_mean 86 = .ok (.athrow, 1) := by decide +kernel
theorem dX8_mean_87 : decode cX8_mean 87 = .ok (.aload 10, 2) := by decide +kernel
theorem dX8_mean_89 : decode cX8_mean 89 = .ok (.getfield 84, 3) := by decide +kernel
theorem dX8_mean_92 : decode cX8_mean 92 = .ok (.dload_n 2, 1) := by decide +kernel
theorem dX8_mean_93 : decode cX8_mean 93 = .ok (.dload 4, 2) := by decide +kernel
theorem dX8_mean_95 : decode cX8_mean 95 = .ok (.dload 6, 2) := by decide +kernel
theorem dX8_mean_97 : decode cX8_mean 97 = .ok (.dload 8, 2) := by decide +kernel
theorem dX8_mean_99 : decode cX8_mean 99 = .ok (.invokevirtual 109, 3) := by decide +kernel
theorem dX8_mean_102 : decode cX8_mean 102 = .ok (.return_, 1) := by decide +kernel
set_option maxRecDepth 20000 in
theorem ggX8_delay_X8_flowAt : GoodIn wsX8_delay wsX8_flowAt := goodIn_ca (goodIn_r _ [9, 1, 2, 10, 33, 34, 35, 36, 37, 38, 39, 40, 41, 42, 43] (by decide +kernel) (by decide +kernel)) (goodIn_sub (fun _ h => List.mem_cons_of_mem _ (List.mem_append_right _ h)) (by decide +kernel))
set_option maxRecDepth 20000 in
theorem gX8_delay_X8_flowAt : GoodIn wsX8_delay (wsV RX8 65 RX8 yX8_flowAt wsX8_flowAt) := goodIn_app (goodIn_of _ (by decide +kernel)) ggX8_delay_X8_flowAt
set_option maxRecDepth 20000 in
theorem ggX8_delay_X1_tell : GoodIn wsX8_delay wsX1_tell := goodIn_r _ [15, 16, 17, 44, 45, 46, 47, 48, 49, 50, 51] (by decide +kernel) (by decide +kernel)
set_option maxRecDepth 20000 in
theorem gX8_delay_X1_tell : GoodIn wsX8_delay (wsV RX8 117 RX1 yX1_tell wsX1_tell) := goodIn_app (goodIn_of _ (by decide +kernel)) ggX8_delay_X1_tell
theorem dX8_delay_0 : decode cX8_delay 0 = .ok (.aload_n 0, 1) := by decide +kernel
theorem dX8_delay_1 : decode cX8_delay 1 = .ok (.iload_n 1, 1) := by decide +kernel
theorem dX8_delay_2 : decode cX8_delay 2 = .ok (.invokevirtual 65, 3) := by decide +kernel
theorem dX8_delay_5 : decode cX8_delay 5 = .ok (.astore 6, 2) := by decide +kernel
theorem dX8_delay_7 : decode cX8_delay 7 = .ok (.dload_n 2, 1) := by decide +kernel
theorem dX8_delay_8 : decode cX8_delay 8 = .ok (.dconst 0, 1) := by decide +kernel
theorem dX8_delay_9 : decode cX8_delay 9 = .ok (.dcmp .l, 1) := by decide +kernel
theorem dX8_delay_10 : decode cX8_delay 10 = .ok (.ifCond .le 19, 3) := by decide +kernel
theorem dX8_delay_13 : decode cX8_delay 13 = .ok (.dload_n 2, 1) := by decide +kernel
theorem dX8_delay_14 : decode cX8_delay 14 = .ok (.dload 4, 2) := by decide +kernel
theorem dX8_delay_16 : decode cX8_delay 16 = .ok (.dcmp .g, 1) := by decide +kernel
theorem dX8_delay_17 : decode cX8_delay 17 = .ok (.ifCond .gt 12, 3) := by decide +kernel
theorem dX8_delay_20 : decode cX8_delay 20 = .ok (.dload 4, 2) := by decide +kernel
theorem dX8_delay_22 : decode cX8_delay 22 = .ok (.ldc2_w 113, 3) := by decide +kernel
theorem dX8_delay_25 : decode cX8_delay 25 = .ok (.dcmp .g, 1) := by decide +kernel
theorem dX8_delay_26 : decode cX8_delay 26 = .ok (.ifCond .le 13, 3) := by decide +kernel
theorem dX8_delay_29 : decode cX8_delay 29 = .ok (.new 69, 3) := by decide +kernel
theorem dX8_delay_32 : decode cX8_delay 32 = .ok (.dup, 1) := by decide +kernel
theorem dX8_delay_33 : decode cX8_delay 33 = .ok (.ldc 115, 2) := by decide +kernel
theorem dX8_delay_35 : decode cX8_delay 35 = .ok (.invokespecial 73, 3) := by decide +kernel
theorem dX8_delay_38 : decode cX8_delay 38 = .ok (.athrow, 1) := by decide +kernel
theorem dX8_delay_39 : decode cX8_delay 39 = .ok (.aload 6, 2) := by decide +kernel
theorem dX8_delay_41 : decode cX8_delay 41 = .ok (.getfield 93, 3) := by decide +kernel
theorem dX8_delay_44 : decode cX8_delay 44 = .ok (.dload_n 2, 1) := by decide +kernel
theorem dX8_delay_45 : decode cX8_delay 45 = .ok (.dload 4, 2) := by decide +kernel
theorem dX8_delay_47 : decode cX8_delay 47 = .ok (.invokevirtual 117, 3) := by decide +kernel
theorem dX8_delay_50 : decode cX8_delay 50 = .ok (.return_, 1) := by decide +kernel
theorem dX8_link_0 : decode cX8_link 0 = .ok (.dload_n 1, 1) := by decide +kernel
theorem dX8_link_1 : decode cX8_link 1 = .ok (.ldc2_w 120, 3) := by decide +kernel
theorem dX8_link_4 : decode cX8_link 4 = .ok (.dcmp .l, 1) := by decide +kernel
theorem dX8_link_5 : decode cX8_link 5 = .ok (.ifCond .lt 11, 3) := by decide +kernel
theorem dX8_link_8 : decode cX8_link 8 = .ok (.dload_n 1, 1) := by decide +kernel
theorem dX8_link_9 : decode cX8_link 9 = .ok (.ldc2_w 113, 3) := by decide +kernel
theorem dX8_link_12 : decode cX8_link 12 = .ok (.dcmp .g, 1) := by decide +kernel
theorem dX8_link_13 : decode cX8_link 13 = .ok (.ifCond .le 13, 3) := by decide +kernel
theorem dX8_link_16 : decode cX8_link 16 = .ok (.new 69, 3) := by decide +kernel
theorem dX8_link_19 : decode cX8_link 19 = .ok (.dup, 1) := by decide +kernel
theorem dX8_link_20 : decode cX8_link 20 = .ok (.ldc 122, 2) := by decide +kernel
theorem dX8_link_22 : decode cX8_link 22 = .ok (.invokespecial 73, 3) := by decide +kernel
theorem dX8_link_25 : decode cX8_link 25 = .ok (.athrow, 1) := by decide +kernel
theorem dX8_link_26 : decode cX8_link 26 = .ok (.iload_n 3, 1) := by decide +kernel
theorem dX8_link_27 : decode cX8_link 27 = .ok (.iconst 1, 1) := by decide +kernel
theorem dX8_link_28 : decode cX8_link 28 = .ok (.if_icmp .lt 9, 3) := by decide +kernel
theorem dX8_link_31 : decode cX8_link 31 = .ok (.iload_n 3, 1) := by decide +kernel
theorem dX8_link_32 : decode cX8_link 32 = .ok (.ldc 49, 2) := by decide +kernel
theorem dX8_link_34 : decode cX8_link 34 = .ok (.if_icmp .le 13, 3) := by decide +kernel
theorem dX8_link_37 : decode cX8_link 37 = .ok (.new 69, 3) := by decide +kernel
theorem dX8_link_40 : decode cX8_link 40 = .ok (.dup, 1) := by decide +kernel
theorem dX8_link_41 : decode cX8_link 41 = .ok (.ldc 124, 2) := by decide +kernel
theorem dX8_link_43 : decode cX8_link 43 = .ok (.invokespecial 73, 3) := by decide +kernel
theorem dX8_link_46 : decode cX8_link 46 = .ok (.athrow, 1) := by decide +kernel
theorem dX8_link_47 : decode cX8_link 47 = .ok (.aload_n 0, 1) := by decide +kernel
theorem dX8_link_48 : decode cX8_link 48 = .ok (.dload_n 1, 1) := by decide +kernel
theorem dX8_link_49 : decode cX8_link 49 = .ok (.putfield 55, 3) := by decide +kernel
theorem dX8_link_52 : decode cX8_link 52 = .ok (.aload_n 0, 1) := by decide +kernel
theorem dX8_link_53 : decode cX8_link 53 = .ok (.iload_n 3, 1) := by decide +kernel
theorem dX8_link_54 : decode cX8_link 54 = .ok (.putfield 50, 3) := by decide +kernel
theorem dX8_link_57 : decode cX8_link 57 = .ok (.return_, 1) := by decide +kernel
set_option maxRecDepth 20000 in
theorem ggX8_coin_X0_isFull : GoodIn wsX8_coin wsX0_isFull := goodIn_r _ [10, 11, 12, 13, 9, 14, 15, 16, 37, 38, 39] (by decide +kernel) (by decide +kernel)
set_option maxRecDepth 20000 in
theorem gX8_coin_X0_isFull : GoodIn wsX8_coin (wsV RX8 128 RX0 yX0_isFull wsX0_isFull) := goodIn_app (goodIn_of _ (by decide +kernel)) ggX8_coin_X0_isFull
set_option maxRecDepth 20000 in
theorem ggX8_coin_X0_add : GoodIn wsX8_coin wsX0_add := goodIn_r _ [20, 21, 15, 22, 23, 9, 24, 37, 38, 39] (by decide +kernel) (by decide +kernel)
set_option maxRecDepth 20000 in
theorem gX8_coin_X0_add : GoodIn wsX8_coin (wsV RX8 137 RX0 yX0_add wsX0_add) := goodIn_app (goodIn_of _ (by decide +kernel)) ggX8_coin_X0_add
set_option maxRecDepth 20000 in
theorem ggX8_coin_X0_waiting : GoodIn wsX8_coin wsX0_waiting := goodIn_r _ [14, 15, 16, 37, 38, 39] (by decide +kernel) (by decide +kernel)
set_option maxRecDepth 20000 in
theorem gX8_coin_X0_waiting : GoodIn wsX8_coin (wsV RX8 141 RX0 yX0_waiting wsX0_waiting) := goodIn_app (goodIn_of _ (by decide +kernel)) ggX8_coin_X0_waiting
theorem dX8_coin_0 : decode cX8_coin 0 = .ok (.dload_n 1, 1) := by decide +kernel
theorem dX8_coin_1 : decode cX8_coin 1 = .ok (.dconst 0, 1) := by decide +kernel
theorem dX8_coin_2 : decode cX8_coin 2 = .ok (.dcmp .l, 1) := by decide +kernel
theorem dX8_coin_3 : decode cX8_coin 3 = .ok (.ifCond .lt 9, 3) := by decide +kernel
theorem dX8_coin_6 : decode cX8_coin 6 = .ok (.dload_n 1, 1) := by decide +kernel
theorem dX8_coin_7 : decode cX8_coin 7 = .ok (.dconst 1, 1) := by decide +kernel
theorem dX8_coin_8 : decode cX8_coin 8 = .ok (.dcmp .g, 1) := by decide +kernel
theorem dX8_coin_9 : decode cX8_coin 9 = .ok (.ifCond .lt 13, 3) := by decide +kernel
theorem dX8_coin_12 : decode cX8_coin 12 = .ok (.new 69, 3) := by decide +kernel
theorem dX8_coin_15 : decode cX8_coin 15 = .ok (.dup, 1) := by decide +kernel
theorem dX8_coin_16 : decode cX8_coin 16 = .ok (.ldc 126, 2) := by decide +kernel
theorem dX8_coin_18 : decode cX8_coin 18 = .ok (.invokespecial 73, 3) := by decide +kernel
theorem dX8_coin_21 : decode cX8_coin 21 = .ok (.athrow, 1) := by decide +kernel
theorem dX8_coin_22 : decode cX8_coin 22 = .ok (.aload_n 0, 1) := by decide +kernel
theorem dX8_coin_23 : decode cX8_coin 23 = .ok (.getfield 25, 3) := by decide +kernel
theorem dX8_coin_26 : decode cX8_coin 26 = .ok (.invokevirtual 128, 3) := by decide +kernel
theorem dX8_coin_29 : decode cX8_coin 29 = .ok (.ifCond .eq 13, 3) := by decide +kernel
theorem dX8_coin_32 : decode cX8_coin 32 = .ok (.new 132, 3) := by decide +kernel
theorem dX8_coin_35 : decode cX8_coin 35 = .ok (.dup, 1) := by decide +kernel
theorem dX8_coin_36 : decode cX8_coin 36 = .ok (.ldc 134, 2) := by decide +kernel
theorem dX8_coin_38 : decode cX8_coin 38 = .ok (.invokespecial 136, 3) := by decide +kernel
theorem dX8_coin_41 : decode cX8_coin 41 = .ok (.athrow, 1) := by decide +kernel
theorem dX8_coin_42 : decode cX8_coin 42 = .ok (.aload_n 0, 1) := by decide +kernel
theorem dX8_coin_43 : decode cX8_coin 43 = .ok (.getfield 25, 3) := by decide +kernel
theorem dX8_coin_46 : decode cX8_coin 46 = .ok (.dload_n 1, 1) := by decide +kernel
theorem dX8_coin_47 : decode cX8_coin 47 = .ok (.invokevirtual 137, 3) := by decide +kernel
theorem dX8_coin_50 : decode cX8_coin 50 = .ok (.aload_n 0, 1) := by decide +kernel
theorem dX8_coin_51 : decode cX8_coin 51 = .ok (.getfield 25, 3) := by decide +kernel
theorem dX8_coin_54 : decode cX8_coin 54 = .ok (.invokevirtual 141, 3) := by decide +kernel
theorem dX8_coin_57 : decode cX8_coin 57 = .ok (.ireturn, 1) := by decide +kernel
set_option maxRecDepth 20000 in
theorem ggX8_come_X8_flowAt : GoodIn wsX8_come wsX8_flowAt := goodIn_ca (goodIn_r _ [20, 1, 2, 21, 128, 129, 130, 131, 132, 133, 134, 135, 136, 137, 138] (by decide +kernel) (by decide +kernel)) (goodIn_sub (fun _ h => List.mem_cons_of_mem _ (List.mem_append_right _ h)) (by decide +kernel))
set_option maxRecDepth 20000 in
theorem gX8_come_X8_flowAt : GoodIn wsX8_come (wsV RX8 65 RX8 yX8_flowAt wsX8_flowAt) := goodIn_app (goodIn_of _ (by decide +kernel)) ggX8_come_X8_flowAt
set_option maxRecDepth 20000 in
theorem ggX8_come_X5_init : GoodIn wsX8_come wsX5_init := goodIn_r _ [24, 25, 26, 27, 28, 29, 30, 31, 32, 33, 34, 35, 120, 121, 122, 123, 124, 125, 126, 127] (by decide +kernel) (by decide +kernel)
set_option maxRecDepth 20000 in
theorem gX8_come_X5_init : GoodIn wsX8_come (wsX5_init) := ggX8_come_X5_init
set_option maxRecDepth 20000 in
theorem ggX8_come_X2_letsIn : GoodIn wsX8_come wsX2_letsIn := goodIn_r _ [40, 41, 42, 43, 44, 45, 46, 47, 48, 49, 50, 51, 52, 53, 54, 55, 56, 57, 58, 59, 60, 61, 62, 63, 64, 65, 66, 67, 68, 69, 70, 71, 72, 73, 74, 75, 76, 77, 78, 79, 80, 81, 82, 83, 84, 85, 86, 87, 39, 88, 89, 90, 91, 139, 140, 141, 142, 143, 144, 145, 146, 147, 148, 149, 150, 151, 152, 153, 154, 155, 156, 157, 158, 159, 160, 161, 162, 163, 164, 165, 166, 167, 120, 121, 122, 123, 124, 125, 126, 127] (by decide +kernel) (by decide +kernel)
set_option maxRecDepth 20000 in
theorem gX8_come_X2_letsIn : GoodIn wsX8_come (wsV RX8 158 RX2 yX2_letsIn wsX2_letsIn) := goodIn_app (goodIn_of _ (by decide +kernel)) ggX8_come_X2_letsIn
set_option maxRecDepth 20000 in
theorem ggX8_come_X8_putIn : GoodIn wsX8_come wsX8_putIn := goodIn_r _ [95, 96, 97, 98, 99, 9, 10, 100, 101, 102, 103, 104, 105, 106, 107, 108, 109, 110, 111, 112, 113, 114, 115, 116, 117, 118, 119, 120, 121, 122, 123, 124, 125, 126, 127, 139, 140, 141, 142, 143, 144, 145, 146, 147, 148, 149, 150, 151, 152, 153, 154, 155, 156, 157, 128, 129, 130, 131, 132, 133, 134, 135, 136, 137, 138, 168, 169, 170] (by decide +kernel) (by decide +kernel)
set_option maxRecDepth 20000 in
theorem gX8_come_X8_putIn : GoodIn wsX8_come (wsV RX8 165 RX8 yX8_putIn wsX8_putIn) := goodIn_app (goodIn_of _ (by decide +kernel)) ggX8_come_X8_putIn
theorem dX8_come_0 : decode cX8_come 0 = .ok (.aload_n 0, 1) := by decide +kernel
theorem dX8_come_1 : decode cX8_come 1 = .ok (.iload_n 1, 1) := by decide +kernel
theorem dX8_come_2 : decode cX8_come 2 = .ok (.invokevirtual 65, 3) := by decide +kernel
theorem dX8_come_5 : decode cX8_come 5 = .ok (.astore 4, 2) := by decide +kernel
theorem dX8_come_7 : decode cX8_come 7 = .ok (.iload_n 2, 1) := by decide +kernel
theorem dX8_come_8 : decode cX8_come 8 = .ok (.iconst 1, 1) := by decide +kernel
theorem dX8_come_9 : decode cX8_come 9 = .ok (.if_icmp .lt 10, 3) := by decide +kernel
theorem dX8_come_12 : decode cX8_come 12 = .ok (.iload_n 2, 1) := by decide +kernel
theorem dX8_come_13 : decode cX8_come 13 = .ok (.sipush 1500, 3) := by decide +kernel
theorem dX8_come_16 : decode cX8_come 16 = .ok (.if_icmp .le 13, 3) := by decide +kernel
theorem dX8_come_19 : decode cX8_come 19 = .ok (.new 69, 3) := by decide +kernel
theorem dX8_come_22 : decode cX8_come 22 = .ok (.dup, 1) := by decide +kernel
theorem dX8_come_23 : decode cX8_come 23 = .ok (.ldc 145, 2) := by decide +kernel
theorem dX8_come_25 : decode cX8_come 25 = .ok (.invokespecial 73, 3) := by decide +kernel
theorem dX8_come_28 : decode cX8_come 28 = .ok (.athrow, 1) := by decide +kernel
theorem dX8_come_29 : decode cX8_come 29 = .ok (.new 147, 3) := by decide +kernel
theorem dX8_come_32 : decode cX8_come 32 = .ok (.dup, 1) := by decide +kernel
theorem dX8_come_33 : decode cX8_come 33 = .ok (.aload_n 0, 1) := by decide +kernel
theorem dX8_come_34 : decode cX8_come 34 = .ok (.getfield 40, 3) := by decide +kernel
theorem dX8_come_37 : decode cX8_come 37 = .ok (.aload 4, 2) := by decide +kernel
theorem dX8_come_39 : decode cX8_come 39 = .ok (.iload_n 2, 1) := by decide +kernel
theorem dX8_come_40 : decode cX8_come 40 = .ok (.aload_n 0, 1) := by decide +kernel
theorem dX8_come_41 : decode cX8_come 41 = .ok (.getfield 36, 3) := by decide +kernel
theorem dX8_come_44 : decode cX8_come 44 = .ok (.iload_n 3, 1) := by decide +kernel
theorem dX8_come_45 : decode cX8_come 45 = .ok (.invokespecial 149, 3) := by decide +kernel
theorem dX8_come_48 : decode cX8_come 48 = .ok (.astore 5, 2) := by decide +kernel
theorem dX8_come_50 : decode cX8_come 50 = .ok (.aload_n 0, 1) := by decide +kernel
theorem dX8_come_51 : decode cX8_come 51 = .ok (.dup, 1) := by decide +kernel
theorem dX8_come_52 : decode cX8_come 52 = .ok (.getfield 40, 3) := by decide +kernel
theorem dX8_come_55 : decode cX8_come 55 = .ok (.iconst 1, 1) := by decide +kernel
theorem dX8_come_56 : decode cX8_come 56 = .ok (.iadd, 1) := by decide +kernel
theorem dX8_come_57 : decode cX8_come 57 = .ok (.putfield 40, 3) := by decide +kernel
theorem dX8_come_60 : decode cX8_come 60 = .ok (.aload 4, 2) := by decide +kernel
theorem dX8_come_62 : decode cX8_come 62 = .ok (.dup, 1) := by decide +kernel
theorem dX8_come_63 : decode cX8_come 63 = .ok (.getfield 152, 3) := by decide +kernel
theorem dX8_come_66 : decode cX8_come 66 = .ok (.iconst 1, 1) := by decide +kernel
theorem dX8_come_67 : decode cX8_come 67 = .ok (.iadd, 1) := by decide +kernel
theorem dX8_come_68 : decode cX8_come 68 = .ok (.putfield 152, 3) := by decide +kernel
theorem dX8_come_71 : decode cX8_come 71 = .ok (.aload_n 0, 1) := by decide +kernel
theorem dX8_come_72 : decode cX8_come 72 = .ok (.getfield 43, 3) := by decide +kernel
theorem dX8_come_75 : decode cX8_come 75 = .ok (.bipush 100, 2) := by decide +kernel
theorem dX8_come_77 : decode cX8_come 77 = .ok (.if_icmp .ge 16, 3) := by decide +kernel
theorem dX8_come_80 : decode cX8_come 80 = .ok (.aload_n 0, 1) := by decide +kernel
theorem dX8_come_81 : decode cX8_come 81 = .ok (.getfield 46, 3) := by decide +kernel
theorem dX8_come_84 : decode cX8_come 84 = .ok (.iload_n 2, 1) := by decide +kernel
theorem dX8_come_85 : decode cX8_come 85 = .ok (.iadd, 1) := by decide +kernel
theorem dX8_come_86 : decode cX8_come 86 = .ok (.aload_n 0, 1) := by decide +kernel
theorem dX8_come_87 : decode cX8_come 87 = .ok (.getfield 50, 3) := by decide +kernel
theorem dX8_come_90 : decode cX8_come 90 = .ok (.if_icmp .le 16, 3) := by decide +kernel
theorem dX8_come_93 : decode cX8_come 93 = .ok (.aload 4, 2) := by decide +kernel
theorem dX8_come_95 : decode cX8_come 95 = .ok (.dup, 1) := by decide +kernel
theorem dX8_come_96 : decode cX8_come 96 = .ok (.getfield 155, 3) := by decide +kernel
theorem dX8_come_99 : decode cX8_come 99 = .ok (.iconst 1, 1) := by decide +kernel
theorem dX8_come_100 : decode cX8_come 100 = .ok (.iadd, 1) := by decide +kernel
theorem dX8_come_101 : decode cX8_come 101 = .ok (.putfield 155, 3) := by decide +kernel
theorem dX8_come_104 : decode cX8_come 104 = .ok (.iconst (-1), 1) := by decide +kernel
theorem dX8_come_105 : decode cX8_come 105 = .ok (.ireturn, 1) := by decide +kernel
theorem dX8_come_106 : decode cX8_come 106 = .ok (.aload 4, 2) := by decide +kernel
theorem dX8_come_108 : decode cX8_come 108 = .ok (.aload 5, 2) := by decide +kernel
theorem dX8_come_110 : decode cX8_come 110 = .ok (.aload_n 0, 1) := by decide +kernel
theorem dX8_come_111 : decode cX8_come 111 = .ok (.getfield 36, 3) := by decide +kernel
theorem dX8_come_114 : decode cX8_come 114 = .ok (.aload_n 0, 1) := by decide +kernel
theorem dX8_come_115 : decode cX8_come 115 = .ok (.getfield 25, 3) := by decide +kernel
theorem dX8_come_118 : decode cX8_come 118 = .ok (.invokevirtual 158, 3) := by decide +kernel
theorem dX8_come_121 : decode cX8_come 121 = .ok (.ifCond .ne 16, 3) := by decide +kernel
theorem dX8_come_124 : decode cX8_come 124 = .ok (.aload 4, 2) := by decide +kernel
theorem dX8_come_126 : decode cX8_come 126 = .ok (.dup, 1) := by decide +kernel
theorem dX8_come_127 : decode cX8_come 127 = .ok (.getfield 162, 3) := by decide +kernel
theorem dX8_come_130 : decode cX8_come 130 = .ok (.iconst 1, 1) := by decide +kernel
theorem dX8_come_131 : decode cX8_come 131 = .ok (.iadd, 1) := by decide +kernel
theorem dX8_come_132 : decode cX8_come 132 = .ok (.putfield 162, 3) := by decide +kernel
theorem dX8_come_135 : decode cX8_come 135 = .ok (.iconst (-1), 1) := by decide +kernel
theorem dX8_come_136 : decode cX8_come 136 = .ok (.ireturn, 1) := by decide +kernel
theorem dX8_come_137 : decode cX8_come 137 = .ok (.aload_n 0, 1) := by decide +kernel
theorem dX8_come_138 : decode cX8_come 138 = .ok (.aload 5, 2) := by decide +kernel
theorem dX8_come_140 : decode cX8_come 140 = .ok (.invokevirtual 165, 3) := by decide +kernel
theorem dX8_come_143 : decode cX8_come 143 = .ok (.aload 5, 2) := by decide +kernel
theorem dX8_come_145 : decode cX8_come 145 = .ok (.getfield 169, 3) := by decide +kernel
theorem dX8_come_148 : decode cX8_come 148 = .ok (.ireturn, 1) := by decide +kernel
set_option maxRecDepth 20000 in
theorem ggX8_tick_X8_oneTick : GoodIn wsX8_tick wsX8_oneTick := goodIn_r _ [7, 8, 9, 10, 11, 12, 6, 13, 14, 15, 16, 17, 18, 19, 20, 21, 22, 23, 24, 25, 26, 27, 28, 29, 30, 31, 32, 33, 34, 35, 36, 37, 38, 39, 40, 41, 42, 43, 44, 45, 46, 47, 48, 49, 50, 51, 52, 53, 54, 55, 56, 57, 58, 59, 60, 61, 62, 63, 64, 65, 66, 67, 68, 69, 70, 71, 72, 73, 74, 75, 76, 77, 78, 79, 80, 81, 82, 83, 84, 85, 86, 87, 88, 89, 90, 91, 92, 93, 94, 95, 96, 97, 98, 99, 100, 101, 102, 103, 104, 105, 106, 107, 108, 109, 110, 111, 112, 113, 114, 115, 116, 117, 118, 119, 120, 121, 122, 123, 124, 125, 126, 127, 128, 129, 130, 131, 132, 133, 134, 135, 136, 137, 138, 139, 140, 141, 142, 143, 144, 145, 146, 147, 148, 149, 150, 151, 152, 153, 154, 155, 156, 157, 158, 159, 160, 161, 162, 163, 164, 165, 166, 167, 168, 169, 170, 171, 172, 173, 174, 175, 176, 177, 178, 179, 180, 181, 182, 183, 184, 185, 186, 187, 188, 189, 190, 191, 192, 193, 194] (by decide +kernel) (by decide +kernel)
set_option maxRecDepth 20000 in
theorem gX8_tick_X8_oneTick : GoodIn wsX8_tick (wsV RX8 174 RX8 yX8_oneTick wsX8_oneTick) := goodIn_app (goodIn_of _ (by decide +kernel)) ggX8_tick_X8_oneTick
theorem dX8_tick_0 : decode cX8_tick 0 = .ok (.iload_n 1, 1) := by decide +kernel
theorem dX8_tick_1 : decode cX8_tick 1 = .ok (.iconst 1, 1) := by decide +kernel
theorem dX8_tick_2 : decode cX8_tick 2 = .ok (.if_icmp .lt 10, 3) := by decide +kernel
theorem dX8_tick_5 : decode cX8_tick 5 = .ok (.iload_n 1, 1) := by decide +kernel
theorem dX8_tick_6 : decode cX8_tick 6 = .ok (.sipush 1000, 3) := by decide +kernel
theorem dX8_tick_9 : decode cX8_tick 9 = .ok (.if_icmp .le 13, 3) := by decide +kernel
theorem dX8_tick_12 : decode cX8_tick 12 = .ok (.new 69, 3) := by decide +kernel
theorem dX8_tick_15 : decode cX8_tick 15 = .ok (.dup, 1) := by decide +kernel
theorem dX8_tick_16 : decode cX8_tick 16 = .ok (.ldc 172, 2) := by decide +kernel
theorem dX8_tick_18 : decode cX8_tick 18 = .ok (.invokespecial 73, 3) := by decide +kernel
theorem dX8_tick_21 : decode cX8_tick 21 = .ok (.athrow, 1) := by decide +kernel
theorem dX8_tick_22 : decode cX8_tick 22 = .ok (.iconst 0, 1) := by decide +kernel
theorem dX8_tick_23 : decode cX8_tick 23 = .ok (.istore_n 2, 1) := by decide +kernel
theorem dX8_tick_24 : decode cX8_tick 24 = .ok (.iconst 0, 1) := by decide +kernel
theorem dX8_tick_25 : decode cX8_tick 25 = .ok (.istore_n 3, 1) := by decide +kernel
theorem dX8_tick_26 : decode cX8_tick 26 = .ok (.iload_n 3, 1) := by decide +kernel
theorem dX8_tick_27 : decode cX8_tick 27 = .ok (.iload_n 1, 1) := by decide +kernel
theorem dX8_tick_28 : decode cX8_tick 28 = .ok (.if_icmp .ge 16, 3) := by decide +kernel
theorem dX8_tick_31 : decode cX8_tick 31 = .ok (.iload_n 2, 1) := by decide +kernel
theorem dX8_tick_32 : decode cX8_tick 32 = .ok (.aload_n 0, 1) := by decide +kernel
theorem dX8_tick_33 : decode cX8_tick 33 = .ok (.invokevirtual 174, 3) := by decide +kernel
theorem dX8_tick_36 : decode cX8_tick 36 = .ok (.iadd, 1) := by decide +kernel
theorem dX8_tick_37 : decode cX8_tick 37 = .ok (.istore_n 2, 1) := by decide +kernel
theorem dX8_tick_38 : decode cX8_tick 38 = .ok (.iinc 3 1, 3) := by decide +kernel
theorem dX8_tick_41 : decode cX8_tick 41 = .ok (.goto (-15), 3) := by decide +kernel
theorem dX8_tick_44 : decode cX8_tick 44 = .ok (.iload_n 2, 1) := by decide +kernel
theorem dX8_tick_45 : decode cX8_tick 45 = .ok (.ireturn, 1) := by decide +kernel
set_option maxRecDepth 20000 in
theorem ggX8_count_X8_flowAt : GoodIn wsX8_count wsX8_flowAt := goodIn_ca (goodIn_r _ [18, 1, 2, 19, 39, 40, 41, 42, 43, 44, 45, 46, 47, 48, 49] (by decide +kernel) (by decide +kernel)) (goodIn_sub (fun _ h => List.mem_cons_of_mem _ (List.mem_append_right _ h)) (by decide +kernel))
set_option maxRecDepth 20000 in
theorem gX8_count_X8_flowAt : GoodIn wsX8_count (wsV RX8 65 RX8 yX8_flowAt wsX8_flowAt) := goodIn_app (goodIn_of _ (by decide +kernel)) ggX8_count_X8_flowAt
theorem dX8_count_0 : decode cX8_count 0 = .ok (.aload_n 0, 1) := by decide +kernel
theorem dX8_count_1 : decode cX8_count 1 = .ok (.iload_n 1, 1) := by decide +kernel
theorem dX8_count_2 : decode cX8_count 2 = .ok (.invokevirtual 65, 3) := by decide +kernel
theorem dX8_count_5 : decode cX8_count 5 = .ok (.astore_n 3, 1) := by decide +kernel
theorem dX8_count_6 : decode cX8_count 6 = .ok (.iload_n 2, 1) := by decide +kernel
theorem dX8_count_7 : decode cX8_count 7 = .ok (.tableswitch 109 0 9 #[53, 58, 63, 68, 73, 78, 83, 91, 99, 104], 53) := by decide +kernel
theorem dX8_count_60 : decode cX8_count 60 = .ok (.aload_n 3, 1) := by decide +kernel
theorem dX8_count_61 : decode cX8_count 61 = .ok (.getfield 152, 3) := by decide +kernel
theorem dX8_count_64 : decode cX8_count 64 = .ok (.ireturn, 1) := by decide +kernel
theorem dX8_count_65 : decode cX8_count 65 = .ok (.aload_n 3, 1) := by decide +kernel
theorem dX8_count_66 : decode cX8_count 66 = .ok (.getfield 177, 3) := by decide +kernel
theorem dX8_count_69 : decode cX8_count 69 = .ok (.ireturn, 1) := by decide +kernel
theorem dX8_count_70 : decode cX8_count 70 = .ok (.aload_n 3, 1) := by decide +kernel
theorem dX8_count_71 : decode cX8_count 71 = .ok (.getfield 155, 3) := by decide +kernel
theorem dX8_count_74 : decode cX8_count 74 = .ok (.ireturn, 1) := by decide +kernel
theorem dX8_count_75 : decode cX8_count 75 = .ok (.aload_n 3, 1) := by decide +kernel
theorem dX8_count_76 : decode cX8_count 76 = .ok (.getfield 162, 3) := by decide +kernel
theorem dX8_count_79 : decode cX8_count 79 = .ok (.ireturn, 1) := by decide +kernel
theorem dX8_count_80 : decode cX8_count 80 = .ok (.aload_n 3, 1) := by decide +kernel
theorem dX8_count_81 : decode cX8_count 81 = .ok (.getfield 180, 3) := by decide +kernel
theorem dX8_count_84 : decode cX8_count 84 = .ok (.ireturn, 1) := by decide +kernel
theorem dX8_count_85 : decode cX8_count 85 = .ok (.aload_n 3, 1) := by decide +kernel
theorem dX8_count_86 : decode cX8_count 86 = .ok (.getfield 183, 3) := by decide +kernel
theorem dX8_count_89 : decode cX8_count 89 = .ok (.ireturn, 1) := by decide +kernel
theorem dX8_count_90 : decode cX8_count 90 = .ok (.aload_n 3, 1) := by decide +kernel
theorem dX8_count_91 : decode cX8_count 91 = .ok (.getfield 186, 3) := by decide +kernel
theorem dX8_count_94 : decode cX8_count 94 = .ok (.getfield 190, 3) := by decide +kernel
theorem dX8_count_97 : decode cX8_count 97 = .ok (.ireturn, 1) := by decide +kernel
theorem dX8_count_98 : decode cX8_count 98 = .ok (.aload_n 3, 1) := by decide +kernel
theorem dX8_count_99 : decode cX8_count 99 = .ok (.getfield 186, 3) := by decide +kernel
theorem dX8_count_102 : decode cX8_count 102 = .ok (.getfield 195, 3) := by decide +kernel
theorem dX8_count_105 : decode cX8_count 105 = .ok (.ireturn, 1) := by decide +kernel
theorem dX8_count_106 : decode cX8_count 106 = .ok (.aload_n 3, 1) := by decide +kernel
theorem dX8_count_107 : decode cX8_count 107 = .ok (.getfield 198, 3) := by decide +kernel
theorem dX8_count_110 : decode cX8_count 110 = .ok (.ireturn, 1) := by decide +kernel
theorem dX8_count_111 : decode cX8_count 111 = .ok (.aload_n 3, 1) := by decide +kernel
theorem dX8_count_112 : decode cX8_count 112 = .ok (.getfield 201, 3) := by decide +kernel
theorem dX8_count_115 : decode cX8_count 115 = .ok (.ireturn, 1) := by decide +kernel
theorem dX8_count_116 : decode cX8_count 116 = .ok (.new 69, 3) := by decide +kernel
theorem dX8_count_119 : decode cX8_count 119 = .ok (.dup, 1) := by decide +kernel
theorem dX8_count_120 : decode cX8_count 120 = .ok (.ldc 204, 2) := by decide +kernel
theorem dX8_count_122 : decode cX8_count 122 = .ok (.invokespecial 73, 3) := by decide +kernel
theorem dX8_count_125 : decode cX8_count 125 = .ok (.athrow, 1) := by decide +kernel
set_option maxRecDepth 20000 in
theorem ggX8_average_X8_flowAt : GoodIn wsX8_average wsX8_flowAt := goodIn_ca (goodIn_r _ [7, 8, 9, 10, 33, 34, 35, 36, 37, 38, 39, 40, 41, 42, 43] (by decide +kernel) (by decide +kernel)) (goodIn_sub (fun _ h => List.mem_cons_of_mem _ (List.mem_append_right _ h)) (by decide +kernel))
set_option maxRecDepth 20000 in
theorem gX8_average_X8_flowAt : GoodIn wsX8_average (wsV RX8 65 RX8 yX8_flowAt wsX8_flowAt) := goodIn_app (goodIn_of _ (by decide +kernel)) ggX8_average_X8_flowAt
theorem dX8_average_0 : decode cX8_average 0 = .ok (.aload_n 0, 1) := by decide +kernel
theorem dX8_average_1 : decode cX8_average 1 = .ok (.iload_n 1, 1) := by decide +kernel
theorem dX8_average_2 : decode cX8_average 2 = .ok (.invokevirtual 65, 3) := by decide +kernel
theorem dX8_average_5 : decode cX8_average 5 = .ok (.getfield 84, 3) := by decide +kernel
theorem dX8_average_8 : decode cX8_average 8 = .ok (.getfield 206, 3) := by decide +kernel
theorem dX8_average_11 : decode cX8_average 11 = .ok (.dreturn, 1) := by decide +kernel
set_option maxRecDepth 20000 in
theorem ggX8_next_X8_flowAt : GoodIn wsX8_next wsX8_flowAt := goodIn_ca (goodIn_r _ [9, 10, 11, 12, 36, 37, 38, 39, 40, 41, 42, 43, 44, 45, 46] (by decide +kernel) (by decide +kernel)) (goodIn_sub (fun _ h => List.mem_cons_of_mem _ (List.mem_append_right _ h)) (by decide +kernel))
set_option maxRecDepth 20000 in
theorem gX8_next_X8_flowAt : GoodIn wsX8_next (wsV RX8 65 RX8 yX8_flowAt wsX8_flowAt) := goodIn_app (goodIn_of _ (by decide +kernel)) ggX8_next_X8_flowAt
theorem dX8_next_0 : decode cX8_next 0 = .ok (.aload_n 0, 1) := by decide +kernel
theorem dX8_next_1 : decode cX8_next 1 = .ok (.iload_n 1, 1) := by decide +kernel
theorem dX8_next_2 : decode cX8_next 2 = .ok (.invokevirtual 65, 3) := by decide +kernel
theorem dX8_next_5 : decode cX8_next 5 = .ok (.getfield 93, 3) := by decide +kernel
theorem dX8_next_8 : decode cX8_next 8 = .ok (.astore_n 2, 1) := by decide +kernel
theorem dX8_next_9 : decode cX8_next 9 = .ok (.aload_n 2, 1) := by decide +kernel
theorem dX8_next_10 : decode cX8_next 10 = .ok (.getfield 209, 3) := by decide +kernel
theorem dX8_next_13 : decode cX8_next 13 = .ok (.ifCond .eq 10, 3) := by decide +kernel
theorem dX8_next_16 : decode cX8_next 16 = .ok (.aload_n 2, 1) := by decide +kernel
theorem dX8_next_17 : decode cX8_next 17 = .ok (.getfield 213, 3) := by decide +kernel
theorem dX8_next_20 : decode cX8_next 20 = .ok (.goto 6, 3) := by decide +kernel
theorem dX8_next_23 : decode cX8_next 23 = .ok (.ldc2_w 216, 3) := by decide +kernel
theorem dX8_next_26 : decode cX8_next 26 = .ok (.dreturn, 1) := by decide +kernel
theorem dX8_free_0 : decode cX8_free 0 = .ok (.aload_n 0, 1) := by decide +kernel
theorem dX8_free_1 : decode cX8_free 1 = .ok (.getfield 59, 3) := by decide +kernel
theorem dX8_free_4 : decode cX8_free 4 = .ok (.dreturn, 1) := by decide +kernel
set_option maxRecDepth 20000 in
theorem ggX8_sent_X4_lastBut : GoodIn wsX8_sent wsX4_lastBut := goodIn_r _ [14, 15, 16, 17, 18, 13, 19, 54, 55] (by decide +kernel) (by decide +kernel)
set_option maxRecDepth 20000 in
theorem gX8_sent_X4_lastBut : GoodIn wsX8_sent (wsV RX8 220 RX4 yX4_lastBut wsX4_lastBut) := goodIn_app (goodIn_of _ (by decide +kernel)) ggX8_sent_X4_lastBut
theorem dX8_sent_0 : decode cX8_sent 0 = .ok (.iload_n 2, 1) := by decide +kernel
theorem dX8_sent_1 : decode cX8_sent 1 = .ok (.ifCond .lt 8, 3) := by decide +kernel
theorem dX8_sent_4 : decode cX8_sent 4 = .ok (.iload_n 2, 1) := by decide +kernel
theorem dX8_sent_5 : decode cX8_sent 5 = .ok (.iconst 4, 1) := by decide +kernel
theorem dX8_sent_6 : decode cX8_sent 6 = .ok (.if_icmp .le 13, 3) := by decide +kernel
theorem dX8_sent_9 : decode cX8_sent 9 = .ok (.new 69, 3) := by decide +kernel
theorem dX8_sent_12 : decode cX8_sent 12 = .ok (.dup, 1) := by decide +kernel
theorem dX8_sent_13 : decode cX8_sent 13 = .ok (.ldc 218, 2) := by decide +kernel
theorem dX8_sent_15 : decode cX8_sent 15 = .ok (.invokespecial 73, 3) := by decide +kernel
theorem dX8_sent_18 : decode cX8_sent 18 = .ok (.athrow, 1) := by decide +kernel
theorem dX8_sent_19 : decode cX8_sent 19 = .ok (.aload_n 0, 1) := by decide +kernel
theorem dX8_sent_20 : decode cX8_sent 20 = .ok (.getfield 32, 3) := by decide +kernel
theorem dX8_sent_23 : decode cX8_sent 23 = .ok (.iload_n 1, 1) := by decide +kernel
theorem dX8_sent_24 : decode cX8_sent 24 = .ok (.invokevirtual 220, 3) := by decide +kernel
theorem dX8_sent_27 : decode cX8_sent 27 = .ok (.astore_n 3, 1) := by decide +kernel
theorem dX8_sent_28 : decode cX8_sent 28 = .ok (.aload_n 3, 1) := by decide +kernel
theorem dX8_sent_29 : decode cX8_sent 29 = .ok (.ifnonnull 5, 3) := by decide +kernel
theorem dX8_sent_32 : decode cX8_sent 32 = .ok (.iconst (-1), 1) := by decide +kernel
theorem dX8_sent_33 : decode cX8_sent 33 = .ok (.ireturn, 1) := by decide +kernel
theorem dX8_sent_34 : decode cX8_sent 34 = .ok (.iload_n 2, 1) := by decide +kernel
theorem dX8_sent_35 : decode cX8_sent 35 = .ok (.tableswitch 52 0 3 #[29, 34, 42, 47], 29) := by decide +kernel
theorem dX8_sent_64 : decode cX8_sent 64 = .ok (.aload_n 3, 1) := by decide +kernel
theorem dX8_sent_65 : decode cX8_sent 65 = .ok (.getfield 169, 3) := by decide +kernel
theorem dX8_sent_68 : decode cX8_sent 68 = .ok (.ireturn, 1) := by decide +kernel
theorem dX8_sent_69 : decode cX8_sent 69 = .ok (.aload_n 3, 1) := by decide +kernel
theorem dX8_sent_70 : decode cX8_sent 70 = .ok (.getfield 224, 3) := by decide +kernel
theorem dX8_sent_73 : decode cX8_sent 73 = .ok (.getfield 228, 3) := by decide +kernel
theorem dX8_sent_76 : decode cX8_sent 76 = .ok (.ireturn, 1) := by decide +kernel
theorem dX8_sent_77 : decode cX8_sent 77 = .ok (.aload_n 3, 1) := by decide +kernel
theorem dX8_sent_78 : decode cX8_sent 78 = .ok (.getfield 231, 3) := by decide +kernel
theorem dX8_sent_81 : decode cX8_sent 81 = .ok (.ireturn, 1) := by decide +kernel
theorem dX8_sent_82 : decode cX8_sent 82 = .ok (.aload_n 3, 1) := by decide +kernel
theorem dX8_sent_83 : decode cX8_sent 83 = .ok (.getfield 232, 3) := by decide +kernel
theorem dX8_sent_86 : decode cX8_sent 86 = .ok (.ireturn, 1) := by decide +kernel
theorem dX8_sent_87 : decode cX8_sent 87 = .ok (.aload_n 3, 1) := by decide +kernel
theorem dX8_sent_88 : decode cX8_sent 88 = .ok (.getfield 235, 3) := by decide +kernel
theorem dX8_sent_91 : decode cX8_sent 91 = .ok (.ifCond .eq 7, 3) := by decide +kernel
theorem dX8_sent_94 : decode cX8_sent 94 = .ok (.iconst 1, 1) := by decide +kernel
theorem dX8_sent_95 : decode cX8_sent 95 = .ok (.goto 4, 3) := by decide +kernel
theorem dX8_sent_98 : decode cX8_sent 98 = .ok (.iconst 0, 1) := by decide +kernel
theorem dX8_sent_99 : decode cX8_sent 99 = .ok (.ireturn, 1) := by decide +kernel
set_option maxRecDepth 20000 in
theorem ggX8_round_X7_flowAfter : GoodIn wsX8_round wsX7_flowAfter := goodIn_r _ [7, 8, 9, 36, 37, 38, 21, 22, 23, 24, 25, 26, 27, 28, 29, 30, 31, 32, 33, 34, 35] (by decide +kernel) (by decide +kernel)
set_option maxRecDepth 20000 in
theorem gX8_round_X7_flowAfter : GoodIn wsX8_round (wsV RX8 237 RX7 yX7_flowAfter wsX7_flowAfter) := goodIn_app (goodIn_of _ (by decide +kernel)) ggX8_round_X7_flowAfter
theorem dX8_round_0 : decode cX8_round 0 = .ok (.aload_n 0, 1) := by decide +kernel
theorem dX8_round_1 : decode cX8_round 1 = .ok (.getfield 18, 3) := by decide +kernel
theorem dX8_round_4 : decode cX8_round 4 = .ok (.iload_n 1, 1) := by decide +kernel
theorem dX8_round_5 : decode cX8_round 5 = .ok (.invokevirtual 237, 3) := by decide +kernel
theorem dX8_round_8 : decode cX8_round 8 = .ok (.astore_n 2, 1) := by decide +kernel
theorem dX8_round_9 : decode cX8_round 9 = .ok (.aload_n 2, 1) := by decide +kernel
theorem dX8_round_10 : decode cX8_round 10 = .ok (.ifnonnull 7, 3) := by decide +kernel
theorem dX8_round_13 : decode cX8_round 13 = .ok (.iconst (-1), 1) := by decide +kernel
theorem dX8_round_14 : decode cX8_round 14 = .ok (.goto 7, 3) := by decide +kernel
theorem dX8_round_17 : decode cX8_round 17 = .ok (.aload_n 2, 1) := by decide +kernel
theorem dX8_round_18 : decode cX8_round 18 = .ok (.getfield 228, 3) := by decide +kernel
theorem dX8_round_21 : decode cX8_round 21 = .ok (.ireturn, 1) := by decide +kernel
theorem dX8_clock_0 : decode cX8_clock 0 = .ok (.aload_n 0, 1) := by decide +kernel
theorem dX8_clock_1 : decode cX8_clock 1 = .ok (.getfield 36, 3) := by decide +kernel
theorem dX8_clock_4 : decode cX8_clock 4 = .ok (.ireturn, 1) := by decide +kernel
theorem dX8_flowAt_0 : decode cX8_flowAt 0 = .ok (.iload_n 1, 1) := by decide +kernel
theorem dX8_flowAt_1 : decode cX8_flowAt 1 = .ok (.ifCond .lt 21, 3) := by decide +kernel
theorem dX8_flowAt_4 : decode cX8_flowAt 4 = .ok (.iload_n 1, 1) := by decide +kernel
theorem dX8_flowAt_5 : decode cX8_flowAt 5 = .ok (.aload_n 0, 1) := by decide +kernel
theorem dX8_flowAt_6 : decode cX8_flowAt 6 = .ok (.getfield 11, 3) := by decide +kernel
theorem dX8_flowAt_9 : decode cX8_flowAt 9 = .ok (.arraylength, 1) := by decide +kernel
theorem dX8_flowAt_10 : decode cX8_flowAt 10 = .ok (.if_icmp .ge 12, 3) := by decide +kernel
theorem dX8_flowAt_13 : decode cX8_flowAt 13 = .ok (.aload_n 0, 1) := by decide +kernel
theorem dX8_flowAt_14 : decode cX8_flowAt 14 = .ok (.getfield 11, 3) := by decide +kernel
theorem dX8_flowAt_17 : decode cX8_flowAt 17 = .ok (.iload_n 1, 1) := by decide +kernel
theorem dX8_flowAt_18 : decode cX8_flowAt 18 = .ok (.aaload, 1) := by decide +kernel
theorem dX8_flowAt_19 : decode cX8_flowAt 19 = .ok (.goto 4, 3) := by decide +kernel
theorem dX8_flowAt_22 : decode cX8_flowAt 22 = .ok (.aconst_null, 1) := by decide +kernel
theorem dX8_flowAt_23 : decode cX8_flowAt 23 = .ok (.astore_n 2, 1) := by decide +kernel
theorem dX8_flowAt_24 : decode cX8_flowAt 24 = .ok (.aload_n 2, 1) := by decide +kernel
theorem dX8_flowAt_25 : decode cX8_flowAt 25 = .ok (.ifnonnull 13, 3) := by decide +kernel
theorem dX8_flowAt_28 : decode cX8_flowAt 28 = .ok (.new 69, 3) := by decide +kernel
theorem dX8_flowAt_31 : decode cX8_flowAt 31 = .ok (.dup, 1) := by decide +kernel
theorem dX8_flowAt_32 : decode cX8_flowAt 32 = .ok (.ldc 240, 2) := by decide +kernel
theorem dX8_flowAt_34 : decode cX8_flowAt 34 = .ok (.invokespecial 73, 3) := by decide +kernel
theorem dX8_flowAt_37 : decode cX8_flowAt 37 = .ok (.athrow, 1) := by decide +kernel
theorem dX8_flowAt_38 : decode cX8_flowAt 38 = .ok (.aload_n 2, 1) := by decide +kernel
theorem dX8_flowAt_39 : decode cX8_flowAt 39 = .ok (.areturn, 1) := by decide +kernel
set_option maxRecDepth 20000 in
theorem ggX8_oneTick_X8_choose : GoodIn wsX8_oneTick wsX8_choose := goodIn_r _ [7, 8, 9, 10, 11, 12, 13, 6, 14, 15, 16, 17, 18, 1, 19, 20, 21, 22, 23, 24, 25, 26, 27, 28, 29, 30, 31, 32, 33, 34, 35, 36, 37, 38, 39, 40, 41, 42, 43, 44, 45, 46, 47, 48, 49, 50, 51, 52, 53, 54, 55, 56, 57, 58, 59, 60, 61, 62, 63, 64, 65, 66, 67, 68, 69, 70, 71, 72, 73, 74, 75, 76, 77, 78, 79, 80, 81, 82, 83, 84, 85, 86, 87, 88, 89, 90, 91, 92, 93, 94, 95, 96, 97, 98, 99, 100, 101, 102, 103, 104, 105, 106, 107, 108, 109, 110, 111, 112, 131, 132, 133, 134, 135, 136, 137, 138, 139, 140, 141, 142, 143, 144, 145, 146, 147, 148, 149, 150, 151, 152, 153, 154, 155, 156, 157, 158, 159, 160, 161, 162, 163, 164, 165, 166, 167, 168, 169, 170, 171, 172, 173, 174, 175, 176, 177, 178, 179, 180, 181, 182, 183, 184, 185, 186] (by decide +kernel) (by decide +kernel)
set_option maxRecDepth 20000 in
theorem gX8_oneTick_X8_choose : GoodIn wsX8_oneTick (wsV RX8 242 RX8 yX8_choose wsX8_choose) := goodIn_app (goodIn_of _ (by decide +kernel)) ggX8_oneTick_X8_choose
set_option maxRecDepth 20000 in
theorem ggX8_oneTick_X8_send : GoodIn wsX8_oneTick wsX8_send := goodIn_r _ [116, 50, 117, 118, 17, 119, 2, 120, 121, 122, 123, 124, 125, 126, 127, 128, 129, 130, 164, 165, 166, 167, 168, 169, 170, 171, 145, 146, 147, 148, 149, 150, 151, 152, 153, 154, 155, 156, 157, 158, 159, 131, 132, 133, 134, 135, 136, 137, 138, 139, 140, 141, 187, 188] (by decide +kernel) (by decide +kernel)
set_option maxRecDepth 20000 in
theorem gX8_oneTick_X8_send : GoodIn wsX8_oneTick (wsV RX8 246 RX8 yX8_send wsX8_send) := goodIn_app (goodIn_of _ (by decide +kernel)) ggX8_oneTick_X8_send
theorem dX8_oneTick_0 : decode cX8_oneTick 0 = .ok (.aload_n 0, 1) := by decide +kernel
theorem dX8_oneTick_1 : decode cX8_oneTick 1 = .ok (.dup, 1) := by decide +kernel
theorem dX8_oneTick_2 : decode cX8_oneTick 2 = .ok (.getfield 36, 3) := by decide +kernel
theorem dX8_oneTick_5 : decode cX8_oneTick 5 = .ok (.iconst 1, 1) := by decide +kernel
theorem dX8_oneTick_6 : decode cX8_oneTick 6 = .ok (.iadd, 1) := by decide +kernel
theorem dX8_oneTick_7 : decode cX8_oneTick 7 = .ok (.putfield 36, 3) := by decide +kernel
theorem dX8_oneTick_10 : decode cX8_oneTick 10 = .ok (.iconst 0, 1) := by decide +kernel
theorem dX8_oneTick_11 : decode cX8_oneTick 11 = .ok (.istore_n 1, 1) := by decide +kernel
theorem dX8_oneTick_12 : decode cX8_oneTick 12 = .ok (.aload_n 0, 1) := by decide +kernel
theorem dX8_oneTick_13 : decode cX8_oneTick 13 = .ok (.getfield 59, 3) := by decide +kernel
theorem dX8_oneTick_16 : decode cX8_oneTick 16 = .ok (.aload_n 0, 1) := by decide +kernel
theorem dX8_oneTick_17 : decode cX8_oneTick 17 = .ok (.getfield 36, 3) := by decide +kernel
theorem dX8_oneTick_20 : decode cX8_oneTick 20 = .ok (.i2d, 1) := by decide +kernel
theorem dX8_oneTick_21 : decode cX8_oneTick 21 = .ok (.dcmp .g, 1) := by decide +kernel
theorem dX8_oneTick_22 : decode cX8_oneTick 22 = .ok (.ifCond .gt 41, 3) := by decide +kernel
theorem dX8_oneTick_25 : decode cX8_oneTick 25 = .ok (.iload_n 1, 1) := by decide +kernel
theorem dX8_oneTick_26 : decode cX8_oneTick 26 = .ok (.bipush 100, 2) := by decide +kernel
theorem dX8_oneTick_28 : decode cX8_oneTick 28 = .ok (.if_icmp .gt 35, 3) := by decide +kernel
theorem dX8_oneTick_31 : decode cX8_oneTick 31 = .ok (.aload_n 0, 1) := by decide +kernel
theorem dX8_oneTick_32 : decode cX8_oneTick 32 = .ok (.invokevirtual 242, 3) := by decide +kernel
theorem dX8_oneTick_35 : decode cX8_oneTick 35 = .ok (.astore_n 2, 1) := by decide +kernel
theorem dX8_oneTick_36 : decode cX8_oneTick 36 = .ok (.aload_n 2, 1) := by decide +kernel
theorem dX8_oneTick_37 : decode cX8_oneTick 37 = .ok (.ifnonnull 15, 3) := by decide +kernel
theorem dX8_oneTick_40 : decode cX8_oneTick 40 = .ok (.aload_n 0, 1) := by decide +kernel
theorem dX8_oneTick_41 : decode cX8_oneTick 41 = .ok (.aload_n 0, 1) := by decide +kernel
theorem dX8_oneTick_42 : decode cX8_oneTick 42 = .ok (.getfield 36, 3) := by decide +kernel
theorem dX8_oneTick_45 : decode cX8_oneTick 45 = .ok (.i2d, 1) := by decide +kernel
theorem dX8_oneTick_46 : decode cX8_oneTick 46 = .ok (.putfield 59, 3) := by decide +kernel
theorem dX8_oneTick_49 : decode cX8_oneTick 49 = .ok (.goto 14, 3) := by decide +kernel
theorem dX8_oneTick_52 : decode cX8_oneTick 52 = .ok (.aload_n 0, 1) := by decide +kernel
theorem dX8_oneTick_53 : decode cX8_oneTick 53 = .ok (.aload_n 2, 1) := by decide +kernel
theorem dX8_oneTick_54 : decode cX8_oneTick 54 = .ok (.invokevirtual 246, 3) := by decide +kernel
theorem dX8_oneTick_57 : decode cX8_oneTick 57 = .ok (.iinc 1 1, 3) := by decide +kernel
theorem dX8_oneTick_60 : decode cX8_oneTick 60 = .ok (.goto (-48), 3) := by decide +kernel
theorem dX8_oneTick_63 : decode cX8_oneTick 63 = .ok (.iload_n 1, 1) := by decide +kernel
theorem dX8_oneTick_64 : decode cX8_oneTick 64 = .ok (.ireturn, 1) := by decide +kernel
set_option maxRecDepth 20000 in
theorem ggX8_send_X4_add : GoodIn wsX8_send wsX4_add := goodIn_r _ [12, 13, 14, 15, 16, 11, 17, 52, 53] (by decide +kernel) (by decide +kernel)
set_option maxRecDepth 20000 in
theorem gX8_send_X4_add : GoodIn wsX8_send (wsV RX8 249 RX4 yX4_add wsX4_add) := goodIn_app (goodIn_of _ (by decide +kernel)) ggX8_send_X4_add
theorem dX8_send_0 : decode cX8_send 0 = .ok (.aload_n 1, 1) := by decide +kernel
theorem dX8_send_1 : decode cX8_send 1 = .ok (.getfield 224, 3) := by decide +kernel
theorem dX8_send_4 : decode cX8_send 4 = .ok (.dup, 1) := by decide +kernel
theorem dX8_send_5 : decode cX8_send 5 = .ok (.getfield 177, 3) := by decide +kernel
theorem dX8_send_8 : decode cX8_send 8 = .ok (.iconst 1, 1) := by decide +kernel
theorem dX8_send_9 : decode cX8_send 9 = .ok (.iadd, 1) := by decide +kernel
theorem dX8_send_10 : decode cX8_send 10 = .ok (.putfield 177, 3) := by decide +kernel
theorem dX8_send_13 : decode cX8_send 13 = .ok (.aload_n 1, 1) := by decide +kernel
theorem dX8_send_14 : decode cX8_send 14 = .ok (.getfield 224, 3) := by decide +kernel
theorem dX8_send_17 : decode cX8_send 17 = .ok (.dup, 1) := by decide +kernel
theorem dX8_send_18 : decode cX8_send 18 = .ok (.getfield 198, 3) := by decide +kernel
theorem dX8_send_21 : decode cX8_send 21 = .ok (.aload_n 1, 1) := by decide +kernel
theorem dX8_send_22 : decode cX8_send 22 = .ok (.getfield 231, 3) := by decide +kernel
theorem dX8_send_25 : decode cX8_send 25 = .ok (.iadd, 1) := by decide +kernel
theorem dX8_send_26 : decode cX8_send 26 = .ok (.putfield 198, 3) := by decide +kernel
theorem dX8_send_29 : decode cX8_send 29 = .ok (.aload_n 0, 1) := by decide +kernel
theorem dX8_send_30 : decode cX8_send 30 = .ok (.getfield 32, 3) := by decide +kernel
theorem dX8_send_33 : decode cX8_send 33 = .ok (.aload_n 1, 1) := by decide +kernel
theorem dX8_send_34 : decode cX8_send 34 = .ok (.invokevirtual 249, 3) := by decide +kernel
theorem dX8_send_37 : decode cX8_send 37 = .ok (.aload_n 0, 1) := by decide +kernel
theorem dX8_send_38 : decode cX8_send 38 = .ok (.aload_n 0, 1) := by decide +kernel
theorem dX8_send_39 : decode cX8_send 39 = .ok (.getfield 59, 3) := by decide +kernel
theorem dX8_send_42 : decode cX8_send 42 = .ok (.aload_n 1, 1) := by decide +kernel
theorem dX8_send_43 : decode cX8_send 43 = .ok (.getfield 231, 3) := by decide +kernel
theorem dX8_send_46 : decode cX8_send 46 = .ok (.i2d, 1) := by decide +kernel
theorem dX8_send_47 : decode cX8_send 47 = .ok (.aload_n 0, 1) := by decide +kernel
theorem dX8_send_48 : decode cX8_send 48 = .ok (.getfield 55, 3) := by decide +kernel
theorem dX8_send_51 : decode cX8_send 51 = .ok (.ddiv, 1) := by decide +kernel
theorem dX8_send_52 : decode cX8_send 52 = .ok (.dadd, 1) := by decide +kernel
theorem dX8_send_53 : decode cX8_send 53 = .ok (.putfield 59, 3) := by decide +kernel
theorem dX8_send_56 : decode cX8_send 56 = .ok (.return_, 1) := by decide +kernel
set_option maxRecDepth 20000 in
theorem ggX8_choose_X8_lookAt : GoodIn wsX8_choose wsX8_lookAt := goodIn_r _ [8, 2, 9, 10, 11, 12, 13, 14, 15, 16, 17, 18, 19, 20, 21, 22, 23, 24, 25, 26, 27, 28, 29, 30, 31, 32, 33, 34, 35, 36, 37, 38, 39, 40, 41, 42, 43, 7, 44, 45, 46, 47, 48, 49, 50, 51, 52, 53, 54, 55, 56, 57, 58, 59, 60, 61, 62, 63, 64, 65, 66, 67, 68, 69, 70, 71, 72, 73, 74, 75, 76, 77, 78, 79, 80, 81, 82, 83, 84, 85, 86, 87, 88, 89, 90, 91, 92, 93, 94, 95, 96, 97, 98, 99, 100, 101, 102, 103, 104, 105, 106, 107, 108, 109, 110, 111, 112, 113, 114, 115, 116, 117, 118, 122, 123, 124, 125, 126, 127, 128, 129, 130, 131, 132, 133, 134, 135, 136, 137, 138, 139, 140, 141, 142, 143, 144, 145, 146, 147, 148, 149, 150, 151, 152, 153, 154, 155, 119, 120, 121, 156, 157, 158, 159, 160, 161, 162, 163] (by decide +kernel) (by decide +kernel)
set_option maxRecDepth 20000 in
theorem gX8_choose_X8_lookAt : GoodIn wsX8_choose (wsV RX8 254 RX8 yX8_lookAt wsX8_lookAt) := goodIn_app (goodIn_of _ (by decide +kernel)) ggX8_choose_X8_lookAt
theorem dX8_choose_0 : decode cX8_choose 0 = .ok (.aconst_null, 1) := by decide +kernel
theorem dX8_choose_1 : decode cX8_choose 1 = .ok (.astore_n 1, 1) := by decide +kernel
theorem dX8_choose_2 : decode cX8_choose 2 = .ok (.iconst 0, 1) := by decide +kernel
theorem dX8_choose_3 : decode cX8_choose 3 = .ok (.istore_n 2, 1) := by decide +kernel
theorem dX8_choose_4 : decode cX8_choose 4 = .ok (.iload_n 2, 1) := by decide +kernel
theorem dX8_choose_5 : decode cX8_choose 5 = .ok (.ldc 49, 2) := by decide +kernel
theorem dX8_choose_7 : decode cX8_choose 7 = .ok (.if_icmp .ge 35, 3) := by decide +kernel
theorem dX8_choose_10 : decode cX8_choose 10 = .ok (.aload_n 1, 1) := by decide +kernel
theorem dX8_choose_11 : decode cX8_choose 11 = .ok (.ifnonnull 31, 3) := by decide +kernel
theorem dX8_choose_14 : decode cX8_choose 14 = .ok (.aload_n 0, 1) := by decide +kernel
theorem dX8_choose_15 : decode cX8_choose 15 = .ok (.getfield 18, 3) := by decide +kernel
theorem dX8_choose_18 : decode cX8_choose 18 = .ok (.getfield 251, 3) := by decide +kernel
theorem dX8_choose_21 : decode cX8_choose 21 = .ok (.ifnull 21, 3) := by decide +kernel
theorem dX8_choose_24 : decode cX8_choose 24 = .ok (.aload_n 0, 1) := by decide +kernel
theorem dX8_choose_25 : decode cX8_choose 25 = .ok (.aload_n 0, 1) := by decide +kernel
theorem dX8_choose_26 : decode cX8_choose 26 = .ok (.getfield 18, 3) := by decide +kernel
theorem dX8_choose_29 : decode cX8_choose 29 = .ok (.getfield 251, 3) := by decide +kernel
theorem dX8_choose_32 : decode cX8_choose 32 = .ok (.invokevirtual 254, 3) := by decide +kernel
theorem dX8_choose_35 : decode cX8_choose 35 = .ok (.astore_n 1, 1) := by decide +kernel
theorem dX8_choose_36 : decode cX8_choose 36 = .ok (.iinc 2 1, 3) := by decide +kernel
theorem dX8_choose_39 : decode cX8_choose 39 = .ok (.goto (-35), 3) := by decide +kernel
theorem dX8_choose_42 : decode cX8_choose 42 = .ok (.aload_n 1, 1) := by decide +kernel
theorem dX8_choose_43 : decode cX8_choose 43 = .ok (.areturn, 1) := by decide +kernel
set_option maxRecDepth 20000 in
theorem ggX8_lookAt_X7_begin : GoodIn wsX8_lookAt wsX7_begin := goodIn_r _ [15, 16, 17, 18, 19, 147, 148, 149, 113, 114, 115, 116, 117, 118, 119, 120, 121, 122, 123, 124, 125, 126, 127] (by decide +kernel) (by decide +kernel)
set_option maxRecDepth 20000 in
theorem gX8_lookAt_X7_begin : GoodIn wsX8_lookAt (wsV RX8 258 RX7 yX7_begin wsX7_begin) := goodIn_app (goodIn_of _ (by decide +kernel)) ggX8_lookAt_X7_begin
set_option maxRecDepth 20000 in
theorem ggX8_lookAt_X7_passOn : GoodIn wsX8_lookAt wsX7_passOn := goodIn_r _ [23, 24, 25, 26, 14, 27, 16, 28, 29, 17, 30, 31, 32, 33, 147, 148, 149, 113, 114, 115, 116, 117, 118, 119, 120, 121, 122, 123, 124, 125, 126, 127] (by decide +kernel) (by decide +kernel)
set_option maxRecDepth 20000 in
theorem gX8_lookAt_X7_passOn : GoodIn wsX8_lookAt (wsV RX8 264 RX7 yX7_passOn wsX7_passOn) := goodIn_app (goodIn_of _ (by decide +kernel)) ggX8_lookAt_X7_passOn
set_option maxRecDepth 20000 in
theorem ggX8_lookAt_X8_takeOut : GoodIn wsX8_lookAt wsX8_takeOut := goodIn_r _ [38, 39, 2, 40, 41, 4, 6, 42, 43, 44, 45, 46, 47, 48, 49, 50, 51, 52, 53, 54, 132, 133, 134, 135, 136, 137, 138, 139, 113, 114, 115, 116, 117, 118, 119, 120, 121, 122, 123, 124, 125, 126, 127, 102, 103, 104, 105, 106, 107, 108, 109, 110, 111, 112, 128, 129, 130, 131] (by decide +kernel) (by decide +kernel)
set_option maxRecDepth 20000 in
theorem gX8_lookAt_X8_takeOut : GoodIn wsX8_lookAt (wsV RX8 267 RX8 yX8_takeOut wsX8_takeOut) := goodIn_app (goodIn_of _ (by decide +kernel)) ggX8_lookAt_X8_takeOut
set_option maxRecDepth 20000 in
theorem ggX8_lookAt_X2_letsOut : GoodIn wsX8_lookAt wsX2_letsOut := goodIn_r _ [59, 60, 61, 62, 63, 64, 65, 66, 67, 68, 69, 70, 71, 72, 73, 74, 75, 76, 77, 78, 79, 80, 81, 82, 83, 84, 85, 86, 87, 88, 89, 90, 91, 92, 93, 58, 94, 95, 96, 97, 113, 114, 115, 116, 117, 118, 119, 120, 121, 122, 123, 124, 125, 126, 127, 132, 133, 134, 135, 136, 137, 138, 139, 128, 129, 130, 131, 150, 151, 152, 153, 154, 155, 156, 157] (by decide +kernel) (by decide +kernel)
set_option maxRecDepth 20000 in
theorem gX8_lookAt_X2_letsOut : GoodIn wsX8_lookAt (wsV RX8 270 RX2 yX2_letsOut wsX2_letsOut) := goodIn_app (goodIn_of _ (by decide +kernel)) ggX8_lookAt_X2_letsOut
set_option maxRecDepth 20000 in
theorem ggX8_lookAt_X7_leave : GoodIn wsX8_lookAt wsX7_leave := goodIn_r _ [101, 18, 24, 25, 26, 14, 27, 16, 28, 29, 17, 113, 114, 115, 116, 117, 118, 119, 120, 121, 122, 123, 124, 125, 126, 127, 147, 148, 149] (by decide +kernel) (by decide +kernel)
set_option maxRecDepth 20000 in
theorem gX8_lookAt_X7_leave : GoodIn wsX8_lookAt (wsV RX8 274 RX7 yX7_leave wsX7_leave) := goodIn_app (goodIn_of _ (by decide +kernel)) ggX8_lookAt_X7_leave
theorem dX8_lookAt_0 : decode cX8_lookAt 0 = .ok (.aload_n 0, 1) := by decide +kernel
theorem dX8_lookAt_1 : decode cX8_lookAt 1 = .ok (.getfield 18, 3) := by decide +kernel
theorem dX8_lookAt_4 : decode cX8_lookAt 4 = .ok (.invokevirtual 258, 3) := by decide +kernel
theorem dX8_lookAt_7 : decode cX8_lookAt 7 = .ok (.aload_n 1, 1) := by decide +kernel
theorem dX8_lookAt_8 : decode cX8_lookAt 8 = .ok (.getfield 186, 3) := by decide +kernel
theorem dX8_lookAt_11 : decode cX8_lookAt 11 = .ok (.getfield 261, 3) := by decide +kernel
theorem dX8_lookAt_14 : decode cX8_lookAt 14 = .ok (.astore_n 2, 1) := by decide +kernel
theorem dX8_lookAt_15 : decode cX8_lookAt 15 = .ok (.aload_n 2, 1) := by decide +kernel
theorem dX8_lookAt_16 : decode cX8_lookAt 16 = .ok (.ifnull 14, 3) := by decide +kernel
theorem dX8_lookAt_19 : decode cX8_lookAt 19 = .ok (.aload_n 2, 1) := by decide +kernel
theorem dX8_lookAt_20 : decode cX8_lookAt 20 = .ok (.getfield 231, 3) := by decide +kernel
theorem dX8_lookAt_23 : decode cX8_lookAt 23 = .ok (.aload_n 1, 1) := by decide +kernel
theorem dX8_lookAt_24 : decode cX8_lookAt 24 = .ok (.getfield 201, 3) := by decide +kernel
theorem dX8_lookAt_27 : decode cX8_lookAt 27 = .ok (.if_icmp .le 12, 3) := by decide +kernel
theorem dX8_lookAt_30 : decode cX8_lookAt 30 = .ok (.aload_n 0, 1) := by decide +kernel
theorem dX8_lookAt_31 : decode cX8_lookAt 31 = .ok (.getfield 18, 3) := by decide +kernel
theorem dX8_lookAt_34 : decode cX8_lookAt 34 = .ok (.invokevirtual 264, 3) := by decide +kernel
theorem dX8_lookAt_37 : decode cX8_lookAt 37 = .ok (.aconst_null, 1) := by decide +kernel
theorem dX8_lookAt_38 : decode cX8_lookAt 38 = .ok (.areturn, 1) := by decide +kernel
theorem dX8_lookAt_39 : decode cX8_lookAt 39 = .ok (.aload_n 0, 1) := by decide +kernel
theorem dX8_lookAt_40 : decode cX8_lookAt 40 = .ok (.aload_n 2, 1) := by decide +kernel
theorem dX8_lookAt_41 : decode cX8_lookAt 41 = .ok (.invokevirtual 267, 3) := by decide +kernel
theorem dX8_lookAt_44 : decode cX8_lookAt 44 = .ok (.aload_n 1, 1) := by decide +kernel
theorem dX8_lookAt_45 : decode cX8_lookAt 45 = .ok (.aload_n 2, 1) := by decide +kernel
theorem dX8_lookAt_46 : decode cX8_lookAt 46 = .ok (.aload_n 0, 1) := by decide +kernel
theorem dX8_lookAt_47 : decode cX8_lookAt 47 = .ok (.getfield 36, 3) := by decide +kernel
theorem dX8_lookAt_50 : decode cX8_lookAt 50 = .ok (.invokevirtual 270, 3) := by decide +kernel
theorem dX8_lookAt_53 : decode cX8_lookAt 53 = .ok (.istore_n 3, 1) := by decide +kernel
theorem dX8_lookAt_54 : decode cX8_lookAt 54 = .ok (.iload_n 3, 1) := by decide +kernel
theorem dX8_lookAt_55 : decode cX8_lookAt 55 = .ok (.ifCond .eq 19, 3) := by decide +kernel
theorem dX8_lookAt_58 : decode cX8_lookAt 58 = .ok (.aload_n 1, 1) := by decide +kernel
theorem dX8_lookAt_59 : decode cX8_lookAt 59 = .ok (.dup, 1) := by decide +kernel
theorem dX8_lookAt_60 : decode cX8_lookAt 60 = .ok (.getfield 201, 3) := by decide +kernel
theorem dX8_lookAt_63 : decode cX8_lookAt 63 = .ok (.aload_n 2, 1) := by decide +kernel
theorem dX8_lookAt_64 : decode cX8_lookAt 64 = .ok (.getfield 231, 3) := by decide +kernel
theorem dX8_lookAt_67 : decode cX8_lookAt 67 = .ok (.isub, 1) := by decide +kernel
theorem dX8_lookAt_68 : decode cX8_lookAt 68 = .ok (.putfield 201, 3) := by decide +kernel
theorem dX8_lookAt_71 : decode cX8_lookAt 71 = .ok (.goto 13, 3) := by decide +kernel
theorem dX8_lookAt_74 : decode cX8_lookAt 74 = .ok (.aload_n 1, 1) := by decide +kernel
theorem dX8_lookAt_75 : decode cX8_lookAt 75 = .ok (.dup, 1) := by decide +kernel
theorem dX8_lookAt_76 : decode cX8_lookAt 76 = .ok (.getfield 180, 3) := by decide +kernel
theorem dX8_lookAt_79 : decode cX8_lookAt 79 = .ok (.iconst 1, 1) := by decide +kernel
theorem dX8_lookAt_80 : decode cX8_lookAt 80 = .ok (.iadd, 1) := by decide +kernel
theorem dX8_lookAt_81 : decode cX8_lookAt 81 = .ok (.putfield 180, 3) := by decide +kernel
theorem dX8_lookAt_84 : decode cX8_lookAt 84 = .ok (.aload_n 1, 1) := by decide +kernel
theorem dX8_lookAt_85 : decode cX8_lookAt 85 = .ok (.getfield 186, 3) := by decide +kernel
theorem dX8_lookAt_88 : decode cX8_lookAt 88 = .ok (.getfield 190, 3) := by decide +kernel
theorem dX8_lookAt_91 : decode cX8_lookAt 91 = .ok (.ifCond .ne 21, 3) := by decide +kernel
theorem dX8_lookAt_94 : decode cX8_lookAt 94 = .ok (.aload_n 0, 1) := by decide +kernel
theorem dX8_lookAt_95 : decode cX8_lookAt 95 = .ok (.getfield 18, 3) := by decide +kernel
theorem dX8_lookAt_98 : decode cX8_lookAt 98 = .ok (.invokevirtual 274, 3) := by decide +kernel
theorem dX8_lookAt_101 : decode cX8_lookAt 101 = .ok (.aload_n 1, 1) := by decide +kernel
theorem dX8_lookAt_102 : decode cX8_lookAt 102 = .ok (.getfield 84, 3) := by decide +kernel
theorem dX8_lookAt_105 : decode cX8_lookAt 105 = .ok (.aload_n 0, 1) := by decide +kernel
theorem dX8_lookAt_106 : decode cX8_lookAt 106 = .ok (.getfield 36, 3) := by decide +kernel
theorem dX8_lookAt_109 : decode cX8_lookAt 109 = .ok (.putfield 277, 3) := by decide +kernel
theorem dX8_lookAt_112 : decode cX8_lookAt 112 = .ok (.iload_n 3, 1) := by decide +kernel
theorem dX8_lookAt_113 : decode cX8_lookAt 113 = .ok (.ifCond .eq 7, 3) := by decide +kernel
theorem dX8_lookAt_116 : decode cX8_lookAt 116 = .ok (.aload_n 2, 1) := by decide +kernel
theorem dX8_lookAt_117 : decode cX8_lookAt 117 = .ok (.goto 4, 3) := by decide +kernel
theorem dX8_lookAt_120 : decode cX8_lookAt 120 = .ok (.aconst_null, 1) := by decide +kernel
theorem dX8_lookAt_121 : decode cX8_lookAt 121 = .ok (.areturn, 1) := by decide +kernel
set_option maxRecDepth 20000 in
theorem ggX8_putIn_X7_join : GoodIn wsX8_putIn wsX7_join := goodIn_r _ [12, 13, 14, 15, 65, 66, 67, 35, 36, 37, 38, 39, 40, 41, 42, 43, 44, 45, 46, 47, 48, 49] (by decide +kernel) (by decide +kernel)
set_option maxRecDepth 20000 in
theorem gX8_putIn_X7_join : GoodIn wsX8_putIn (wsV RX8 280 RX7 yX7_join wsX7_join) := goodIn_app (goodIn_of _ (by decide +kernel)) ggX8_putIn_X7_join
set_option maxRecDepth 20000 in
theorem ggX8_putIn_X6_add : GoodIn wsX8_putIn wsX6_add := goodIn_r _ [20, 21, 22, 23, 24, 25, 26, 50, 51, 52, 53, 27, 28, 29, 30, 31, 32, 33, 34] (by decide +kernel) (by decide +kernel)
set_option maxRecDepth 20000 in
theorem gX8_putIn_X6_add : GoodIn wsX8_putIn (wsV RX8 284 RX6 yX6_add wsX6_add) := goodIn_app (goodIn_of _ (by decide +kernel)) ggX8_putIn_X6_add
theorem dX8_putIn_0 : decode cX8_putIn 0 = .ok (.aload_n 1, 1) := by decide +kernel
theorem dX8_putIn_1 : decode cX8_putIn 1 = .ok (.getfield 224, 3) := by decide +kernel
theorem dX8_putIn_4 : decode cX8_putIn 4 = .ok (.getfield 186, 3) := by decide +kernel
theorem dX8_putIn_7 : decode cX8_putIn 7 = .ok (.getfield 190, 3) := by decide +kernel
theorem dX8_putIn_10 : decode cX8_putIn 10 = .ok (.ifCond .ne 14, 3) := by decide +kernel
theorem dX8_putIn_13 : decode cX8_putIn 13 = .ok (.aload_n 0, 1) := by decide +kernel
theorem dX8_putIn_14 : decode cX8_putIn 14 = .ok (.getfield 18, 3) := by decide +kernel
theorem dX8_putIn_17 : decode cX8_putIn 17 = .ok (.aload_n 1, 1) := by decide +kernel
theorem dX8_putIn_18 : decode cX8_putIn 18 = .ok (.getfield 224, 3) := by decide +kernel
theorem dX8_putIn_21 : decode cX8_putIn 21 = .ok (.invokevirtual 280, 3) := by decide +kernel
theorem dX8_putIn_24 : decode cX8_putIn 24 = .ok (.aload_n 1, 1) := by decide +kernel
theorem dX8_putIn_25 : decode cX8_putIn 25 = .ok (.getfield 224, 3) := by decide +kernel
theorem dX8_putIn_28 : decode cX8_putIn 28 = .ok (.getfield 186, 3) := by decide +kernel
theorem dX8_putIn_31 : decode cX8_putIn 31 = .ok (.aload_n 1, 1) := by decide +kernel
theorem dX8_putIn_32 : decode cX8_putIn 32 = .ok (.invokevirtual 284, 3) := by decide +kernel
theorem dX8_putIn_35 : decode cX8_putIn 35 = .ok (.aload_n 0, 1) := by decide +kernel
theorem dX8_putIn_36 : decode cX8_putIn 36 = .ok (.dup, 1) := by decide +kernel
theorem dX8_putIn_37 : decode cX8_putIn 37 = .ok (.getfield 43, 3) := by decide +kernel
theorem dX8_putIn_40 : decode cX8_putIn 40 = .ok (.iconst 1, 1) := by decide +kernel
theorem dX8_putIn_41 : decode cX8_putIn 41 = .ok (.iadd, 1) := by decide +kernel
theorem dX8_putIn_42 : decode cX8_putIn 42 = .ok (.putfield 43, 3) := by decide +kernel
theorem dX8_putIn_45 : decode cX8_putIn 45 = .ok (.aload_n 0, 1) := by decide +kernel
theorem dX8_putIn_46 : decode cX8_putIn 46 = .ok (.dup, 1) := by decide +kernel
theorem dX8_putIn_47 : decode cX8_putIn 47 = .ok (.getfield 46, 3) := by decide +kernel
theorem dX8_putIn_50 : decode cX8_putIn 50 = .ok (.aload_n 1, 1) := by decide +kernel
theorem dX8_putIn_51 : decode cX8_putIn 51 = .ok (.getfield 231, 3) := by decide +kernel
theorem dX8_putIn_54 : decode cX8_putIn 54 = .ok (.iadd, 1) := by decide +kernel
theorem dX8_putIn_55 : decode cX8_putIn 55 = .ok (.putfield 46, 3) := by decide +kernel
theorem dX8_putIn_58 : decode cX8_putIn 58 = .ok (.return_, 1) := by decide +kernel
set_option maxRecDepth 20000 in
theorem ggX8_takeOut_X6_removeFirst : GoodIn wsX8_takeOut wsX6_removeFirst := goodIn_r _ [13, 14, 15, 16, 17, 18, 19, 54, 55, 56, 57, 20, 21, 22, 23, 24, 25, 26, 27] (by decide +kernel) (by decide +kernel)
set_option maxRecDepth 20000 in
theorem gX8_takeOut_X6_removeFirst : GoodIn wsX8_takeOut (wsV RX8 285 RX6 yX6_removeFirst wsX6_removeFirst) := goodIn_app (goodIn_of _ (by decide +kernel)) ggX8_takeOut_X6_removeFirst
theorem dX8_takeOut_0 : decode cX8_takeOut 0 = .ok (.aload_n 1, 1) := by decide +kernel
theorem dX8_takeOut_1 : decode cX8_takeOut 1 = .ok (.getfield 224, 3) := by decide +kernel
theorem dX8_takeOut_4 : decode cX8_takeOut 4 = .ok (.getfield 186, 3) := by decide +kernel
theorem dX8_takeOut_7 : decode cX8_takeOut 7 = .ok (.invokevirtual 285, 3) := by decide +kernel
theorem dX8_takeOut_10 : decode cX8_takeOut 10 = .ok (.aload_n 0, 1) := by decide +kernel
theorem dX8_takeOut_11 : decode cX8_takeOut 11 = .ok (.dup, 1) := by decide +kernel
theorem dX8_takeOut_12 : decode cX8_takeOut 12 = .ok (.getfield 43, 3) := by decide +kernel
theorem dX8_takeOut_15 : decode cX8_takeOut 15 = .ok (.iconst 1, 1) := by decide +kernel
theorem dX8_takeOut_16 : decode cX8_takeOut 16 = .ok (.isub, 1) := by decide +kernel
theorem dX8_takeOut_17 : decode cX8_takeOut 17 = .ok (.putfield 43, 3) := by decide +kernel
theorem dX8_takeOut_20 : decode cX8_takeOut 20 = .ok (.aload_n 0, 1) := by decide +kernel
theorem dX8_takeOut_21 : decode cX8_takeOut 21 = .ok (.dup, 1) := by decide +kernel
theorem dX8_takeOut_22 : decode cX8_takeOut 22 = .ok (.getfield 46, 3) := by decide +kernel
theorem dX8_takeOut_25 : decode cX8_takeOut 25 = .ok (.aload_n 1, 1) := by decide +kernel
theorem dX8_takeOut_26 : decode cX8_takeOut 26 = .ok (.getfield 231, 3) := by decide +kernel
theorem dX8_takeOut_29 : decode cX8_takeOut 29 = .ok (.isub, 1) := by decide +kernel
theorem dX8_takeOut_30 : decode cX8_takeOut 30 = .ok (.putfield 46, 3) := by decide +kernel
theorem dX8_takeOut_33 : decode cX8_takeOut 33 = .ok (.aload_n 1, 1) := by decide +kernel
theorem dX8_takeOut_34 : decode cX8_takeOut 34 = .ok (.aload_n 0, 1) := by decide +kernel
theorem dX8_takeOut_35 : decode cX8_takeOut 35 = .ok (.getfield 36, 3) := by decide +kernel
theorem dX8_takeOut_38 : decode cX8_takeOut 38 = .ok (.aload_n 1, 1) := by decide +kernel
theorem dX8_takeOut_39 : decode cX8_takeOut 39 = .ok (.getfield 288, 3) := by decide +kernel
theorem dX8_takeOut_42 : decode cX8_takeOut 42 = .ok (.isub, 1) := by decide +kernel
theorem dX8_takeOut_43 : decode cX8_takeOut 43 = .ok (.putfield 232, 3) := by decide +kernel
theorem dX8_takeOut_46 : decode cX8_takeOut 46 = .ok (.return_, 1) := by decide +kernel
end
section
theorem dX9_init_0 : decode cX9_init 0 = .ok (.aload_n 0, 1) := by decide +kernel
theorem dX9_init_1 : decode cX9_init 1 = .ok (.invokespecial 1, 3) := by decide +kernel
theorem dX9_init_4 : decode cX9_init 4 = .ok (.aload_n 0, 1) := by decide +kernel
theorem dX9_init_5 : decode cX9_init 5 = .ok (.ldc2_w 7, 3) := by decide +kernel
theorem dX9_init_8 : decode cX9_init 8 = .ok (.putfield 9, 3) := by decide +kernel
theorem dX9_init_11 : decode cX9_init 11 = .ok (.aload_n 0, 1) := by decide +kernel
theorem dX9_init_12 : decode cX9_init 12 = .ok (.ldc 15, 2) := by decide +kernel
theorem dX9_init_14 : decode cX9_init 14 = .ok (.putfield 16, 3) := by decide +kernel
theorem dX9_init_17 : decode cX9_init 17 = .ok (.aload_n 0, 1) := by decide +kernel
theorem dX9_init_18 : decode cX9_init 18 = .ok (.bipush 6, 2) := by decide +kernel
theorem dX9_init_20 : decode cX9_init 20 = .ok (.newarray .int, 2) := by decide +kernel
theorem dX9_init_22 : decode cX9_init 22 = .ok (.putfield 20, 3) := by decide +kernel
theorem dX9_init_25 : decode cX9_init 25 = .ok (.aload_n 0, 1) := by decide +kernel
theorem dX9_init_26 : decode cX9_init 26 = .ok (.bipush 6, 2) := by decide +kernel
theorem dX9_init_28 : decode cX9_init 28 = .ok (.newarray .int, 2) := by decide +kernel
theorem dX9_init_30 : decode cX9_init 30 = .ok (.putfield 24, 3) := by decide +kernel
theorem dX9_init_33 : decode cX9_init 33 = .ok (.aload_n 0, 1) := by decide +kernel
theorem dX9_init_34 : decode cX9_init 34 = .ok (.bipush 6, 2) := by decide +kernel
theorem dX9_init_36 : decode cX9_init 36 = .ok (.newarray .double, 2) := by decide +kernel
theorem dX9_init_38 : decode cX9_init 38 = .ok (.putfield 27, 3) := by decide +kernel
theorem dX9_init_41 : decode cX9_init 41 = .ok (.aload_n 0, 1) := by decide +kernel
theorem dX9_init_42 : decode cX9_init 42 = .ok (.bipush 6, 2) := by decide +kernel
theorem dX9_init_44 : decode cX9_init 44 = .ok (.newarray .double, 2) := by decide +kernel
theorem dX9_init_46 : decode cX9_init 46 = .ok (.putfield 31, 3) := by decide +kernel
theorem dX9_init_49 : decode cX9_init 49 = .ok (.aload_n 0, 1) := by decide +kernel
theorem dX9_init_50 : decode cX9_init 50 = .ok (.bipush 6, 2) := by decide +kernel
theorem dX9_init_52 : decode cX9_init 52 = .ok (.newarray .double, 2) := by decide +kernel
theorem dX9_init_54 : decode cX9_init 54 = .ok (.putfield 34, 3) := by decide +kernel
theorem dX9_init_57 : decode cX9_init 57 = .ok (.aload_n 0, 1) := by decide +kernel
theorem dX9_init_58 : decode cX9_init 58 = .ok (.bipush 6, 2) := by decide +kernel
theorem dX9_init_60 : decode cX9_init 60 = .ok (.newarray .double, 2) := by decide +kernel
theorem dX9_init_62 : decode cX9_init 62 = .ok (.putfield 37, 3) := by decide +kernel
theorem dX9_init_65 : decode cX9_init 65 = .ok (.aload_n 0, 1) := by decide +kernel
theorem dX9_init_66 : decode cX9_init 66 = .ok (.bipush 6, 2) := by decide +kernel
theorem dX9_init_68 : decode cX9_init 68 = .ok (.newarray .double, 2) := by decide +kernel
theorem dX9_init_70 : decode cX9_init 70 = .ok (.putfield 40, 3) := by decide +kernel
theorem dX9_init_73 : decode cX9_init 73 = .ok (.aload_n 0, 1) := by decide +kernel
theorem dX9_init_74 : decode cX9_init 74 = .ok (.bipush 6, 2) := by decide +kernel
theorem dX9_init_76 : decode cX9_init 76 = .ok (.newarray .int, 2) := by decide +kernel
theorem dX9_init_78 : decode cX9_init 78 = .ok (.putfield 43, 3) := by decide +kernel
theorem dX9_init_81 : decode cX9_init 81 = .ok (.aload_n 0, 1) := by decide +kernel
theorem dX9_init_82 : decode cX9_init 82 = .ok (.bipush 6, 2) := by decide +kernel
theorem dX9_init_84 : decode cX9_init 84 = .ok (.newarray .int, 2) := by decide +kernel
theorem dX9_init_86 : decode cX9_init 86 = .ok (.putfield 46, 3) := by decide +kernel
theorem dX9_init_89 : decode cX9_init 89 = .ok (.aload_n 0, 1) := by decide +kernel
theorem dX9_init_90 : decode cX9_init 90 = .ok (.bipush 6, 2) := by decide +kernel
theorem dX9_init_92 : decode cX9_init 92 = .ok (.newarray .double, 2) := by decide +kernel
theorem dX9_init_94 : decode cX9_init 94 = .ok (.putfield 49, 3) := by decide +kernel
theorem dX9_init_97 : decode cX9_init 97 = .ok (.aload_n 0, 1) := by decide +kernel
theorem dX9_init_98 : decode cX9_init 98 = .ok (.bipush 6, 2) := by decide +kernel
theorem dX9_init_100 : decode cX9_init 100 = .ok (.newarray .double, 2) := by decide +kernel
theorem dX9_init_102 : decode cX9_init 102 = .ok (.putfield 52, 3) := by decide +kernel
theorem dX9_init_105 : decode cX9_init 105 = .ok (.aload_n 0, 1) := by decide +kernel
theorem dX9_init_106 : decode cX9_init 106 = .ok (.bipush 6, 2) := by decide +kernel
theorem dX9_init_108 : decode cX9_init 108 = .ok (.newarray .double, 2) := by decide +kernel
theorem dX9_init_110 : decode cX9_init 110 = .ok (.putfield 55, 3) := by decide +kernel
theorem dX9_init_113 : decode cX9_init 113 = .ok (.aload_n 0, 1) := by decide +kernel
theorem dX9_init_114 : decode cX9_init 114 = .ok (.bipush 6, 2) := by decide +kernel
theorem dX9_init_116 : decode cX9_init 116 = .ok (.newarray .boolean, 2) := by decide +kernel
theorem dX9_init_118 : decode cX9_init 118 = .ok (.putfield 58, 3) := by decide +kernel
theorem dX9_init_121 : decode cX9_init 121 = .ok (.aload_n 0, 1) := by decide +kernel
theorem dX9_init_122 : decode cX9_init 122 = .ok (.bipush 6, 2) := by decide +kernel
theorem dX9_init_124 : decode cX9_init 124 = .ok (.newarray .boolean, 2) := by decide +kernel
theorem dX9_init_126 : decode cX9_init 126 = .ok (.putfield 62, 3) := by decide +kernel
theorem dX9_init_129 : decode cX9_init 129 = .ok (.aload_n 0, 1) := by decide +kernel
theorem dX9_init_130 : decode cX9_init 130 = .ok (.bipush 6, 2) := by decide +kernel
theorem dX9_init_132 : decode cX9_init 132 = .ok (.newarray .double, 2) := by decide +kernel
theorem dX9_init_134 : decode cX9_init 134 = .ok (.putfield 65, 3) := by decide +kernel
theorem dX9_init_137 : decode cX9_init 137 = .ok (.aload_n 0, 1) := by decide +kernel
theorem dX9_init_138 : decode cX9_init 138 = .ok (.bipush 6, 2) := by decide +kernel
theorem dX9_init_140 : decode cX9_init 140 = .ok (.newarray .int, 2) := by decide +kernel
theorem dX9_init_142 : decode cX9_init 142 = .ok (.putfield 68, 3) := by decide +kernel
theorem dX9_init_145 : decode cX9_init 145 = .ok (.aload_n 0, 1) := by decide +kernel
theorem dX9_init_146 : decode cX9_init 146 = .ok (.bipush 6, 2) := by decide +kernel
theorem dX9_init_148 : decode cX9_init 148 = .ok (.newarray .int, 2) := by decide +kernel
theorem dX9_init_150 : decode cX9_init 150 = .ok (.putfield 71, 3) := by decide +kernel
theorem dX9_init_153 : decode cX9_init 153 = .ok (.aload_n 0, 1) := by decide +kernel
theorem dX9_init_154 : decode cX9_init 154 = .ok (.bipush 6, 2) := by decide +kernel
theorem dX9_init_156 : decode cX9_init 156 = .ok (.newarray .int, 2) := by decide +kernel
theorem dX9_init_158 : decode cX9_init 158 = .ok (.putfield 74, 3) := by decide +kernel
theorem dX9_init_161 : decode cX9_init 161 = .ok (.aload_n 0, 1) := by decide +kernel
theorem dX9_init_162 : decode cX9_init 162 = .ok (.sipush 600, 3) := by decide +kernel
theorem dX9_init_165 : decode cX9_init 165 = .ok (.newarray .int, 2) := by decide +kernel
theorem dX9_init_167 : decode cX9_init 167 = .ok (.putfield 77, 3) := by decide +kernel
theorem dX9_init_170 : decode cX9_init 170 = .ok (.aload_n 0, 1) := by decide +kernel
theorem dX9_init_171 : decode cX9_init 171 = .ok (.sipush 600, 3) := by decide +kernel
theorem dX9_init_174 : decode cX9_init 174 = .ok (.newarray .int, 2) := by decide +kernel
theorem dX9_init_176 : decode cX9_init 176 = .ok (.putfield 80, 3) := by decide +kernel
theorem dX9_init_179 : decode cX9_init 179 = .ok (.aload_n 0, 1) := by decide +kernel
theorem dX9_init_180 : decode cX9_init 180 = .ok (.sipush 600, 3) := by decide +kernel
theorem dX9_init_183 : decode cX9_init 183 = .ok (.newarray .int, 2) := by decide +kernel
theorem dX9_init_185 : decode cX9_init 185 = .ok (.putfield 83, 3) := by decide +kernel
theorem dX9_init_188 : decode cX9_init 188 = .ok (.aload_n 0, 1) := by decide +kernel
theorem dX9_init_189 : decode cX9_init 189 = .ok (.sipush 600, 3) := by decide +kernel
theorem dX9_init_192 : decode cX9_init 192 = .ok (.newarray .boolean, 2) := by decide +kernel
theorem dX9_init_194 : decode cX9_init 194 = .ok (.putfield 86, 3) := by decide +kernel
theorem dX9_init_197 : decode cX9_init 197 = .ok (.aload_n 0, 1) := by decide +kernel
theorem dX9_init_198 : decode cX9_init 198 = .ok (.sipush 600, 3) := by decide +kernel
theorem dX9_init_201 : decode cX9_init 201 = .ok (.newarray .boolean, 2) := by decide +kernel
theorem dX9_init_203 : decode cX9_init 203 = .ok (.putfield 89, 3) := by decide +kernel
theorem dX9_init_206 : decode cX9_init 206 = .ok (.aload_n 0, 1) := by decide +kernel
theorem dX9_init_207 : decode cX9_init 207 = .ok (.bipush 60, 2) := by decide +kernel
theorem dX9_init_209 : decode cX9_init 209 = .ok (.newarray .int, 2) := by decide +kernel
theorem dX9_init_211 : decode cX9_init 211 = .ok (.putfield 92, 3) := by decide +kernel
theorem dX9_init_214 : decode cX9_init 214 = .ok (.aload_n 0, 1) := by decide +kernel
theorem dX9_init_215 : decode cX9_init 215 = .ok (.bipush 6, 2) := by decide +kernel
theorem dX9_init_217 : decode cX9_init 217 = .ok (.newarray .int, 2) := by decide +kernel
theorem dX9_init_219 : decode cX9_init 219 = .ok (.putfield 95, 3) := by decide +kernel
theorem dX9_init_222 : decode cX9_init 222 = .ok (.aload_n 0, 1) := by decide +kernel
theorem dX9_init_223 : decode cX9_init 223 = .ok (.bipush 6, 2) := by decide +kernel
theorem dX9_init_225 : decode cX9_init 225 = .ok (.newarray .int, 2) := by decide +kernel
theorem dX9_init_227 : decode cX9_init 227 = .ok (.putfield 98, 3) := by decide +kernel
theorem dX9_init_230 : decode cX9_init 230 = .ok (.aload_n 0, 1) := by decide +kernel
theorem dX9_init_231 : decode cX9_init 231 = .ok (.bipush 64, 2) := by decide +kernel
theorem dX9_init_233 : decode cX9_init 233 = .ok (.newarray .double, 2) := by decide +kernel
theorem dX9_init_235 : decode cX9_init 235 = .ok (.putfield 101, 3) := by decide +kernel
theorem dX9_init_238 : decode cX9_init 238 = .ok (.aload_n 0, 1) := by decide +kernel
theorem dX9_init_239 : decode cX9_init 239 = .ok (.sipush 160, 3) := by decide +kernel
theorem dX9_init_242 : decode cX9_init 242 = .ok (.newarray .int, 2) := by decide +kernel
theorem dX9_init_244 : decode cX9_init 244 = .ok (.putfield 104, 3) := by decide +kernel
theorem dX9_init_247 : decode cX9_init 247 = .ok (.iconst 0, 1) := by decide +kernel
theorem dX9_init_248 : decode cX9_init 248 = .ok (.istore_n 1, 1) := by decide +kernel
theorem dX9_init_249 : decode cX9_init 249 = .ok (.iload_n 1, 1) := by decide +kernel
theorem dX9_init_250 : decode cX9_init 250 = .ok (.bipush 6, 2) := by decide +kernel
theorem dX9_init_252 : decode cX9_init 252 = .ok (.if_icmp .ge 79, 3) := by decide +kernel
theorem dX9_init_255 : decode cX9_init 255 = .ok (.aload_n 0, 1) := by decide +kernel
theorem dX9_init_256 : decode cX9_init 256 = .ok (.getfield 24, 3) := by decide +kernel
theorem dX9_init_259 : decode cX9_init 259 = .ok (.iload_n 1, 1) := by decide +kernel
theorem dX9_init_260 : decode cX9_init 260 = .ok (.sipush 1500, 3) := by decide +kernel
theorem dX9_init_263 : decode cX9_init 263 = .ok (.iastore, 1) := by decide +kernel
theorem dX9_init_264 : decode cX9_init 264 = .ok (.aload_n 0, 1) := by decide +kernel
theorem dX9_init_265 : decode cX9_init 265 = .ok (.getfield 27, 3) := by decide +kernel
theorem dX9_init_268 : decode cX9_init 268 = .ok (.iload_n 1, 1) := by decide +kernel
theorem dX9_init_269 : decode cX9_init 269 = .ok (.ldc2_w 107, 3) := by decide +kernel
theorem dX9_init_272 : decode cX9_init 272 = .ok (.dastore, 1) := by decide +kernel
theorem dX9_init_273 : decode cX9_init 273 = .ok (.aload_n 0, 1) := by decide +kernel
theorem dX9_init_274 : decode cX9_init 274 = .ok (.getfield 31, 3) := by decide +kernel
theorem dX9_init_277 : decode cX9_init 277 = .ok (.iload_n 1, 1) := by decide +kernel
theorem dX9_init_278 : decode cX9_init 278 = .ok (.ldc2_w 109, 3) := by decide +kernel
theorem dX9_init_281 : decode cX9_init 281 = .ok (.dastore, 1) := by decide +kernel
theorem dX9_init_282 : decode cX9_init 282 = .ok (.aload_n 0, 1) := by decide +kernel
theorem dX9_init_283 : decode cX9_init 283 = .ok (.getfield 34, 3) := by decide +kernel
theorem dX9_init_286 : decode cX9_init 286 = .ok (.iload_n 1, 1) := by decide +kernel
theorem dX9_init_287 : decode cX9_init 287 = .ok (.ldc2_w 111, 3) := by decide +kernel
theorem dX9_init_290 : decode cX9_init 290 = .ok (.dastore, 1) := by decide +kernel
theorem dX9_init_291 : decode cX9_init 291 = .ok (.aload_n 0, 1) := by decide +kernel
theorem dX9_init_292 : decode cX9_init 292 = .ok (.getfield 37, 3) := by decide +kernel
theorem dX9_init_295 : decode cX9_init 295 = .ok (.iload_n 1, 1) := by decide +kernel
theorem dX9_init_296 : decode cX9_init 296 = .ok (.ldc2_w 113, 3) := by decide +kernel
theorem dX9_init_299 : decode cX9_init 299 = .ok (.dastore, 1) := by decide +kernel
theorem dX9_init_300 : decode cX9_init 300 = .ok (.aload_n 0, 1) := by decide +kernel
theorem dX9_init_301 : decode cX9_init 301 = .ok (.getfield 43, 3) := by decide +kernel
theorem dX9_init_304 : decode cX9_init 304 = .ok (.iload_n 1, 1) := by decide +kernel
theorem dX9_init_305 : decode cX9_init 305 = .ok (.iconst (-1), 1) := by decide +kernel
theorem dX9_init_306 : decode cX9_init 306 = .ok (.iastore, 1) := by decide +kernel
theorem dX9_init_307 : decode cX9_init 307 = .ok (.aload_n 0, 1) := by decide +kernel
theorem dX9_init_308 : decode cX9_init 308 = .ok (.getfield 49, 3) := by decide +kernel
theorem dX9_init_311 : decode cX9_init 311 = .ok (.iload_n 1, 1) := by decide +kernel
theorem dX9_init_312 : decode cX9_init 312 = .ok (.ldc2_w 107, 3) := by decide +kernel
theorem dX9_init_315 : decode cX9_init 315 = .ok (.dastore, 1) := by decide +kernel
theorem dX9_init_316 : decode cX9_init 316 = .ok (.aload_n 0, 1) := by decide +kernel
theorem dX9_init_317 : decode cX9_init 317 = .ok (.getfield 52, 3) := by decide +kernel
theorem dX9_init_320 : decode cX9_init 320 = .ok (.iload_n 1, 1) := by decide +kernel
theorem dX9_init_321 : decode cX9_init 321 = .ok (.ldc2_w 7, 3) := by decide +kernel
theorem dX9_init_324 : decode cX9_init 324 = .ok (.dastore, 1) := by decide +kernel
theorem dX9_init_325 : decode cX9_init 325 = .ok (.iinc 1 1, 3) := by decide +kernel
theorem dX9_init_328 : decode cX9_init 328 = .ok (.goto (-79), 3) := by decide +kernel
theorem dX9_init_331 : decode cX9_init 331 = .ok (.return_, 1) := by decide +kernel
theorem dX9_thrown_0 : decode cX9_thrown 0 = .ok (.aload_n 0, 1) := by decide +kernel
theorem dX9_thrown_1 : decode cX9_thrown 1 = .ok (.getfield 115, 3) := by decide +kernel
theorem dX9_thrown_4 : decode cX9_thrown 4 = .ok (.ireturn, 1) := by decide +kernel
theorem dX9_refused_0 : decode cX9_refused 0 = .ok (.aload_n 0, 1) := by decide +kernel
theorem dX9_refused_1 : decode cX9_refused 1 = .ok (.iload_n 1, 1) := by decide +kernel
theorem dX9_refused_2 : decode cX9_refused 2 = .ok (.putfield 115, 3) := by decide +kernel
theorem dX9_refused_5 : decode cX9_refused 5 = .ok (.iload_n 1, 1) := by decide +kernel
theorem dX9_refused_6 : decode cX9_refused 6 = .ok (.ifCond .le 7, 3) := by decide +kernel
theorem dX9_refused_9 : decode cX9_refused 9 = .ok (.iconst 1, 1) := by decide +kernel
theorem dX9_refused_10 : decode cX9_refused 10 = .ok (.goto 4, 3) := by decide +kernel
theorem dX9_refused_13 : decode cX9_refused 13 = .ok (.iconst 0, 1) := by decide +kernel
theorem dX9_refused_14 : decode cX9_refused 14 = .ok (.ireturn, 1) := by decide +kernel
theorem dX9_isIn_0 : decode cX9_isIn 0 = .ok (.iload_n 0, 1) := by decide +kernel
theorem dX9_isIn_1 : decode cX9_isIn 1 = .ok (.iload_n 1, 1) := by decide +kernel
theorem dX9_isIn_2 : decode cX9_isIn 2 = .ok (.if_icmp .lt 12, 3) := by decide +kernel
theorem dX9_isIn_5 : decode cX9_isIn 5 = .ok (.iload_n 0, 1) := by decide +kernel
theorem dX9_isIn_6 : decode cX9_isIn 6 = .ok (.iload_n 2, 1) := by decide +kernel
theorem dX9_isIn_7 : decode cX9_isIn 7 = .ok (.if_icmp .gt 7, 3) := by decide +kernel
theorem dX9_isIn_10 : decode cX9_isIn 10 = .ok (.iconst 1, 1) := by decide +kernel
theorem dX9_isIn_11 : decode cX9_isIn 11 = .ok (.goto 4, 3) := by decide +kernel
theorem dX9_isIn_14 : decode cX9_isIn 14 = .ok (.iconst 0, 1) := by decide +kernel
theorem dX9_isIn_15 : decode cX9_isIn 15 = .ok (.ireturn, 1) := by decide +kernel
set_option maxRecDepth 20000 in
theorem ggX9_kind_X9_isIn : GoodIn wsX9_kind wsX9_isIn := goodIn_r _ [15] (by decide +kernel) (by decide +kernel)
set_option maxRecDepth 20000 in
theorem gX9_kind_X9_isIn : GoodIn wsX9_kind (va_wsS RX9 118 yX9_isIn wsX9_isIn) := goodIn_app (goodIn_of _ (by decide +kernel)) ggX9_kind_X9_isIn
set_option maxRecDepth 20000 in
theorem ggX9_kind_X9_refused : GoodIn wsX9_kind wsX9_refused := goodIn_r _ [19, 20, 21, 22, 23, 24, 25, 26, 27, 28, 29, 30, 31, 32, 33, 34, 35, 36, 37, 38, 39, 40, 41, 42, 43, 44, 45, 46, 47, 48, 49, 50, 51, 52, 53, 54, 55, 56, 57, 58, 59, 60, 61, 62, 63] (by decide +kernel) (by decide +kernel)
set_option maxRecDepth 20000 in
theorem gX9_kind_X9_refused : GoodIn wsX9_kind (wsV RX9 122 RX9 yX9_refused wsX9_refused) := goodIn_app (goodIn_of _ (by decide +kernel)) ggX9_kind_X9_refused
theorem dX9_kind_0 : decode cX9_kind 0 = .ok (.aload_n 0, 1) := by decide +kernel
theorem dX9_kind_1 : decode cX9_kind 1 = .ok (.iload_n 1, 1) := by decide +kernel
theorem dX9_kind_2 : decode cX9_kind 2 = .ok (.iconst 0, 1) := by decide +kernel
theorem dX9_kind_3 : decode cX9_kind 3 = .ok (.iconst 5, 1) := by decide +kernel
theorem dX9_kind_4 : decode cX9_kind 4 = .ok (.invokestatic 118, 3) := by decide +kernel
theorem dX9_kind_7 : decode cX9_kind 7 = .ok (.ifCond .eq 27, 3) := by decide +kernel
theorem dX9_kind_10 : decode cX9_kind 10 = .ok (.iload_n 2, 1) := by decide +kernel
theorem dX9_kind_11 : decode cX9_kind 11 = .ok (.iconst 0, 1) := by decide +kernel
theorem dX9_kind_12 : decode cX9_kind 12 = .ok (.iconst 2, 1) := by decide +kernel
theorem dX9_kind_13 : decode cX9_kind 13 = .ok (.invokestatic 118, 3) := by decide +kernel
theorem dX9_kind_16 : decode cX9_kind 16 = .ok (.ifCond .eq 18, 3) := by decide +kernel
theorem dX9_kind_19 : decode cX9_kind 19 = .ok (.iload_n 3, 1) := by decide +kernel
theorem dX9_kind_20 : decode cX9_kind 20 = .ok (.iconst 1, 1) := by decide +kernel
theorem dX9_kind_21 : decode cX9_kind 21 = .ok (.sipush 3000, 3) := by decide +kernel
theorem dX9_kind_24 : decode cX9_kind 24 = .ok (.invokestatic 118, 3) := by decide +kernel
theorem dX9_kind_27 : decode cX9_kind 27 = .ok (.ifCond .eq 7, 3) := by decide +kernel
theorem dX9_kind_30 : decode cX9_kind 30 = .ok (.iconst 0, 1) := by decide +kernel
theorem dX9_kind_31 : decode cX9_kind 31 = .ok (.goto 4, 3) := by decide +kernel
theorem dX9_kind_34 : decode cX9_kind 34 = .ok (.iconst 1, 1) := by decide +kernel
theorem dX9_kind_35 : decode cX9_kind 35 = .ok (.invokevirtual 122, 3) := by decide +kernel
theorem dX9_kind_38 : decode cX9_kind 38 = .ok (.ifCond .eq 4, 3) := by decide +kernel
theorem dX9_kind_41 : decode cX9_kind 41 = .ok (.return_, 1) := by decide +kernel
theorem dX9_kind_42 : decode cX9_kind 42 = .ok (.aload_n 0, 1) := by decide +kernel
theorem dX9_kind_43 : decode cX9_kind 43 = .ok (.getfield 20, 3) := by decide +kernel
theorem dX9_kind_46 : decode cX9_kind 46 = .ok (.iload_n 1, 1) := by decide +kernel
theorem dX9_kind_47 : decode cX9_kind 47 = .ok (.iload_n 2, 1) := by decide +kernel
theorem dX9_kind_48 : decode cX9_kind 48 = .ok (.iastore, 1) := by decide +kernel
theorem dX9_kind_49 : decode cX9_kind 49 = .ok (.aload_n 0, 1) := by decide +kernel
theorem dX9_kind_50 : decode cX9_kind 50 = .ok (.getfield 24, 3) := by decide +kernel
theorem dX9_kind_53 : decode cX9_kind 53 = .ok (.iload_n 1, 1) := by decide +kernel
theorem dX9_kind_54 : decode cX9_kind 54 = .ok (.iload_n 3, 1) := by decide +kernel
theorem dX9_kind_55 : decode cX9_kind 55 = .ok (.iastore, 1) := by decide +kernel
theorem dX9_kind_56 : decode cX9_kind 56 = .ok (.aload_n 0, 1) := by decide +kernel
theorem dX9_kind_57 : decode cX9_kind 57 = .ok (.getfield 40, 3) := by decide +kernel
theorem dX9_kind_60 : decode cX9_kind 60 = .ok (.iload_n 1, 1) := by decide +kernel
theorem dX9_kind_61 : decode cX9_kind 61 = .ok (.dconst 0, 1) := by decide +kernel
theorem dX9_kind_62 : decode cX9_kind 62 = .ok (.dastore, 1) := by decide +kernel
theorem dX9_kind_63 : decode cX9_kind 63 = .ok (.aload_n 0, 1) := by decide +kernel
theorem dX9_kind_64 : decode cX9_kind 64 = .ok (.getfield 43, 3) := by decide +kernel
theorem dX9_kind_67 : decode cX9_kind 67 = .ok (.iload_n 1, 1) := by decide +kernel
theorem dX9_kind_68 : decode cX9_kind 68 = .ok (.iconst (-1), 1) := by decide +kernel
theorem dX9_kind_69 : decode cX9_kind 69 = .ok (.iastore, 1) := by decide +kernel
theorem dX9_kind_70 : decode cX9_kind 70 = .ok (.aload_n 0, 1) := by decide +kernel
theorem dX9_kind_71 : decode cX9_kind 71 = .ok (.getfield 46, 3) := by decide +kernel
theorem dX9_kind_74 : decode cX9_kind 74 = .ok (.iload_n 1, 1) := by decide +kernel
theorem dX9_kind_75 : decode cX9_kind 75 = .ok (.aload_n 0, 1) := by decide +kernel
theorem dX9_kind_76 : decode cX9_kind 76 = .ok (.getfield 126, 3) := by decide +kernel
theorem dX9_kind_79 : decode cX9_kind 79 = .ok (.iastore, 1) := by decide +kernel
theorem dX9_kind_80 : decode cX9_kind 80 = .ok (.aload_n 0, 1) := by decide +kernel
theorem dX9_kind_81 : decode cX9_kind 81 = .ok (.getfield 58, 3) := by decide +kernel
theorem dX9_kind_84 : decode cX9_kind 84 = .ok (.iload_n 1, 1) := by decide +kernel
theorem dX9_kind_85 : decode cX9_kind 85 = .ok (.iconst 0, 1) := by decide +kernel
theorem dX9_kind_86 : decode cX9_kind 86 = .ok (.bastore, 1) := by decide +kernel
theorem dX9_kind_87 : decode cX9_kind 87 = .ok (.aload_n 0, 1) := by decide +kernel
theorem dX9_kind_88 : decode cX9_kind 88 = .ok (.getfield 62, 3) := by decide +kernel
theorem dX9_kind_91 : decode cX9_kind 91 = .ok (.iload_n 1, 1) := by decide +kernel
theorem dX9_kind_92 : decode cX9_kind 92 = .ok (.iconst 0, 1) := by decide +kernel
theorem dX9_kind_93 : decode cX9_kind 93 = .ok (.bastore, 1) := by decide +kernel
theorem dX9_kind_94 : decode cX9_kind 94 = .ok (.aload_n 0, 1) := by decide +kernel
theorem dX9_kind_95 : decode cX9_kind 95 = .ok (.getfield 65, 3) := by decide +kernel
theorem dX9_kind_98 : decode cX9_kind 98 = .ok (.iload_n 1, 1) := by decide +kernel
theorem dX9_kind_99 : decode cX9_kind 99 = .ok (.dconst 0, 1) := by decide +kernel
theorem dX9_kind_100 : decode cX9_kind 100 = .ok (.dastore, 1) := by decide +kernel
theorem dX9_kind_101 : decode cX9_kind 101 = .ok (.aload_n 0, 1) := by decide +kernel
theorem dX9_kind_102 : decode cX9_kind 102 = .ok (.getfield 68, 3) := by decide +kernel
theorem dX9_kind_105 : decode cX9_kind 105 = .ok (.iload_n 1, 1) := by decide +kernel
theorem dX9_kind_106 : decode cX9_kind 106 = .ok (.iconst 0, 1) := by decide +kernel
theorem dX9_kind_107 : decode cX9_kind 107 = .ok (.iastore, 1) := by decide +kernel
theorem dX9_kind_108 : decode cX9_kind 108 = .ok (.aload_n 0, 1) := by decide +kernel
theorem dX9_kind_109 : decode cX9_kind 109 = .ok (.getfield 71, 3) := by decide +kernel
theorem dX9_kind_112 : decode cX9_kind 112 = .ok (.iload_n 1, 1) := by decide +kernel
theorem dX9_kind_113 : decode cX9_kind 113 = .ok (.iconst 0, 1) := by decide +kernel
theorem dX9_kind_114 : decode cX9_kind 114 = .ok (.iastore, 1) := by decide +kernel
theorem dX9_kind_115 : decode cX9_kind 115 = .ok (.return_, 1) := by decide +kernel
set_option maxRecDepth 20000 in
theorem ggX9_mean_X9_isIn : GoodIn wsX9_mean wsX9_isIn := goodIn_r _ [9] (by decide +kernel) (by decide +kernel)
set_option maxRecDepth 20000 in
theorem gX9_mean_X9_isIn : GoodIn wsX9_mean (va_wsS RX9 118 yX9_isIn wsX9_isIn) := goodIn_app (goodIn_of _ (by decide +kernel)) ggX9_mean_X9_isIn
set_option maxRecDepth 20000 in
theorem ggX9_mean_X9_refused : GoodIn wsX9_mean wsX9_refused := goodIn_r _ [13, 14, 15, 16, 17, 18, 19, 20, 21, 22, 23, 24, 25, 26, 27, 28, 29, 30, 31, 32, 33, 34, 35, 36, 37, 38, 39, 40, 41, 42, 43, 44, 45, 46, 47, 48, 49, 50, 51, 52, 53, 54, 55, 56, 57] (by decide +kernel) (by decide +kernel)
set_option maxRecDepth 20000 in
theorem gX9_mean_X9_refused : GoodIn wsX9_mean (wsV RX9 122 RX9 yX9_refused wsX9_refused) := goodIn_app (goodIn_of _ (by decide +kernel)) ggX9_mean_X9_refused
theorem dX9_mean_0 : decode cX9_mean 0 = .ok (.iload_n 1, 1) := by decide +kernel
theorem dX9_mean_1 : decode cX9_mean 1 = .ok (.iconst 0, 1) := by decide +kernel
theorem dX9_mean_2 : decode cX9_mean 2 = .ok (.iconst 5, 1) := by decide +kernel
theorem dX9_mean_3 : decode cX9_mean 3 = .ok (.invokestatic 118, 3) := by decide +kernel
theorem dX9_mean_6 : decode cX9_mean 6 = .ok (.ifCond .eq 57, 3) := by decide +kernel
theorem dX9_mean_9 : decode cX9_mean 9 = .ok (.dload_n 2, 1) := by decide +kernel
theorem dX9_mean_10 : decode cX9_mean 10 = .ok (.dconst 0, 1) := by decide +kernel
theorem dX9_mean_11 : decode cX9_mean 11 = .ok (.dcmp .l, 1) := by decide +kernel
theorem dX9_mean_12 : decode cX9_mean 12 = .ok (.ifCond .lt 51, 3) := by decide +kernel
theorem dX9_mean_15 : decode cX9_mean 15 = .ok (.dload_n 2, 1) := by decide +kernel
theorem dX9_mean_16 : decode cX9_mean 16 = .ok (.dload 4, 2) := by decide +kernel
theorem dX9_mean_18 : decode cX9_mean 18 = .ok (.dcmp .g, 1) := by decide +kernel
theorem dX9_mean_19 : decode cX9_mean 19 = .ok (.ifCond .ge 44, 3) := by decide +kernel
theorem dX9_mean_22 : decode cX9_mean 22 = .ok (.dload 4, 2) := by decide +kernel
theorem dX9_mean_24 : decode cX9_mean 24 = .ok (.ldc2_w 129, 3) := by decide +kernel
theorem dX9_mean_27 : decode cX9_mean 27 = .ok (.dcmp .g, 1) := by decide +kernel
theorem dX9_mean_28 : decode cX9_mean 28 = .ok (.ifCond .gt 35, 3) := by decide +kernel
theorem dX9_mean_31 : decode cX9_mean 31 = .ok (.dload 6, 2) := by decide +kernel
theorem dX9_mean_33 : decode cX9_mean 33 = .ok (.dconst 0, 1) := by decide +kernel
theorem dX9_mean_34 : decode cX9_mean 34 = .ok (.dcmp .l, 1) := by decide +kernel
theorem dX9_mean_35 : decode cX9_mean 35 = .ok (.ifCond .le 28, 3) := by decide +kernel
theorem dX9_mean_38 : decode cX9_mean 38 = .ok (.dload 6, 2) := by decide +kernel
theorem dX9_mean_40 : decode cX9_mean 40 = .ok (.dconst 1, 1) := by decide +kernel
theorem dX9_mean_41 : decode cX9_mean 41 = .ok (.dcmp .g, 1) := by decide +kernel
theorem dX9_mean_42 : decode cX9_mean 42 = .ok (.ifCond .gt 21, 3) := by decide +kernel
theorem dX9_mean_45 : decode cX9_mean 45 = .ok (.dload 8, 2) := by decide +kernel
theorem dX9_mean_47 : decode cX9_mean 47 = .ok (.dconst 0, 1) := by decide +kernel
theorem dX9_mean_48 : decode cX9_mean 48 = .ok (.dcmp .l, 1) := by decide +kernel
theorem dX9_mean_49 : decode cX9_mean 49 = .ok (.ifCond .le 14, 3) := by decide +kernel
theorem dX9_mean_52 : decode cX9_mean 52 = .ok (.dload 8, 2) := by decide +kernel
theorem dX9_mean_54 : decode cX9_mean 54 = .ok (.dconst 1, 1) := by decide +kernel
theorem dX9_mean_55 : decode cX9_mean 55 = .ok (.dcmp .g, 1) := by decide +kernel
theorem dX9_mean_56 : decode cX9_mean 56 = .ok (.ifCond .gt 7, 3) := by decide +kernel
theorem dX9_mean_59 : decode cX9_mean 59 = .ok (.iconst 1, 1) := by decide +kernel
theorem dX9_mean_60 : decode cX9_mean 60 = .ok (.goto 4, 3) := by decide +kernel
theorem dX9_mean_63 : decode cX9_mean 63 = .ok (.iconst 0, 1) := by decide +kernel
theorem dX9_mean_64 : decode cX9_mean 64 = .ok (.istore 10, 2) := by decide +kernel
theorem dX9_mean_66 : decode cX9_mean 66 = .ok (.aload_n 0, 1) := by decide +kernel
theorem dX9_mean_67 : decode cX9_mean 67 = .ok (.iload 10, 2) := by decide +kernel
theorem dX9_mean_69 : decode cX9_mean 69 = .ok (.ifCond .eq 7, 3) := by decide +kernel
theorem dX9_mean_72 : decode cX9_mean 72 = .ok (.iconst 0, 1) := by decide +kernel
theorem dX9_mean_73 : decode cX9_mean 73 = .ok (.goto 4, 3) := by decide +kernel
theorem dX9_mean_76 : decode cX9_mean 76 = .ok (.iconst 1, 1) := by decide +kernel
theorem dX9_mean_77 : decode cX9_mean 77 = .ok (.invokevirtual 122, 3) := by decide +kernel
theorem dX9_mean_80 : decode cX9_mean 80 = .ok (.ifCond .eq 4, 3) := by decide +kernel
theorem dX9_mean_83 : decode cX9_mean 83 = .ok (.return_, 1) := by decide +kernel
theorem dX9_mean_84 : decode cX9_mean 84 = .ok (.aload_n 0, 1) := by decide +kernel
theorem dX9_mean_85 : decode cX9_mean 85 = .ok (.getfield 27, 3) := by decide +kernel
theorem dX9_mean_88 : decode cX9_mean 88 = .ok (.iload_n 1, 1) := by decide +kernel
theorem dX9_mean_89 : decode cX9_mean 89 = .ok (.dload_n 2, 1) := by decide +kernel
theorem dX9_mean_90 : decode cX9_mean 90 = .ok (.dastore, 1) := by decide +kernel
theorem dX9_mean_91 : decode cX9_mean 91 = .ok (.aload_n 0, 1) := by decide +kernel
theorem dX9_mean_92 : decode cX9_mean 92 = .ok (.getfield 31, 3) := by decide +kernel
theorem dX9_mean_95 : decode cX9_mean 95 = .ok (.iload_n 1, 1) := by decide +kernel
theorem dX9_mean_96 : decode cX9_mean 96 = .ok (.dload 4, 2) := by decide +kernel
theorem dX9_mean_98 : decode cX9_mean 98 = .ok (.dastore, 1) := by decide +kernel
theorem dX9_mean_99 : decode cX9_mean 99 = .ok (.aload_n 0, 1) := by decide +kernel
theorem dX9_mean_100 : decode cX9_mean 100 = .ok (.getfield 34, 3) := by decide +kernel
theorem dX9_mean_103 : decode cX9_mean 103 = .ok (.iload_n 1, 1) := by decide +kernel
theorem dX9_mean_104 : decode cX9_mean 104 = .ok (.dload 6, 2) := by decide +kernel
theorem dX9_mean_106 : decode cX9_mean 106 = .ok (.dastore, 1) := by decide +kernel
theorem dX9_mean_107 : decode cX9_mean 107 = .ok (.aload_n 0, 1) := by decide +kernel
theorem dX9_mean_108 : decode cX9_mean 108 = .ok (.getfield 37, 3) := by decide +kernel
theorem dX9_mean_111 : decode cX9_mean 111 = .ok (.iload_n 1, 1) := by decide +kernel
theorem dX9_mean_112 : decode cX9_mean 112 = .ok (.dload 8, 2) := by decide +kernel
theorem dX9_mean_114 : decode cX9_mean 114 = .ok (.dastore, 1) := by decide +kernel
theorem dX9_mean_115 : decode cX9_mean 115 = .ok (.return_, 1) := by decide +kernel
set_option maxRecDepth 20000 in
theorem ggX9_delay_X9_isIn : GoodIn wsX9_delay wsX9_isIn := goodIn_r _ [7] (by decide +kernel) (by decide +kernel)
set_option maxRecDepth 20000 in
theorem gX9_delay_X9_isIn : GoodIn wsX9_delay (va_wsS RX9 118 yX9_isIn wsX9_isIn) := goodIn_app (goodIn_of _ (by decide +kernel)) ggX9_delay_X9_isIn
set_option maxRecDepth 20000 in
theorem ggX9_delay_X9_refused : GoodIn wsX9_delay wsX9_refused := goodIn_r _ [11, 12, 13, 14, 15, 16, 17, 18, 19, 20, 21, 22, 23, 24, 25, 26, 27, 28, 29, 30, 31, 32, 33, 34, 35, 36, 37, 38, 39, 40, 41, 42, 43, 44, 45, 46, 47, 48, 49, 50, 51, 52, 53, 54, 55] (by decide +kernel) (by decide +kernel)
set_option maxRecDepth 20000 in
theorem gX9_delay_X9_refused : GoodIn wsX9_delay (wsV RX9 122 RX9 yX9_refused wsX9_refused) := goodIn_app (goodIn_of _ (by decide +kernel)) ggX9_delay_X9_refused
theorem dX9_delay_0 : decode cX9_delay 0 = .ok (.iload_n 1, 1) := by decide +kernel
theorem dX9_delay_1 : decode cX9_delay 1 = .ok (.iconst 0, 1) := by decide +kernel
theorem dX9_delay_2 : decode cX9_delay 2 = .ok (.iconst 5, 1) := by decide +kernel
theorem dX9_delay_3 : decode cX9_delay 3 = .ok (.invokestatic 118, 3) := by decide +kernel
theorem dX9_delay_6 : decode cX9_delay 6 = .ok (.ifCond .eq 29, 3) := by decide +kernel
theorem dX9_delay_9 : decode cX9_delay 9 = .ok (.dload_n 2, 1) := by decide +kernel
theorem dX9_delay_10 : decode cX9_delay 10 = .ok (.dconst 0, 1) := by decide +kernel
theorem dX9_delay_11 : decode cX9_delay 11 = .ok (.dcmp .l, 1) := by decide +kernel
theorem dX9_delay_12 : decode cX9_delay 12 = .ok (.ifCond .le 23, 3) := by decide +kernel
theorem dX9_delay_15 : decode cX9_delay 15 = .ok (.dload_n 2, 1) := by decide +kernel
theorem dX9_delay_16 : decode cX9_delay 16 = .ok (.dload 4, 2) := by decide +kernel
theorem dX9_delay_18 : decode cX9_delay 18 = .ok (.dcmp .g, 1) := by decide +kernel
theorem dX9_delay_19 : decode cX9_delay 19 = .ok (.ifCond .gt 16, 3) := by decide +kernel
theorem dX9_delay_22 : decode cX9_delay 22 = .ok (.dload 4, 2) := by decide +kernel
theorem dX9_delay_24 : decode cX9_delay 24 = .ok (.ldc2_w 131, 3) := by decide +kernel
theorem dX9_delay_27 : decode cX9_delay 27 = .ok (.dcmp .g, 1) := by decide +kernel
theorem dX9_delay_28 : decode cX9_delay 28 = .ok (.ifCond .gt 7, 3) := by decide +kernel
theorem dX9_delay_31 : decode cX9_delay 31 = .ok (.iconst 1, 1) := by decide +kernel
theorem dX9_delay_32 : decode cX9_delay 32 = .ok (.goto 4, 3) := by decide +kernel
theorem dX9_delay_35 : decode cX9_delay 35 = .ok (.iconst 0, 1) := by decide +kernel
theorem dX9_delay_36 : decode cX9_delay 36 = .ok (.istore 6, 2) := by decide +kernel
theorem dX9_delay_38 : decode cX9_delay 38 = .ok (.aload_n 0, 1) := by decide +kernel
theorem dX9_delay_39 : decode cX9_delay 39 = .ok (.iload 6, 2) := by decide +kernel
theorem dX9_delay_41 : decode cX9_delay 41 = .ok (.ifCond .eq 7, 3) := by decide +kernel
theorem dX9_delay_44 : decode cX9_delay 44 = .ok (.iconst 0, 1) := by decide +kernel
theorem dX9_delay_45 : decode cX9_delay 45 = .ok (.goto 4, 3) := by decide +kernel
theorem dX9_delay_48 : decode cX9_delay 48 = .ok (.iconst 1, 1) := by decide +kernel
theorem dX9_delay_49 : decode cX9_delay 49 = .ok (.invokevirtual 122, 3) := by decide +kernel
theorem dX9_delay_52 : decode cX9_delay 52 = .ok (.ifCond .eq 4, 3) := by decide +kernel
theorem dX9_delay_55 : decode cX9_delay 55 = .ok (.return_, 1) := by decide +kernel
theorem dX9_delay_56 : decode cX9_delay 56 = .ok (.aload_n 0, 1) := by decide +kernel
theorem dX9_delay_57 : decode cX9_delay 57 = .ok (.getfield 49, 3) := by decide +kernel
theorem dX9_delay_60 : decode cX9_delay 60 = .ok (.iload_n 1, 1) := by decide +kernel
theorem dX9_delay_61 : decode cX9_delay 61 = .ok (.dload_n 2, 1) := by decide +kernel
theorem dX9_delay_62 : decode cX9_delay 62 = .ok (.dastore, 1) := by decide +kernel
theorem dX9_delay_63 : decode cX9_delay 63 = .ok (.aload_n 0, 1) := by decide +kernel
theorem dX9_delay_64 : decode cX9_delay 64 = .ok (.getfield 52, 3) := by decide +kernel
theorem dX9_delay_67 : decode cX9_delay 67 = .ok (.iload_n 1, 1) := by decide +kernel
theorem dX9_delay_68 : decode cX9_delay 68 = .ok (.dload 4, 2) := by decide +kernel
theorem dX9_delay_70 : decode cX9_delay 70 = .ok (.dastore, 1) := by decide +kernel
theorem dX9_delay_71 : decode cX9_delay 71 = .ok (.return_, 1) := by decide +kernel
set_option maxRecDepth 20000 in
theorem ggX9_link_X9_isIn : GoodIn wsX9_link wsX9_isIn := goodIn_r _ [9] (by decide +kernel) (by decide +kernel)
set_option maxRecDepth 20000 in
theorem gX9_link_X9_isIn : GoodIn wsX9_link (va_wsS RX9 118 yX9_isIn wsX9_isIn) := goodIn_app (goodIn_of _ (by decide +kernel)) ggX9_link_X9_isIn
set_option maxRecDepth 20000 in
theorem ggX9_link_X9_refused : GoodIn wsX9_link wsX9_refused := goodIn_r _ [13, 14, 15, 16, 17, 18, 19, 20, 21, 22, 23, 24, 25, 26, 27, 28, 29, 30, 31, 32, 33, 34, 35, 36, 37, 38, 39, 40, 41, 42, 43, 44, 45, 46, 47, 48, 49, 50, 51, 52, 53, 54, 55, 56, 57] (by decide +kernel) (by decide +kernel)
set_option maxRecDepth 20000 in
theorem gX9_link_X9_refused : GoodIn wsX9_link (wsV RX9 122 RX9 yX9_refused wsX9_refused) := goodIn_app (goodIn_of _ (by decide +kernel)) ggX9_link_X9_refused
theorem dX9_link_0 : decode cX9_link 0 = .ok (.dload_n 1, 1) := by decide +kernel
theorem dX9_link_1 : decode cX9_link 1 = .ok (.ldc2_w 133, 3) := by decide +kernel
theorem dX9_link_4 : decode cX9_link 4 = .ok (.dcmp .l, 1) := by decide +kernel
theorem dX9_link_5 : decode cX9_link 5 = .ok (.ifCond .lt 25, 3) := by decide +kernel
theorem dX9_link_8 : decode cX9_link 8 = .ok (.dload_n 1, 1) := by decide +kernel
theorem dX9_link_9 : decode cX9_link 9 = .ok (.ldc2_w 131, 3) := by decide +kernel
theorem dX9_link_12 : decode cX9_link 12 = .ok (.dcmp .g, 1) := by decide +kernel
theorem dX9_link_13 : decode cX9_link 13 = .ok (.ifCond .gt 17, 3) := by decide +kernel
theorem dX9_link_16 : decode cX9_link 16 = .ok (.iload_n 3, 1) := by decide +kernel
theorem dX9_link_17 : decode cX9_link 17 = .ok (.iconst 1, 1) := by decide +kernel
theorem dX9_link_18 : decode cX9_link 18 = .ok (.ldc 15, 2) := by decide +kernel
theorem dX9_link_20 : decode cX9_link 20 = .ok (.invokestatic 118, 3) := by decide +kernel
theorem dX9_link_23 : decode cX9_link 23 = .ok (.ifCond .eq 7, 3) := by decide +kernel
theorem dX9_link_26 : decode cX9_link 26 = .ok (.iconst 1, 1) := by decide +kernel
theorem dX9_link_27 : decode cX9_link 27 = .ok (.goto 4, 3) := by decide +kernel
theorem dX9_link_30 : decode cX9_link 30 = .ok (.iconst 0, 1) := by decide +kernel
theorem dX9_link_31 : decode cX9_link 31 = .ok (.istore 4, 2) := by decide +kernel
theorem dX9_link_33 : decode cX9_link 33 = .ok (.aload_n 0, 1) := by decide +kernel
theorem dX9_link_34 : decode cX9_link 34 = .ok (.iload 4, 2) := by decide +kernel
theorem dX9_link_36 : decode cX9_link 36 = .ok (.ifCond .eq 7, 3) := by decide +kernel
theorem dX9_link_39 : decode cX9_link 39 = .ok (.iconst 0, 1) := by decide +kernel
theorem dX9_link_40 : decode cX9_link 40 = .ok (.goto 4, 3) := by decide +kernel
theorem dX9_link_43 : decode cX9_link 43 = .ok (.iconst 1, 1) := by decide +kernel
theorem dX9_link_44 : decode cX9_link 44 = .ok (.invokevirtual 122, 3) := by decide +kernel
theorem dX9_link_47 : decode cX9_link 47 = .ok (.ifCond .eq 4, 3) := by decide +kernel
theorem dX9_link_50 : decode cX9_link 50 = .ok (.return_, 1) := by decide +kernel
theorem dX9_link_51 : decode cX9_link 51 = .ok (.aload_n 0, 1) := by decide +kernel
theorem dX9_link_52 : decode cX9_link 52 = .ok (.dload_n 1, 1) := by decide +kernel
theorem dX9_link_53 : decode cX9_link 53 = .ok (.putfield 9, 3) := by decide +kernel
theorem dX9_link_56 : decode cX9_link 56 = .ok (.aload_n 0, 1) := by decide +kernel
theorem dX9_link_57 : decode cX9_link 57 = .ok (.iload_n 3, 1) := by decide +kernel
theorem dX9_link_58 : decode cX9_link 58 = .ok (.putfield 16, 3) := by decide +kernel
theorem dX9_link_61 : decode cX9_link 61 = .ok (.return_, 1) := by decide +kernel
set_option maxRecDepth 20000 in
theorem ggX9_coin_X9_refused : GoodIn wsX9_coin wsX9_refused := goodIn_r _ [7, 8, 9, 10, 11, 12, 13, 14, 15, 16, 17, 18, 19, 20, 21, 22, 23, 24, 25, 26, 27, 28, 29, 30, 31, 32, 33, 34, 35, 36, 37, 38, 39, 40, 41, 42, 43, 44, 45, 46, 47, 48, 49, 50, 51] (by decide +kernel) (by decide +kernel)
set_option maxRecDepth 20000 in
theorem gX9_coin_X9_refused : GoodIn wsX9_coin (wsV RX9 122 RX9 yX9_refused wsX9_refused) := goodIn_app (goodIn_of _ (by decide +kernel)) ggX9_coin_X9_refused
theorem dX9_coin_0 : decode cX9_coin 0 = .ok (.aload_n 0, 1) := by decide +kernel
theorem dX9_coin_1 : decode cX9_coin 1 = .ok (.dload_n 1, 1) := by decide +kernel
theorem dX9_coin_2 : decode cX9_coin 2 = .ok (.dconst 0, 1) := by decide +kernel
theorem dX9_coin_3 : decode cX9_coin 3 = .ok (.dcmp .l, 1) := by decide +kernel
theorem dX9_coin_4 : decode cX9_coin 4 = .ok (.ifCond .lt 9, 3) := by decide +kernel
theorem dX9_coin_7 : decode cX9_coin 7 = .ok (.dload_n 1, 1) := by decide +kernel
theorem dX9_coin_8 : decode cX9_coin 8 = .ok (.dconst 1, 1) := by decide +kernel
theorem dX9_coin_9 : decode cX9_coin 9 = .ok (.dcmp .g, 1) := by decide +kernel
theorem dX9_coin_10 : decode cX9_coin 10 = .ok (.ifCond .lt 7, 3) := by decide +kernel
theorem dX9_coin_13 : decode cX9_coin 13 = .ok (.iconst 1, 1) := by decide +kernel
theorem dX9_coin_14 : decode cX9_coin 14 = .ok (.goto 17, 3) := by decide +kernel
theorem dX9_coin_17 : decode cX9_coin 17 = .ok (.aload_n 0, 1) := by decide +kernel
theorem dX9_coin_18 : decode cX9_coin 18 = .ok (.getfield 135, 3) := by decide +kernel
theorem dX9_coin_21 : decode cX9_coin 21 = .ok (.bipush 64, 2) := by decide +kernel
theorem dX9_coin_23 : decode cX9_coin 23 = .ok (.if_icmp .ne 7, 3) := by decide +kernel
theorem dX9_coin_26 : decode cX9_coin 26 = .ok (.iconst 2, 1) := by decide +kernel
theorem dX9_coin_27 : decode cX9_coin 27 = .ok (.goto 4, 3) := by decide +kernel
theorem dX9_coin_30 : decode cX9_coin 30 = .ok (.iconst 0, 1) := by decide +kernel
theorem dX9_coin_31 : decode cX9_coin 31 = .ok (.invokevirtual 122, 3) := by decide +kernel
theorem dX9_coin_34 : decode cX9_coin 34 = .ok (.ifCond .eq 5, 3) := by decide +kernel
theorem dX9_coin_37 : decode cX9_coin 37 = .ok (.iconst 0, 1) := by decide +kernel
theorem dX9_coin_38 : decode cX9_coin 38 = .ok (.ireturn, 1) := by decide +kernel
theorem dX9_coin_39 : decode cX9_coin 39 = .ok (.aload_n 0, 1) := by decide +kernel
theorem dX9_coin_40 : decode cX9_coin 40 = .ok (.getfield 101, 3) := by decide +kernel
theorem dX9_coin_43 : decode cX9_coin 43 = .ok (.aload_n 0, 1) := by decide +kernel
theorem dX9_coin_44 : decode cX9_coin 44 = .ok (.getfield 135, 3) := by decide +kernel
theorem dX9_coin_47 : decode cX9_coin 47 = .ok (.dload_n 1, 1) := by decide +kernel
theorem dX9_coin_48 : decode cX9_coin 48 = .ok (.dastore, 1) := by decide +kernel
theorem dX9_coin_49 : decode cX9_coin 49 = .ok (.aload_n 0, 1) := by decide +kernel
theorem dX9_coin_50 : decode cX9_coin 50 = .ok (.dup, 1) := by decide +kernel
theorem dX9_coin_51 : decode cX9_coin 51 = .ok (.getfield 135, 3) := by decide +kernel
theorem dX9_coin_54 : decode cX9_coin 54 = .ok (.iconst 1, 1) := by decide +kernel
theorem dX9_coin_55 : decode cX9_coin 55 = .ok (.iadd, 1) := by decide +kernel
theorem dX9_coin_56 : decode cX9_coin 56 = .ok (.putfield 135, 3) := by decide +kernel
theorem dX9_coin_59 : decode cX9_coin 59 = .ok (.aload_n 0, 1) := by decide +kernel
theorem dX9_coin_60 : decode cX9_coin 60 = .ok (.getfield 135, 3) := by decide +kernel
theorem dX9_coin_63 : decode cX9_coin 63 = .ok (.ireturn, 1) := by decide +kernel
theorem dX9_useCoin_0 : decode cX9_useCoin 0 = .ok (.aload_n 0, 1) := by decide +kernel
theorem dX9_useCoin_1 : decode cX9_useCoin 1 = .ok (.getfield 135, 3) := by decide +kernel
theorem dX9_useCoin_4 : decode cX9_useCoin 4 = .ok (.ifCond .ne 7, 3) := by decide +kernel
theorem dX9_useCoin_7 : decode cX9_useCoin 7 = .ok (.ldc2_w 138, 3) := by decide +kernel
theorem dX9_useCoin_10 : decode cX9_useCoin 10 = .ok (.dreturn, 1) := by decide +kernel
theorem dX9_useCoin_11 : decode cX9_useCoin 11 = .ok (.aload_n 0, 1) := by decide +kernel
theorem dX9_useCoin_12 : decode cX9_useCoin 12 = .ok (.getfield 101, 3) := by decide +kernel
theorem dX9_useCoin_15 : decode cX9_useCoin 15 = .ok (.iconst 0, 1) := by decide +kernel
theorem dX9_useCoin_16 : decode cX9_useCoin 16 = .ok (.daload, 1) := by decide +kernel
theorem dX9_useCoin_17 : decode cX9_useCoin 17 = .ok (.dstore_n 1, 1) := by decide +kernel
theorem dX9_useCoin_18 : decode cX9_useCoin 18 = .ok (.aload_n 0, 1) := by decide +kernel
theorem dX9_useCoin_19 : decode cX9_useCoin 19 = .ok (.dup, 1) := by decide +kernel
theorem dX9_useCoin_20 : decode cX9_useCoin 20 = .ok (.getfield 135, 3) := by decide +kernel
theorem dX9_useCoin_23 : decode cX9_useCoin 23 = .ok (.iconst 1, 1) := by decide +kernel
theorem dX9_useCoin_24 : decode cX9_useCoin 24 = .ok (.isub, 1) := by decide +kernel
theorem dX9_useCoin_25 : decode cX9_useCoin 25 = .ok (.putfield 135, 3) := by decide +kernel
theorem dX9_useCoin_28 : decode cX9_useCoin 28 = .ok (.iconst 0, 1) := by decide +kernel
theorem dX9_useCoin_29 : decode cX9_useCoin 29 = .ok (.istore_n 3, 1) := by decide +kernel
theorem dX9_useCoin_30 : decode cX9_useCoin 30 = .ok (.iload_n 3, 1) := by decide +kernel
theorem dX9_useCoin_31 : decode cX9_useCoin 31 = .ok (.aload_n 0, 1) := by decide +kernel
theorem dX9_useCoin_32 : decode cX9_useCoin 32 = .ok (.getfield 135, 3) := by decide +kernel
theorem dX9_useCoin_35 : decode cX9_useCoin 35 = .ok (.if_icmp .ge 23, 3) := by decide +kernel
theorem dX9_useCoin_38 : decode cX9_useCoin 38 = .ok (.aload_n 0, 1) := by decide +kernel
theorem dX9_useCoin_39 : decode cX9_useCoin 39 = .ok (.getfield 101, 3) := by decide +kernel
theorem dX9_useCoin_42 : decode cX9_useCoin 42 = .ok (.iload_n 3, 1) := by decide +kernel
theorem dX9_useCoin_43 : decode cX9_useCoin 43 = .ok (.aload_n 0, 1) := by decide +kernel
theorem dX9_useCoin_44 : decode cX9_useCoin 44 = .ok (.getfield 101, 3) := by decide +kernel
theorem dX9_useCoin_47 : decode cX9_useCoin 47 = .ok (.iload_n 3, 1) := by decide +kernel
theorem dX9_useCoin_48 : decode cX9_useCoin 48 = .ok (.iconst 1, 1) := by decide +kernel
theorem dX9_useCoin_49 : decode cX9_useCoin 49 = .ok (.iadd, 1) := by decide +kernel
theorem dX9_useCoin_50 : decode cX9_useCoin 50 = .ok (.daload, 1) := by decide +kernel
theorem dX9_useCoin_51 : decode cX9_useCoin 51 = .ok (.dastore, 1) := by decide +kernel
theorem dX9_useCoin_52 : decode cX9_useCoin 52 = .ok (.iinc 3 1, 3) := by decide +kernel
theorem dX9_useCoin_55 : decode cX9_useCoin 55 = .ok (.goto (-25), 3) := by decide +kernel
theorem dX9_useCoin_58 : decode cX9_useCoin 58 = .ok (.dload_n 1, 1) := by decide +kernel
theorem dX9_useCoin_59 : decode cX9_useCoin 59 = .ok (.dreturn, 1) := by decide +kernel
theorem dX9_waiting_0 : decode cX9_waiting 0 = .ok (.iconst 0, 1) := by decide +kernel
theorem dX9_waiting_1 : decode cX9_waiting 1 = .ok (.istore_n 1, 1) := by decide +kernel
theorem dX9_waiting_2 : decode cX9_waiting 2 = .ok (.iconst 0, 1) := by decide +kernel
theorem dX9_waiting_3 : decode cX9_waiting 3 = .ok (.istore_n 2, 1) := by decide +kernel
theorem dX9_waiting_4 : decode cX9_waiting 4 = .ok (.iload_n 2, 1) := by decide +kernel
theorem dX9_waiting_5 : decode cX9_waiting 5 = .ok (.bipush 6, 2) := by decide +kernel
theorem dX9_waiting_7 : decode cX9_waiting 7 = .ok (.if_icmp .ge 18, 3) := by decide +kernel
theorem dX9_waiting_10 : decode cX9_waiting 10 = .ok (.iload_n 1, 1) := by decide +kernel
theorem dX9_waiting_11 : decode cX9_waiting 11 = .ok (.aload_n 0, 1) := by decide +kernel
theorem dX9_waiting_12 : decode cX9_waiting 12 = .ok (.getfield 74, 3) := by decide +kernel
theorem dX9_waiting_15 : decode cX9_waiting 15 = .ok (.iload_n 2, 1) := by decide +kernel
theorem dX9_waiting_16 : decode cX9_waiting 16 = .ok (.iaload, 1) := by decide +kernel
theorem dX9_waiting_17 : decode cX9_waiting 17 = .ok (.iadd, 1) := by decide +kernel
theorem dX9_waiting_18 : decode cX9_waiting 18 = .ok (.istore_n 1, 1) := by decide +kernel
theorem dX9_waiting_19 : decode cX9_waiting 19 = .ok (.iinc 2 1, 3) := by decide +kernel
theorem dX9_waiting_22 : decode cX9_waiting 22 = .ok (.goto (-18), 3) := by decide +kernel
theorem dX9_waiting_25 : decode cX9_waiting 25 = .ok (.iload_n 1, 1) := by decide +kernel
theorem dX9_waiting_26 : decode cX9_waiting 26 = .ok (.ireturn, 1) := by decide +kernel
theorem dX9_bytesWaiting_0 : decode cX9_bytesWaiting 0 = .ok (.iconst 0, 1) := by decide +kernel
theorem dX9_bytesWaiting_1 : decode cX9_bytesWaiting 1 = .ok (.istore_n 2, 1) := by decide +kernel
theorem dX9_bytesWaiting_2 : decode cX9_bytesWaiting 2 = .ok (.bipush 100, 2) := by decide +kernel
theorem dX9_bytesWaiting_4 : decode cX9_bytesWaiting 4 = .ok (.iload_n 1, 1) := by decide +kernel
theorem dX9_bytesWaiting_5 : decode cX9_bytesWaiting 5 = .ok (.imul, 1) := by decide +kernel
theorem dX9_bytesWaiting_6 : decode cX9_bytesWaiting 6 = .ok (.istore_n 3, 1) := by decide +kernel
theorem dX9_bytesWaiting_7 : decode cX9_bytesWaiting 7 = .ok (.iload_n 3, 1) := by decide +kernel
theorem dX9_bytesWaiting_8 : decode cX9_bytesWaiting 8 = .ok (.bipush 100, 2) := by decide +kernel
theorem dX9_bytesWaiting_10 : decode cX9_bytesWaiting 10 = .ok (.iload_n 1, 1) := by decide +kernel
theorem dX9_bytesWaiting_11 : decode cX9_bytesWaiting 11 = .ok (.imul, 1) := by decide +kernel
theorem dX9_bytesWaiting_12 : decode cX9_bytesWaiting 12 = .ok (.aload_n 0, 1) := by decide +kernel
theorem dX9_bytesWaiting_13 : decode cX9_bytesWaiting 13 = .ok (.getfield 74, 3) := by decide +kernel
theorem dX9_bytesWaiting_16 : decode cX9_bytesWaiting 16 = .ok (.iload_n 1, 1) := by decide +kernel
theorem dX9_bytesWaiting_17 : decode cX9_bytesWaiting 17 = .ok (.iaload, 1) := by decide +kernel
theorem dX9_bytesWaiting_18 : decode cX9_bytesWaiting 18 = .ok (.iadd, 1) := by decide +kernel
theorem dX9_bytesWaiting_19 : decode cX9_bytesWaiting 19 = .ok (.if_icmp .ge 18, 3) := by decide +kernel
theorem dX9_bytesWaiting_22 : decode cX9_bytesWaiting 22 = .ok (.iload_n 2, 1) := by decide +kernel
theorem dX9_bytesWaiting_23 : decode cX9_bytesWaiting 23 = .ok (.aload_n 0, 1) := by decide +kernel
theorem dX9_bytesWaiting_24 : decode cX9_bytesWaiting 24 = .ok (.getfield 80, 3) := by decide +kernel
theorem dX9_bytesWaiting_27 : decode cX9_bytesWaiting 27 = .ok (.iload_n 3, 1) := by decide +kernel
theorem dX9_bytesWaiting_28 : decode cX9_bytesWaiting 28 = .ok (.iaload, 1) := by decide +kernel
theorem dX9_bytesWaiting_29 : decode cX9_bytesWaiting 29 = .ok (.iadd, 1) := by decide +kernel
theorem dX9_bytesWaiting_30 : decode cX9_bytesWaiting 30 = .ok (.istore_n 2, 1) := by decide +kernel
theorem dX9_bytesWaiting_31 : decode cX9_bytesWaiting 31 = .ok (.iinc 3 1, 3) := by decide +kernel
theorem dX9_bytesWaiting_34 : decode cX9_bytesWaiting 34 = .ok (.goto (-27), 3) := by decide +kernel
theorem dX9_bytesWaiting_37 : decode cX9_bytesWaiting 37 = .ok (.iload_n 2, 1) := by decide +kernel
theorem dX9_bytesWaiting_38 : decode cX9_bytesWaiting 38 = .ok (.ireturn, 1) := by decide +kernel
set_option maxRecDepth 20000 in
theorem ggX9_look_X9_useCoin : GoodIn wsX9_look wsX9_useCoin := goodIn_r _ [14, 15, 16, 17, 18, 19, 20, 21, 22, 23, 24, 25, 26, 27, 28, 29, 30, 31, 32, 33, 34, 35, 36, 37, 38, 39, 40, 41, 42, 43, 44, 45, 46, 47, 48, 49, 50, 51, 52, 53, 54, 55, 56, 57, 58, 59, 60] (by decide +kernel) (by decide +kernel)
set_option maxRecDepth 20000 in
theorem gX9_look_X9_useCoin : GoodIn wsX9_look (wsV RX9 140 RX9 yX9_useCoin wsX9_useCoin) := goodIn_app (goodIn_of _ (by decide +kernel)) ggX9_look_X9_useCoin
theorem dX9_look_0 : decode cX9_look 0 = .ok (.aload_n 0, 1) := by decide +kernel
theorem dX9_look_1 : decode cX9_look 1 = .ok (.getfield 74, 3) := by decide +kernel
theorem dX9_look_4 : decode cX9_look 4 = .ok (.iload_n 1, 1) := by decide +kernel
theorem dX9_look_5 : decode cX9_look 5 = .ok (.iaload, 1) := by decide +kernel
theorem dX9_look_6 : decode cX9_look 6 = .ok (.ifCond .ne 83, 3) := by decide +kernel
theorem dX9_look_9 : decode cX9_look 9 = .ok (.aload_n 0, 1) := by decide +kernel
theorem dX9_look_10 : decode cX9_look 10 = .ok (.getfield 126, 3) := by decide +kernel
theorem dX9_look_13 : decode cX9_look 13 = .ok (.aload_n 0, 1) := by decide +kernel
theorem dX9_look_14 : decode cX9_look 14 = .ok (.getfield 46, 3) := by decide +kernel
theorem dX9_look_17 : decode cX9_look 17 = .ok (.iload_n 1, 1) := by decide +kernel
theorem dX9_look_18 : decode cX9_look 18 = .ok (.iaload, 1) := by decide +kernel
theorem dX9_look_19 : decode cX9_look 19 = .ok (.isub, 1) := by decide +kernel
theorem dX9_look_20 : decode cX9_look 20 = .ok (.bipush 100, 2) := by decide +kernel
theorem dX9_look_22 : decode cX9_look 22 = .ok (.if_icmp .ge 17, 3) := by decide +kernel
theorem dX9_look_25 : decode cX9_look 25 = .ok (.aload_n 0, 1) := by decide +kernel
theorem dX9_look_26 : decode cX9_look 26 = .ok (.getfield 126, 3) := by decide +kernel
theorem dX9_look_29 : decode cX9_look 29 = .ok (.aload_n 0, 1) := by decide +kernel
theorem dX9_look_30 : decode cX9_look 30 = .ok (.getfield 46, 3) := by decide +kernel
theorem dX9_look_33 : decode cX9_look 33 = .ok (.iload_n 1, 1) := by decide +kernel
theorem dX9_look_34 : decode cX9_look 34 = .ok (.iaload, 1) := by decide +kernel
theorem dX9_look_35 : decode cX9_look 35 = .ok (.isub, 1) := by decide +kernel
theorem dX9_look_36 : decode cX9_look 36 = .ok (.goto 5, 3) := by decide +kernel
theorem dX9_look_39 : decode cX9_look 39 = .ok (.bipush 100, 2) := by decide +kernel
theorem dX9_look_41 : decode cX9_look 41 = .ok (.istore_n 2, 1) := by decide +kernel
theorem dX9_look_42 : decode cX9_look 42 = .ok (.iconst 0, 1) := by decide +kernel
theorem dX9_look_43 : decode cX9_look 43 = .ok (.istore_n 3, 1) := by decide +kernel
theorem dX9_look_44 : decode cX9_look 44 = .ok (.iload_n 3, 1) := by decide +kernel
theorem dX9_look_45 : decode cX9_look 45 = .ok (.iload_n 2, 1) := by decide +kernel
theorem dX9_look_46 : decode cX9_look 46 = .ok (.if_icmp .ge 30, 3) := by decide +kernel
theorem dX9_look_49 : decode cX9_look 49 = .ok (.aload_n 0, 1) := by decide +kernel
theorem dX9_look_50 : decode cX9_look 50 = .ok (.getfield 40, 3) := by decide +kernel
theorem dX9_look_53 : decode cX9_look 53 = .ok (.iload_n 1, 1) := by decide +kernel
theorem dX9_look_54 : decode cX9_look 54 = .ok (.aload_n 0, 1) := by decide +kernel
theorem dX9_look_55 : decode cX9_look 55 = .ok (.getfield 40, 3) := by decide +kernel
theorem dX9_look_58 : decode cX9_look 58 = .ok (.iload_n 1, 1) := by decide +kernel
theorem dX9_look_59 : decode cX9_look 59 = .ok (.daload, 1) := by decide +kernel
theorem dX9_look_60 : decode cX9_look 60 = .ok (.dconst 1, 1) := by decide +kernel
theorem dX9_look_61 : decode cX9_look 61 = .ok (.aload_n 0, 1) := by decide +kernel
theorem dX9_look_62 : decode cX9_look 62 = .ok (.getfield 37, 3) := by decide +kernel
theorem dX9_look_65 : decode cX9_look 65 = .ok (.iload_n 1, 1) := by decide +kernel
theorem dX9_look_66 : decode cX9_look 66 = .ok (.daload, 1) := by decide +kernel
theorem dX9_look_67 : decode cX9_look 67 = .ok (.dsub, 1) := by decide +kernel
theorem dX9_look_68 : decode cX9_look 68 = .ok (.dmul, 1) := by decide +kernel
theorem dX9_look_69 : decode cX9_look 69 = .ok (.dastore, 1) := by decide +kernel
theorem dX9_look_70 : decode cX9_look 70 = .ok (.iinc 3 1, 3) := by decide +kernel
theorem dX9_look_73 : decode cX9_look 73 = .ok (.goto (-29), 3) := by decide +kernel
theorem dX9_look_76 : decode cX9_look 76 = .ok (.aload_n 0, 1) := by decide +kernel
theorem dX9_look_77 : decode cX9_look 77 = .ok (.getfield 46, 3) := by decide +kernel
theorem dX9_look_80 : decode cX9_look 80 = .ok (.iload_n 1, 1) := by decide +kernel
theorem dX9_look_81 : decode cX9_look 81 = .ok (.aload_n 0, 1) := by decide +kernel
theorem dX9_look_82 : decode cX9_look 82 = .ok (.getfield 126, 3) := by decide +kernel
theorem dX9_look_85 : decode cX9_look 85 = .ok (.iastore, 1) := by decide +kernel
theorem dX9_look_86 : decode cX9_look 86 = .ok (.goto 37, 3) := by decide +kernel
theorem dX9_look_89 : decode cX9_look 89 = .ok (.aload_n 0, 1) := by decide +kernel
theorem dX9_look_90 : decode cX9_look 90 = .ok (.getfield 40, 3) := by decide +kernel
theorem dX9_look_93 : decode cX9_look 93 = .ok (.iload_n 1, 1) := by decide +kernel
theorem dX9_look_94 : decode cX9_look 94 = .ok (.aload_n 0, 1) := by decide +kernel
theorem dX9_look_95 : decode cX9_look 95 = .ok (.getfield 40, 3) := by decide +kernel
theorem dX9_look_98 : decode cX9_look 98 = .ok (.iload_n 1, 1) := by decide +kernel
theorem dX9_look_99 : decode cX9_look 99 = .ok (.daload, 1) := by decide +kernel
theorem dX9_look_100 : decode cX9_look 100 = .ok (.aload_n 0, 1) := by decide +kernel
theorem dX9_look_101 : decode cX9_look 101 = .ok (.getfield 37, 3) := by decide +kernel
theorem dX9_look_104 : decode cX9_look 104 = .ok (.iload_n 1, 1) := by decide +kernel
theorem dX9_look_105 : decode cX9_look 105 = .ok (.daload, 1) := by decide +kernel
theorem dX9_look_106 : decode cX9_look 106 = .ok (.aload_n 0, 1) := by decide +kernel
theorem dX9_look_107 : decode cX9_look 107 = .ok (.getfield 74, 3) := by decide +kernel
theorem dX9_look_110 : decode cX9_look 110 = .ok (.iload_n 1, 1) := by decide +kernel
theorem dX9_look_111 : decode cX9_look 111 = .ok (.iaload, 1) := by decide +kernel
theorem dX9_look_112 : decode cX9_look 112 = .ok (.i2d, 1) := by decide +kernel
theorem dX9_look_113 : decode cX9_look 113 = .ok (.aload_n 0, 1) := by decide +kernel
theorem dX9_look_114 : decode cX9_look 114 = .ok (.getfield 40, 3) := by decide +kernel
theorem dX9_look_117 : decode cX9_look 117 = .ok (.iload_n 1, 1) := by decide +kernel
theorem dX9_look_118 : decode cX9_look 118 = .ok (.daload, 1) := by decide +kernel
theorem dX9_look_119 : decode cX9_look 119 = .ok (.dsub, 1) := by decide +kernel
theorem dX9_look_120 : decode cX9_look 120 = .ok (.dmul, 1) := by decide +kernel
theorem dX9_look_121 : decode cX9_look 121 = .ok (.dadd, 1) := by decide +kernel
theorem dX9_look_122 : decode cX9_look 122 = .ok (.dastore, 1) := by decide +kernel
theorem dX9_look_123 : decode cX9_look 123 = .ok (.aload_n 0, 1) := by decide +kernel
theorem dX9_look_124 : decode cX9_look 124 = .ok (.getfield 40, 3) := by decide +kernel
theorem dX9_look_127 : decode cX9_look 127 = .ok (.iload_n 1, 1) := by decide +kernel
theorem dX9_look_128 : decode cX9_look 128 = .ok (.daload, 1) := by decide +kernel
theorem dX9_look_129 : decode cX9_look 129 = .ok (.aload_n 0, 1) := by decide +kernel
theorem dX9_look_130 : decode cX9_look 130 = .ok (.getfield 27, 3) := by decide +kernel
theorem dX9_look_133 : decode cX9_look 133 = .ok (.iload_n 1, 1) := by decide +kernel
theorem dX9_look_134 : decode cX9_look 134 = .ok (.daload, 1) := by decide +kernel
theorem dX9_look_135 : decode cX9_look 135 = .ok (.dcmp .g, 1) := by decide +kernel
theorem dX9_look_136 : decode cX9_look 136 = .ok (.ifCond .ge 12, 3) := by decide +kernel
theorem dX9_look_139 : decode cX9_look 139 = .ok (.aload_n 0, 1) := by decide +kernel
theorem dX9_look_140 : decode cX9_look 140 = .ok (.getfield 43, 3) := by decide +kernel
theorem dX9_look_143 : decode cX9_look 143 = .ok (.iload_n 1, 1) := by decide +kernel
theorem dX9_look_144 : decode cX9_look 144 = .ok (.iconst (-1), 1) := by decide +kernel
theorem dX9_look_145 : decode cX9_look 145 = .ok (.iastore, 1) := by decide +kernel
theorem dX9_look_146 : decode cX9_look 146 = .ok (.iconst 0, 1) := by decide +kernel
theorem dX9_look_147 : decode cX9_look 147 = .ok (.ireturn, 1) := by decide +kernel
theorem dX9_look_148 : decode cX9_look 148 = .ok (.aload_n 0, 1) := by decide +kernel
theorem dX9_look_149 : decode cX9_look 149 = .ok (.getfield 40, 3) := by decide +kernel
theorem dX9_look_152 : decode cX9_look 152 = .ok (.iload_n 1, 1) := by decide +kernel
theorem dX9_look_153 : decode cX9_look 153 = .ok (.daload, 1) := by decide +kernel
theorem dX9_look_154 : decode cX9_look 154 = .ok (.aload_n 0, 1) := by decide +kernel
theorem dX9_look_155 : decode cX9_look 155 = .ok (.getfield 31, 3) := by decide +kernel
theorem dX9_look_158 : decode cX9_look 158 = .ok (.iload_n 1, 1) := by decide +kernel
theorem dX9_look_159 : decode cX9_look 159 = .ok (.daload, 1) := by decide +kernel
theorem dX9_look_160 : decode cX9_look 160 = .ok (.dcmp .l, 1) := by decide +kernel
theorem dX9_look_161 : decode cX9_look 161 = .ok (.ifCond .lt 12, 3) := by decide +kernel
theorem dX9_look_164 : decode cX9_look 164 = .ok (.aload_n 0, 1) := by decide +kernel
theorem dX9_look_165 : decode cX9_look 165 = .ok (.getfield 43, 3) := by decide +kernel
theorem dX9_look_168 : decode cX9_look 168 = .ok (.iload_n 1, 1) := by decide +kernel
theorem dX9_look_169 : decode cX9_look 169 = .ok (.iconst 0, 1) := by decide +kernel
theorem dX9_look_170 : decode cX9_look 170 = .ok (.iastore, 1) := by decide +kernel
theorem dX9_look_171 : decode cX9_look 171 = .ok (.iconst 1, 1) := by decide +kernel
theorem dX9_look_172 : decode cX9_look 172 = .ok (.ireturn, 1) := by decide +kernel
theorem dX9_look_173 : decode cX9_look 173 = .ok (.aload_n 0, 1) := by decide +kernel
theorem dX9_look_174 : decode cX9_look 174 = .ok (.getfield 43, 3) := by decide +kernel
theorem dX9_look_177 : decode cX9_look 177 = .ok (.iload_n 1, 1) := by decide +kernel
theorem dX9_look_178 : decode cX9_look 178 = .ok (.dup2, 1) := by decide +kernel
theorem dX9_look_179 : decode cX9_look 179 = .ok (.iaload, 1) := by decide +kernel
theorem dX9_look_180 : decode cX9_look 180 = .ok (.iconst 1, 1) := by decide +kernel
theorem dX9_look_181 : decode cX9_look 181 = .ok (.iadd, 1) := by decide +kernel
theorem dX9_look_182 : decode cX9_look 182 = .ok (.iastore, 1) := by decide +kernel
theorem dX9_look_183 : decode cX9_look 183 = .ok (.aload_n 0, 1) := by decide +kernel
theorem dX9_look_184 : decode cX9_look 184 = .ok (.getfield 34, 3) := by decide +kernel
theorem dX9_look_187 : decode cX9_look 187 = .ok (.iload_n 1, 1) := by decide +kernel
theorem dX9_look_188 : decode cX9_look 188 = .ok (.daload, 1) := by decide +kernel
theorem dX9_look_189 : decode cX9_look 189 = .ok (.aload_n 0, 1) := by decide +kernel
theorem dX9_look_190 : decode cX9_look 190 = .ok (.getfield 40, 3) := by decide +kernel
theorem dX9_look_193 : decode cX9_look 193 = .ok (.iload_n 1, 1) := by decide +kernel
theorem dX9_look_194 : decode cX9_look 194 = .ok (.daload, 1) := by decide +kernel
theorem dX9_look_195 : decode cX9_look 195 = .ok (.aload_n 0, 1) := by decide +kernel
theorem dX9_look_196 : decode cX9_look 196 = .ok (.getfield 27, 3) := by decide +kernel
theorem dX9_look_199 : decode cX9_look 199 = .ok (.iload_n 1, 1) := by decide +kernel
theorem dX9_look_200 : decode cX9_look 200 = .ok (.daload, 1) := by decide +kernel
theorem dX9_look_201 : decode cX9_look 201 = .ok (.dsub, 1) := by decide +kernel
theorem dX9_look_202 : decode cX9_look 202 = .ok (.dmul, 1) := by decide +kernel
theorem dX9_look_203 : decode cX9_look 203 = .ok (.aload_n 0, 1) := by decide +kernel
theorem dX9_look_204 : decode cX9_look 204 = .ok (.getfield 31, 3) := by decide +kernel
theorem dX9_look_207 : decode cX9_look 207 = .ok (.iload_n 1, 1) := by decide +kernel
theorem dX9_look_208 : decode cX9_look 208 = .ok (.daload, 1) := by decide +kernel
theorem dX9_look_209 : decode cX9_look 209 = .ok (.aload_n 0, 1) := by decide +kernel
theorem dX9_look_210 : decode cX9_look 210 = .ok (.getfield 27, 3) := by decide +kernel
theorem dX9_look_213 : decode cX9_look 213 = .ok (.iload_n 1, 1) := by decide +kernel
theorem dX9_look_214 : decode cX9_look 214 = .ok (.daload, 1) := by decide +kernel
theorem dX9_look_215 : decode cX9_look 215 = .ok (.dsub, 1) := by decide +kernel
theorem dX9_look_216 : decode cX9_look 216 = .ok (.ddiv, 1) := by decide +kernel
theorem dX9_look_217 : decode cX9_look 217 = .ok (.dstore_n 2, 1) := by decide +kernel
theorem dX9_look_218 : decode cX9_look 218 = .ok (.dconst 1, 1) := by decide +kernel
theorem dX9_look_219 : decode cX9_look 219 = .ok (.aload_n 0, 1) := by decide +kernel
theorem dX9_look_220 : decode cX9_look 220 = .ok (.getfield 43, 3) := by decide +kernel
theorem dX9_look_223 : decode cX9_look 223 = .ok (.iload_n 1, 1) := by decide +kernel
theorem dX9_look_224 : decode cX9_look 224 = .ok (.iaload, 1) := by decide +kernel
theorem dX9_look_225 : decode cX9_look 225 = .ok (.i2d, 1) := by decide +kernel
theorem dX9_look_226 : decode cX9_look 226 = .ok (.dload_n 2, 1) := by decide +kernel
theorem dX9_look_227 : decode cX9_look 227 = .ok (.dmul, 1) := by decide +kernel
theorem dX9_look_228 : decode cX9_look 228 = .ok (.dsub, 1) := by decide +kernel
theorem dX9_look_229 : decode cX9_look 229 = .ok (.dstore 4, 2) := by decide +kernel
theorem dX9_look_231 : decode cX9_look 231 = .ok (.dload 4, 2) := by decide +kernel
theorem dX9_look_233 : decode cX9_look 233 = .ok (.dconst 0, 1) := by decide +kernel
theorem dX9_look_234 : decode cX9_look 234 = .ok (.dcmp .l, 1) := by decide +kernel
theorem dX9_look_235 : decode cX9_look 235 = .ok (.ifCond .le 15, 3) := by decide +kernel
theorem dX9_look_238 : decode cX9_look 238 = .ok (.aload_n 0, 1) := by decide +kernel
theorem dX9_look_239 : decode cX9_look 239 = .ok (.invokevirtual 140, 3) := by decide +kernel
theorem dX9_look_242 : decode cX9_look 242 = .ok (.dload_n 2, 1) := by decide +kernel
theorem dX9_look_243 : decode cX9_look 243 = .ok (.dload 4, 2) := by decide +kernel
theorem dX9_look_245 : decode cX9_look 245 = .ok (.ddiv, 1) := by decide +kernel
theorem dX9_look_246 : decode cX9_look 246 = .ok (.dcmp .g, 1) := by decide +kernel
theorem dX9_look_247 : decode cX9_look 247 = .ok (.ifCond .ge 7, 3) := by decide +kernel
theorem dX9_look_250 : decode cX9_look 250 = .ok (.iconst 1, 1) := by decide +kernel
theorem dX9_look_251 : decode cX9_look 251 = .ok (.goto 4, 3) := by decide +kernel
theorem dX9_look_254 : decode cX9_look 254 = .ok (.iconst 0, 1) := by decide +kernel
theorem dX9_look_255 : decode cX9_look 255 = .ok (.istore 6, 2) := by decide +kernel
theorem dX9_look_257 : decode cX9_look 257 = .ok (.iload 6, 2) := by decide +kernel
theorem dX9_look_259 : decode cX9_look 259 = .ok (.ifCond .eq 10, 3) := by decide +kernel
theorem dX9_look_262 : decode cX9_look 262 = .ok (.aload_n 0, 1) := by decide +kernel
theorem dX9_look_263 : decode cX9_look 263 = .ok (.getfield 43, 3) := by decide +kernel
theorem dX9_look_266 : decode cX9_look 266 = .ok (.iload_n 1, 1) := by decide +kernel
theorem dX9_look_267 : decode cX9_look 267 = .ok (.iconst 0, 1) := by decide +kernel
theorem dX9_look_268 : decode cX9_look 268 = .ok (.iastore, 1) := by decide +kernel
theorem dX9_look_269 : decode cX9_look 269 = .ok (.iload 6, 2) := by decide +kernel
theorem dX9_look_271 : decode cX9_look 271 = .ok (.ifCond .eq 7, 3) := by decide +kernel
theorem dX9_look_274 : decode cX9_look 274 = .ok (.iconst 2, 1) := by decide +kernel
theorem dX9_look_275 : decode cX9_look 275 = .ok (.goto 4, 3) := by decide +kernel
theorem dX9_look_278 : decode cX9_look 278 = .ok (.iconst 0, 1) := by decide +kernel
theorem dX9_look_279 : decode cX9_look 279 = .ok (.ireturn, 1) := by decide +kernel
set_option maxRecDepth 20000 in
theorem ggX9_come_X9_isIn : GoodIn wsX9_come wsX9_isIn := goodIn_r _ [18] (by decide +kernel) (by decide +kernel)
set_option maxRecDepth 20000 in
theorem gX9_come_X9_isIn : GoodIn wsX9_come (va_wsS RX9 118 yX9_isIn wsX9_isIn) := goodIn_app (goodIn_of _ (by decide +kernel)) ggX9_come_X9_isIn
set_option maxRecDepth 20000 in
theorem ggX9_come_X9_refused : GoodIn wsX9_come wsX9_refused := goodIn_r _ [22, 23, 50, 51, 52, 53, 54, 55, 56, 57, 58, 59, 60, 61, 62, 63, 64, 65, 66, 67, 68, 69, 70, 71, 72, 73, 74, 75, 76, 77, 78, 79, 80, 81, 82, 83, 84, 85, 86, 87, 88, 89, 90, 91, 92] (by decide +kernel) (by decide +kernel)
set_option maxRecDepth 20000 in
theorem gX9_come_X9_refused : GoodIn wsX9_come (wsV RX9 122 RX9 yX9_refused wsX9_refused) := goodIn_app (goodIn_of _ (by decide +kernel)) ggX9_come_X9_refused
set_option maxRecDepth 20000 in
theorem ggX9_come_X9_bytesWaiting : GoodIn wsX9_come wsX9_bytesWaiting := goodIn_r _ [27, 5, 10, 50, 51, 52, 53, 54, 55, 56, 57, 58, 59, 60, 61, 62, 63, 64, 65, 66, 67, 68, 69, 70, 71, 72, 73, 74, 75, 76, 77, 78, 79, 80, 81, 82, 83, 84, 85, 86, 87, 88, 89, 90, 91, 92] (by decide +kernel) (by decide +kernel)
set_option maxRecDepth 20000 in
theorem gX9_come_X9_bytesWaiting : GoodIn wsX9_come (wsV RX9 147 RX9 yX9_bytesWaiting wsX9_bytesWaiting) := goodIn_app (goodIn_of _ (by decide +kernel)) ggX9_come_X9_bytesWaiting
set_option maxRecDepth 20000 in
theorem ggX9_come_X9_waiting : GoodIn wsX9_come wsX9_waiting := goodIn_r _ [31, 5, 50, 51, 52, 53, 54, 55, 56, 57, 58, 59, 60, 61, 62, 63, 64, 65, 66, 67, 68, 69, 70, 71, 72, 73, 74, 75, 76, 77, 78, 79, 80, 81, 82, 83, 84, 85, 86, 87, 88, 89, 90, 91, 92] (by decide +kernel) (by decide +kernel)
set_option maxRecDepth 20000 in
theorem gX9_come_X9_waiting : GoodIn wsX9_come (wsV RX9 151 RX9 yX9_waiting wsX9_waiting) := goodIn_app (goodIn_of _ (by decide +kernel)) ggX9_come_X9_waiting
set_option maxRecDepth 20000 in
theorem ggX9_come_X9_look : GoodIn wsX9_come wsX9_look := goodIn_r _ [35, 5, 12, 36, 37, 38, 39, 40, 41, 42, 43, 44, 45, 17, 46, 47, 48, 49, 50, 51, 52, 53, 54, 55, 56, 57, 58, 59, 60, 61, 62, 63, 64, 65, 66, 67, 68, 69, 70, 71, 72, 73, 74, 75, 76, 77, 78, 79, 80, 81, 82, 83, 84, 85, 86, 87, 88, 89, 90, 91, 92] (by decide +kernel) (by decide +kernel)
set_option maxRecDepth 20000 in
theorem gX9_come_X9_look : GoodIn wsX9_come (wsV RX9 155 RX9 yX9_look wsX9_look) := goodIn_app (goodIn_of _ (by decide +kernel)) ggX9_come_X9_look
theorem dX9_come_0 : decode cX9_come 0 = .ok (.aload_n 0, 1) := by decide +kernel
theorem dX9_come_1 : decode cX9_come 1 = .ok (.iload_n 1, 1) := by decide +kernel
theorem dX9_come_2 : decode cX9_come 2 = .ok (.iconst 0, 1) := by decide +kernel
theorem dX9_come_3 : decode cX9_come 3 = .ok (.iconst 5, 1) := by decide +kernel
theorem dX9_come_4 : decode cX9_come 4 = .ok (.invokestatic 118, 3) := by decide +kernel
theorem dX9_come_7 : decode cX9_come 7 = .ok (.ifCond .eq 18, 3) := by decide +kernel
theorem dX9_come_10 : decode cX9_come 10 = .ok (.iload_n 2, 1) := by decide +kernel
theorem dX9_come_11 : decode cX9_come 11 = .ok (.iconst 1, 1) := by decide +kernel
theorem dX9_come_12 : decode cX9_come 12 = .ok (.sipush 1500, 3) := by decide +kernel
theorem dX9_come_15 : decode cX9_come 15 = .ok (.invokestatic 118, 3) := by decide +kernel
theorem dX9_come_18 : decode cX9_come 18 = .ok (.ifCond .eq 7, 3) := by decide +kernel
theorem dX9_come_21 : decode cX9_come 21 = .ok (.iconst 0, 1) := by decide +kernel
theorem dX9_come_22 : decode cX9_come 22 = .ok (.goto 4, 3) := by decide +kernel
theorem dX9_come_25 : decode cX9_come 25 = .ok (.iconst 1, 1) := by decide +kernel
theorem dX9_come_26 : decode cX9_come 26 = .ok (.invokevirtual 122, 3) := by decide +kernel
theorem dX9_come_29 : decode cX9_come 29 = .ok (.ifCond .eq 5, 3) := by decide +kernel
theorem dX9_come_32 : decode cX9_come 32 = .ok (.iconst 0, 1) := by decide +kernel
theorem dX9_come_33 : decode cX9_come 33 = .ok (.ireturn, 1) := by decide +kernel
theorem dX9_come_34 : decode cX9_come 34 = .ok (.aload_n 0, 1) := by decide +kernel
theorem dX9_come_35 : decode cX9_come 35 = .ok (.getfield 144, 3) := by decide +kernel
theorem dX9_come_38 : decode cX9_come 38 = .ok (.istore 4, 2) := by decide +kernel
theorem dX9_come_40 : decode cX9_come 40 = .ok (.aload_n 0, 1) := by decide +kernel
theorem dX9_come_41 : decode cX9_come 41 = .ok (.dup, 1) := by decide +kernel
theorem dX9_come_42 : decode cX9_come 42 = .ok (.getfield 144, 3) := by decide +kernel
theorem dX9_come_45 : decode cX9_come 45 = .ok (.iconst 1, 1) := by decide +kernel
theorem dX9_come_46 : decode cX9_come 46 = .ok (.iadd, 1) := by decide +kernel
theorem dX9_come_47 : decode cX9_come 47 = .ok (.putfield 144, 3) := by decide +kernel
theorem dX9_come_50 : decode cX9_come 50 = .ok (.aload_n 0, 1) := by decide +kernel
theorem dX9_come_51 : decode cX9_come 51 = .ok (.getfield 92, 3) := by decide +kernel
theorem dX9_come_54 : decode cX9_come 54 = .ok (.bipush 10, 2) := by decide +kernel
theorem dX9_come_56 : decode cX9_come 56 = .ok (.iload_n 1, 1) := by decide +kernel
theorem dX9_come_57 : decode cX9_come 57 = .ok (.imul, 1) := by decide +kernel
theorem dX9_come_58 : decode cX9_come 58 = .ok (.iconst 0, 1) := by decide +kernel
theorem dX9_come_59 : decode cX9_come 59 = .ok (.iadd, 1) := by decide +kernel
theorem dX9_come_60 : decode cX9_come 60 = .ok (.dup2, 1) := by decide +kernel
theorem dX9_come_61 : decode cX9_come 61 = .ok (.iaload, 1) := by decide +kernel
theorem dX9_come_62 : decode cX9_come 62 = .ok (.iconst 1, 1) := by decide +kernel
theorem dX9_come_63 : decode cX9_come 63 = .ok (.iadd, 1) := by decide +kernel
theorem dX9_come_64 : decode cX9_come 64 = .ok (.iastore, 1) := by decide +kernel
theorem dX9_come_65 : decode cX9_come 65 = .ok (.iload_n 2, 1) := by decide +kernel
theorem dX9_come_66 : decode cX9_come 66 = .ok (.istore 5, 2) := by decide +kernel
theorem dX9_come_68 : decode cX9_come 68 = .ok (.iconst 0, 1) := by decide +kernel
theorem dX9_come_69 : decode cX9_come 69 = .ok (.istore 6, 2) := by decide +kernel
theorem dX9_come_71 : decode cX9_come 71 = .ok (.iload 6, 2) := by decide +kernel
theorem dX9_come_73 : decode cX9_come 73 = .ok (.bipush 6, 2) := by decide +kernel
theorem dX9_come_75 : decode cX9_come 75 = .ok (.if_icmp .ge 20, 3) := by decide +kernel
theorem dX9_come_78 : decode cX9_come 78 = .ok (.iload 5, 2) := by decide +kernel
theorem dX9_come_80 : decode cX9_come 80 = .ok (.aload_n 0, 1) := by decide +kernel
theorem dX9_come_81 : decode cX9_come 81 = .ok (.iload 6, 2) := by decide +kernel
theorem dX9_come_83 : decode cX9_come 83 = .ok (.invokevirtual 147, 3) := by decide +kernel
theorem dX9_come_86 : decode cX9_come 86 = .ok (.iadd, 1) := by decide +kernel
theorem dX9_come_87 : decode cX9_come 87 = .ok (.istore 5, 2) := by decide +kernel
theorem dX9_come_89 : decode cX9_come 89 = .ok (.iinc 6 1, 3) := by decide +kernel
theorem dX9_come_92 : decode cX9_come 92 = .ok (.goto (-21), 3) := by decide +kernel
theorem dX9_come_95 : decode cX9_come 95 = .ok (.aload_n 0, 1) := by decide +kernel
theorem dX9_come_96 : decode cX9_come 96 = .ok (.invokevirtual 151, 3) := by decide +kernel
theorem dX9_come_99 : decode cX9_come 99 = .ok (.bipush 100, 2) := by decide +kernel
theorem dX9_come_101 : decode cX9_come 101 = .ok (.if_icmp .eq 12, 3) := by decide +kernel
theorem dX9_come_104 : decode cX9_come 104 = .ok (.iload 5, 2) := by decide +kernel
theorem dX9_come_106 : decode cX9_come 106 = .ok (.aload_n 0, 1) := by decide +kernel
theorem dX9_come_107 : decode cX9_come 107 = .ok (.getfield 16, 3) := by decide +kernel
theorem dX9_come_110 : decode cX9_come 110 = .ok (.if_icmp .le 20, 3) := by decide +kernel
theorem dX9_come_113 : decode cX9_come 113 = .ok (.aload_n 0, 1) := by decide +kernel
theorem dX9_come_114 : decode cX9_come 114 = .ok (.getfield 92, 3) := by decide +kernel
theorem dX9_come_117 : decode cX9_come 117 = .ok (.bipush 10, 2) := by decide +kernel
theorem dX9_come_119 : decode cX9_come 119 = .ok (.iload_n 1, 1) := by decide +kernel
theorem dX9_come_120 : decode cX9_come 120 = .ok (.imul, 1) := by decide +kernel
theorem dX9_come_121 : decode cX9_come 121 = .ok (.iconst 2, 1) := by decide +kernel
theorem dX9_come_122 : decode cX9_come 122 = .ok (.iadd, 1) := by decide +kernel
theorem dX9_come_123 : decode cX9_come 123 = .ok (.dup2, 1) := by decide +kernel
theorem dX9_come_124 : decode cX9_come 124 = .ok (.iaload, 1) := by decide +kernel
theorem dX9_come_125 : decode cX9_come 125 = .ok (.iconst 1, 1) := by decide +kernel
theorem dX9_come_126 : decode cX9_come 126 = .ok (.iadd, 1) := by decide +kernel
theorem dX9_come_127 : decode cX9_come 127 = .ok (.iastore, 1) := by decide +kernel
theorem dX9_come_128 : decode cX9_come 128 = .ok (.iconst (-1), 1) := by decide +kernel
theorem dX9_come_129 : decode cX9_come 129 = .ok (.ireturn, 1) := by decide +kernel
theorem dX9_come_130 : decode cX9_come 130 = .ok (.aload_n 0, 1) := by decide +kernel
theorem dX9_come_131 : decode cX9_come 131 = .ok (.getfield 20, 3) := by decide +kernel
theorem dX9_come_134 : decode cX9_come 134 = .ok (.iload_n 1, 1) := by decide +kernel
theorem dX9_come_135 : decode cX9_come 135 = .ok (.iaload, 1) := by decide +kernel
theorem dX9_come_136 : decode cX9_come 136 = .ok (.iconst 1, 1) := by decide +kernel
theorem dX9_come_137 : decode cX9_come 137 = .ok (.if_icmp .ne 11, 3) := by decide +kernel
theorem dX9_come_140 : decode cX9_come 140 = .ok (.aload_n 0, 1) := by decide +kernel
theorem dX9_come_141 : decode cX9_come 141 = .ok (.iload_n 1, 1) := by decide +kernel
theorem dX9_come_142 : decode cX9_come 142 = .ok (.invokevirtual 155, 3) := by decide +kernel
theorem dX9_come_145 : decode cX9_come 145 = .ok (.goto 4, 3) := by decide +kernel
theorem dX9_come_148 : decode cX9_come 148 = .ok (.iconst 0, 1) := by decide +kernel
theorem dX9_come_149 : decode cX9_come 149 = .ok (.istore 6, 2) := by decide +kernel
theorem dX9_come_151 : decode cX9_come 151 = .ok (.iload 6, 2) := by decide +kernel
theorem dX9_come_153 : decode cX9_come 153 = .ok (.iconst 1, 1) := by decide +kernel
theorem dX9_come_154 : decode cX9_come 154 = .ok (.if_icmp .eq 13, 3) := by decide +kernel
theorem dX9_come_157 : decode cX9_come 157 = .ok (.iload 6, 2) := by decide +kernel
theorem dX9_come_159 : decode cX9_come 159 = .ok (.iconst 2, 1) := by decide +kernel
theorem dX9_come_160 : decode cX9_come 160 = .ok (.if_icmp .ne 24, 3) := by decide +kernel
theorem dX9_come_163 : decode cX9_come 163 = .ok (.iload_n 3, 1) := by decide +kernel
theorem dX9_come_164 : decode cX9_come 164 = .ok (.ifCond .ne 20, 3) := by decide +kernel
theorem dX9_come_167 : decode cX9_come 167 = .ok (.aload_n 0, 1) := by decide +kernel
theorem dX9_come_168 : decode cX9_come 168 = .ok (.getfield 92, 3) := by decide +kernel
theorem dX9_come_171 : decode cX9_come 171 = .ok (.bipush 10, 2) := by decide +kernel
theorem dX9_come_173 : decode cX9_come 173 = .ok (.iload_n 1, 1) := by decide +kernel
theorem dX9_come_174 : decode cX9_come 174 = .ok (.imul, 1) := by decide +kernel
theorem dX9_come_175 : decode cX9_come 175 = .ok (.iconst 3, 1) := by decide +kernel
theorem dX9_come_176 : decode cX9_come 176 = .ok (.iadd, 1) := by decide +kernel
theorem dX9_come_177 : decode cX9_come 177 = .ok (.dup2, 1) := by decide +kernel
theorem dX9_come_178 : decode cX9_come 178 = .ok (.iaload, 1) := by decide +kernel
theorem dX9_come_179 : decode cX9_come 179 = .ok (.iconst 1, 1) := by decide +kernel
theorem dX9_come_180 : decode cX9_come 180 = .ok (.iadd, 1) := by decide +kernel
theorem dX9_come_181 : decode cX9_come 181 = .ok (.iastore, 1) := by decide +kernel
theorem dX9_come_182 : decode cX9_come 182 = .ok (.iconst (-1), 1) := by decide +kernel
theorem dX9_come_183 : decode cX9_come 183 = .ok (.ireturn, 1) := by decide +kernel
theorem dX9_come_184 : decode cX9_come 184 = .ok (.iload 6, 2) := by decide +kernel
theorem dX9_come_186 : decode cX9_come 186 = .ok (.iconst 2, 1) := by decide +kernel
theorem dX9_come_187 : decode cX9_come 187 = .ok (.if_icmp .ne 18, 3) := by decide +kernel
theorem dX9_come_190 : decode cX9_come 190 = .ok (.aload_n 0, 1) := by decide +kernel
theorem dX9_come_191 : decode cX9_come 191 = .ok (.getfield 92, 3) := by decide +kernel
theorem dX9_come_194 : decode cX9_come 194 = .ok (.bipush 10, 2) := by decide +kernel
theorem dX9_come_196 : decode cX9_come 196 = .ok (.iload_n 1, 1) := by decide +kernel
theorem dX9_come_197 : decode cX9_come 197 = .ok (.imul, 1) := by decide +kernel
theorem dX9_come_198 : decode cX9_come 198 = .ok (.iconst 5, 1) := by decide +kernel
theorem dX9_come_199 : decode cX9_come 199 = .ok (.iadd, 1) := by decide +kernel
theorem dX9_come_200 : decode cX9_come 200 = .ok (.dup2, 1) := by decide +kernel
theorem dX9_come_201 : decode cX9_come 201 = .ok (.iaload, 1) := by decide +kernel
theorem dX9_come_202 : decode cX9_come 202 = .ok (.iconst 1, 1) := by decide +kernel
theorem dX9_come_203 : decode cX9_come 203 = .ok (.iadd, 1) := by decide +kernel
theorem dX9_come_204 : decode cX9_come 204 = .ok (.iastore, 1) := by decide +kernel
theorem dX9_come_205 : decode cX9_come 205 = .ok (.aload_n 0, 1) := by decide +kernel
theorem dX9_come_206 : decode cX9_come 206 = .ok (.getfield 74, 3) := by decide +kernel
theorem dX9_come_209 : decode cX9_come 209 = .ok (.iload_n 1, 1) := by decide +kernel
theorem dX9_come_210 : decode cX9_come 210 = .ok (.iaload, 1) := by decide +kernel
theorem dX9_come_211 : decode cX9_come 211 = .ok (.ifCond .ne 30, 3) := by decide +kernel
theorem dX9_come_214 : decode cX9_come 214 = .ok (.aload_n 0, 1) := by decide +kernel
theorem dX9_come_215 : decode cX9_come 215 = .ok (.getfield 95, 3) := by decide +kernel
theorem dX9_come_218 : decode cX9_come 218 = .ok (.aload_n 0, 1) := by decide +kernel
theorem dX9_come_219 : decode cX9_come 219 = .ok (.getfield 158, 3) := by decide +kernel
theorem dX9_come_222 : decode cX9_come 222 = .ok (.iload_n 1, 1) := by decide +kernel
theorem dX9_come_223 : decode cX9_come 223 = .ok (.iastore, 1) := by decide +kernel
theorem dX9_come_224 : decode cX9_come 224 = .ok (.aload_n 0, 1) := by decide +kernel
theorem dX9_come_225 : decode cX9_come 225 = .ok (.dup, 1) := by decide +kernel
theorem dX9_come_226 : decode cX9_come 226 = .ok (.getfield 158, 3) := by decide +kernel
theorem dX9_come_229 : decode cX9_come 229 = .ok (.iconst 1, 1) := by decide +kernel
theorem dX9_come_230 : decode cX9_come 230 = .ok (.iadd, 1) := by decide +kernel
theorem dX9_come_231 : decode cX9_come 231 = .ok (.putfield 158, 3) := by decide +kernel
theorem dX9_come_234 : decode cX9_come 234 = .ok (.aload_n 0, 1) := by decide +kernel
theorem dX9_come_235 : decode cX9_come 235 = .ok (.getfield 98, 3) := by decide +kernel
theorem dX9_come_238 : decode cX9_come 238 = .ok (.iload_n 1, 1) := by decide +kernel
theorem dX9_come_239 : decode cX9_come 239 = .ok (.iconst 0, 1) := by decide +kernel
theorem dX9_come_240 : decode cX9_come 240 = .ok (.iastore, 1) := by decide +kernel
theorem dX9_come_241 : decode cX9_come 241 = .ok (.bipush 100, 2) := by decide +kernel
theorem dX9_come_243 : decode cX9_come 243 = .ok (.iload_n 1, 1) := by decide +kernel
theorem dX9_come_244 : decode cX9_come 244 = .ok (.imul, 1) := by decide +kernel
theorem dX9_come_245 : decode cX9_come 245 = .ok (.aload_n 0, 1) := by decide +kernel
theorem dX9_come_246 : decode cX9_come 246 = .ok (.getfield 74, 3) := by decide +kernel
theorem dX9_come_249 : decode cX9_come 249 = .ok (.iload_n 1, 1) := by decide +kernel
theorem dX9_come_250 : decode cX9_come 250 = .ok (.iaload, 1) := by decide +kernel
theorem dX9_come_251 : decode cX9_come 251 = .ok (.iadd, 1) := by decide +kernel
theorem dX9_come_252 : decode cX9_come 252 = .ok (.istore 7, 2) := by decide +kernel
theorem dX9_come_254 : decode cX9_come 254 = .ok (.aload_n 0, 1) := by decide +kernel
theorem dX9_come_255 : decode cX9_come 255 = .ok (.getfield 74, 3) := by decide +kernel
theorem dX9_come_258 : decode cX9_come 258 = .ok (.iload_n 1, 1) := by decide +kernel
theorem dX9_come_259 : decode cX9_come 259 = .ok (.dup2, 1) := by decide +kernel
theorem dX9_come_260 : decode cX9_come 260 = .ok (.iaload, 1) := by decide +kernel
theorem dX9_come_261 : decode cX9_come 261 = .ok (.iconst 1, 1) := by decide +kernel
theorem dX9_come_262 : decode cX9_come 262 = .ok (.iadd, 1) := by decide +kernel
theorem dX9_come_263 : decode cX9_come 263 = .ok (.iastore, 1) := by decide +kernel
theorem dX9_come_264 : decode cX9_come 264 = .ok (.aload_n 0, 1) := by decide +kernel
theorem dX9_come_265 : decode cX9_come 265 = .ok (.getfield 77, 3) := by decide +kernel
theorem dX9_come_268 : decode cX9_come 268 = .ok (.iload 7, 2) := by decide +kernel
theorem dX9_come_270 : decode cX9_come 270 = .ok (.iload 4, 2) := by decide +kernel
theorem dX9_come_272 : decode cX9_come 272 = .ok (.iastore, 1) := by decide +kernel
theorem dX9_come_273 : decode cX9_come 273 = .ok (.aload_n 0, 1) := by decide +kernel
theorem dX9_come_274 : decode cX9_come 274 = .ok (.getfield 80, 3) := by decide +kernel
theorem dX9_come_277 : decode cX9_come 277 = .ok (.iload 7, 2) := by decide +kernel
theorem dX9_come_279 : decode cX9_come 279 = .ok (.iload_n 2, 1) := by decide +kernel
theorem dX9_come_280 : decode cX9_come 280 = .ok (.iastore, 1) := by decide +kernel
theorem dX9_come_281 : decode cX9_come 281 = .ok (.aload_n 0, 1) := by decide +kernel
theorem dX9_come_282 : decode cX9_come 282 = .ok (.getfield 83, 3) := by decide +kernel
theorem dX9_come_285 : decode cX9_come 285 = .ok (.iload 7, 2) := by decide +kernel
theorem dX9_come_287 : decode cX9_come 287 = .ok (.aload_n 0, 1) := by decide +kernel
theorem dX9_come_288 : decode cX9_come 288 = .ok (.getfield 126, 3) := by decide +kernel
theorem dX9_come_291 : decode cX9_come 291 = .ok (.iastore, 1) := by decide +kernel
theorem dX9_come_292 : decode cX9_come 292 = .ok (.aload_n 0, 1) := by decide +kernel
theorem dX9_come_293 : decode cX9_come 293 = .ok (.getfield 86, 3) := by decide +kernel
theorem dX9_come_296 : decode cX9_come 296 = .ok (.iload 7, 2) := by decide +kernel
theorem dX9_come_298 : decode cX9_come 298 = .ok (.iload_n 3, 1) := by decide +kernel
theorem dX9_come_299 : decode cX9_come 299 = .ok (.bastore, 1) := by decide +kernel
theorem dX9_come_300 : decode cX9_come 300 = .ok (.aload_n 0, 1) := by decide +kernel
theorem dX9_come_301 : decode cX9_come 301 = .ok (.getfield 89, 3) := by decide +kernel
theorem dX9_come_304 : decode cX9_come 304 = .ok (.iload 7, 2) := by decide +kernel
theorem dX9_come_306 : decode cX9_come 306 = .ok (.iload 6, 2) := by decide +kernel
theorem dX9_come_308 : decode cX9_come 308 = .ok (.iconst 2, 1) := by decide +kernel
theorem dX9_come_309 : decode cX9_come 309 = .ok (.if_icmp .ne 7, 3) := by decide +kernel
theorem dX9_come_312 : decode cX9_come 312 = .ok (.iconst 1, 1) := by decide +kernel
theorem dX9_come_313 : decode cX9_come 313 = .ok (.goto 4, 3) := by decide +kernel
theorem dX9_come_316 : decode cX9_come 316 = .ok (.iconst 0, 1) := by decide +kernel
theorem dX9_come_317 : decode cX9_come 317 = .ok (.bastore, 1) := by decide +kernel
theorem dX9_come_318 : decode cX9_come 318 = .ok (.iload 4, 2) := by decide +kernel
theorem dX9_come_320 : decode cX9_come 320 = .ok (.ireturn, 1) := by decide +kernel
theorem dX9_takeOut_0 : decode cX9_takeOut 0 = .ok (.bipush 100, 2) := by decide +kernel
theorem dX9_takeOut_2 : decode cX9_takeOut 2 = .ok (.iload_n 1, 1) := by decide +kernel
theorem dX9_takeOut_3 : decode cX9_takeOut 3 = .ok (.imul, 1) := by decide +kernel
theorem dX9_takeOut_4 : decode cX9_takeOut 4 = .ok (.istore_n 2, 1) := by decide +kernel
theorem dX9_takeOut_5 : decode cX9_takeOut 5 = .ok (.aload_n 0, 1) := by decide +kernel
theorem dX9_takeOut_6 : decode cX9_takeOut 6 = .ok (.aload_n 0, 1) := by decide +kernel
theorem dX9_takeOut_7 : decode cX9_takeOut 7 = .ok (.getfield 77, 3) := by decide +kernel
theorem dX9_takeOut_10 : decode cX9_takeOut 10 = .ok (.iload_n 2, 1) := by decide +kernel
theorem dX9_takeOut_11 : decode cX9_takeOut 11 = .ok (.iaload, 1) := by decide +kernel
theorem dX9_takeOut_12 : decode cX9_takeOut 12 = .ok (.putfield 161, 3) := by decide +kernel
theorem dX9_takeOut_15 : decode cX9_takeOut 15 = .ok (.aload_n 0, 1) := by decide +kernel
theorem dX9_takeOut_16 : decode cX9_takeOut 16 = .ok (.aload_n 0, 1) := by decide +kernel
theorem dX9_takeOut_17 : decode cX9_takeOut 17 = .ok (.getfield 80, 3) := by decide +kernel
theorem dX9_takeOut_20 : decode cX9_takeOut 20 = .ok (.iload_n 2, 1) := by decide +kernel
theorem dX9_takeOut_21 : decode cX9_takeOut 21 = .ok (.iaload, 1) := by decide +kernel
theorem dX9_takeOut_22 : decode cX9_takeOut 22 = .ok (.putfield 164, 3) := by decide +kernel
theorem dX9_takeOut_25 : decode cX9_takeOut 25 = .ok (.aload_n 0, 1) := by decide +kernel
theorem dX9_takeOut_26 : decode cX9_takeOut 26 = .ok (.aload_n 0, 1) := by decide +kernel
theorem dX9_takeOut_27 : decode cX9_takeOut 27 = .ok (.getfield 83, 3) := by decide +kernel
theorem dX9_takeOut_30 : decode cX9_takeOut 30 = .ok (.iload_n 2, 1) := by decide +kernel
theorem dX9_takeOut_31 : decode cX9_takeOut 31 = .ok (.iaload, 1) := by decide +kernel
theorem dX9_takeOut_32 : decode cX9_takeOut 32 = .ok (.putfield 167, 3) := by decide +kernel
theorem dX9_takeOut_35 : decode cX9_takeOut 35 = .ok (.aload_n 0, 1) := by decide +kernel
theorem dX9_takeOut_36 : decode cX9_takeOut 36 = .ok (.aload_n 0, 1) := by decide +kernel
theorem dX9_takeOut_37 : decode cX9_takeOut 37 = .ok (.getfield 86, 3) := by decide +kernel
theorem dX9_takeOut_40 : decode cX9_takeOut 40 = .ok (.iload_n 2, 1) := by decide +kernel
theorem dX9_takeOut_41 : decode cX9_takeOut 41 = .ok (.baload, 1) := by decide +kernel
theorem dX9_takeOut_42 : decode cX9_takeOut 42 = .ok (.putfield 170, 3) := by decide +kernel
theorem dX9_takeOut_45 : decode cX9_takeOut 45 = .ok (.aload_n 0, 1) := by decide +kernel
theorem dX9_takeOut_46 : decode cX9_takeOut 46 = .ok (.aload_n 0, 1) := by decide +kernel
theorem dX9_takeOut_47 : decode cX9_takeOut 47 = .ok (.getfield 89, 3) := by decide +kernel
theorem dX9_takeOut_50 : decode cX9_takeOut 50 = .ok (.iload_n 2, 1) := by decide +kernel
theorem dX9_takeOut_51 : decode cX9_takeOut 51 = .ok (.baload, 1) := by decide +kernel
theorem dX9_takeOut_52 : decode cX9_takeOut 52 = .ok (.putfield 174, 3) := by decide +kernel
theorem dX9_takeOut_55 : decode cX9_takeOut 55 = .ok (.aload_n 0, 1) := by decide +kernel
theorem dX9_takeOut_56 : decode cX9_takeOut 56 = .ok (.getfield 74, 3) := by decide +kernel
theorem dX9_takeOut_59 : decode cX9_takeOut 59 = .ok (.iload_n 1, 1) := by decide +kernel
theorem dX9_takeOut_60 : decode cX9_takeOut 60 = .ok (.dup2, 1) := by decide +kernel
theorem dX9_takeOut_61 : decode cX9_takeOut 61 = .ok (.iaload, 1) := by decide +kernel
theorem dX9_takeOut_62 : decode cX9_takeOut 62 = .ok (.iconst 1, 1) := by decide +kernel
theorem dX9_takeOut_63 : decode cX9_takeOut 63 = .ok (.isub, 1) := by decide +kernel
theorem dX9_takeOut_64 : decode cX9_takeOut 64 = .ok (.iastore, 1) := by decide +kernel
theorem dX9_takeOut_65 : decode cX9_takeOut 65 = .ok (.iload_n 2, 1) := by decide +kernel
theorem dX9_takeOut_66 : decode cX9_takeOut 66 = .ok (.istore_n 3, 1) := by decide +kernel
theorem dX9_takeOut_67 : decode cX9_takeOut 67 = .ok (.iload_n 3, 1) := by decide +kernel
theorem dX9_takeOut_68 : decode cX9_takeOut 68 = .ok (.iload_n 2, 1) := by decide +kernel
theorem dX9_takeOut_69 : decode cX9_takeOut 69 = .ok (.aload_n 0, 1) := by decide +kernel
theorem dX9_takeOut_70 : decode cX9_takeOut 70 = .ok (.getfield 74, 3) := by decide +kernel
theorem dX9_takeOut_73 : decode cX9_takeOut 73 = .ok (.iload_n 1, 1) := by decide +kernel
theorem dX9_takeOut_74 : decode cX9_takeOut 74 = .ok (.iaload, 1) := by decide +kernel
theorem dX9_takeOut_75 : decode cX9_takeOut 75 = .ok (.iadd, 1) := by decide +kernel
theorem dX9_takeOut_76 : decode cX9_takeOut 76 = .ok (.if_icmp .ge 79, 3) := by decide +kernel
theorem dX9_takeOut_79 : decode cX9_takeOut 79 = .ok (.aload_n 0, 1) := by decide +kernel
theorem dX9_takeOut_80 : decode cX9_takeOut 80 = .ok (.getfield 77, 3) := by decide +kernel
theorem dX9_takeOut_83 : decode cX9_takeOut 83 = .ok (.iload_n 3, 1) := by decide +kernel
theorem dX9_takeOut_84 : decode cX9_takeOut 84 = .ok (.aload_n 0, 1) := by decide +kernel
theorem dX9_takeOut_85 : decode cX9_takeOut 85 = .ok (.getfield 77, 3) := by decide +kernel
theorem dX9_takeOut_88 : decode cX9_takeOut 88 = .ok (.iload_n 3, 1) := by decide +kernel
theorem dX9_takeOut_89 : decode cX9_takeOut 89 = .ok (.iconst 1, 1) := by decide +kernel
theorem dX9_takeOut_90 : decode cX9_takeOut 90 = .ok (.iadd, 1) := by decide +kernel
theorem dX9_takeOut_91 : decode cX9_takeOut 91 = .ok (.iaload, 1) := by decide +kernel
theorem dX9_takeOut_92 : decode cX9_takeOut 92 = .ok (.iastore, 1) := by decide +kernel
theorem dX9_takeOut_93 : decode cX9_takeOut 93 = .ok (.aload_n 0, 1) := by decide +kernel
theorem dX9_takeOut_94 : decode cX9_takeOut 94 = .ok (.getfield 80, 3) := by decide +kernel
theorem dX9_takeOut_97 : decode cX9_takeOut 97 = .ok (.iload_n 3, 1) := by decide +kernel
theorem dX9_takeOut_98 : decode cX9_takeOut 98 = .ok (.aload_n 0, 1) := by decide +kernel
theorem dX9_takeOut_99 : decode cX9_takeOut 99 = .ok (.getfield 80, 3) := by decide +kernel
theorem dX9_takeOut_102 : decode cX9_takeOut 102 = .ok (.iload_n 3, 1) := by decide +kernel
theorem dX9_takeOut_103 : decode cX9_takeOut 103 = .ok (.iconst 1, 1) := by decide +kernel
theorem dX9_takeOut_104 : decode cX9_takeOut 104 = .ok (.iadd, 1) := by decide +kernel
theorem dX9_takeOut_105 : decode cX9_takeOut 105 = .ok (.iaload, 1) := by decide +kernel
theorem dX9_takeOut_106 : decode cX9_takeOut 106 = .ok (.iastore, 1) := by decide +kernel
theorem dX9_takeOut_107 : decode cX9_takeOut 107 = .ok (.aload_n 0, 1) := by decide +kernel
theorem dX9_takeOut_108 : decode cX9_takeOut 108 = .ok (.getfield 83, 3) := by decide +kernel
theorem dX9_takeOut_111 : decode cX9_takeOut 111 = .ok (.iload_n 3, 1) := by decide +kernel
theorem dX9_takeOut_112 : decode cX9_takeOut 112 = .ok (.aload_n 0, 1) := by decide +kernel
theorem dX9_takeOut_113 : decode cX9_takeOut 113 = .ok (.getfield 83, 3) := by decide +kernel
theorem dX9_takeOut_116 : decode cX9_takeOut 116 = .ok (.iload_n 3, 1) := by decide +kernel
theorem dX9_takeOut_117 : decode cX9_takeOut 117 = .ok (.iconst 1, 1) := by decide +kernel
theorem dX9_takeOut_118 : decode cX9_takeOut 118 = .ok (.iadd, 1) := by decide +kernel
theorem dX9_takeOut_119 : decode cX9_takeOut 119 = .ok (.iaload, 1) := by decide +kernel
theorem dX9_takeOut_120 : decode cX9_takeOut 120 = .ok (.iastore, 1) := by decide +kernel
theorem dX9_takeOut_121 : decode cX9_takeOut 121 = .ok (.aload_n 0, 1) := by decide +kernel
theorem dX9_takeOut_122 : decode cX9_takeOut 122 = .ok (.getfield 86, 3) := by decide +kernel
theorem dX9_takeOut_125 : decode cX9_takeOut 125 = .ok (.iload_n 3, 1) := by decide +kernel
theorem dX9_takeOut_126 : decode cX9_takeOut 126 = .ok (.aload_n 0, 1) := by decide +kernel
theorem dX9_takeOut_127 : decode cX9_takeOut 127 = .ok (.getfield 86, 3) := by decide +kernel
theorem dX9_takeOut_130 : decode cX9_takeOut 130 = .ok (.iload_n 3, 1) := by decide +kernel
theorem dX9_takeOut_131 : decode cX9_takeOut 131 = .ok (.iconst 1, 1) := by decide +kernel
theorem dX9_takeOut_132 : decode cX9_takeOut 132 = .ok (.iadd, 1) := by decide +kernel
theorem dX9_takeOut_133 : decode cX9_takeOut 133 = .ok (.baload, 1) := by decide +kernel
theorem dX9_takeOut_134 : decode cX9_takeOut 134 = .ok (.bastore, 1) := by decide +kernel
theorem dX9_takeOut_135 : decode cX9_takeOut 135 = .ok (.aload_n 0, 1) := by decide +kernel
theorem dX9_takeOut_136 : decode cX9_takeOut 136 = .ok (.getfield 89, 3) := by decide +kernel
theorem dX9_takeOut_139 : decode cX9_takeOut 139 = .ok (.iload_n 3, 1) := by decide +kernel
theorem dX9_takeOut_140 : decode cX9_takeOut 140 = .ok (.aload_n 0, 1) := by decide +kernel
theorem dX9_takeOut_141 : decode cX9_takeOut 141 = .ok (.getfield 89, 3) := by decide +kernel
theorem dX9_takeOut_144 : decode cX9_takeOut 144 = .ok (.iload_n 3, 1) := by decide +kernel
theorem dX9_takeOut_145 : decode cX9_takeOut 145 = .ok (.iconst 1, 1) := by decide +kernel
theorem dX9_takeOut_146 : decode cX9_takeOut 146 = .ok (.iadd, 1) := by decide +kernel
theorem dX9_takeOut_147 : decode cX9_takeOut 147 = .ok (.baload, 1) := by decide +kernel
theorem dX9_takeOut_148 : decode cX9_takeOut 148 = .ok (.bastore, 1) := by decide +kernel
theorem dX9_takeOut_149 : decode cX9_takeOut 149 = .ok (.iinc 3 1, 3) := by decide +kernel
theorem dX9_takeOut_152 : decode cX9_takeOut 152 = .ok (.goto (-85), 3) := by decide +kernel
theorem dX9_takeOut_155 : decode cX9_takeOut 155 = .ok (.aload_n 0, 1) := by decide +kernel
theorem dX9_takeOut_156 : decode cX9_takeOut 156 = .ok (.getfield 74, 3) := by decide +kernel
theorem dX9_takeOut_159 : decode cX9_takeOut 159 = .ok (.iload_n 1, 1) := by decide +kernel
theorem dX9_takeOut_160 : decode cX9_takeOut 160 = .ok (.iaload, 1) := by decide +kernel
theorem dX9_takeOut_161 : decode cX9_takeOut 161 = .ok (.ifCond .ne 13, 3) := by decide +kernel
theorem dX9_takeOut_164 : decode cX9_takeOut 164 = .ok (.aload_n 0, 1) := by decide +kernel
theorem dX9_takeOut_165 : decode cX9_takeOut 165 = .ok (.getfield 46, 3) := by decide +kernel
theorem dX9_takeOut_168 : decode cX9_takeOut 168 = .ok (.iload_n 1, 1) := by decide +kernel
theorem dX9_takeOut_169 : decode cX9_takeOut 169 = .ok (.aload_n 0, 1) := by decide +kernel
theorem dX9_takeOut_170 : decode cX9_takeOut 170 = .ok (.getfield 126, 3) := by decide +kernel
theorem dX9_takeOut_173 : decode cX9_takeOut 173 = .ok (.iastore, 1) := by decide +kernel
theorem dX9_takeOut_174 : decode cX9_takeOut 174 = .ok (.return_, 1) := by decide +kernel
theorem dX9_root_0 : decode cX9_root 0 = .ok (.iload_n 0, 1) := by decide +kernel
theorem dX9_root_1 : decode cX9_root 1 = .ok (.i2d, 1) := by decide +kernel
theorem dX9_root_2 : decode cX9_root 2 = .ok (.dstore_n 1, 1) := by decide +kernel
theorem dX9_root_3 : decode cX9_root 3 = .ok (.iconst 0, 1) := by decide +kernel
theorem dX9_root_4 : decode cX9_root 4 = .ok (.istore_n 3, 1) := by decide +kernel
theorem dX9_root_5 : decode cX9_root 5 = .ok (.iload_n 3, 1) := by decide +kernel
theorem dX9_root_6 : decode cX9_root 6 = .ok (.bipush 20, 2) := by decide +kernel
theorem dX9_root_8 : decode cX9_root 8 = .ok (.if_icmp .ge 20, 3) := by decide +kernel
theorem dX9_root_11 : decode cX9_root 11 = .ok (.dload_n 1, 1) := by decide +kernel
theorem dX9_root_12 : decode cX9_root 12 = .ok (.iload_n 0, 1) := by decide +kernel
theorem dX9_root_13 : decode cX9_root 13 = .ok (.i2d, 1) := by decide +kernel
theorem dX9_root_14 : decode cX9_root 14 = .ok (.dload_n 1, 1) := by decide +kernel
theorem dX9_root_15 : decode cX9_root 15 = .ok (.ddiv, 1) := by decide +kernel
theorem dX9_root_16 : decode cX9_root 16 = .ok (.dadd, 1) := by decide +kernel
theorem dX9_root_17 : decode cX9_root 17 = .ok (.ldc2_w 177, 3) := by decide +kernel
theorem dX9_root_20 : decode cX9_root 20 = .ok (.ddiv, 1) := by decide +kernel
theorem dX9_root_21 : decode cX9_root 21 = .ok (.dstore_n 1, 1) := by decide +kernel
theorem dX9_root_22 : decode cX9_root 22 = .ok (.iinc 3 1, 3) := by decide +kernel
theorem dX9_root_25 : decode cX9_root 25 = .ok (.goto (-20), 3) := by decide +kernel
theorem dX9_root_28 : decode cX9_root 28 = .ok (.dload_n 1, 1) := by decide +kernel
theorem dX9_root_29 : decode cX9_root 29 = .ok (.dreturn, 1) := by decide +kernel
set_option maxRecDepth 20000 in
theorem ggX9_isHit_X9_root : GoodIn wsX9_isHit wsX9_root := goodIn_r _ [16, 17] (by decide +kernel) (by decide +kernel)
set_option maxRecDepth 20000 in
theorem gX9_isHit_X9_root : GoodIn wsX9_isHit (va_wsS RX9 179 yX9_root wsX9_root) := goodIn_app (goodIn_of _ (by decide +kernel)) ggX9_isHit_X9_root
theorem dX9_isHit_0 : decode cX9_isHit 0 = .ok (.aload_n 0, 1) := by decide +kernel
theorem dX9_isHit_1 : decode cX9_isHit 1 = .ok (.getfield 126, 3) := by decide +kernel
theorem dX9_isHit_4 : decode cX9_isHit 4 = .ok (.i2d, 1) := by decide +kernel
theorem dX9_isHit_5 : decode cX9_isHit 5 = .ok (.dstore_n 2, 1) := by decide +kernel
theorem dX9_isHit_6 : decode cX9_isHit 6 = .ok (.iconst 0, 1) := by decide +kernel
theorem dX9_isHit_7 : decode cX9_isHit 7 = .ok (.istore 4, 2) := by decide +kernel
theorem dX9_isHit_9 : decode cX9_isHit 9 = .ok (.aload_n 0, 1) := by decide +kernel
theorem dX9_isHit_10 : decode cX9_isHit 10 = .ok (.getfield 126, 3) := by decide +kernel
theorem dX9_isHit_13 : decode cX9_isHit 13 = .ok (.aload_n 0, 1) := by decide +kernel
theorem dX9_isHit_14 : decode cX9_isHit 14 = .ok (.getfield 167, 3) := by decide +kernel
theorem dX9_isHit_17 : decode cX9_isHit 17 = .ok (.isub, 1) := by decide +kernel
theorem dX9_isHit_18 : decode cX9_isHit 18 = .ok (.i2d, 1) := by decide +kernel
theorem dX9_isHit_19 : decode cX9_isHit 19 = .ok (.aload_n 0, 1) := by decide +kernel
theorem dX9_isHit_20 : decode cX9_isHit 20 = .ok (.getfield 49, 3) := by decide +kernel
theorem dX9_isHit_23 : decode cX9_isHit 23 = .ok (.iload_n 1, 1) := by decide +kernel
theorem dX9_isHit_24 : decode cX9_isHit 24 = .ok (.daload, 1) := by decide +kernel
theorem dX9_isHit_25 : decode cX9_isHit 25 = .ok (.dcmp .g, 1) := by decide +kernel
theorem dX9_isHit_26 : decode cX9_isHit 26 = .ok (.ifCond .lt 12, 3) := by decide +kernel
theorem dX9_isHit_29 : decode cX9_isHit 29 = .ok (.aload_n 0, 1) := by decide +kernel
theorem dX9_isHit_30 : decode cX9_isHit 30 = .ok (.getfield 74, 3) := by decide +kernel
theorem dX9_isHit_33 : decode cX9_isHit 33 = .ok (.iload_n 1, 1) := by decide +kernel
theorem dX9_isHit_34 : decode cX9_isHit 34 = .ok (.iaload, 1) := by decide +kernel
theorem dX9_isHit_35 : decode cX9_isHit 35 = .ok (.ifCond .ne 13, 3) := by decide +kernel
theorem dX9_isHit_38 : decode cX9_isHit 38 = .ok (.aload_n 0, 1) := by decide +kernel
theorem dX9_isHit_39 : decode cX9_isHit 39 = .ok (.getfield 58, 3) := by decide +kernel
theorem dX9_isHit_42 : decode cX9_isHit 42 = .ok (.iload_n 1, 1) := by decide +kernel
theorem dX9_isHit_43 : decode cX9_isHit 43 = .ok (.iconst 0, 1) := by decide +kernel
theorem dX9_isHit_44 : decode cX9_isHit 44 = .ok (.bastore, 1) := by decide +kernel
theorem dX9_isHit_45 : decode cX9_isHit 45 = .ok (.goto 54, 3) := by decide +kernel
theorem dX9_isHit_48 : decode cX9_isHit 48 = .ok (.aload_n 0, 1) := by decide +kernel
theorem dX9_isHit_49 : decode cX9_isHit 49 = .ok (.getfield 58, 3) := by decide +kernel
theorem dX9_isHit_52 : decode cX9_isHit 52 = .ok (.iload_n 1, 1) := by decide +kernel
theorem dX9_isHit_53 : decode cX9_isHit 53 = .ok (.baload, 1) := by decide +kernel
theorem dX9_isHit_54 : decode cX9_isHit 54 = .ok (.ifCond .ne 27, 3) := by decide +kernel
theorem dX9_isHit_57 : decode cX9_isHit 57 = .ok (.aload_n 0, 1) := by decide +kernel
theorem dX9_isHit_58 : decode cX9_isHit 58 = .ok (.getfield 58, 3) := by decide +kernel
theorem dX9_isHit_61 : decode cX9_isHit 61 = .ok (.iload_n 1, 1) := by decide +kernel
theorem dX9_isHit_62 : decode cX9_isHit 62 = .ok (.iconst 1, 1) := by decide +kernel
theorem dX9_isHit_63 : decode cX9_isHit 63 = .ok (.bastore, 1) := by decide +kernel
theorem dX9_isHit_64 : decode cX9_isHit 64 = .ok (.aload_n 0, 1) := by decide +kernel
theorem dX9_isHit_65 : decode cX9_isHit 65 = .ok (.getfield 55, 3) := by decide +kernel
theorem dX9_isHit_68 : decode cX9_isHit 68 = .ok (.iload_n 1, 1) := by decide +kernel
theorem dX9_isHit_69 : decode cX9_isHit 69 = .ok (.dload_n 2, 1) := by decide +kernel
theorem dX9_isHit_70 : decode cX9_isHit 70 = .ok (.aload_n 0, 1) := by decide +kernel
theorem dX9_isHit_71 : decode cX9_isHit 71 = .ok (.getfield 52, 3) := by decide +kernel
theorem dX9_isHit_74 : decode cX9_isHit 74 = .ok (.iload_n 1, 1) := by decide +kernel
theorem dX9_isHit_75 : decode cX9_isHit 75 = .ok (.daload, 1) := by decide +kernel
theorem dX9_isHit_76 : decode cX9_isHit 76 = .ok (.dadd, 1) := by decide +kernel
theorem dX9_isHit_77 : decode cX9_isHit 77 = .ok (.dastore, 1) := by decide +kernel
theorem dX9_isHit_78 : decode cX9_isHit 78 = .ok (.goto 21, 3) := by decide +kernel
theorem dX9_isHit_81 : decode cX9_isHit 81 = .ok (.dload_n 2, 1) := by decide +kernel
theorem dX9_isHit_82 : decode cX9_isHit 82 = .ok (.aload_n 0, 1) := by decide +kernel
theorem dX9_isHit_83 : decode cX9_isHit 83 = .ok (.getfield 55, 3) := by decide +kernel
theorem dX9_isHit_86 : decode cX9_isHit 86 = .ok (.iload_n 1, 1) := by decide +kernel
theorem dX9_isHit_87 : decode cX9_isHit 87 = .ok (.daload, 1) := by decide +kernel
theorem dX9_isHit_88 : decode cX9_isHit 88 = .ok (.dcmp .l, 1) := by decide +kernel
theorem dX9_isHit_89 : decode cX9_isHit 89 = .ok (.ifCond .lt 7, 3) := by decide +kernel
theorem dX9_isHit_92 : decode cX9_isHit 92 = .ok (.iconst 1, 1) := by decide +kernel
theorem dX9_isHit_93 : decode cX9_isHit 93 = .ok (.goto 4, 3) := by decide +kernel
theorem dX9_isHit_96 : decode cX9_isHit 96 = .ok (.iconst 0, 1) := by decide +kernel
theorem dX9_isHit_97 : decode cX9_isHit 97 = .ok (.istore 4, 2) := by decide +kernel
theorem dX9_isHit_99 : decode cX9_isHit 99 = .ok (.aload_n 0, 1) := by decide +kernel
theorem dX9_isHit_100 : decode cX9_isHit 100 = .ok (.getfield 62, 3) := by decide +kernel
theorem dX9_isHit_103 : decode cX9_isHit 103 = .ok (.iload_n 1, 1) := by decide +kernel
theorem dX9_isHit_104 : decode cX9_isHit 104 = .ok (.baload, 1) := by decide +kernel
theorem dX9_isHit_105 : decode cX9_isHit 105 = .ok (.ifCond .eq 71, 3) := by decide +kernel
theorem dX9_isHit_108 : decode cX9_isHit 108 = .ok (.iload 4, 2) := by decide +kernel
theorem dX9_isHit_110 : decode cX9_isHit 110 = .ok (.ifCond .ne 12, 3) := by decide +kernel
theorem dX9_isHit_113 : decode cX9_isHit 113 = .ok (.aload_n 0, 1) := by decide +kernel
theorem dX9_isHit_114 : decode cX9_isHit 114 = .ok (.getfield 62, 3) := by decide +kernel
theorem dX9_isHit_117 : decode cX9_isHit 117 = .ok (.iload_n 1, 1) := by decide +kernel
theorem dX9_isHit_118 : decode cX9_isHit 118 = .ok (.iconst 0, 1) := by decide +kernel
theorem dX9_isHit_119 : decode cX9_isHit 119 = .ok (.bastore, 1) := by decide +kernel
theorem dX9_isHit_120 : decode cX9_isHit 120 = .ok (.iconst 0, 1) := by decide +kernel
theorem dX9_isHit_121 : decode cX9_isHit 121 = .ok (.ireturn, 1) := by decide +kernel
theorem dX9_isHit_122 : decode cX9_isHit 122 = .ok (.dload_n 2, 1) := by decide +kernel
theorem dX9_isHit_123 : decode cX9_isHit 123 = .ok (.aload_n 0, 1) := by decide +kernel
theorem dX9_isHit_124 : decode cX9_isHit 124 = .ok (.getfield 65, 3) := by decide +kernel
theorem dX9_isHit_127 : decode cX9_isHit 127 = .ok (.iload_n 1, 1) := by decide +kernel
theorem dX9_isHit_128 : decode cX9_isHit 128 = .ok (.daload, 1) := by decide +kernel
theorem dX9_isHit_129 : decode cX9_isHit 129 = .ok (.dcmp .g, 1) := by decide +kernel
theorem dX9_isHit_130 : decode cX9_isHit 130 = .ok (.ifCond .ge 5, 3) := by decide +kernel
theorem dX9_isHit_133 : decode cX9_isHit 133 = .ok (.iconst 0, 1) := by decide +kernel
theorem dX9_isHit_134 : decode cX9_isHit 134 = .ok (.ireturn, 1) := by decide +kernel
theorem dX9_isHit_135 : decode cX9_isHit 135 = .ok (.aload_n 0, 1) := by decide +kernel
theorem dX9_isHit_136 : decode cX9_isHit 136 = .ok (.getfield 68, 3) := by decide +kernel
theorem dX9_isHit_139 : decode cX9_isHit 139 = .ok (.iload_n 1, 1) := by decide +kernel
theorem dX9_isHit_140 : decode cX9_isHit 140 = .ok (.dup2, 1) := by decide +kernel
theorem dX9_isHit_141 : decode cX9_isHit 141 = .ok (.iaload, 1) := by decide +kernel
theorem dX9_isHit_142 : decode cX9_isHit 142 = .ok (.iconst 1, 1) := by decide +kernel
theorem dX9_isHit_143 : decode cX9_isHit 143 = .ok (.iadd, 1) := by decide +kernel
theorem dX9_isHit_144 : decode cX9_isHit 144 = .ok (.iastore, 1) := by decide +kernel
theorem dX9_isHit_145 : decode cX9_isHit 145 = .ok (.aload_n 0, 1) := by decide +kernel
theorem dX9_isHit_146 : decode cX9_isHit 146 = .ok (.getfield 65, 3) := by decide +kernel
theorem dX9_isHit_149 : decode cX9_isHit 149 = .ok (.iload_n 1, 1) := by decide +kernel
theorem dX9_isHit_150 : decode cX9_isHit 150 = .ok (.aload_n 0, 1) := by decide +kernel
theorem dX9_isHit_151 : decode cX9_isHit 151 = .ok (.getfield 65, 3) := by decide +kernel
theorem dX9_isHit_154 : decode cX9_isHit 154 = .ok (.iload_n 1, 1) := by decide +kernel
theorem dX9_isHit_155 : decode cX9_isHit 155 = .ok (.daload, 1) := by decide +kernel
theorem dX9_isHit_156 : decode cX9_isHit 156 = .ok (.aload_n 0, 1) := by decide +kernel
theorem dX9_isHit_157 : decode cX9_isHit 157 = .ok (.getfield 52, 3) := by decide +kernel
theorem dX9_isHit_160 : decode cX9_isHit 160 = .ok (.iload_n 1, 1) := by decide +kernel
theorem dX9_isHit_161 : decode cX9_isHit 161 = .ok (.daload, 1) := by decide +kernel
theorem dX9_isHit_162 : decode cX9_isHit 162 = .ok (.aload_n 0, 1) := by decide +kernel
theorem dX9_isHit_163 : decode cX9_isHit 163 = .ok (.getfield 68, 3) := by decide +kernel
theorem dX9_isHit_166 : decode cX9_isHit 166 = .ok (.iload_n 1, 1) := by decide +kernel
theorem dX9_isHit_167 : decode cX9_isHit 167 = .ok (.iaload, 1) := by decide +kernel
theorem dX9_isHit_168 : decode cX9_isHit 168 = .ok (.invokestatic 179, 3) := by decide +kernel
theorem dX9_isHit_171 : decode cX9_isHit 171 = .ok (.ddiv, 1) := by decide +kernel
theorem dX9_isHit_172 : decode cX9_isHit 172 = .ok (.dadd, 1) := by decide +kernel
theorem dX9_isHit_173 : decode cX9_isHit 173 = .ok (.dastore, 1) := by decide +kernel
theorem dX9_isHit_174 : decode cX9_isHit 174 = .ok (.iconst 1, 1) := by decide +kernel
theorem dX9_isHit_175 : decode cX9_isHit 175 = .ok (.ireturn, 1) := by decide +kernel
theorem dX9_isHit_176 : decode cX9_isHit 176 = .ok (.iload 4, 2) := by decide +kernel
theorem dX9_isHit_178 : decode cX9_isHit 178 = .ok (.ifCond .ne 5, 3) := by decide +kernel
theorem dX9_isHit_181 : decode cX9_isHit 181 = .ok (.iconst 0, 1) := by decide +kernel
theorem dX9_isHit_182 : decode cX9_isHit 182 = .ok (.ireturn, 1) := by decide +kernel
theorem dX9_isHit_183 : decode cX9_isHit 183 = .ok (.aload_n 0, 1) := by decide +kernel
theorem dX9_isHit_184 : decode cX9_isHit 184 = .ok (.getfield 62, 3) := by decide +kernel
theorem dX9_isHit_187 : decode cX9_isHit 187 = .ok (.iload_n 1, 1) := by decide +kernel
theorem dX9_isHit_188 : decode cX9_isHit 188 = .ok (.iconst 1, 1) := by decide +kernel
theorem dX9_isHit_189 : decode cX9_isHit 189 = .ok (.bastore, 1) := by decide +kernel
theorem dX9_isHit_190 : decode cX9_isHit 190 = .ok (.aload_n 0, 1) := by decide +kernel
theorem dX9_isHit_191 : decode cX9_isHit 191 = .ok (.getfield 68, 3) := by decide +kernel
theorem dX9_isHit_194 : decode cX9_isHit 194 = .ok (.iload_n 1, 1) := by decide +kernel
theorem dX9_isHit_195 : decode cX9_isHit 195 = .ok (.iaload, 1) := by decide +kernel
theorem dX9_isHit_196 : decode cX9_isHit 196 = .ok (.aload_n 0, 1) := by decide +kernel
theorem dX9_isHit_197 : decode cX9_isHit 197 = .ok (.getfield 71, 3) := by decide +kernel
theorem dX9_isHit_200 : decode cX9_isHit 200 = .ok (.iload_n 1, 1) := by decide +kernel
theorem dX9_isHit_201 : decode cX9_isHit 201 = .ok (.iaload, 1) := by decide +kernel
theorem dX9_isHit_202 : decode cX9_isHit 202 = .ok (.isub, 1) := by decide +kernel
theorem dX9_isHit_203 : decode cX9_isHit 203 = .ok (.istore 5, 2) := by decide +kernel
theorem dX9_isHit_205 : decode cX9_isHit 205 = .ok (.aload_n 0, 1) := by decide +kernel
theorem dX9_isHit_206 : decode cX9_isHit 206 = .ok (.getfield 68, 3) := by decide +kernel
theorem dX9_isHit_209 : decode cX9_isHit 209 = .ok (.iload_n 1, 1) := by decide +kernel
theorem dX9_isHit_210 : decode cX9_isHit 210 = .ok (.iload 5, 2) := by decide +kernel
theorem dX9_isHit_212 : decode cX9_isHit 212 = .ok (.iconst 1, 1) := by decide +kernel
theorem dX9_isHit_213 : decode cX9_isHit 213 = .ok (.if_icmp .le 30, 3) := by decide +kernel
theorem dX9_isHit_216 : decode cX9_isHit 216 = .ok (.dload_n 2, 1) := by decide +kernel
theorem dX9_isHit_217 : decode cX9_isHit 217 = .ok (.aload_n 0, 1) := by decide +kernel
theorem dX9_isHit_218 : decode cX9_isHit 218 = .ok (.getfield 65, 3) := by decide +kernel
theorem dX9_isHit_221 : decode cX9_isHit 221 = .ok (.iload_n 1, 1) := by decide +kernel
theorem dX9_isHit_222 : decode cX9_isHit 222 = .ok (.daload, 1) := by decide +kernel
theorem dX9_isHit_223 : decode cX9_isHit 223 = .ok (.dsub, 1) := by decide +kernel
theorem dX9_isHit_224 : decode cX9_isHit 224 = .ok (.ldc2_w 183, 3) := by decide +kernel
theorem dX9_isHit_227 : decode cX9_isHit 227 = .ok (.aload_n 0, 1) := by decide +kernel
theorem dX9_isHit_228 : decode cX9_isHit 228 = .ok (.getfield 52, 3) := by decide +kernel
theorem dX9_isHit_231 : decode cX9_isHit 231 = .ok (.iload_n 1, 1) := by decide +kernel
theorem dX9_isHit_232 : decode cX9_isHit 232 = .ok (.daload, 1) := by decide +kernel
theorem dX9_isHit_233 : decode cX9_isHit 233 = .ok (.dmul, 1) := by decide +kernel
theorem dX9_isHit_234 : decode cX9_isHit 234 = .ok (.dcmp .g, 1) := by decide +kernel
theorem dX9_isHit_235 : decode cX9_isHit 235 = .ok (.ifCond .ge 8, 3) := by decide +kernel
theorem dX9_isHit_238 : decode cX9_isHit 238 = .ok (.iload 5, 2) := by decide +kernel
theorem dX9_isHit_240 : decode cX9_isHit 240 = .ok (.goto 4, 3) := by decide +kernel
theorem dX9_isHit_243 : decode cX9_isHit 243 = .ok (.iconst 1, 1) := by decide +kernel
theorem dX9_isHit_244 : decode cX9_isHit 244 = .ok (.iastore, 1) := by decide +kernel
theorem dX9_isHit_245 : decode cX9_isHit 245 = .ok (.aload_n 0, 1) := by decide +kernel
theorem dX9_isHit_246 : decode cX9_isHit 246 = .ok (.getfield 71, 3) := by decide +kernel
theorem dX9_isHit_249 : decode cX9_isHit 249 = .ok (.iload_n 1, 1) := by decide +kernel
theorem dX9_isHit_250 : decode cX9_isHit 250 = .ok (.aload_n 0, 1) := by decide +kernel
theorem dX9_isHit_251 : decode cX9_isHit 251 = .ok (.getfield 68, 3) := by decide +kernel
theorem dX9_isHit_254 : decode cX9_isHit 254 = .ok (.iload_n 1, 1) := by decide +kernel
theorem dX9_isHit_255 : decode cX9_isHit 255 = .ok (.iaload, 1) := by decide +kernel
theorem dX9_isHit_256 : decode cX9_isHit 256 = .ok (.iastore, 1) := by decide +kernel
theorem dX9_isHit_257 : decode cX9_isHit 257 = .ok (.aload_n 0, 1) := by decide +kernel
theorem dX9_isHit_258 : decode cX9_isHit 258 = .ok (.getfield 65, 3) := by decide +kernel
theorem dX9_isHit_261 : decode cX9_isHit 261 = .ok (.iload_n 1, 1) := by decide +kernel
theorem dX9_isHit_262 : decode cX9_isHit 262 = .ok (.dload_n 2, 1) := by decide +kernel
theorem dX9_isHit_263 : decode cX9_isHit 263 = .ok (.aload_n 0, 1) := by decide +kernel
theorem dX9_isHit_264 : decode cX9_isHit 264 = .ok (.getfield 52, 3) := by decide +kernel
theorem dX9_isHit_267 : decode cX9_isHit 267 = .ok (.iload_n 1, 1) := by decide +kernel
theorem dX9_isHit_268 : decode cX9_isHit 268 = .ok (.daload, 1) := by decide +kernel
theorem dX9_isHit_269 : decode cX9_isHit 269 = .ok (.aload_n 0, 1) := by decide +kernel
theorem dX9_isHit_270 : decode cX9_isHit 270 = .ok (.getfield 68, 3) := by decide +kernel
theorem dX9_isHit_273 : decode cX9_isHit 273 = .ok (.iload_n 1, 1) := by decide +kernel
theorem dX9_isHit_274 : decode cX9_isHit 274 = .ok (.iaload, 1) := by decide +kernel
theorem dX9_isHit_275 : decode cX9_isHit 275 = .ok (.invokestatic 179, 3) := by decide +kernel
theorem dX9_isHit_278 : decode cX9_isHit 278 = .ok (.ddiv, 1) := by decide +kernel
theorem dX9_isHit_279 : decode cX9_isHit 279 = .ok (.dadd, 1) := by decide +kernel
theorem dX9_isHit_280 : decode cX9_isHit 280 = .ok (.dastore, 1) := by decide +kernel
theorem dX9_isHit_281 : decode cX9_isHit 281 = .ok (.iconst 1, 1) := by decide +kernel
theorem dX9_isHit_282 : decode cX9_isHit 282 = .ok (.ireturn, 1) := by decide +kernel
theorem dX9_leaveRound_0 : decode cX9_leaveRound 0 = .ok (.aload_n 0, 1) := by decide +kernel
theorem dX9_leaveRound_1 : decode cX9_leaveRound 1 = .ok (.dup, 1) := by decide +kernel
theorem dX9_leaveRound_2 : decode cX9_leaveRound 2 = .ok (.getfield 158, 3) := by decide +kernel
theorem dX9_leaveRound_5 : decode cX9_leaveRound 5 = .ok (.iconst 1, 1) := by decide +kernel
theorem dX9_leaveRound_6 : decode cX9_leaveRound 6 = .ok (.isub, 1) := by decide +kernel
theorem dX9_leaveRound_7 : decode cX9_leaveRound 7 = .ok (.putfield 158, 3) := by decide +kernel
theorem dX9_leaveRound_10 : decode cX9_leaveRound 10 = .ok (.iconst 0, 1) := by decide +kernel
theorem dX9_leaveRound_11 : decode cX9_leaveRound 11 = .ok (.istore_n 1, 1) := by decide +kernel
theorem dX9_leaveRound_12 : decode cX9_leaveRound 12 = .ok (.iload_n 1, 1) := by decide +kernel
theorem dX9_leaveRound_13 : decode cX9_leaveRound 13 = .ok (.aload_n 0, 1) := by decide +kernel
theorem dX9_leaveRound_14 : decode cX9_leaveRound 14 = .ok (.getfield 158, 3) := by decide +kernel
theorem dX9_leaveRound_17 : decode cX9_leaveRound 17 = .ok (.if_icmp .ge 23, 3) := by decide +kernel
theorem dX9_leaveRound_20 : decode cX9_leaveRound 20 = .ok (.aload_n 0, 1) := by decide +kernel
theorem dX9_leaveRound_21 : decode cX9_leaveRound 21 = .ok (.getfield 95, 3) := by decide +kernel
theorem dX9_leaveRound_24 : decode cX9_leaveRound 24 = .ok (.iload_n 1, 1) := by decide +kernel
theorem dX9_leaveRound_25 : decode cX9_leaveRound 25 = .ok (.aload_n 0, 1) := by decide +kernel
theorem dX9_leaveRound_26 : decode cX9_leaveRound 26 = .ok (.getfield 95, 3) := by decide +kernel
theorem dX9_leaveRound_29 : decode cX9_leaveRound 29 = .ok (.iload_n 1, 1) := by decide +kernel
theorem dX9_leaveRound_30 : decode cX9_leaveRound 30 = .ok (.iconst 1, 1) := by decide +kernel
theorem dX9_leaveRound_31 : decode cX9_leaveRound 31 = .ok (.iadd, 1) := by decide +kernel
theorem dX9_leaveRound_32 : decode cX9_leaveRound 32 = .ok (.iaload, 1) := by decide +kernel
theorem dX9_leaveRound_33 : decode cX9_leaveRound 33 = .ok (.iastore, 1) := by decide +kernel
theorem dX9_leaveRound_34 : decode cX9_leaveRound 34 = .ok (.iinc 1 1, 3) := by decide +kernel
theorem dX9_leaveRound_37 : decode cX9_leaveRound 37 = .ok (.goto (-25), 3) := by decide +kernel
theorem dX9_leaveRound_40 : decode cX9_leaveRound 40 = .ok (.aload_n 0, 1) := by decide +kernel
theorem dX9_leaveRound_41 : decode cX9_leaveRound 41 = .ok (.iconst 0, 1) := by decide +kernel
theorem dX9_leaveRound_42 : decode cX9_leaveRound 42 = .ok (.putfield 185, 3) := by decide +kernel
theorem dX9_leaveRound_45 : decode cX9_leaveRound 45 = .ok (.return_, 1) := by decide +kernel
set_option maxRecDepth 20000 in
theorem ggX9_choose_X9_leaveRound : GoodIn wsX9_choose wsX9_leaveRound := goodIn_r _ [17, 1, 2, 3, 47, 48, 49, 50, 51, 52, 53, 54, 55, 56, 57, 58, 59, 60, 61, 62, 63, 64, 65, 66, 67, 68, 69, 70, 71, 72, 73, 74, 75, 76, 77, 78, 79, 80, 81, 82, 83, 84, 85, 86, 87, 88, 89] (by decide +kernel) (by decide +kernel)
set_option maxRecDepth 20000 in
theorem gX9_choose_X9_leaveRound : GoodIn wsX9_choose (wsV RX9 188 RX9 yX9_leaveRound wsX9_leaveRound) := goodIn_app (goodIn_of _ (by decide +kernel)) ggX9_choose_X9_leaveRound
set_option maxRecDepth 20000 in
theorem ggX9_choose_X9_takeOut : GoodIn wsX9_choose wsX9_takeOut := goodIn_r _ [21, 22, 23, 6, 10, 24, 25, 26, 8, 27, 11, 12, 28, 29, 47, 48, 49, 50, 51, 52, 53, 54, 55, 56, 57, 58, 59, 60, 61, 62, 63, 64, 65, 66, 67, 68, 69, 70, 71, 72, 73, 74, 75, 76, 77, 78, 79, 80, 81, 82, 83, 84, 85, 86, 87, 88, 89] (by decide +kernel) (by decide +kernel)
set_option maxRecDepth 20000 in
theorem gX9_choose_X9_takeOut : GoodIn wsX9_choose (wsV RX9 191 RX9 yX9_takeOut wsX9_takeOut) := goodIn_app (goodIn_of _ (by decide +kernel)) ggX9_choose_X9_takeOut
set_option maxRecDepth 20000 in
theorem ggX9_choose_X9_isHit : GoodIn wsX9_choose wsX9_isHit := goodIn_r _ [33, 29, 25, 34, 12, 35, 36, 37, 38, 39, 40, 41, 42, 43, 44, 16, 45, 46, 47, 48, 49, 50, 51, 52, 53, 54, 55, 56, 57, 58, 59, 60, 61, 62, 63, 64, 65, 66, 67, 68, 69, 70, 71, 72, 73, 74, 75, 76, 77, 78, 79, 80, 81, 82, 83, 84, 85, 86, 87, 88, 89] (by decide +kernel) (by decide +kernel)
set_option maxRecDepth 20000 in
theorem gX9_choose_X9_isHit : GoodIn wsX9_choose (wsV RX9 195 RX9 yX9_isHit wsX9_isHit) := goodIn_app (goodIn_of _ (by decide +kernel)) ggX9_choose_X9_isHit
theorem dX9_choose_0 : decode cX9_choose 0 = .ok (.aload_n 0, 1) := by decide +kernel
theorem dX9_choose_1 : decode cX9_choose 1 = .ok (.getfield 158, 3) := by decide +kernel
theorem dX9_choose_4 : decode cX9_choose 4 = .ok (.ifCond .le 224, 3) := by decide +kernel
theorem dX9_choose_7 : decode cX9_choose 7 = .ok (.aload_n 0, 1) := by decide +kernel
theorem dX9_choose_8 : decode cX9_choose 8 = .ok (.getfield 95, 3) := by decide +kernel
theorem dX9_choose_11 : decode cX9_choose 11 = .ok (.iconst 0, 1) := by decide +kernel
theorem dX9_choose_12 : decode cX9_choose 12 = .ok (.iaload, 1) := by decide +kernel
theorem dX9_choose_13 : decode cX9_choose 13 = .ok (.istore_n 1, 1) := by decide +kernel
theorem dX9_choose_14 : decode cX9_choose 14 = .ok (.aload_n 0, 1) := by decide +kernel
theorem dX9_choose_15 : decode cX9_choose 15 = .ok (.getfield 185, 3) := by decide +kernel
theorem dX9_choose_18 : decode cX9_choose 18 = .ok (.ifCond .ne 27, 3) := by decide +kernel
theorem dX9_choose_21 : decode cX9_choose 21 = .ok (.aload_n 0, 1) := by decide +kernel
theorem dX9_choose_22 : decode cX9_choose 22 = .ok (.iconst 1, 1) := by decide +kernel
theorem dX9_choose_23 : decode cX9_choose 23 = .ok (.putfield 185, 3) := by decide +kernel
theorem dX9_choose_26 : decode cX9_choose 26 = .ok (.aload_n 0, 1) := by decide +kernel
theorem dX9_choose_27 : decode cX9_choose 27 = .ok (.getfield 98, 3) := by decide +kernel
theorem dX9_choose_30 : decode cX9_choose 30 = .ok (.iload_n 1, 1) := by decide +kernel
theorem dX9_choose_31 : decode cX9_choose 31 = .ok (.aload_n 0, 1) := by decide +kernel
theorem dX9_choose_32 : decode cX9_choose 32 = .ok (.getfield 98, 3) := by decide +kernel
theorem dX9_choose_35 : decode cX9_choose 35 = .ok (.iload_n 1, 1) := by decide +kernel
theorem dX9_choose_36 : decode cX9_choose 36 = .ok (.iaload, 1) := by decide +kernel
theorem dX9_choose_37 : decode cX9_choose 37 = .ok (.aload_n 0, 1) := by decide +kernel
theorem dX9_choose_38 : decode cX9_choose 38 = .ok (.getfield 24, 3) := by decide +kernel
theorem dX9_choose_41 : decode cX9_choose 41 = .ok (.iload_n 1, 1) := by decide +kernel
theorem dX9_choose_42 : decode cX9_choose 42 = .ok (.iaload, 1) := by decide +kernel
theorem dX9_choose_43 : decode cX9_choose 43 = .ok (.iadd, 1) := by decide +kernel
theorem dX9_choose_44 : decode cX9_choose 44 = .ok (.iastore, 1) := by decide +kernel
theorem dX9_choose_45 : decode cX9_choose 45 = .ok (.aload_n 0, 1) := by decide +kernel
theorem dX9_choose_46 : decode cX9_choose 46 = .ok (.getfield 80, 3) := by decide +kernel
theorem dX9_choose_49 : decode cX9_choose 49 = .ok (.bipush 100, 2) := by decide +kernel
theorem dX9_choose_51 : decode cX9_choose 51 = .ok (.iload_n 1, 1) := by decide +kernel
theorem dX9_choose_52 : decode cX9_choose 52 = .ok (.imul, 1) := by decide +kernel
theorem dX9_choose_53 : decode cX9_choose 53 = .ok (.iaload, 1) := by decide +kernel
theorem dX9_choose_54 : decode cX9_choose 54 = .ok (.aload_n 0, 1) := by decide +kernel
theorem dX9_choose_55 : decode cX9_choose 55 = .ok (.getfield 98, 3) := by decide +kernel
theorem dX9_choose_58 : decode cX9_choose 58 = .ok (.iload_n 1, 1) := by decide +kernel
theorem dX9_choose_59 : decode cX9_choose 59 = .ok (.iaload, 1) := by decide +kernel
theorem dX9_choose_60 : decode cX9_choose 60 = .ok (.if_icmp .le 30, 3) := by decide +kernel
theorem dX9_choose_63 : decode cX9_choose 63 = .ok (.aload_n 0, 1) := by decide +kernel
theorem dX9_choose_64 : decode cX9_choose 64 = .ok (.invokevirtual 188, 3) := by decide +kernel
theorem dX9_choose_67 : decode cX9_choose 67 = .ok (.aload_n 0, 1) := by decide +kernel
theorem dX9_choose_68 : decode cX9_choose 68 = .ok (.getfield 95, 3) := by decide +kernel
theorem dX9_choose_71 : decode cX9_choose 71 = .ok (.aload_n 0, 1) := by decide +kernel
theorem dX9_choose_72 : decode cX9_choose 72 = .ok (.getfield 158, 3) := by decide +kernel
theorem dX9_choose_75 : decode cX9_choose 75 = .ok (.iload_n 1, 1) := by decide +kernel
theorem dX9_choose_76 : decode cX9_choose 76 = .ok (.iastore, 1) := by decide +kernel
theorem dX9_choose_77 : decode cX9_choose 77 = .ok (.aload_n 0, 1) := by decide +kernel
theorem dX9_choose_78 : decode cX9_choose 78 = .ok (.dup, 1) := by decide +kernel
theorem dX9_choose_79 : decode cX9_choose 79 = .ok (.getfield 158, 3) := by decide +kernel
theorem dX9_choose_82 : decode cX9_choose 82 = .ok (.iconst 1, 1) := by decide +kernel
theorem dX9_choose_83 : decode cX9_choose 83 = .ok (.iadd, 1) := by decide +kernel
theorem dX9_choose_84 : decode cX9_choose 84 = .ok (.putfield 158, 3) := by decide +kernel
theorem dX9_choose_87 : decode cX9_choose 87 = .ok (.goto 138, 3) := by decide +kernel
theorem dX9_choose_90 : decode cX9_choose 90 = .ok (.aload_n 0, 1) := by decide +kernel
theorem dX9_choose_91 : decode cX9_choose 91 = .ok (.iload_n 1, 1) := by decide +kernel
theorem dX9_choose_92 : decode cX9_choose 92 = .ok (.invokevirtual 191, 3) := by decide +kernel
theorem dX9_choose_95 : decode cX9_choose 95 = .ok (.aload_n 0, 1) := by decide +kernel
theorem dX9_choose_96 : decode cX9_choose 96 = .ok (.getfield 20, 3) := by decide +kernel
theorem dX9_choose_99 : decode cX9_choose 99 = .ok (.iload_n 1, 1) := by decide +kernel
theorem dX9_choose_100 : decode cX9_choose 100 = .ok (.iaload, 1) := by decide +kernel
theorem dX9_choose_101 : decode cX9_choose 101 = .ok (.iconst 2, 1) := by decide +kernel
theorem dX9_choose_102 : decode cX9_choose 102 = .ok (.if_icmp .ne 15, 3) := by decide +kernel
theorem dX9_choose_105 : decode cX9_choose 105 = .ok (.aload_n 0, 1) := by decide +kernel
theorem dX9_choose_106 : decode cX9_choose 106 = .ok (.iload_n 1, 1) := by decide +kernel
theorem dX9_choose_107 : decode cX9_choose 107 = .ok (.invokevirtual 195, 3) := by decide +kernel
theorem dX9_choose_110 : decode cX9_choose 110 = .ok (.ifCond .eq 7, 3) := by decide +kernel
theorem dX9_choose_113 : decode cX9_choose 113 = .ok (.iconst 1, 1) := by decide +kernel
theorem dX9_choose_114 : decode cX9_choose 114 = .ok (.goto 4, 3) := by decide +kernel
theorem dX9_choose_117 : decode cX9_choose 117 = .ok (.iconst 0, 1) := by decide +kernel
theorem dX9_choose_118 : decode cX9_choose 118 = .ok (.istore_n 2, 1) := by decide +kernel
theorem dX9_choose_119 : decode cX9_choose 119 = .ok (.iload_n 2, 1) := by decide +kernel
theorem dX9_choose_120 : decode cX9_choose 120 = .ok (.ifCond .eq 14, 3) := by decide +kernel
theorem dX9_choose_123 : decode cX9_choose 123 = .ok (.aload_n 0, 1) := by decide +kernel
theorem dX9_choose_124 : decode cX9_choose 124 = .ok (.getfield 170, 3) := by decide +kernel
theorem dX9_choose_127 : decode cX9_choose 127 = .ok (.ifCond .ne 7, 3) := by decide +kernel
theorem dX9_choose_130 : decode cX9_choose 130 = .ok (.iconst 1, 1) := by decide +kernel
theorem dX9_choose_131 : decode cX9_choose 131 = .ok (.goto 4, 3) := by decide +kernel
theorem dX9_choose_134 : decode cX9_choose 134 = .ok (.iconst 0, 1) := by decide +kernel
theorem dX9_choose_135 : decode cX9_choose 135 = .ok (.istore_n 3, 1) := by decide +kernel
theorem dX9_choose_136 : decode cX9_choose 136 = .ok (.iload_n 3, 1) := by decide +kernel
theorem dX9_choose_137 : decode cX9_choose 137 = .ok (.ifCond .eq 21, 3) := by decide +kernel
theorem dX9_choose_140 : decode cX9_choose 140 = .ok (.aload_n 0, 1) := by decide +kernel
theorem dX9_choose_141 : decode cX9_choose 141 = .ok (.getfield 92, 3) := by decide +kernel
theorem dX9_choose_144 : decode cX9_choose 144 = .ok (.bipush 10, 2) := by decide +kernel
theorem dX9_choose_146 : decode cX9_choose 146 = .ok (.iload_n 1, 1) := by decide +kernel
theorem dX9_choose_147 : decode cX9_choose 147 = .ok (.imul, 1) := by decide +kernel
theorem dX9_choose_148 : decode cX9_choose 148 = .ok (.iconst 4, 1) := by decide +kernel
theorem dX9_choose_149 : decode cX9_choose 149 = .ok (.iadd, 1) := by decide +kernel
theorem dX9_choose_150 : decode cX9_choose 150 = .ok (.dup2, 1) := by decide +kernel
theorem dX9_choose_151 : decode cX9_choose 151 = .ok (.iaload, 1) := by decide +kernel
theorem dX9_choose_152 : decode cX9_choose 152 = .ok (.iconst 1, 1) := by decide +kernel
theorem dX9_choose_153 : decode cX9_choose 153 = .ok (.iadd, 1) := by decide +kernel
theorem dX9_choose_154 : decode cX9_choose 154 = .ok (.iastore, 1) := by decide +kernel
theorem dX9_choose_155 : decode cX9_choose 155 = .ok (.goto 51, 3) := by decide +kernel
theorem dX9_choose_158 : decode cX9_choose 158 = .ok (.aload_n 0, 1) := by decide +kernel
theorem dX9_choose_159 : decode cX9_choose 159 = .ok (.getfield 98, 3) := by decide +kernel
theorem dX9_choose_162 : decode cX9_choose 162 = .ok (.iload_n 1, 1) := by decide +kernel
theorem dX9_choose_163 : decode cX9_choose 163 = .ok (.aload_n 0, 1) := by decide +kernel
theorem dX9_choose_164 : decode cX9_choose 164 = .ok (.getfield 98, 3) := by decide +kernel
theorem dX9_choose_167 : decode cX9_choose 167 = .ok (.iload_n 1, 1) := by decide +kernel
theorem dX9_choose_168 : decode cX9_choose 168 = .ok (.iaload, 1) := by decide +kernel
theorem dX9_choose_169 : decode cX9_choose 169 = .ok (.aload_n 0, 1) := by decide +kernel
theorem dX9_choose_170 : decode cX9_choose 170 = .ok (.getfield 164, 3) := by decide +kernel
theorem dX9_choose_173 : decode cX9_choose 173 = .ok (.isub, 1) := by decide +kernel
theorem dX9_choose_174 : decode cX9_choose 174 = .ok (.iastore, 1) := by decide +kernel
theorem dX9_choose_175 : decode cX9_choose 175 = .ok (.iload_n 2, 1) := by decide +kernel
theorem dX9_choose_176 : decode cX9_choose 176 = .ok (.ifCond .eq 30, 3) := by decide +kernel
theorem dX9_choose_179 : decode cX9_choose 179 = .ok (.aload_n 0, 1) := by decide +kernel
theorem dX9_choose_180 : decode cX9_choose 180 = .ok (.getfield 174, 3) := by decide +kernel
theorem dX9_choose_183 : decode cX9_choose 183 = .ok (.ifCond .ne 23, 3) := by decide +kernel
theorem dX9_choose_186 : decode cX9_choose 186 = .ok (.aload_n 0, 1) := by decide +kernel
theorem dX9_choose_187 : decode cX9_choose 187 = .ok (.getfield 92, 3) := by decide +kernel
theorem dX9_choose_190 : decode cX9_choose 190 = .ok (.bipush 10, 2) := by decide +kernel
theorem dX9_choose_192 : decode cX9_choose 192 = .ok (.iload_n 1, 1) := by decide +kernel
theorem dX9_choose_193 : decode cX9_choose 193 = .ok (.imul, 1) := by decide +kernel
theorem dX9_choose_194 : decode cX9_choose 194 = .ok (.iconst 5, 1) := by decide +kernel
theorem dX9_choose_195 : decode cX9_choose 195 = .ok (.iadd, 1) := by decide +kernel
theorem dX9_choose_196 : decode cX9_choose 196 = .ok (.dup2, 1) := by decide +kernel
theorem dX9_choose_197 : decode cX9_choose 197 = .ok (.iaload, 1) := by decide +kernel
theorem dX9_choose_198 : decode cX9_choose 198 = .ok (.iconst 1, 1) := by decide +kernel
theorem dX9_choose_199 : decode cX9_choose 199 = .ok (.iadd, 1) := by decide +kernel
theorem dX9_choose_200 : decode cX9_choose 200 = .ok (.iastore, 1) := by decide +kernel
theorem dX9_choose_201 : decode cX9_choose 201 = .ok (.aload_n 0, 1) := by decide +kernel
theorem dX9_choose_202 : decode cX9_choose 202 = .ok (.iconst 1, 1) := by decide +kernel
theorem dX9_choose_203 : decode cX9_choose 203 = .ok (.putfield 174, 3) := by decide +kernel
theorem dX9_choose_206 : decode cX9_choose 206 = .ok (.aload_n 0, 1) := by decide +kernel
theorem dX9_choose_207 : decode cX9_choose 207 = .ok (.getfield 74, 3) := by decide +kernel
theorem dX9_choose_210 : decode cX9_choose 210 = .ok (.iload_n 1, 1) := by decide +kernel
theorem dX9_choose_211 : decode cX9_choose 211 = .ok (.iaload, 1) := by decide +kernel
theorem dX9_choose_212 : decode cX9_choose 212 = .ok (.ifCond .ne 7, 3) := by decide +kernel
theorem dX9_choose_215 : decode cX9_choose 215 = .ok (.aload_n 0, 1) := by decide +kernel
theorem dX9_choose_216 : decode cX9_choose 216 = .ok (.invokevirtual 188, 3) := by decide +kernel
theorem dX9_choose_219 : decode cX9_choose 219 = .ok (.iload_n 3, 1) := by decide +kernel
theorem dX9_choose_220 : decode cX9_choose 220 = .ok (.ifCond .ne 5, 3) := by decide +kernel
theorem dX9_choose_223 : decode cX9_choose 223 = .ok (.iload_n 1, 1) := by decide +kernel
theorem dX9_choose_224 : decode cX9_choose 224 = .ok (.ireturn, 1) := by decide +kernel
theorem dX9_choose_225 : decode cX9_choose 225 = .ok (.goto (-225), 3) := by decide +kernel
theorem dX9_choose_228 : decode cX9_choose 228 = .ok (.iconst (-1), 1) := by decide +kernel
theorem dX9_choose_229 : decode cX9_choose 229 = .ok (.ireturn, 1) := by decide +kernel
theorem dX9_send_0 : decode cX9_send 0 = .ok (.aload_n 0, 1) := by decide +kernel
theorem dX9_send_1 : decode cX9_send 1 = .ok (.getfield 92, 3) := by decide +kernel
theorem dX9_send_4 : decode cX9_send 4 = .ok (.bipush 10, 2) := by decide +kernel
theorem dX9_send_6 : decode cX9_send 6 = .ok (.iload_n 1, 1) := by decide +kernel
theorem dX9_send_7 : decode cX9_send 7 = .ok (.imul, 1) := by decide +kernel
theorem dX9_send_8 : decode cX9_send 8 = .ok (.iconst 1, 1) := by decide +kernel
theorem dX9_send_9 : decode cX9_send 9 = .ok (.iadd, 1) := by decide +kernel
theorem dX9_send_10 : decode cX9_send 10 = .ok (.dup2, 1) := by decide +kernel
theorem dX9_send_11 : decode cX9_send 11 = .ok (.iaload, 1) := by decide +kernel
theorem dX9_send_12 : decode cX9_send 12 = .ok (.iconst 1, 1) := by decide +kernel
theorem dX9_send_13 : decode cX9_send 13 = .ok (.iadd, 1) := by decide +kernel
theorem dX9_send_14 : decode cX9_send 14 = .ok (.iastore, 1) := by decide +kernel
theorem dX9_send_15 : decode cX9_send 15 = .ok (.aload_n 0, 1) := by decide +kernel
theorem dX9_send_16 : decode cX9_send 16 = .ok (.getfield 92, 3) := by decide +kernel
theorem dX9_send_19 : decode cX9_send 19 = .ok (.bipush 10, 2) := by decide +kernel
theorem dX9_send_21 : decode cX9_send 21 = .ok (.iload_n 1, 1) := by decide +kernel
theorem dX9_send_22 : decode cX9_send 22 = .ok (.imul, 1) := by decide +kernel
theorem dX9_send_23 : decode cX9_send 23 = .ok (.bipush 8, 2) := by decide +kernel
theorem dX9_send_25 : decode cX9_send 25 = .ok (.iadd, 1) := by decide +kernel
theorem dX9_send_26 : decode cX9_send 26 = .ok (.aload_n 0, 1) := by decide +kernel
theorem dX9_send_27 : decode cX9_send 27 = .ok (.getfield 92, 3) := by decide +kernel
theorem dX9_send_30 : decode cX9_send 30 = .ok (.bipush 10, 2) := by decide +kernel
theorem dX9_send_32 : decode cX9_send 32 = .ok (.iload_n 1, 1) := by decide +kernel
theorem dX9_send_33 : decode cX9_send 33 = .ok (.imul, 1) := by decide +kernel
theorem dX9_send_34 : decode cX9_send 34 = .ok (.bipush 8, 2) := by decide +kernel
theorem dX9_send_36 : decode cX9_send 36 = .ok (.iadd, 1) := by decide +kernel
theorem dX9_send_37 : decode cX9_send 37 = .ok (.iaload, 1) := by decide +kernel
theorem dX9_send_38 : decode cX9_send 38 = .ok (.aload_n 0, 1) := by decide +kernel
theorem dX9_send_39 : decode cX9_send 39 = .ok (.getfield 164, 3) := by decide +kernel
theorem dX9_send_42 : decode cX9_send 42 = .ok (.iadd, 1) := by decide +kernel
theorem dX9_send_43 : decode cX9_send 43 = .ok (.iastore, 1) := by decide +kernel
theorem dX9_send_44 : decode cX9_send 44 = .ok (.aload_n 0, 1) := by decide +kernel
theorem dX9_send_45 : decode cX9_send 45 = .ok (.aload_n 0, 1) := by decide +kernel
theorem dX9_send_46 : decode cX9_send 46 = .ok (.getfield 198, 3) := by decide +kernel
theorem dX9_send_49 : decode cX9_send 49 = .ok (.aload_n 0, 1) := by decide +kernel
theorem dX9_send_50 : decode cX9_send 50 = .ok (.getfield 164, 3) := by decide +kernel
theorem dX9_send_53 : decode cX9_send 53 = .ok (.i2d, 1) := by decide +kernel
theorem dX9_send_54 : decode cX9_send 54 = .ok (.aload_n 0, 1) := by decide +kernel
theorem dX9_send_55 : decode cX9_send 55 = .ok (.getfield 9, 3) := by decide +kernel
theorem dX9_send_58 : decode cX9_send 58 = .ok (.ddiv, 1) := by decide +kernel
theorem dX9_send_59 : decode cX9_send 59 = .ok (.dadd, 1) := by decide +kernel
theorem dX9_send_60 : decode cX9_send 60 = .ok (.putfield 198, 3) := by decide +kernel
theorem dX9_send_63 : decode cX9_send 63 = .ok (.sipush 159, 3) := by decide +kernel
theorem dX9_send_66 : decode cX9_send 66 = .ok (.istore_n 2, 1) := by decide +kernel
theorem dX9_send_67 : decode cX9_send 67 = .ok (.iload_n 2, 1) := by decide +kernel
theorem dX9_send_68 : decode cX9_send 68 = .ok (.iconst 5, 1) := by decide +kernel
theorem dX9_send_69 : decode cX9_send 69 = .ok (.if_icmp .lt 23, 3) := by decide +kernel
theorem dX9_send_72 : decode cX9_send 72 = .ok (.aload_n 0, 1) := by decide +kernel
theorem dX9_send_73 : decode cX9_send 73 = .ok (.getfield 104, 3) := by decide +kernel
theorem dX9_send_76 : decode cX9_send 76 = .ok (.iload_n 2, 1) := by decide +kernel
theorem dX9_send_77 : decode cX9_send 77 = .ok (.aload_n 0, 1) := by decide +kernel
theorem dX9_send_78 : decode cX9_send 78 = .ok (.getfield 104, 3) := by decide +kernel
theorem dX9_send_81 : decode cX9_send 81 = .ok (.iload_n 2, 1) := by decide +kernel
theorem dX9_send_82 : decode cX9_send 82 = .ok (.iconst 5, 1) := by decide +kernel
theorem dX9_send_83 : decode cX9_send 83 = .ok (.isub, 1) := by decide +kernel
theorem dX9_send_84 : decode cX9_send 84 = .ok (.iaload, 1) := by decide +kernel
theorem dX9_send_85 : decode cX9_send 85 = .ok (.iastore, 1) := by decide +kernel
theorem dX9_send_86 : decode cX9_send 86 = .ok (.iinc 2 (-1), 3) := by decide +kernel
theorem dX9_send_89 : decode cX9_send 89 = .ok (.goto (-22), 3) := by decide +kernel
theorem dX9_send_92 : decode cX9_send 92 = .ok (.aload_n 0, 1) := by decide +kernel
theorem dX9_send_93 : decode cX9_send 93 = .ok (.getfield 104, 3) := by decide +kernel
theorem dX9_send_96 : decode cX9_send 96 = .ok (.iconst 0, 1) := by decide +kernel
theorem dX9_send_97 : decode cX9_send 97 = .ok (.aload_n 0, 1) := by decide +kernel
theorem dX9_send_98 : decode cX9_send 98 = .ok (.getfield 161, 3) := by decide +kernel
theorem dX9_send_101 : decode cX9_send 101 = .ok (.iastore, 1) := by decide +kernel
theorem dX9_send_102 : decode cX9_send 102 = .ok (.aload_n 0, 1) := by decide +kernel
theorem dX9_send_103 : decode cX9_send 103 = .ok (.getfield 104, 3) := by decide +kernel
theorem dX9_send_106 : decode cX9_send 106 = .ok (.iconst 1, 1) := by decide +kernel
theorem dX9_send_107 : decode cX9_send 107 = .ok (.iload_n 1, 1) := by decide +kernel
theorem dX9_send_108 : decode cX9_send 108 = .ok (.iastore, 1) := by decide +kernel
theorem dX9_send_109 : decode cX9_send 109 = .ok (.aload_n 0, 1) := by decide +kernel
theorem dX9_send_110 : decode cX9_send 110 = .ok (.getfield 104, 3) := by decide +kernel
theorem dX9_send_113 : decode cX9_send 113 = .ok (.iconst 2, 1) := by decide +kernel
theorem dX9_send_114 : decode cX9_send 114 = .ok (.aload_n 0, 1) := by decide +kernel
theorem dX9_send_115 : decode cX9_send 115 = .ok (.getfield 164, 3) := by decide +kernel
theorem dX9_send_118 : decode cX9_send 118 = .ok (.iastore, 1) := by decide +kernel
theorem dX9_send_119 : decode cX9_send 119 = .ok (.aload_n 0, 1) := by decide +kernel
theorem dX9_send_120 : decode cX9_send 120 = .ok (.getfield 104, 3) := by decide +kernel
theorem dX9_send_123 : decode cX9_send 123 = .ok (.iconst 3, 1) := by decide +kernel
theorem dX9_send_124 : decode cX9_send 124 = .ok (.aload_n 0, 1) := by decide +kernel
theorem dX9_send_125 : decode cX9_send 125 = .ok (.getfield 126, 3) := by decide +kernel
theorem dX9_send_128 : decode cX9_send 128 = .ok (.aload_n 0, 1) := by decide +kernel
theorem dX9_send_129 : decode cX9_send 129 = .ok (.getfield 167, 3) := by decide +kernel
theorem dX9_send_132 : decode cX9_send 132 = .ok (.isub, 1) := by decide +kernel
theorem dX9_send_133 : decode cX9_send 133 = .ok (.iastore, 1) := by decide +kernel
theorem dX9_send_134 : decode cX9_send 134 = .ok (.aload_n 0, 1) := by decide +kernel
theorem dX9_send_135 : decode cX9_send 135 = .ok (.getfield 104, 3) := by decide +kernel
theorem dX9_send_138 : decode cX9_send 138 = .ok (.iconst 4, 1) := by decide +kernel
theorem dX9_send_139 : decode cX9_send 139 = .ok (.aload_n 0, 1) := by decide +kernel
theorem dX9_send_140 : decode cX9_send 140 = .ok (.getfield 174, 3) := by decide +kernel
theorem dX9_send_143 : decode cX9_send 143 = .ok (.ifCond .eq 7, 3) := by decide +kernel
theorem dX9_send_146 : decode cX9_send 146 = .ok (.iconst 1, 1) := by decide +kernel
theorem dX9_send_147 : decode cX9_send 147 = .ok (.goto 4, 3) := by decide +kernel
theorem dX9_send_150 : decode cX9_send 150 = .ok (.iconst 0, 1) := by decide +kernel
theorem dX9_send_151 : decode cX9_send 151 = .ok (.iastore, 1) := by decide +kernel
theorem dX9_send_152 : decode cX9_send 152 = .ok (.aload_n 0, 1) := by decide +kernel
theorem dX9_send_153 : decode cX9_send 153 = .ok (.aload_n 0, 1) := by decide +kernel
theorem dX9_send_154 : decode cX9_send 154 = .ok (.getfield 201, 3) := by decide +kernel
theorem dX9_send_157 : decode cX9_send 157 = .ok (.bipush 32, 2) := by decide +kernel
theorem dX9_send_159 : decode cX9_send 159 = .ok (.if_icmp .ge 12, 3) := by decide +kernel
theorem dX9_send_162 : decode cX9_send 162 = .ok (.aload_n 0, 1) := by decide +kernel
theorem dX9_send_163 : decode cX9_send 163 = .ok (.getfield 201, 3) := by decide +kernel
theorem dX9_send_166 : decode cX9_send 166 = .ok (.iconst 1, 1) := by decide +kernel
theorem dX9_send_167 : decode cX9_send 167 = .ok (.iadd, 1) := by decide +kernel
theorem dX9_send_168 : decode cX9_send 168 = .ok (.goto 5, 3) := by decide +kernel
theorem dX9_send_171 : decode cX9_send 171 = .ok (.bipush 32, 2) := by decide +kernel
theorem dX9_send_173 : decode cX9_send 173 = .ok (.putfield 201, 3) := by decide +kernel
theorem dX9_send_176 : decode cX9_send 176 = .ok (.return_, 1) := by decide +kernel
set_option maxRecDepth 20000 in
theorem ggX9_tick_X9_isIn : GoodIn wsX9_tick wsX9_isIn := goodIn_r _ [6] (by decide +kernel) (by decide +kernel)
set_option maxRecDepth 20000 in
theorem gX9_tick_X9_isIn : GoodIn wsX9_tick (va_wsS RX9 118 yX9_isIn wsX9_isIn) := goodIn_app (goodIn_of _ (by decide +kernel)) ggX9_tick_X9_isIn
set_option maxRecDepth 20000 in
theorem ggX9_tick_X9_refused : GoodIn wsX9_tick wsX9_refused := goodIn_r _ [10, 11, 67, 68, 69, 70, 71, 72, 73, 74, 75, 76, 77, 78, 79, 80, 81, 82, 83, 84, 85, 86, 87, 88, 89, 90, 91, 92, 93, 94, 95, 96, 97, 98, 99, 100, 101, 102, 103, 104, 105, 106, 107, 108, 109] (by decide +kernel) (by decide +kernel)
set_option maxRecDepth 20000 in
theorem gX9_tick_X9_refused : GoodIn wsX9_tick (wsV RX9 122 RX9 yX9_refused wsX9_refused) := goodIn_app (goodIn_of _ (by decide +kernel)) ggX9_tick_X9_refused
set_option maxRecDepth 20000 in
theorem ggX9_tick_X9_choose : GoodIn wsX9_tick wsX9_choose := goodIn_r _ [15, 16, 17, 18, 19, 20, 21, 22, 23, 24, 25, 26, 27, 28, 29, 30, 5, 31, 32, 33, 34, 35, 36, 37, 38, 39, 40, 41, 42, 1, 43, 44, 45, 46, 47, 48, 49, 50, 51, 52, 53, 54, 55, 56, 57, 58, 59, 67, 68, 69, 70, 71, 72, 73, 74, 75, 76, 77, 78, 79, 80, 81, 82, 83, 84, 85, 86, 87, 88, 89, 90, 91, 92, 93, 94, 95, 96, 97, 98, 99, 100, 101, 102, 103, 104, 105, 106, 107, 108, 109] (by decide +kernel) (by decide +kernel)
set_option maxRecDepth 20000 in
theorem gX9_tick_X9_choose : GoodIn wsX9_tick (wsV RX9 204 RX9 yX9_choose wsX9_choose) := goodIn_app (goodIn_of _ (by decide +kernel)) ggX9_tick_X9_choose
set_option maxRecDepth 20000 in
theorem ggX9_tick_X9_send : GoodIn wsX9_tick wsX9_send := goodIn_r _ [63, 24, 25, 2, 64, 65, 37, 1, 39, 26, 66, 67, 68, 69, 70, 71, 72, 73, 74, 75, 76, 77, 78, 79, 80, 81, 82, 83, 84, 85, 86, 87, 88, 89, 90, 91, 92, 93, 94, 95, 96, 97, 98, 99, 100, 101, 102, 103, 104, 105, 106, 107, 108, 109] (by decide +kernel) (by decide +kernel)
set_option maxRecDepth 20000 in
theorem gX9_tick_X9_send : GoodIn wsX9_tick (wsV RX9 207 RX9 yX9_send wsX9_send) := goodIn_app (goodIn_of _ (by decide +kernel)) ggX9_tick_X9_send
theorem dX9_tick_0 : decode cX9_tick 0 = .ok (.aload_n 0, 1) := by decide +kernel
theorem dX9_tick_1 : decode cX9_tick 1 = .ok (.iload_n 1, 1) := by decide +kernel
theorem dX9_tick_2 : decode cX9_tick 2 = .ok (.iconst 1, 1) := by decide +kernel
theorem dX9_tick_3 : decode cX9_tick 3 = .ok (.sipush 1000, 3) := by decide +kernel
theorem dX9_tick_6 : decode cX9_tick 6 = .ok (.invokestatic 118, 3) := by decide +kernel
theorem dX9_tick_9 : decode cX9_tick 9 = .ok (.ifCond .eq 7, 3) := by decide +kernel
theorem dX9_tick_12 : decode cX9_tick 12 = .ok (.iconst 0, 1) := by decide +kernel
theorem dX9_tick_13 : decode cX9_tick 13 = .ok (.goto 4, 3) := by decide +kernel
theorem dX9_tick_16 : decode cX9_tick 16 = .ok (.iconst 1, 1) := by decide +kernel
theorem dX9_tick_17 : decode cX9_tick 17 = .ok (.invokevirtual 122, 3) := by decide +kernel
theorem dX9_tick_20 : decode cX9_tick 20 = .ok (.ifCond .eq 5, 3) := by decide +kernel
theorem dX9_tick_23 : decode cX9_tick 23 = .ok (.iconst 0, 1) := by decide +kernel
theorem dX9_tick_24 : decode cX9_tick 24 = .ok (.ireturn, 1) := by decide +kernel
theorem dX9_tick_25 : decode cX9_tick 25 = .ok (.iconst 0, 1) := by decide +kernel
theorem dX9_tick_26 : decode cX9_tick 26 = .ok (.istore_n 2, 1) := by decide +kernel
theorem dX9_tick_27 : decode cX9_tick 27 = .ok (.iconst 0, 1) := by decide +kernel
theorem dX9_tick_28 : decode cX9_tick 28 = .ok (.istore_n 3, 1) := by decide +kernel
theorem dX9_tick_29 : decode cX9_tick 29 = .ok (.iload_n 3, 1) := by decide +kernel
theorem dX9_tick_30 : decode cX9_tick 30 = .ok (.iload_n 1, 1) := by decide +kernel
theorem dX9_tick_31 : decode cX9_tick 31 = .ok (.if_icmp .ge 102, 3) := by decide +kernel
theorem dX9_tick_34 : decode cX9_tick 34 = .ok (.aload_n 0, 1) := by decide +kernel
theorem dX9_tick_35 : decode cX9_tick 35 = .ok (.dup, 1) := by decide +kernel
theorem dX9_tick_36 : decode cX9_tick 36 = .ok (.getfield 126, 3) := by decide +kernel
theorem dX9_tick_39 : decode cX9_tick 39 = .ok (.iconst 1, 1) := by decide +kernel
theorem dX9_tick_40 : decode cX9_tick 40 = .ok (.iadd, 1) := by decide +kernel
theorem dX9_tick_41 : decode cX9_tick 41 = .ok (.putfield 126, 3) := by decide +kernel
theorem dX9_tick_44 : decode cX9_tick 44 = .ok (.aload_n 0, 1) := by decide +kernel
theorem dX9_tick_45 : decode cX9_tick 45 = .ok (.getfield 198, 3) := by decide +kernel
theorem dX9_tick_48 : decode cX9_tick 48 = .ok (.aload_n 0, 1) := by decide +kernel
theorem dX9_tick_49 : decode cX9_tick 49 = .ok (.getfield 126, 3) := by decide +kernel
theorem dX9_tick_52 : decode cX9_tick 52 = .ok (.i2d, 1) := by decide +kernel
theorem dX9_tick_53 : decode cX9_tick 53 = .ok (.dcmp .g, 1) := by decide +kernel
theorem dX9_tick_54 : decode cX9_tick 54 = .ok (.ifCond .gt 7, 3) := by decide +kernel
theorem dX9_tick_57 : decode cX9_tick 57 = .ok (.iconst 1, 1) := by decide +kernel
theorem dX9_tick_58 : decode cX9_tick 58 = .ok (.goto 4, 3) := by decide +kernel
theorem dX9_tick_61 : decode cX9_tick 61 = .ok (.iconst 0, 1) := by decide +kernel
theorem dX9_tick_62 : decode cX9_tick 62 = .ok (.istore 4, 2) := by decide +kernel
theorem dX9_tick_64 : decode cX9_tick 64 = .ok (.iload 4, 2) := by decide +kernel
theorem dX9_tick_66 : decode cX9_tick 66 = .ok (.ifCond .eq 61, 3) := by decide +kernel
theorem dX9_tick_69 : decode cX9_tick 69 = .ok (.aload_n 0, 1) := by decide +kernel
theorem dX9_tick_70 : decode cX9_tick 70 = .ok (.invokevirtual 204, 3) := by decide +kernel
theorem dX9_tick_73 : decode cX9_tick 73 = .ok (.istore 5, 2) := by decide +kernel
theorem dX9_tick_75 : decode cX9_tick 75 = .ok (.iload 5, 2) := by decide +kernel
theorem dX9_tick_77 : decode cX9_tick 77 = .ok (.ifCond .ge 18, 3) := by decide +kernel
theorem dX9_tick_80 : decode cX9_tick 80 = .ok (.aload_n 0, 1) := by decide +kernel
theorem dX9_tick_81 : decode cX9_tick 81 = .ok (.aload_n 0, 1) := by decide +kernel
theorem dX9_tick_82 : decode cX9_tick 82 = .ok (.getfield 126, 3) := by decide +kernel
theorem dX9_tick_85 : decode cX9_tick 85 = .ok (.i2d, 1) := by decide +kernel
theorem dX9_tick_86 : decode cX9_tick 86 = .ok (.putfield 198, 3) := by decide +kernel
theorem dX9_tick_89 : decode cX9_tick 89 = .ok (.iconst 0, 1) := by decide +kernel
theorem dX9_tick_90 : decode cX9_tick 90 = .ok (.istore 4, 2) := by decide +kernel
theorem dX9_tick_92 : decode cX9_tick 92 = .ok (.goto 32, 3) := by decide +kernel
theorem dX9_tick_95 : decode cX9_tick 95 = .ok (.aload_n 0, 1) := by decide +kernel
theorem dX9_tick_96 : decode cX9_tick 96 = .ok (.iload 5, 2) := by decide +kernel
theorem dX9_tick_98 : decode cX9_tick 98 = .ok (.invokevirtual 207, 3) := by decide +kernel
theorem dX9_tick_101 : decode cX9_tick 101 = .ok (.iinc 2 1, 3) := by decide +kernel
theorem dX9_tick_104 : decode cX9_tick 104 = .ok (.aload_n 0, 1) := by decide +kernel
theorem dX9_tick_105 : decode cX9_tick 105 = .ok (.getfield 198, 3) := by decide +kernel
theorem dX9_tick_108 : decode cX9_tick 108 = .ok (.aload_n 0, 1) := by decide +kernel
theorem dX9_tick_109 : decode cX9_tick 109 = .ok (.getfield 126, 3) := by decide +kernel
theorem dX9_tick_112 : decode cX9_tick 112 = .ok (.i2d, 1) := by decide +kernel
theorem dX9_tick_113 : decode cX9_tick 113 = .ok (.dcmp .g, 1) := by decide +kernel
theorem dX9_tick_114 : decode cX9_tick 114 = .ok (.ifCond .gt 7, 3) := by decide +kernel
theorem dX9_tick_117 : decode cX9_tick 117 = .ok (.iconst 1, 1) := by decide +kernel
theorem dX9_tick_118 : decode cX9_tick 118 = .ok (.goto 4, 3) := by decide +kernel
theorem dX9_tick_121 : decode cX9_tick 121 = .ok (.iconst 0, 1) := by decide +kernel
theorem dX9_tick_122 : decode cX9_tick 122 = .ok (.istore 4, 2) := by decide +kernel
theorem dX9_tick_124 : decode cX9_tick 124 = .ok (.goto (-60), 3) := by decide +kernel
theorem dX9_tick_127 : decode cX9_tick 127 = .ok (.iinc 3 1, 3) := by decide +kernel
theorem dX9_tick_130 : decode cX9_tick 130 = .ok (.goto (-101), 3) := by decide +kernel
theorem dX9_tick_133 : decode cX9_tick 133 = .ok (.iload_n 2, 1) := by decide +kernel
theorem dX9_tick_134 : decode cX9_tick 134 = .ok (.ireturn, 1) := by decide +kernel
theorem dX9_isRound_0 : decode cX9_isRound 0 = .ok (.iconst 0, 1) := by decide +kernel
theorem dX9_isRound_1 : decode cX9_isRound 1 = .ok (.istore_n 2, 1) := by decide +kernel
theorem dX9_isRound_2 : decode cX9_isRound 2 = .ok (.iconst 0, 1) := by decide +kernel
theorem dX9_isRound_3 : decode cX9_isRound 3 = .ok (.istore_n 3, 1) := by decide +kernel
theorem dX9_isRound_4 : decode cX9_isRound 4 = .ok (.iload_n 3, 1) := by decide +kernel
theorem dX9_isRound_5 : decode cX9_isRound 5 = .ok (.aload_n 0, 1) := by decide +kernel
theorem dX9_isRound_6 : decode cX9_isRound 6 = .ok (.getfield 158, 3) := by decide +kernel
theorem dX9_isRound_9 : decode cX9_isRound 9 = .ok (.if_icmp .ge 29, 3) := by decide +kernel
theorem dX9_isRound_12 : decode cX9_isRound 12 = .ok (.iload_n 2, 1) := by decide +kernel
theorem dX9_isRound_13 : decode cX9_isRound 13 = .ok (.ifCond .ne 13, 3) := by decide +kernel
theorem dX9_isRound_16 : decode cX9_isRound 16 = .ok (.aload_n 0, 1) := by decide +kernel
theorem dX9_isRound_17 : decode cX9_isRound 17 = .ok (.getfield 95, 3) := by decide +kernel
theorem dX9_isRound_20 : decode cX9_isRound 20 = .ok (.iload_n 3, 1) := by decide +kernel
theorem dX9_isRound_21 : decode cX9_isRound 21 = .ok (.iaload, 1) := by decide +kernel
theorem dX9_isRound_22 : decode cX9_isRound 22 = .ok (.iload_n 1, 1) := by decide +kernel
theorem dX9_isRound_23 : decode cX9_isRound 23 = .ok (.if_icmp .ne 7, 3) := by decide +kernel
theorem dX9_isRound_26 : decode cX9_isRound 26 = .ok (.iconst 1, 1) := by decide +kernel
theorem dX9_isRound_27 : decode cX9_isRound 27 = .ok (.goto 4, 3) := by decide +kernel
theorem dX9_isRound_30 : decode cX9_isRound 30 = .ok (.iconst 0, 1) := by decide +kernel
theorem dX9_isRound_31 : decode cX9_isRound 31 = .ok (.istore_n 2, 1) := by decide +kernel
theorem dX9_isRound_32 : decode cX9_isRound 32 = .ok (.iinc 3 1, 3) := by decide +kernel
theorem dX9_isRound_35 : decode cX9_isRound 35 = .ok (.goto (-31), 3) := by decide +kernel
theorem dX9_isRound_38 : decode cX9_isRound 38 = .ok (.iload_n 2, 1) := by decide +kernel
theorem dX9_isRound_39 : decode cX9_isRound 39 = .ok (.ireturn, 1) := by decide +kernel
set_option maxRecDepth 20000 in
theorem ggX9_count_X9_isIn : GoodIn wsX9_count wsX9_isIn := goodIn_r _ [7] (by decide +kernel) (by decide +kernel)
set_option maxRecDepth 20000 in
theorem gX9_count_X9_isIn : GoodIn wsX9_count (va_wsS RX9 118 yX9_isIn wsX9_isIn) := goodIn_app (goodIn_of _ (by decide +kernel)) ggX9_count_X9_isIn
set_option maxRecDepth 20000 in
theorem ggX9_count_X9_refused : GoodIn wsX9_count wsX9_refused := goodIn_r _ [11, 12, 24, 25, 26, 27, 28, 29, 30, 31, 32, 33, 34, 35, 36, 37, 38, 39, 40, 41, 42, 43, 44, 45, 46, 47, 48, 49, 50, 51, 52, 53, 54, 55, 56, 57, 58, 59, 60, 61, 62, 63, 64, 65, 66] (by decide +kernel) (by decide +kernel)
set_option maxRecDepth 20000 in
theorem gX9_count_X9_refused : GoodIn wsX9_count (wsV RX9 122 RX9 yX9_refused wsX9_refused) := goodIn_app (goodIn_of _ (by decide +kernel)) ggX9_count_X9_refused
set_option maxRecDepth 20000 in
theorem ggX9_count_X9_bytesWaiting : GoodIn wsX9_count wsX9_bytesWaiting := goodIn_r _ [16, 1, 17, 24, 25, 26, 27, 28, 29, 30, 31, 32, 33, 34, 35, 36, 37, 38, 39, 40, 41, 42, 43, 44, 45, 46, 47, 48, 49, 50, 51, 52, 53, 54, 55, 56, 57, 58, 59, 60, 61, 62, 63, 64, 65, 66] (by decide +kernel) (by decide +kernel)
set_option maxRecDepth 20000 in
theorem gX9_count_X9_bytesWaiting : GoodIn wsX9_count (wsV RX9 147 RX9 yX9_bytesWaiting wsX9_bytesWaiting) := goodIn_app (goodIn_of _ (by decide +kernel)) ggX9_count_X9_bytesWaiting
set_option maxRecDepth 20000 in
theorem ggX9_count_X9_isRound : GoodIn wsX9_count wsX9_isRound := goodIn_r _ [21, 22, 23, 24, 25, 26, 27, 28, 29, 30, 31, 32, 33, 34, 35, 36, 37, 38, 39, 40, 41, 42, 43, 44, 45, 46, 47, 48, 49, 50, 51, 52, 53, 54, 55, 56, 57, 58, 59, 60, 61, 62, 63, 64, 65, 66] (by decide +kernel) (by decide +kernel)
set_option maxRecDepth 20000 in
theorem gX9_count_X9_isRound : GoodIn wsX9_count (wsV RX9 210 RX9 yX9_isRound wsX9_isRound) := goodIn_app (goodIn_of _ (by decide +kernel)) ggX9_count_X9_isRound
theorem dX9_count_0 : decode cX9_count 0 = .ok (.aload_n 0, 1) := by decide +kernel
theorem dX9_count_1 : decode cX9_count 1 = .ok (.iload_n 1, 1) := by decide +kernel
theorem dX9_count_2 : decode cX9_count 2 = .ok (.iconst 0, 1) := by decide +kernel
theorem dX9_count_3 : decode cX9_count 3 = .ok (.iconst 5, 1) := by decide +kernel
theorem dX9_count_4 : decode cX9_count 4 = .ok (.invokestatic 118, 3) := by decide +kernel
theorem dX9_count_7 : decode cX9_count 7 = .ok (.ifCond .eq 17, 3) := by decide +kernel
theorem dX9_count_10 : decode cX9_count 10 = .ok (.iload_n 2, 1) := by decide +kernel
theorem dX9_count_11 : decode cX9_count 11 = .ok (.iconst 0, 1) := by decide +kernel
theorem dX9_count_12 : decode cX9_count 12 = .ok (.bipush 9, 2) := by decide +kernel
theorem dX9_count_14 : decode cX9_count 14 = .ok (.invokestatic 118, 3) := by decide +kernel
theorem dX9_count_17 : decode cX9_count 17 = .ok (.ifCond .eq 7, 3) := by decide +kernel
theorem dX9_count_20 : decode cX9_count 20 = .ok (.iconst 0, 1) := by decide +kernel
theorem dX9_count_21 : decode cX9_count 21 = .ok (.goto 4, 3) := by decide +kernel
theorem dX9_count_24 : decode cX9_count 24 = .ok (.iconst 1, 1) := by decide +kernel
theorem dX9_count_25 : decode cX9_count 25 = .ok (.invokevirtual 122, 3) := by decide +kernel
theorem dX9_count_28 : decode cX9_count 28 = .ok (.ifCond .eq 5, 3) := by decide +kernel
theorem dX9_count_31 : decode cX9_count 31 = .ok (.iconst 0, 1) := by decide +kernel
theorem dX9_count_32 : decode cX9_count 32 = .ok (.ireturn, 1) := by decide +kernel
theorem dX9_count_33 : decode cX9_count 33 = .ok (.iload_n 2, 1) := by decide +kernel
theorem dX9_count_34 : decode cX9_count 34 = .ok (.bipush 6, 2) := by decide +kernel
theorem dX9_count_36 : decode cX9_count 36 = .ok (.if_icmp .ne 12, 3) := by decide +kernel
theorem dX9_count_39 : decode cX9_count 39 = .ok (.aload_n 0, 1) := by decide +kernel
theorem dX9_count_40 : decode cX9_count 40 = .ok (.getfield 74, 3) := by decide +kernel
theorem dX9_count_43 : decode cX9_count 43 = .ok (.iload_n 1, 1) := by decide +kernel
theorem dX9_count_44 : decode cX9_count 44 = .ok (.iaload, 1) := by decide +kernel
theorem dX9_count_45 : decode cX9_count 45 = .ok (.goto 55, 3) := by decide +kernel
theorem dX9_count_48 : decode cX9_count 48 = .ok (.iload_n 2, 1) := by decide +kernel
theorem dX9_count_49 : decode cX9_count 49 = .ok (.bipush 7, 2) := by decide +kernel
theorem dX9_count_51 : decode cX9_count 51 = .ok (.if_icmp .ne 11, 3) := by decide +kernel
theorem dX9_count_54 : decode cX9_count 54 = .ok (.aload_n 0, 1) := by decide +kernel
theorem dX9_count_55 : decode cX9_count 55 = .ok (.iload_n 1, 1) := by decide +kernel
theorem dX9_count_56 : decode cX9_count 56 = .ok (.invokevirtual 147, 3) := by decide +kernel
theorem dX9_count_59 : decode cX9_count 59 = .ok (.goto 41, 3) := by decide +kernel
theorem dX9_count_62 : decode cX9_count 62 = .ok (.iload_n 2, 1) := by decide +kernel
theorem dX9_count_63 : decode cX9_count 63 = .ok (.bipush 9, 2) := by decide +kernel
theorem dX9_count_65 : decode cX9_count 65 = .ok (.if_icmp .ne 24, 3) := by decide +kernel
theorem dX9_count_68 : decode cX9_count 68 = .ok (.aload_n 0, 1) := by decide +kernel
theorem dX9_count_69 : decode cX9_count 69 = .ok (.iload_n 1, 1) := by decide +kernel
theorem dX9_count_70 : decode cX9_count 70 = .ok (.invokevirtual 210, 3) := by decide +kernel
theorem dX9_count_73 : decode cX9_count 73 = .ok (.ifCond .eq 12, 3) := by decide +kernel
theorem dX9_count_76 : decode cX9_count 76 = .ok (.aload_n 0, 1) := by decide +kernel
theorem dX9_count_77 : decode cX9_count 77 = .ok (.getfield 98, 3) := by decide +kernel
theorem dX9_count_80 : decode cX9_count 80 = .ok (.iload_n 1, 1) := by decide +kernel
theorem dX9_count_81 : decode cX9_count 81 = .ok (.iaload, 1) := by decide +kernel
theorem dX9_count_82 : decode cX9_count 82 = .ok (.goto 18, 3) := by decide +kernel
theorem dX9_count_85 : decode cX9_count 85 = .ok (.iconst 0, 1) := by decide +kernel
theorem dX9_count_86 : decode cX9_count 86 = .ok (.goto 14, 3) := by decide +kernel
theorem dX9_count_89 : decode cX9_count 89 = .ok (.aload_n 0, 1) := by decide +kernel
theorem dX9_count_90 : decode cX9_count 90 = .ok (.getfield 92, 3) := by decide +kernel
theorem dX9_count_93 : decode cX9_count 93 = .ok (.bipush 10, 2) := by decide +kernel
theorem dX9_count_95 : decode cX9_count 95 = .ok (.iload_n 1, 1) := by decide +kernel
theorem dX9_count_96 : decode cX9_count 96 = .ok (.imul, 1) := by decide +kernel
theorem dX9_count_97 : decode cX9_count 97 = .ok (.iload_n 2, 1) := by decide +kernel
theorem dX9_count_98 : decode cX9_count 98 = .ok (.iadd, 1) := by decide +kernel
theorem dX9_count_99 : decode cX9_count 99 = .ok (.iaload, 1) := by decide +kernel
theorem dX9_count_100 : decode cX9_count 100 = .ok (.ireturn, 1) := by decide +kernel
set_option maxRecDepth 20000 in
theorem ggX9_average_X9_isIn : GoodIn wsX9_average wsX9_isIn := goodIn_r _ [5] (by decide +kernel) (by decide +kernel)
set_option maxRecDepth 20000 in
theorem gX9_average_X9_isIn : GoodIn wsX9_average (va_wsS RX9 118 yX9_isIn wsX9_isIn) := goodIn_app (goodIn_of _ (by decide +kernel)) ggX9_average_X9_isIn
set_option maxRecDepth 20000 in
theorem ggX9_average_X9_refused : GoodIn wsX9_average wsX9_refused := goodIn_r _ [9, 10, 11, 12, 13, 14, 15, 16, 17, 18, 19, 20, 21, 22, 23, 24, 25, 26, 27, 28, 29, 30, 31, 32, 33, 34, 35, 36, 37, 38, 39, 40, 41, 42, 43, 44, 45, 46, 47, 48, 49, 50, 51, 52, 53] (by decide +kernel) (by decide +kernel)
set_option maxRecDepth 20000 in
theorem gX9_average_X9_refused : GoodIn wsX9_average (wsV RX9 122 RX9 yX9_refused wsX9_refused) := goodIn_app (goodIn_of _ (by decide +kernel)) ggX9_average_X9_refused
theorem dX9_average_0 : decode cX9_average 0 = .ok (.aload_n 0, 1) := by decide +kernel
theorem dX9_average_1 : decode cX9_average 1 = .ok (.iload_n 1, 1) := by decide +kernel
theorem dX9_average_2 : decode cX9_average 2 = .ok (.iconst 0, 1) := by decide +kernel
theorem dX9_average_3 : decode cX9_average 3 = .ok (.iconst 5, 1) := by decide +kernel
theorem dX9_average_4 : decode cX9_average 4 = .ok (.invokestatic 118, 3) := by decide +kernel
theorem dX9_average_7 : decode cX9_average 7 = .ok (.ifCond .eq 7, 3) := by decide +kernel
theorem dX9_average_10 : decode cX9_average 10 = .ok (.iconst 0, 1) := by decide +kernel
theorem dX9_average_11 : decode cX9_average 11 = .ok (.goto 4, 3) := by decide +kernel
theorem dX9_average_14 : decode cX9_average 14 = .ok (.iconst 1, 1) := by decide +kernel
theorem dX9_average_15 : decode cX9_average 15 = .ok (.invokevirtual 122, 3) := by decide +kernel
theorem dX9_average_18 : decode cX9_average 18 = .ok (.ifCond .eq 7, 3) := by decide +kernel
theorem dX9_average_21 : decode cX9_average 21 = .ok (.dconst 0, 1) := by decide +kernel
theorem dX9_average_22 : decode cX9_average 22 = .ok (.goto 9, 3) := by decide +kernel
theorem dX9_average_25 : decode cX9_average 25 = .ok (.aload_n 0, 1) := by decide +kernel
theorem dX9_average_26 : decode cX9_average 26 = .ok (.getfield 40, 3) := by decide +kernel
theorem dX9_average_29 : decode cX9_average 29 = .ok (.iload_n 1, 1) := by decide +kernel
theorem dX9_average_30 : decode cX9_average 30 = .ok (.daload, 1) := by decide +kernel
theorem dX9_average_31 : decode cX9_average 31 = .ok (.dreturn, 1) := by decide +kernel
set_option maxRecDepth 20000 in
theorem ggX9_next_X9_isIn : GoodIn wsX9_next wsX9_isIn := goodIn_r _ [7] (by decide +kernel) (by decide +kernel)
set_option maxRecDepth 20000 in
theorem gX9_next_X9_isIn : GoodIn wsX9_next (va_wsS RX9 118 yX9_isIn wsX9_isIn) := goodIn_app (goodIn_of _ (by decide +kernel)) ggX9_next_X9_isIn
set_option maxRecDepth 20000 in
theorem ggX9_next_X9_refused : GoodIn wsX9_next wsX9_refused := goodIn_r _ [11, 12, 13, 14, 15, 16, 17, 18, 19, 20, 21, 22, 23, 24, 25, 26, 27, 28, 29, 30, 31, 32, 33, 34, 35, 36, 37, 38, 39, 40, 41, 42, 43, 44, 45, 46, 47, 48, 49, 50, 51, 52, 53, 54, 55] (by decide +kernel) (by decide +kernel)
set_option maxRecDepth 20000 in
theorem gX9_next_X9_refused : GoodIn wsX9_next (wsV RX9 122 RX9 yX9_refused wsX9_refused) := goodIn_app (goodIn_of _ (by decide +kernel)) ggX9_next_X9_refused
theorem dX9_next_0 : decode cX9_next 0 = .ok (.aload_n 0, 1) := by decide +kernel
theorem dX9_next_1 : decode cX9_next 1 = .ok (.iload_n 1, 1) := by decide +kernel
theorem dX9_next_2 : decode cX9_next 2 = .ok (.iconst 0, 1) := by decide +kernel
theorem dX9_next_3 : decode cX9_next 3 = .ok (.iconst 5, 1) := by decide +kernel
theorem dX9_next_4 : decode cX9_next 4 = .ok (.invokestatic 118, 3) := by decide +kernel
theorem dX9_next_7 : decode cX9_next 7 = .ok (.ifCond .eq 7, 3) := by decide +kernel
theorem dX9_next_10 : decode cX9_next 10 = .ok (.iconst 0, 1) := by decide +kernel
theorem dX9_next_11 : decode cX9_next 11 = .ok (.goto 4, 3) := by decide +kernel
theorem dX9_next_14 : decode cX9_next 14 = .ok (.iconst 1, 1) := by decide +kernel
theorem dX9_next_15 : decode cX9_next 15 = .ok (.invokevirtual 122, 3) := by decide +kernel
theorem dX9_next_18 : decode cX9_next 18 = .ok (.ifCond .eq 7, 3) := by decide +kernel
theorem dX9_next_21 : decode cX9_next 21 = .ok (.dconst 0, 1) := by decide +kernel
theorem dX9_next_22 : decode cX9_next 22 = .ok (.goto 24, 3) := by decide +kernel
theorem dX9_next_25 : decode cX9_next 25 = .ok (.aload_n 0, 1) := by decide +kernel
theorem dX9_next_26 : decode cX9_next 26 = .ok (.getfield 62, 3) := by decide +kernel
theorem dX9_next_29 : decode cX9_next 29 = .ok (.iload_n 1, 1) := by decide +kernel
theorem dX9_next_30 : decode cX9_next 30 = .ok (.baload, 1) := by decide +kernel
theorem dX9_next_31 : decode cX9_next 31 = .ok (.ifCond .eq 12, 3) := by decide +kernel
theorem dX9_next_34 : decode cX9_next 34 = .ok (.aload_n 0, 1) := by decide +kernel
theorem dX9_next_35 : decode cX9_next 35 = .ok (.getfield 65, 3) := by decide +kernel
theorem dX9_next_38 : decode cX9_next 38 = .ok (.iload_n 1, 1) := by decide +kernel
theorem dX9_next_39 : decode cX9_next 39 = .ok (.daload, 1) := by decide +kernel
theorem dX9_next_40 : decode cX9_next 40 = .ok (.goto 6, 3) := by decide +kernel
theorem dX9_next_43 : decode cX9_next 43 = .ok (.ldc2_w 213, 3) := by decide +kernel
theorem dX9_next_46 : decode cX9_next 46 = .ok (.dreturn, 1) := by decide +kernel
theorem dX9_free_0 : decode cX9_free 0 = .ok (.aload_n 0, 1) := by decide +kernel
theorem dX9_free_1 : decode cX9_free 1 = .ok (.iconst 0, 1) := by decide +kernel
theorem dX9_free_2 : decode cX9_free 2 = .ok (.putfield 115, 3) := by decide +kernel
theorem dX9_free_5 : decode cX9_free 5 = .ok (.aload_n 0, 1) := by decide +kernel
theorem dX9_free_6 : decode cX9_free 6 = .ok (.getfield 198, 3) := by decide +kernel
theorem dX9_free_9 : decode cX9_free 9 = .ok (.dreturn, 1) := by decide +kernel
set_option maxRecDepth 20000 in
theorem ggX9_sent_X9_isIn : GoodIn wsX9_sent wsX9_isIn := goodIn_r _ [6] (by decide +kernel) (by decide +kernel)
set_option maxRecDepth 20000 in
theorem gX9_sent_X9_isIn : GoodIn wsX9_sent (va_wsS RX9 118 yX9_isIn wsX9_isIn) := goodIn_app (goodIn_of _ (by decide +kernel)) ggX9_sent_X9_isIn
set_option maxRecDepth 20000 in
theorem ggX9_sent_X9_refused : GoodIn wsX9_sent wsX9_refused := goodIn_r _ [10, 11, 12, 13, 14, 15, 16, 17, 18, 19, 20, 21, 22, 23, 24, 25, 26, 27, 28, 29, 30, 31, 32, 33, 34, 35, 36, 37, 38, 39, 40, 41, 42, 43, 44, 45, 46, 47, 48, 49, 50, 51, 52, 53, 54] (by decide +kernel) (by decide +kernel)
set_option maxRecDepth 20000 in
theorem gX9_sent_X9_refused : GoodIn wsX9_sent (wsV RX9 122 RX9 yX9_refused wsX9_refused) := goodIn_app (goodIn_of _ (by decide +kernel)) ggX9_sent_X9_refused
theorem dX9_sent_0 : decode cX9_sent 0 = .ok (.aload_n 0, 1) := by decide +kernel
theorem dX9_sent_1 : decode cX9_sent 1 = .ok (.iload_n 2, 1) := by decide +kernel
theorem dX9_sent_2 : decode cX9_sent 2 = .ok (.iconst 0, 1) := by decide +kernel
theorem dX9_sent_3 : decode cX9_sent 3 = .ok (.iconst 4, 1) := by decide +kernel
theorem dX9_sent_4 : decode cX9_sent 4 = .ok (.invokestatic 118, 3) := by decide +kernel
theorem dX9_sent_7 : decode cX9_sent 7 = .ok (.ifCond .eq 7, 3) := by decide +kernel
theorem dX9_sent_10 : decode cX9_sent 10 = .ok (.iconst 0, 1) := by decide +kernel
theorem dX9_sent_11 : decode cX9_sent 11 = .ok (.goto 4, 3) := by decide +kernel
theorem dX9_sent_14 : decode cX9_sent 14 = .ok (.iconst 1, 1) := by decide +kernel
theorem dX9_sent_15 : decode cX9_sent 15 = .ok (.invokevirtual 122, 3) := by decide +kernel
theorem dX9_sent_18 : decode cX9_sent 18 = .ok (.ifCond .eq 5, 3) := by decide +kernel
theorem dX9_sent_21 : decode cX9_sent 21 = .ok (.iconst 0, 1) := by decide +kernel
theorem dX9_sent_22 : decode cX9_sent 22 = .ok (.ireturn, 1) := by decide +kernel
theorem dX9_sent_23 : decode cX9_sent 23 = .ok (.iload_n 1, 1) := by decide +kernel
theorem dX9_sent_24 : decode cX9_sent 24 = .ok (.iconst 0, 1) := by decide +kernel
theorem dX9_sent_25 : decode cX9_sent 25 = .ok (.aload_n 0, 1) := by decide +kernel
theorem dX9_sent_26 : decode cX9_sent 26 = .ok (.getfield 201, 3) := by decide +kernel
theorem dX9_sent_29 : decode cX9_sent 29 = .ok (.iconst 1, 1) := by decide +kernel
theorem dX9_sent_30 : decode cX9_sent 30 = .ok (.isub, 1) := by decide +kernel
theorem dX9_sent_31 : decode cX9_sent 31 = .ok (.invokestatic 118, 3) := by decide +kernel
theorem dX9_sent_34 : decode cX9_sent 34 = .ok (.ifCond .eq 16, 3) := by decide +kernel
theorem dX9_sent_37 : decode cX9_sent 37 = .ok (.aload_n 0, 1) := by decide +kernel
theorem dX9_sent_38 : decode cX9_sent 38 = .ok (.getfield 104, 3) := by decide +kernel
theorem dX9_sent_41 : decode cX9_sent 41 = .ok (.iconst 5, 1) := by decide +kernel
theorem dX9_sent_42 : decode cX9_sent 42 = .ok (.iload_n 1, 1) := by decide +kernel
theorem dX9_sent_43 : decode cX9_sent 43 = .ok (.imul, 1) := by decide +kernel
theorem dX9_sent_44 : decode cX9_sent 44 = .ok (.iload_n 2, 1) := by decide +kernel
theorem dX9_sent_45 : decode cX9_sent 45 = .ok (.iadd, 1) := by decide +kernel
theorem dX9_sent_46 : decode cX9_sent 46 = .ok (.iaload, 1) := by decide +kernel
theorem dX9_sent_47 : decode cX9_sent 47 = .ok (.goto 4, 3) := by decide +kernel
theorem dX9_sent_50 : decode cX9_sent 50 = .ok (.iconst (-1), 1) := by decide +kernel
theorem dX9_sent_51 : decode cX9_sent 51 = .ok (.ireturn, 1) := by decide +kernel
set_option maxRecDepth 20000 in
theorem ggX9_round_X9_isIn : GoodIn wsX9_round wsX9_isIn := goodIn_r _ [7] (by decide +kernel) (by decide +kernel)
set_option maxRecDepth 20000 in
theorem gX9_round_X9_isIn : GoodIn wsX9_round (va_wsS RX9 118 yX9_isIn wsX9_isIn) := goodIn_app (goodIn_of _ (by decide +kernel)) ggX9_round_X9_isIn
theorem dX9_round_0 : decode cX9_round 0 = .ok (.aload_n 0, 1) := by decide +kernel
theorem dX9_round_1 : decode cX9_round 1 = .ok (.iconst 0, 1) := by decide +kernel
theorem dX9_round_2 : decode cX9_round 2 = .ok (.putfield 115, 3) := by decide +kernel
theorem dX9_round_5 : decode cX9_round 5 = .ok (.iload_n 1, 1) := by decide +kernel
theorem dX9_round_6 : decode cX9_round 6 = .ok (.iconst 0, 1) := by decide +kernel
theorem dX9_round_7 : decode cX9_round 7 = .ok (.aload_n 0, 1) := by decide +kernel
theorem dX9_round_8 : decode cX9_round 8 = .ok (.getfield 158, 3) := by decide +kernel
theorem dX9_round_11 : decode cX9_round 11 = .ok (.iconst 1, 1) := by decide +kernel
theorem dX9_round_12 : decode cX9_round 12 = .ok (.isub, 1) := by decide +kernel
theorem dX9_round_13 : decode cX9_round 13 = .ok (.invokestatic 118, 3) := by decide +kernel
theorem dX9_round_16 : decode cX9_round 16 = .ok (.ifCond .eq 12, 3) := by decide +kernel
theorem dX9_round_19 : decode cX9_round 19 = .ok (.aload_n 0, 1) := by decide +kernel
theorem dX9_round_20 : decode cX9_round 20 = .ok (.getfield 95, 3) := by decide +kernel
theorem dX9_round_23 : decode cX9_round 23 = .ok (.iload_n 1, 1) := by decide +kernel
theorem dX9_round_24 : decode cX9_round 24 = .ok (.iaload, 1) := by decide +kernel
theorem dX9_round_25 : decode cX9_round 25 = .ok (.goto 4, 3) := by decide +kernel
theorem dX9_round_28 : decode cX9_round 28 = .ok (.iconst (-1), 1) := by decide +kernel
theorem dX9_round_29 : decode cX9_round 29 = .ok (.ireturn, 1) := by decide +kernel
theorem dX9_clock_0 : decode cX9_clock 0 = .ok (.aload_n 0, 1) := by decide +kernel
theorem dX9_clock_1 : decode cX9_clock 1 = .ok (.iconst 0, 1) := by decide +kernel
theorem dX9_clock_2 : decode cX9_clock 2 = .ok (.putfield 115, 3) := by decide +kernel
theorem dX9_clock_5 : decode cX9_clock 5 = .ok (.aload_n 0, 1) := by decide +kernel
theorem dX9_clock_6 : decode cX9_clock 6 = .ok (.getfield 126, 3) := by decide +kernel
theorem dX9_clock_9 : decode cX9_clock 9 = .ok (.ireturn, 1) := by decide +kernel
end
section
set_option maxRecDepth 20000 in
theorem ggL_kind_X8_kind : GoodIn wsL_kind wsX8_kind := goodIn_ca (goodIn_r _ [6, 7, 8, 9, 10, 11, 12, 13, 14, 15, 16, 5, 17, 18, 19, 20, 21, 22, 23, 24, 25, 26, 27, 28, 29, 30, 31, 32, 33, 34, 35, 36, 37, 38, 39, 40, 41, 42, 43, 44, 45, 46, 47, 48, 49, 50, 51, 52, 53, 54, 55, 56, 57, 58, 59, 60, 61, 62, 63, 64, 65, 66, 67, 68, 69, 70, 71, 72, 73, 74, 75, 76] (by decide +kernel) (by decide +kernel)) (goodIn_sub (fun _ h => List.mem_cons_of_mem _ (List.mem_append_right _ h)) (by decide +kernel))
set_option maxRecDepth 20000 in
theorem gL_kind_X8_kind : GoodIn wsL_kind (wsV RL 7 RX8 yX8_kind wsX8_kind) := goodIn_app (goodIn_of _ (by decide +kernel)) ggL_kind_X8_kind
theorem dL_kind_0 : decode cL_kind 0 = .ok (.aload_n 0, 1) := by decide +kernel
theorem dL_kind_1 : decode cL_kind 1 = .ok (.iload_n 1, 1) := by decide +kernel
theorem dL_kind_2 : decode cL_kind 2 = .ok (.iload_n 2, 1) := by decide +kernel
theorem dL_kind_3 : decode cL_kind 3 = .ok (.iload_n 3, 1) := by decide +kernel
theorem dL_kind_4 : decode cL_kind 4 = .ok (.invokevirtual 7, 3) := by decide +kernel
theorem dL_kind_7 : decode cL_kind 7 = .ok (.goto 7, 3) := by decide +kernel
theorem dL_kind_10 : decode cL_kind 10 = .ok (.astore 4, 2) := by decide +kernel
theorem dL_kind_12 : decode cL_kind 12 = .ok (.iconst 1, 1) := by decide +kernel
theorem dL_kind_13 : decode cL_kind 13 = .ok (.ireturn, 1) := by decide +kernel
theorem dL_kind_14 : decode cL_kind 14 = .ok (.iconst 0, 1) := by decide +kernel
theorem dL_kind_15 : decode cL_kind 15 = .ok (.ireturn, 1) := by decide +kernel
set_option maxRecDepth 20000 in
theorem ggL_mean_X8_mean : GoodIn wsL_mean wsX8_mean := goodIn_ca (goodIn_r _ [6, 7, 8, 9, 10, 11, 12, 13, 5, 14, 15, 16, 17, 18, 19, 20, 21, 22, 23, 24, 25, 26, 27, 28, 29, 30, 31, 32, 33, 34, 35, 36, 37, 38, 39, 40, 41, 42, 43, 44, 45, 46, 47, 48, 49, 50, 51, 52, 53, 54, 55, 56, 57] (by decide +kernel) (by decide +kernel)) (goodIn_sub (fun _ h => List.mem_cons_of_mem _ (List.mem_append_right _ h)) (by decide +kernel))
set_option maxRecDepth 20000 in
theorem gL_mean_X8_mean : GoodIn wsL_mean (wsV RL 15 RX8 yX8_mean wsX8_mean) := goodIn_app (goodIn_of _ (by decide +kernel)) ggL_mean_X8_mean
theorem dL_mean_0 : decode cL_mean 0 = .ok (.aload_n 0, 1) := by decide +kernel
theorem dL_mean_1 : decode cL_mean 1 = .ok (.iload_n 1, 1) := by decide +kernel
theorem dL_mean_2 : decode cL_mean 2 = .ok (.dload_n 2, 1) := by decide +kernel
theorem dL_mean_3 : decode cL_mean 3 = .ok (.dload 4, 2) := by decide +kernel
theorem dL_mean_5 : decode cL_mean 5 = .ok (.dload 6, 2) := by decide +kernel
theorem dL_mean_7 : decode cL_mean 7 = .ok (.dload 8, 2) := by decide +kernel
theorem dL_mean_9 : decode cL_mean 9 = .ok (.invokevirtual 15, 3) := by decide +kernel
theorem dL_mean_12 : decode cL_mean 12 = .ok (.goto 7, 3) := by decide +kernel
theorem dL_mean_15 : decode cL_mean 15 = .ok (.astore 10, 2) := by decide +kernel
theorem dL_mean_17 : decode cL_mean 17 = .ok (.iconst 1, 1) := by decide +kernel
theorem dL_mean_18 : decode cL_mean 18 = .ok (.ireturn, 1) := by decide +kernel
theorem dL_mean_19 : decode cL_mean 19 = .ok (.iconst 0, 1) := by decide +kernel
theorem dL_mean_20 : decode cL_mean 20 = .ok (.ireturn, 1) := by decide +kernel
set_option maxRecDepth 20000 in
theorem ggL_delay_X8_delay : GoodIn wsL_delay wsX8_delay := goodIn_ca (goodIn_r _ [6, 7, 8, 9, 10, 11, 12, 13, 5, 14, 15, 16, 17, 18, 19, 20, 21, 22, 23, 24, 25, 26, 27, 28, 29, 30, 31, 32, 33, 34, 35, 36, 37, 38, 39, 40, 41, 42, 43, 44, 45, 46, 47, 48, 49, 50, 51, 52, 53, 54, 55, 56] (by decide +kernel) (by decide +kernel)) (goodIn_sub (fun _ h => List.mem_cons_of_mem _ (List.mem_append_right _ h)) (by decide +kernel))
set_option maxRecDepth 20000 in
theorem gL_delay_X8_delay : GoodIn wsL_delay (wsV RL 19 RX8 yX8_delay wsX8_delay) := goodIn_app (goodIn_of _ (by decide +kernel)) ggL_delay_X8_delay
theorem dL_delay_0 : decode cL_delay 0 = .ok (.aload_n 0, 1) := by decide +kernel
theorem dL_delay_1 : decode cL_delay 1 = .ok (.iload_n 1, 1) := by decide +kernel
theorem dL_delay_2 : decode cL_delay 2 = .ok (.dload_n 2, 1) := by decide +kernel
theorem dL_delay_3 : decode cL_delay 3 = .ok (.dload 4, 2) := by decide +kernel
theorem dL_delay_5 : decode cL_delay 5 = .ok (.invokevirtual 19, 3) := by decide +kernel
theorem dL_delay_8 : decode cL_delay 8 = .ok (.goto 7, 3) := by decide +kernel
theorem dL_delay_11 : decode cL_delay 11 = .ok (.astore 6, 2) := by decide +kernel
theorem dL_delay_13 : decode cL_delay 13 = .ok (.iconst 1, 1) := by decide +kernel
theorem dL_delay_14 : decode cL_delay 14 = .ok (.ireturn, 1) := by decide +kernel
theorem dL_delay_15 : decode cL_delay 15 = .ok (.iconst 0, 1) := by decide +kernel
theorem dL_delay_16 : decode cL_delay 16 = .ok (.ireturn, 1) := by decide +kernel
set_option maxRecDepth 20000 in
theorem ggL_link_X8_link : GoodIn wsL_link wsX8_link := goodIn_ca (goodIn_r _ [6, 7, 8, 9, 10, 11, 12, 13, 14, 15, 16, 17, 18, 19, 20, 21, 22, 23, 24] (by decide +kernel) (by decide +kernel)) (goodIn_sub (fun _ h => List.mem_cons_of_mem _ (List.mem_append_right _ h)) (by decide +kernel))
set_option maxRecDepth 20000 in
theorem gL_link_X8_link : GoodIn wsL_link (wsV RL 23 RX8 yX8_link wsX8_link) := goodIn_app (goodIn_of _ (by decide +kernel)) ggL_link_X8_link
theorem dL_link_0 : decode cL_link 0 = .ok (.aload_n 0, 1) := by decide +kernel
theorem dL_link_1 : decode cL_link 1 = .ok (.dload_n 1, 1) := by decide +kernel
theorem dL_link_2 : decode cL_link 2 = .ok (.iload_n 3, 1) := by decide +kernel
theorem dL_link_3 : decode cL_link 3 = .ok (.invokevirtual 23, 3) := by decide +kernel
theorem dL_link_6 : decode cL_link 6 = .ok (.goto 7, 3) := by decide +kernel
theorem dL_link_9 : decode cL_link 9 = .ok (.astore 4, 2) := by decide +kernel
theorem dL_link_11 : decode cL_link 11 = .ok (.iconst 1, 1) := by decide +kernel
theorem dL_link_12 : decode cL_link 12 = .ok (.ireturn, 1) := by decide +kernel
theorem dL_link_13 : decode cL_link 13 = .ok (.iconst 0, 1) := by decide +kernel
theorem dL_link_14 : decode cL_link 14 = .ok (.ireturn, 1) := by decide +kernel
set_option maxRecDepth 20000 in
theorem ggL_coin_X8_coin : GoodIn wsL_coin wsX8_coin := goodIn_ca (goodIn_ca (goodIn_r _ [7, 8, 9, 10, 11, 12, 13, 14, 15, 16, 17, 18, 19, 20, 21, 22, 23, 24, 25, 26, 27, 28, 29, 30, 31, 32, 33, 34, 35, 36, 37, 38, 39, 40, 41, 42, 43, 44, 45, 46] (by decide +kernel) (by decide +kernel)) (goodIn_sub (fun _ h => List.mem_cons_of_mem _ (List.mem_append_left _ (List.mem_append_right _ h))) (by decide +kernel))) (goodIn_sub (fun _ h => List.mem_cons_of_mem _ (List.mem_append_right _ h)) (by decide +kernel))
set_option maxRecDepth 20000 in
theorem gL_coin_X8_coin : GoodIn wsL_coin (wsV RL 27 RX8 yX8_coin wsX8_coin) := goodIn_app (goodIn_of _ (by decide +kernel)) ggL_coin_X8_coin
theorem dL_coin_0 : decode cL_coin 0 = .ok (.aload_n 3, 1) := by decide +kernel
theorem dL_coin_1 : decode cL_coin 1 = .ok (.iconst 0, 1) := by decide +kernel
theorem dL_coin_2 : decode cL_coin 2 = .ok (.aload_n 0, 1) := by decide +kernel
theorem dL_coin_3 : decode cL_coin 3 = .ok (.dload_n 1, 1) := by decide +kernel
theorem dL_coin_4 : decode cL_coin 4 = .ok (.invokevirtual 27, 3) := by decide +kernel
theorem dL_coin_7 : decode cL_coin 7 = .ok (.i2l, 1) := by decide +kernel
theorem dL_coin_8 : decode cL_coin 8 = .ok (.lastore, 1) := by decide +kernel
theorem dL_coin_9 : decode cL_coin 9 = .ok (.goto 11, 3) := by decide +kernel
theorem dL_coin_12 : decode cL_coin 12 = .ok (.astore 4, 2) := by decide +kernel
theorem dL_coin_14 : decode cL_coin 14 = .ok (.iconst 1, 1) := by decide +kernel
theorem dL_coin_15 : decode cL_coin 15 = .ok (.ireturn, 1) := by decide +kernel
theorem dL_coin_16 : decode cL_coin 16 = .ok (.astore 4, 2) := by decide +kernel
theorem dL_coin_18 : decode cL_coin 18 = .ok (.iconst 2, 1) := by decide +kernel
theorem dL_coin_19 : decode cL_coin 19 = .ok (.ireturn, 1) := by decide +kernel
theorem dL_coin_20 : decode cL_coin 20 = .ok (.iconst 0, 1) := by decide +kernel
theorem dL_coin_21 : decode cL_coin 21 = .ok (.ireturn, 1) := by decide +kernel
set_option maxRecDepth 20000 in
theorem ggL_come_X8_come : GoodIn wsL_come wsX8_come := goodIn_ca (goodIn_r _ [6, 7, 8, 9, 10, 11, 12, 13, 14, 15, 16, 17, 18, 19, 20, 21, 22, 23, 24, 5, 25, 26, 27, 28, 29, 30, 31, 32, 33, 34, 35, 36, 37, 38, 39, 40, 41, 42, 43, 44, 45, 46, 47, 48, 49, 50, 51, 52, 53, 54, 55, 56, 57, 58, 59, 60, 61, 62, 63, 64, 65, 66, 67, 68, 69, 70, 71, 72, 73, 74, 75, 76, 77, 78, 79, 80, 81, 82, 83, 84, 85, 86, 87, 88, 89, 90, 91, 92, 93, 94, 95, 96, 97, 98, 99, 100, 101, 102, 103, 104, 105, 106, 107, 108, 109, 110, 111, 112, 113, 114, 115, 116, 117, 118, 119, 120, 121, 122, 123, 124, 125, 126, 127, 128, 129, 130, 131, 132, 133, 134, 135, 136, 137, 138, 139, 140, 141, 142, 143, 144, 145, 146, 147, 148, 149, 150, 151, 152, 153, 154, 155, 156, 157, 158, 159, 160, 161, 162, 163, 164, 165, 166, 167, 168, 169, 170, 171, 172, 173, 174, 175] (by decide +kernel) (by decide +kernel)) (goodIn_sub (fun _ h => List.mem_cons_of_mem _ (List.mem_append_right _ h)) (by decide +kernel))
set_option maxRecDepth 20000 in
theorem gL_come_X8_come : GoodIn wsL_come (wsV RL 33 RX8 yX8_come wsX8_come) := goodIn_app (goodIn_of _ (by decide +kernel)) ggL_come_X8_come
theorem dL_come_0 : decode cL_come 0 = .ok (.aload 4, 2) := by decide +kernel
theorem dL_come_2 : decode cL_come 2 = .ok (.iconst 0, 1) := by decide +kernel
theorem dL_come_3 : decode cL_come 3 = .ok (.aload_n 0, 1) := by decide +kernel
theorem dL_come_4 : decode cL_come 4 = .ok (.iload_n 1, 1) := by decide +kernel
theorem dL_come_5 : decode cL_come 5 = .ok (.iload_n 2, 1) := by decide +kernel
theorem dL_come_6 : decode cL_come 6 = .ok (.iload_n 3, 1) := by decide +kernel
theorem dL_come_7 : decode cL_come 7 = .ok (.invokevirtual 33, 3) := by decide +kernel
theorem dL_come_10 : decode cL_come 10 = .ok (.i2l, 1) := by decide +kernel
theorem dL_come_11 : decode cL_come 11 = .ok (.lastore, 1) := by decide +kernel
theorem dL_come_12 : decode cL_come 12 = .ok (.goto 7, 3) := by decide +kernel
theorem dL_come_15 : decode cL_come 15 = .ok (.astore 5, 2) := by decide +kernel
theorem dL_come_17 : decode cL_come 17 = .ok (.iconst 1, 1) := by decide +kernel
theorem dL_come_18 : decode cL_come 18 = .ok (.ireturn, 1) := by decide +kernel
theorem dL_come_19 : decode cL_come 19 = .ok (.iconst 0, 1) := by decide +kernel
theorem dL_come_20 : decode cL_come 20 = .ok (.ireturn, 1) := by decide +kernel
set_option maxRecDepth 20000 in
theorem ggL_tick_X8_tick : GoodIn wsL_tick wsX8_tick := goodIn_ca (goodIn_r _ [6, 7, 8, 9, 10, 11, 5, 12, 13, 14, 15, 16, 17, 18, 19, 20, 21, 22, 23, 24, 25, 26, 27, 28, 29, 30, 31, 32, 33, 34, 35, 36, 37, 38, 39, 40, 41, 42, 43, 44, 45, 46, 47, 48, 49, 50, 51, 52, 53, 54, 55, 56, 57, 58, 59, 60, 61, 62, 63, 64, 65, 66, 67, 68, 69, 70, 71, 72, 73, 74, 75, 76, 77, 78, 79, 80, 81, 82, 83, 84, 85, 86, 87, 88, 89, 90, 91, 92, 93, 94, 95, 96, 97, 98, 99, 100, 101, 102, 103, 104, 105, 106, 107, 108, 109, 110, 111, 112, 113, 114, 115, 116, 117, 118, 119, 120, 121, 122, 123, 124, 125, 126, 127, 128, 129, 130, 131, 132, 133, 134, 135, 136, 137, 138, 139, 140, 141, 142, 143, 144, 145, 146, 147, 148, 149, 150, 151, 152, 153, 154, 155, 156, 157, 158, 159, 160, 161, 162, 163, 164, 165, 166, 167, 168, 169, 170, 171, 172, 173, 174, 175, 176, 177, 178, 179, 180, 181, 182, 183, 184, 185, 186, 187, 188, 189, 190, 191, 192, 193, 194, 195, 196, 197, 198, 199] (by decide +kernel) (by decide +kernel)) (goodIn_sub (fun _ h => List.mem_cons_of_mem _ (List.mem_append_right _ h)) (by decide +kernel))
set_option maxRecDepth 20000 in
theorem gL_tick_X8_tick : GoodIn wsL_tick (wsV RL 37 RX8 yX8_tick wsX8_tick) := goodIn_app (goodIn_of _ (by decide +kernel)) ggL_tick_X8_tick
theorem dL_tick_0 : decode cL_tick 0 = .ok (.aload_n 2, 1) := by decide +kernel
theorem dL_tick_1 : decode cL_tick 1 = .ok (.iconst 0, 1) := by decide +kernel
theorem dL_tick_2 : decode cL_tick 2 = .ok (.aload_n 0, 1) := by decide +kernel
theorem dL_tick_3 : decode cL_tick 3 = .ok (.iload_n 1, 1) := by decide +kernel
theorem dL_tick_4 : decode cL_tick 4 = .ok (.invokevirtual 37, 3) := by decide +kernel
theorem dL_tick_7 : decode cL_tick 7 = .ok (.i2l, 1) := by decide +kernel
theorem dL_tick_8 : decode cL_tick 8 = .ok (.lastore, 1) := by decide +kernel
theorem dL_tick_9 : decode cL_tick 9 = .ok (.goto 6, 3) := by decide +kernel
theorem dL_tick_12 : decode cL_tick 12 = .ok (.astore_n 3, 1) := by decide +kernel
theorem dL_tick_13 : decode cL_tick 13 = .ok (.iconst 1, 1) := by decide +kernel
theorem dL_tick_14 : decode cL_tick 14 = .ok (.ireturn, 1) := by decide +kernel
theorem dL_tick_15 : decode cL_tick 15 = .ok (.iconst 0, 1) := by decide +kernel
theorem dL_tick_16 : decode cL_tick 16 = .ok (.ireturn, 1) := by decide +kernel
set_option maxRecDepth 20000 in
theorem ggL_count_X8_count : GoodIn wsL_count wsX8_count := goodIn_ca (goodIn_r _ [6, 7, 8, 9, 10, 11, 12, 13, 14, 15, 16, 17, 18, 19, 20, 21, 22, 5, 23, 24, 25, 26, 27, 28, 29, 30, 31, 32, 33, 34, 35, 36, 37, 38, 39, 40, 41, 42, 43, 44, 45, 46, 47, 48, 49, 50, 51, 52, 53, 54] (by decide +kernel) (by decide +kernel)) (goodIn_sub (fun _ h => List.mem_cons_of_mem _ (List.mem_append_right _ h)) (by decide +kernel))
set_option maxRecDepth 20000 in
theorem gL_count_X8_count : GoodIn wsL_count (wsV RL 41 RX8 yX8_count wsX8_count) := goodIn_app (goodIn_of _ (by decide +kernel)) ggL_count_X8_count
theorem dL_count_0 : decode cL_count 0 = .ok (.aload_n 3, 1) := by decide +kernel
theorem dL_count_1 : decode cL_count 1 = .ok (.iconst 0, 1) := by decide +kernel
theorem dL_count_2 : decode cL_count 2 = .ok (.aload_n 0, 1) := by decide +kernel
theorem dL_count_3 : decode cL_count 3 = .ok (.iload_n 1, 1) := by decide +kernel
theorem dL_count_4 : decode cL_count 4 = .ok (.iload_n 2, 1) := by decide +kernel
theorem dL_count_5 : decode cL_count 5 = .ok (.invokevirtual 41, 3) := by decide +kernel
theorem dL_count_8 : decode cL_count 8 = .ok (.i2l, 1) := by decide +kernel
theorem dL_count_9 : decode cL_count 9 = .ok (.lastore, 1) := by decide +kernel
theorem dL_count_10 : decode cL_count 10 = .ok (.goto 7, 3) := by decide +kernel
theorem dL_count_13 : decode cL_count 13 = .ok (.astore 4, 2) := by decide +kernel
theorem dL_count_15 : decode cL_count 15 = .ok (.iconst 1, 1) := by decide +kernel
theorem dL_count_16 : decode cL_count 16 = .ok (.ireturn, 1) := by decide +kernel
theorem dL_count_17 : decode cL_count 17 = .ok (.iconst 0, 1) := by decide +kernel
theorem dL_count_18 : decode cL_count 18 = .ok (.ireturn, 1) := by decide +kernel
set_option maxRecDepth 20000 in
theorem ggL_average_X8_average : GoodIn wsL_average wsX8_average := goodIn_ca (goodIn_r _ [6, 7, 8, 9, 10, 11, 5, 12, 13, 14, 15, 16, 17, 18, 19, 20, 21, 22, 23, 24, 25, 26, 27, 28, 29, 30, 31, 32, 33, 34, 35, 36, 37, 38, 39, 40, 41, 42, 43, 44, 45, 46, 47, 48] (by decide +kernel) (by decide +kernel)) (goodIn_sub (fun _ h => List.mem_cons_of_mem _ (List.mem_append_right _ h)) (by decide +kernel))
set_option maxRecDepth 20000 in
theorem gL_average_X8_average : GoodIn wsL_average (wsV RL 45 RX8 yX8_average wsX8_average) := goodIn_app (goodIn_of _ (by decide +kernel)) ggL_average_X8_average
theorem dL_average_0 : decode cL_average 0 = .ok (.aload_n 2, 1) := by decide +kernel
theorem dL_average_1 : decode cL_average 1 = .ok (.iconst 0, 1) := by decide +kernel
theorem dL_average_2 : decode cL_average 2 = .ok (.aload_n 0, 1) := by decide +kernel
theorem dL_average_3 : decode cL_average 3 = .ok (.iload_n 1, 1) := by decide +kernel
theorem dL_average_4 : decode cL_average 4 = .ok (.invokevirtual 45, 3) := by decide +kernel
theorem dL_average_7 : decode cL_average 7 = .ok (.dastore, 1) := by decide +kernel
theorem dL_average_8 : decode cL_average 8 = .ok (.goto 6, 3) := by decide +kernel
theorem dL_average_11 : decode cL_average 11 = .ok (.astore_n 3, 1) := by decide +kernel
theorem dL_average_12 : decode cL_average 12 = .ok (.iconst 1, 1) := by decide +kernel
theorem dL_average_13 : decode cL_average 13 = .ok (.ireturn, 1) := by decide +kernel
theorem dL_average_14 : decode cL_average 14 = .ok (.iconst 0, 1) := by decide +kernel
theorem dL_average_15 : decode cL_average 15 = .ok (.ireturn, 1) := by decide +kernel
set_option maxRecDepth 20000 in
theorem ggL_next_X8_next : GoodIn wsL_next wsX8_next := goodIn_ca (goodIn_r _ [6, 7, 8, 9, 10, 11, 12, 13, 5, 14, 15, 16, 17, 18, 19, 20, 21, 22, 23, 24, 25, 26, 27, 28, 29, 30, 31, 32, 33, 34, 35, 36, 37, 38, 39, 40, 41, 42, 43, 44, 45, 46, 47, 48, 49, 50, 51] (by decide +kernel) (by decide +kernel)) (goodIn_sub (fun _ h => List.mem_cons_of_mem _ (List.mem_append_right _ h)) (by decide +kernel))
set_option maxRecDepth 20000 in
theorem gL_next_X8_next : GoodIn wsL_next (wsV RL 49 RX8 yX8_next wsX8_next) := goodIn_app (goodIn_of _ (by decide +kernel)) ggL_next_X8_next
theorem dL_next_0 : decode cL_next 0 = .ok (.aload_n 2, 1) := by decide +kernel
theorem dL_next_1 : decode cL_next 1 = .ok (.iconst 0, 1) := by decide +kernel
theorem dL_next_2 : decode cL_next 2 = .ok (.aload_n 0, 1) := by decide +kernel
theorem dL_next_3 : decode cL_next 3 = .ok (.iload_n 1, 1) := by decide +kernel
theorem dL_next_4 : decode cL_next 4 = .ok (.invokevirtual 49, 3) := by decide +kernel
theorem dL_next_7 : decode cL_next 7 = .ok (.dastore, 1) := by decide +kernel
theorem dL_next_8 : decode cL_next 8 = .ok (.goto 6, 3) := by decide +kernel
theorem dL_next_11 : decode cL_next 11 = .ok (.astore_n 3, 1) := by decide +kernel
theorem dL_next_12 : decode cL_next 12 = .ok (.iconst 1, 1) := by decide +kernel
theorem dL_next_13 : decode cL_next 13 = .ok (.ireturn, 1) := by decide +kernel
theorem dL_next_14 : decode cL_next 14 = .ok (.iconst 0, 1) := by decide +kernel
theorem dL_next_15 : decode cL_next 15 = .ok (.ireturn, 1) := by decide +kernel
set_option maxRecDepth 20000 in
theorem ggL_sent_X8_sent : GoodIn wsL_sent wsX8_sent := goodIn_ca (goodIn_r _ [6, 7, 8, 9, 10, 11, 12, 13, 14, 15, 16, 17, 18, 19, 20, 21, 22, 23, 24, 25, 26, 27, 28, 29, 30, 31, 32, 33, 34, 35, 36, 37, 38, 39, 40, 41, 42, 43, 44, 45, 46, 47, 48, 49, 50, 51, 52, 53, 54, 55, 56, 57, 58, 59, 60, 61] (by decide +kernel) (by decide +kernel)) (goodIn_sub (fun _ h => List.mem_cons_of_mem _ (List.mem_append_right _ h)) (by decide +kernel))
set_option maxRecDepth 20000 in
theorem gL_sent_X8_sent : GoodIn wsL_sent (wsV RL 52 RX8 yX8_sent wsX8_sent) := goodIn_app (goodIn_of _ (by decide +kernel)) ggL_sent_X8_sent
theorem dL_sent_0 : decode cL_sent 0 = .ok (.aload_n 3, 1) := by decide +kernel
theorem dL_sent_1 : decode cL_sent 1 = .ok (.iconst 0, 1) := by decide +kernel
theorem dL_sent_2 : decode cL_sent 2 = .ok (.aload_n 0, 1) := by decide +kernel
theorem dL_sent_3 : decode cL_sent 3 = .ok (.iload_n 1, 1) := by decide +kernel
theorem dL_sent_4 : decode cL_sent 4 = .ok (.iload_n 2, 1) := by decide +kernel
theorem dL_sent_5 : decode cL_sent 5 = .ok (.invokevirtual 52, 3) := by decide +kernel
theorem dL_sent_8 : decode cL_sent 8 = .ok (.i2l, 1) := by decide +kernel
theorem dL_sent_9 : decode cL_sent 9 = .ok (.lastore, 1) := by decide +kernel
theorem dL_sent_10 : decode cL_sent 10 = .ok (.goto 7, 3) := by decide +kernel
theorem dL_sent_13 : decode cL_sent 13 = .ok (.astore 4, 2) := by decide +kernel
theorem dL_sent_15 : decode cL_sent 15 = .ok (.iconst 1, 1) := by decide +kernel
theorem dL_sent_16 : decode cL_sent 16 = .ok (.ireturn, 1) := by decide +kernel
theorem dL_sent_17 : decode cL_sent 17 = .ok (.iconst 0, 1) := by decide +kernel
theorem dL_sent_18 : decode cL_sent 18 = .ok (.ireturn, 1) := by decide +kernel
theorem dL_law_0 : decode cL_law 0 = .ok (.new 8, 3) := by decide +kernel
theorem dL_law_3 : decode cL_law 3 = .ok (.dup, 1) := by decide +kernel
theorem dL_law_4 : decode cL_law 4 = .ok (.invokespecial 55, 3) := by decide +kernel
theorem dL_law_7 : decode cL_law 7 = .ok (.astore_n 1, 1) := by decide +kernel
theorem dL_law_8 : decode cL_law 8 = .ok (.new 56, 3) := by decide +kernel
theorem dL_law_11 : decode cL_law 11 = .ok (.dup, 1) := by decide +kernel
theorem dL_law_12 : decode cL_law 12 = .ok (.invokespecial 58, 3) := by decide +kernel
theorem dL_law_15 : decode cL_law 15 = .ok (.astore_n 2, 1) := by decide +kernel
theorem dL_law_16 : decode cL_law 16 = .ok (.iconst 1, 1) := by decide +kernel
theorem dL_law_17 : decode cL_law 17 = .ok (.newarray .long, 2) := by decide +kernel
theorem dL_law_19 : decode cL_law 19 = .ok (.astore_n 3, 1) := by decide +kernel
theorem dL_law_20 : decode cL_law 20 = .ok (.iconst 1, 1) := by decide +kernel
theorem dL_law_21 : decode cL_law 21 = .ok (.newarray .double, 2) := by decide +kernel
theorem dL_law_23 : decode cL_law 23 = .ok (.astore 4, 2) := by decide +kernel
theorem dL_law_25 : decode cL_law 25 = .ok (.iconst 0, 1) := by decide +kernel
theorem dL_law_26 : decode cL_law 26 = .ok (.istore 5, 2) := by decide +kernel
theorem dL_law_28 : decode cL_law 28 = .ok (.iload 5, 2) := by decide +kernel
theorem dL_law_30 : decode cL_law 30 = .ok (.aload_n 0, 1) := by decide +kernel
theorem dL_law_31 : decode cL_law 31 = .ok (.arraylength, 1) := by decide +kernel
theorem dL_law_32 : decode cL_law 32 = .ok (.bipush 6, 2) := by decide +kernel
theorem dL_law_34 : decode cL_law 34 = .ok (.isub, 1) := by decide +kernel
theorem dL_law_35 : decode cL_law 35 = .ok (.if_icmp .gt 996, 3) := by decide +kernel
theorem dL_law_38 : decode cL_law 38 = .ok (.aload_n 0, 1) := by decide +kernel
theorem dL_law_39 : decode cL_law 39 = .ok (.iload 5, 2) := by decide +kernel
theorem dL_law_41 : decode cL_law 41 = .ok (.iaload, 1) := by decide +kernel
theorem dL_law_42 : decode cL_law 42 = .ok (.bipush 15, 2) := by decide +kernel
theorem dL_law_44 : decode cL_law 44 = .ok (.iand, 1) := by decide +kernel
theorem dL_law_45 : decode cL_law 45 = .ok (.tableswitch 980 0 13 #[71, 131, 255, 335, 393, 459, 555, 611, 679, 756, 833, 874, 942, 967], 71) := by decide +kernel
theorem dL_law_116 : decode cL_law 116 = .ok (.aload_n 1, 1) := by decide +kernel
theorem dL_law_117 : decode cL_law 117 = .ok (.aload_n 0, 1) := by decide +kernel
theorem dL_law_118 : decode cL_law 118 = .ok (.iload 5, 2) := by decide +kernel
theorem dL_law_120 : decode cL_law 120 = .ok (.iconst 1, 1) := by decide +kernel
theorem dL_law_121 : decode cL_law 121 = .ok (.iadd, 1) := by decide +kernel
theorem dL_law_122 : decode cL_law 122 = .ok (.iaload, 1) := by decide +kernel
theorem dL_law_123 : decode cL_law 123 = .ok (.aload_n 0, 1) := by decide +kernel
theorem dL_law_124 : decode cL_law 124 = .ok (.iload 5, 2) := by decide +kernel
theorem dL_law_126 : decode cL_law 126 = .ok (.iconst 2, 1) := by decide +kernel
theorem dL_law_127 : decode cL_law 127 = .ok (.iadd, 1) := by decide +kernel
theorem dL_law_128 : decode cL_law 128 = .ok (.iaload, 1) := by decide +kernel
theorem dL_law_129 : decode cL_law 129 = .ok (.aload_n 0, 1) := by decide +kernel
theorem dL_law_130 : decode cL_law 130 = .ok (.iload 5, 2) := by decide +kernel
theorem dL_law_132 : decode cL_law 132 = .ok (.iconst 3, 1) := by decide +kernel
theorem dL_law_133 : decode cL_law 133 = .ok (.iadd, 1) := by decide +kernel
theorem dL_law_134 : decode cL_law 134 = .ok (.iaload, 1) := by decide +kernel
theorem dL_law_135 : decode cL_law 135 = .ok (.invokestatic 59, 3) := by decide +kernel
theorem dL_law_138 : decode cL_law 138 = .ok (.istore 6, 2) := by decide +kernel
theorem dL_law_140 : decode cL_law 140 = .ok (.aload_n 2, 1) := by decide +kernel
theorem dL_law_141 : decode cL_law 141 = .ok (.aload_n 0, 1) := by decide +kernel
theorem dL_law_142 : decode cL_law 142 = .ok (.iload 5, 2) := by decide +kernel
theorem dL_law_144 : decode cL_law 144 = .ok (.iconst 1, 1) := by decide +kernel
theorem dL_law_145 : decode cL_law 145 = .ok (.iadd, 1) := by decide +kernel
theorem dL_law_146 : decode cL_law 146 = .ok (.iaload, 1) := by decide +kernel
theorem dL_law_147 : decode cL_law 147 = .ok (.aload_n 0, 1) := by decide +kernel
theorem dL_law_148 : decode cL_law 148 = .ok (.iload 5, 2) := by decide +kernel
theorem dL_law_150 : decode cL_law 150 = .ok (.iconst 2, 1) := by decide +kernel
theorem dL_law_151 : decode cL_law 151 = .ok (.iadd, 1) := by decide +kernel
theorem dL_law_152 : decode cL_law 152 = .ok (.iaload, 1) := by decide +kernel
theorem dL_law_153 : decode cL_law 153 = .ok (.aload_n 0, 1) := by decide +kernel
theorem dL_law_154 : decode cL_law 154 = .ok (.iload 5, 2) := by decide +kernel
theorem dL_law_156 : decode cL_law 156 = .ok (.iconst 3, 1) := by decide +kernel
theorem dL_law_157 : decode cL_law 157 = .ok (.iadd, 1) := by decide +kernel
theorem dL_law_158 : decode cL_law 158 = .ok (.iaload, 1) := by decide +kernel
theorem dL_law_159 : decode cL_law 159 = .ok (.invokevirtual 64, 3) := by decide +kernel
theorem dL_law_162 : decode cL_law 162 = .ok (.aload_n 2, 1) := by decide +kernel
theorem dL_law_163 : decode cL_law 163 = .ok (.invokevirtual 65, 3) := by decide +kernel
theorem dL_law_166 : decode cL_law 166 = .ok (.iload 6, 2) := by decide +kernel
theorem dL_law_168 : decode cL_law 168 = .ok (.if_icmp .eq 5, 3) := by decide +kernel
theorem dL_law_171 : decode cL_law 171 = .ok (.iconst 0, 1) := by decide +kernel
theorem dL_law_172 : decode cL_law 172 = .ok (.ireturn, 1) := by decide +kernel
theorem dL_law_173 : decode cL_law 173 = .ok (.goto 852, 3) := by decide +kernel
theorem dL_law_176 : decode cL_law 176 = .ok (.aload_n 1, 1) := by decide +kernel
theorem dL_law_177 : decode cL_law 177 = .ok (.aload_n 0, 1) := by decide +kernel
theorem dL_law_178 : decode cL_law 178 = .ok (.iload 5, 2) := by decide +kernel
theorem dL_law_180 : decode cL_law 180 = .ok (.iconst 1, 1) := by decide +kernel
theorem dL_law_181 : decode cL_law 181 = .ok (.iadd, 1) := by decide +kernel
theorem dL_law_182 : decode cL_law 182 = .ok (.iaload, 1) := by decide +kernel
theorem dL_law_183 : decode cL_law 183 = .ok (.aload_n 0, 1) := by decide +kernel
theorem dL_law_184 : decode cL_law 184 = .ok (.iload 5, 2) := by decide +kernel
theorem dL_law_186 : decode cL_law 186 = .ok (.iconst 2, 1) := by decide +kernel
theorem dL_law_187 : decode cL_law 187 = .ok (.iadd, 1) := by decide +kernel
theorem dL_law_188 : decode cL_law 188 = .ok (.iaload, 1) := by decide +kernel
theorem dL_law_189 : decode cL_law 189 = .ok (.i2d, 1) := by decide +kernel
theorem dL_law_190 : decode cL_law 190 = .ok (.ldc2_w 69, 3) := by decide +kernel
theorem dL_law_193 : decode cL_law 193 = .ok (.dmul, 1) := by decide +kernel
theorem dL_law_194 : decode cL_law 194 = .ok (.aload_n 0, 1) := by decide +kernel
theorem dL_law_195 : decode cL_law 195 = .ok (.iload 5, 2) := by decide +kernel
theorem dL_law_197 : decode cL_law 197 = .ok (.iconst 3, 1) := by decide +kernel
theorem dL_law_198 : decode cL_law 198 = .ok (.iadd, 1) := by decide +kernel
theorem dL_law_199 : decode cL_law 199 = .ok (.iaload, 1) := by decide +kernel
theorem dL_law_200 : decode cL_law 200 = .ok (.i2d, 1) := by decide +kernel
theorem dL_law_201 : decode cL_law 201 = .ok (.ldc2_w 69, 3) := by decide +kernel
theorem dL_law_204 : decode cL_law 204 = .ok (.dmul, 1) := by decide +kernel
theorem dL_law_205 : decode cL_law 205 = .ok (.aload_n 0, 1) := by decide +kernel
theorem dL_law_206 : decode cL_law 206 = .ok (.iload 5, 2) := by decide +kernel
theorem dL_law_208 : decode cL_law 208 = .ok (.iconst 4, 1) := by decide +kernel
theorem dL_law_209 : decode cL_law 209 = .ok (.iadd, 1) := by decide +kernel
theorem dL_law_210 : decode cL_law 210 = .ok (.iaload, 1) := by decide +kernel
theorem dL_law_211 : decode cL_law 211 = .ok (.i2d, 1) := by decide +kernel
theorem dL_law_212 : decode cL_law 212 = .ok (.ldc2_w 69, 3) := by decide +kernel
theorem dL_law_215 : decode cL_law 215 = .ok (.dmul, 1) := by decide +kernel
theorem dL_law_216 : decode cL_law 216 = .ok (.aload_n 0, 1) := by decide +kernel
theorem dL_law_217 : decode cL_law 217 = .ok (.iload 5, 2) := by decide +kernel
theorem dL_law_219 : decode cL_law 219 = .ok (.iconst 5, 1) := by decide +kernel
theorem dL_law_220 : decode cL_law 220 = .ok (.iadd, 1) := by decide +kernel
theorem dL_law_221 : decode cL_law 221 = .ok (.iaload, 1) := by decide +kernel
theorem dL_law_222 : decode cL_law 222 = .ok (.i2d, 1) := by decide +kernel
theorem dL_law_223 : decode cL_law 223 = .ok (.ldc2_w 69, 3) := by decide +kernel
theorem dL_law_226 : decode cL_law 226 = .ok (.dmul, 1) := by decide +kernel
theorem dL_law_227 : decode cL_law 227 = .ok (.invokestatic 71, 3) := by decide +kernel
theorem dL_law_230 : decode cL_law 230 = .ok (.istore 6, 2) := by decide +kernel
theorem dL_law_232 : decode cL_law 232 = .ok (.aload_n 2, 1) := by decide +kernel
theorem dL_law_233 : decode cL_law 233 = .ok (.aload_n 0, 1) := by decide +kernel
theorem dL_law_234 : decode cL_law 234 = .ok (.iload 5, 2) := by decide +kernel
theorem dL_law_236 : decode cL_law 236 = .ok (.iconst 1, 1) := by decide +kernel
theorem dL_law_237 : decode cL_law 237 = .ok (.iadd, 1) := by decide +kernel
theorem dL_law_238 : decode cL_law 238 = .ok (.iaload, 1) := by decide +kernel
theorem dL_law_239 : decode cL_law 239 = .ok (.aload_n 0, 1) := by decide +kernel
theorem dL_law_240 : decode cL_law 240 = .ok (.iload 5, 2) := by decide +kernel
theorem dL_law_242 : decode cL_law 242 = .ok (.iconst 2, 1) := by decide +kernel
theorem dL_law_243 : decode cL_law 243 = .ok (.iadd, 1) := by decide +kernel
theorem dL_law_244 : decode cL_law 244 = .ok (.iaload, 1) := by decide +kernel
theorem dL_law_245 : decode cL_law 245 = .ok (.i2d, 1) := by decide +kernel
theorem dL_law_246 : decode cL_law 246 = .ok (.ldc2_w 69, 3) := by decide +kernel
theorem dL_law_249 : decode cL_law 249 = .ok (.dmul, 1) := by decide +kernel
theorem dL_law_250 : decode cL_law 250 = .ok (.aload_n 0, 1) := by decide +kernel
theorem dL_law_251 : decode cL_law 251 = .ok (.iload 5, 2) := by decide +kernel
theorem dL_law_253 : decode cL_law 253 = .ok (.iconst 3, 1) := by decide +kernel
theorem dL_law_254 : decode cL_law 254 = .ok (.iadd, 1) := by decide +kernel
theorem dL_law_255 : decode cL_law 255 = .ok (.iaload, 1) := by decide +kernel
theorem dL_law_256 : decode cL_law 256 = .ok (.i2d, 1) := by decide +kernel
theorem dL_law_257 : decode cL_law 257 = .ok (.ldc2_w 69, 3) := by decide +kernel
theorem dL_law_260 : decode cL_law 260 = .ok (.dmul, 1) := by decide +kernel
theorem dL_law_261 : decode cL_law 261 = .ok (.aload_n 0, 1) := by decide +kernel
theorem dL_law_262 : decode cL_law 262 = .ok (.iload 5, 2) := by decide +kernel
theorem dL_law_264 : decode cL_law 264 = .ok (.iconst 4, 1) := by decide +kernel
theorem dL_law_265 : decode cL_law 265 = .ok (.iadd, 1) := by decide +kernel
theorem dL_law_266 : decode cL_law 266 = .ok (.iaload, 1) := by decide +kernel
theorem dL_law_267 : decode cL_law 267 = .ok (.i2d, 1) := by decide +kernel
theorem dL_law_268 : decode cL_law 268 = .ok (.ldc2_w 69, 3) := by decide +kernel
theorem dL_law_271 : decode cL_law 271 = .ok (.dmul, 1) := by decide +kernel
theorem dL_law_272 : decode cL_law 272 = .ok (.aload_n 0, 1) := by decide +kernel
theorem dL_law_273 : decode cL_law 273 = .ok (.iload 5, 2) := by decide +kernel
theorem dL_law_275 : decode cL_law 275 = .ok (.iconst 5, 1) := by decide +kernel
theorem dL_law_276 : decode cL_law 276 = .ok (.iadd, 1) := by decide +kernel
theorem dL_law_277 : decode cL_law 277 = .ok (.iaload, 1) := by decide +kernel
theorem dL_law_278 : decode cL_law 278 = .ok (.i2d, 1) := by decide +kernel
theorem dL_law_279 : decode cL_law 279 = .ok (.ldc2_w 69, 3) := by decide +kernel
theorem dL_law_282 : decode cL_law 282 = .ok (.dmul, 1) := by decide +kernel
theorem dL_law_283 : decode cL_law 283 = .ok (.invokevirtual 74, 3) := by decide +kernel
theorem dL_law_286 : decode cL_law 286 = .ok (.aload_n 2, 1) := by decide +kernel
theorem dL_law_287 : decode cL_law 287 = .ok (.invokevirtual 65, 3) := by decide +kernel
theorem dL_law_290 : decode cL_law 290 = .ok (.iload 6, 2) := by decide +kernel
theorem dL_law_292 : decode cL_law 292 = .ok (.if_icmp .eq 5, 3) := by decide +kernel
theorem dL_law_295 : decode cL_law 295 = .ok (.iconst 0, 1) := by decide +kernel
theorem dL_law_296 : decode cL_law 296 = .ok (.ireturn, 1) := by decide +kernel
theorem dL_law_297 : decode cL_law 297 = .ok (.goto 728, 3) := by decide +kernel
theorem dL_law_300 : decode cL_law 300 = .ok (.aload_n 1, 1) := by decide +kernel
theorem dL_law_301 : decode cL_law 301 = .ok (.aload_n 0, 1) := by decide +kernel
theorem dL_law_302 : decode cL_law 302 = .ok (.iload 5, 2) := by decide +kernel
theorem dL_law_304 : decode cL_law 304 = .ok (.iconst 1, 1) := by decide +kernel
theorem dL_law_305 : decode cL_law 305 = .ok (.iadd, 1) := by decide +kernel
theorem dL_law_306 : decode cL_law 306 = .ok (.iaload, 1) := by decide +kernel
theorem dL_law_307 : decode cL_law 307 = .ok (.aload_n 0, 1) := by decide +kernel
theorem dL_law_308 : decode cL_law 308 = .ok (.iload 5, 2) := by decide +kernel
theorem dL_law_310 : decode cL_law 310 = .ok (.iconst 2, 1) := by decide +kernel
theorem dL_law_311 : decode cL_law 311 = .ok (.iadd, 1) := by decide +kernel
theorem dL_law_312 : decode cL_law 312 = .ok (.iaload, 1) := by decide +kernel
theorem dL_law_313 : decode cL_law 313 = .ok (.i2d, 1) := by decide +kernel
theorem dL_law_314 : decode cL_law 314 = .ok (.ldc2_w 69, 3) := by decide +kernel
theorem dL_law_317 : decode cL_law 317 = .ok (.dmul, 1) := by decide +kernel
theorem dL_law_318 : decode cL_law 318 = .ok (.aload_n 0, 1) := by decide +kernel
theorem dL_law_319 : decode cL_law 319 = .ok (.iload 5, 2) := by decide +kernel
theorem dL_law_321 : decode cL_law 321 = .ok (.iconst 3, 1) := by decide +kernel
theorem dL_law_322 : decode cL_law 322 = .ok (.iadd, 1) := by decide +kernel
theorem dL_law_323 : decode cL_law 323 = .ok (.iaload, 1) := by decide +kernel
theorem dL_law_324 : decode cL_law 324 = .ok (.i2d, 1) := by decide +kernel
theorem dL_law_325 : decode cL_law 325 = .ok (.ldc2_w 69, 3) := by decide +kernel
theorem dL_law_328 : decode cL_law 328 = .ok (.dmul, 1) := by decide +kernel
theorem dL_law_329 : decode cL_law 329 = .ok (.invokestatic 75, 3) := by decide +kernel
theorem dL_law_332 : decode cL_law 332 = .ok (.istore 6, 2) := by decide +kernel
theorem dL_law_334 : decode cL_law 334 = .ok (.aload_n 2, 1) := by decide +kernel
theorem dL_law_335 : decode cL_law 335 = .ok (.aload_n 0, 1) := by decide +kernel
theorem dL_law_336 : decode cL_law 336 = .ok (.iload 5, 2) := by decide +kernel
theorem dL_law_338 : decode cL_law 338 = .ok (.iconst 1, 1) := by decide +kernel
theorem dL_law_339 : decode cL_law 339 = .ok (.iadd, 1) := by decide +kernel
theorem dL_law_340 : decode cL_law 340 = .ok (.iaload, 1) := by decide +kernel
theorem dL_law_341 : decode cL_law 341 = .ok (.aload_n 0, 1) := by decide +kernel
theorem dL_law_342 : decode cL_law 342 = .ok (.iload 5, 2) := by decide +kernel
theorem dL_law_344 : decode cL_law 344 = .ok (.iconst 2, 1) := by decide +kernel
theorem dL_law_345 : decode cL_law 345 = .ok (.iadd, 1) := by decide +kernel
theorem dL_law_346 : decode cL_law 346 = .ok (.iaload, 1) := by decide +kernel
theorem dL_law_347 : decode cL_law 347 = .ok (.i2d, 1) := by decide +kernel
theorem dL_law_348 : decode cL_law 348 = .ok (.ldc2_w 69, 3) := by decide +kernel
theorem dL_law_351 : decode cL_law 351 = .ok (.dmul, 1) := by decide +kernel
theorem dL_law_352 : decode cL_law 352 = .ok (.aload_n 0, 1) := by decide +kernel
theorem dL_law_353 : decode cL_law 353 = .ok (.iload 5, 2) := by decide +kernel
theorem dL_law_355 : decode cL_law 355 = .ok (.iconst 3, 1) := by decide +kernel
theorem dL_law_356 : decode cL_law 356 = .ok (.iadd, 1) := by decide +kernel
theorem dL_law_357 : decode cL_law 357 = .ok (.iaload, 1) := by decide +kernel
theorem dL_law_358 : decode cL_law 358 = .ok (.i2d, 1) := by decide +kernel
theorem dL_law_359 : decode cL_law 359 = .ok (.ldc2_w 69, 3) := by decide +kernel
theorem dL_law_362 : decode cL_law 362 = .ok (.dmul, 1) := by decide +kernel
theorem dL_law_363 : decode cL_law 363 = .ok (.invokevirtual 78, 3) := by decide +kernel
theorem dL_law_366 : decode cL_law 366 = .ok (.aload_n 2, 1) := by decide +kernel
theorem dL_law_367 : decode cL_law 367 = .ok (.invokevirtual 65, 3) := by decide +kernel
theorem dL_law_370 : decode cL_law 370 = .ok (.iload 6, 2) := by decide +kernel
theorem dL_law_372 : decode cL_law 372 = .ok (.if_icmp .eq 5, 3) := by decide +kernel
theorem dL_law_375 : decode cL_law 375 = .ok (.iconst 0, 1) := by decide +kernel
theorem dL_law_376 : decode cL_law 376 = .ok (.ireturn, 1) := by decide +kernel
theorem dL_law_377 : decode cL_law 377 = .ok (.goto 648, 3) := by decide +kernel
theorem dL_law_380 : decode cL_law 380 = .ok (.aload_n 1, 1) := by decide +kernel
theorem dL_law_381 : decode cL_law 381 = .ok (.aload_n 0, 1) := by decide +kernel
theorem dL_law_382 : decode cL_law 382 = .ok (.iload 5, 2) := by decide +kernel
theorem dL_law_384 : decode cL_law 384 = .ok (.iconst 1, 1) := by decide +kernel
theorem dL_law_385 : decode cL_law 385 = .ok (.iadd, 1) := by decide +kernel
theorem dL_law_386 : decode cL_law 386 = .ok (.iaload, 1) := by decide +kernel
theorem dL_law_387 : decode cL_law 387 = .ok (.i2d, 1) := by decide +kernel
theorem dL_law_388 : decode cL_law 388 = .ok (.ldc2_w 69, 3) := by decide +kernel
theorem dL_law_391 : decode cL_law 391 = .ok (.dmul, 1) := by decide +kernel
theorem dL_law_392 : decode cL_law 392 = .ok (.aload_n 0, 1) := by decide +kernel
theorem dL_law_393 : decode cL_law 393 = .ok (.iload 5, 2) := by decide +kernel
theorem dL_law_395 : decode cL_law 395 = .ok (.iconst 2, 1) := by decide +kernel
theorem dL_law_396 : decode cL_law 396 = .ok (.iadd, 1) := by decide +kernel
theorem dL_law_397 : decode cL_law 397 = .ok (.iaload, 1) := by decide +kernel
theorem dL_law_398 : decode cL_law 398 = .ok (.invokestatic 79, 3) := by decide +kernel
theorem dL_law_401 : decode cL_law 401 = .ok (.istore 6, 2) := by decide +kernel
theorem dL_law_403 : decode cL_law 403 = .ok (.aload_n 2, 1) := by decide +kernel
theorem dL_law_404 : decode cL_law 404 = .ok (.aload_n 0, 1) := by decide +kernel
theorem dL_law_405 : decode cL_law 405 = .ok (.iload 5, 2) := by decide +kernel
theorem dL_law_407 : decode cL_law 407 = .ok (.iconst 1, 1) := by decide +kernel
theorem dL_law_408 : decode cL_law 408 = .ok (.iadd, 1) := by decide +kernel
theorem dL_law_409 : decode cL_law 409 = .ok (.iaload, 1) := by decide +kernel
theorem dL_law_410 : decode cL_law 410 = .ok (.i2d, 1) := by decide +kernel
theorem dL_law_411 : decode cL_law 411 = .ok (.ldc2_w 69, 3) := by decide +kernel
theorem dL_law_414 : decode cL_law 414 = .ok (.dmul, 1) := by decide +kernel
theorem dL_law_415 : decode cL_law 415 = .ok (.aload_n 0, 1) := by decide +kernel
theorem dL_law_416 : decode cL_law 416 = .ok (.iload 5, 2) := by decide +kernel
theorem dL_law_418 : decode cL_law 418 = .ok (.iconst 2, 1) := by decide +kernel
theorem dL_law_419 : decode cL_law 419 = .ok (.iadd, 1) := by decide +kernel
theorem dL_law_420 : decode cL_law 420 = .ok (.iaload, 1) := by decide +kernel
theorem dL_law_421 : decode cL_law 421 = .ok (.invokevirtual 82, 3) := by decide +kernel
theorem dL_law_424 : decode cL_law 424 = .ok (.aload_n 2, 1) := by decide +kernel
theorem dL_law_425 : decode cL_law 425 = .ok (.invokevirtual 65, 3) := by decide +kernel
theorem dL_law_428 : decode cL_law 428 = .ok (.iload 6, 2) := by decide +kernel
theorem dL_law_430 : decode cL_law 430 = .ok (.if_icmp .eq 5, 3) := by decide +kernel
theorem dL_law_433 : decode cL_law 433 = .ok (.iconst 0, 1) := by decide +kernel
theorem dL_law_434 : decode cL_law 434 = .ok (.ireturn, 1) := by decide +kernel
theorem dL_law_435 : decode cL_law 435 = .ok (.goto 590, 3) := by decide +kernel
theorem dL_law_438 : decode cL_law 438 = .ok (.aload_n 1, 1) := by decide +kernel
theorem dL_law_439 : decode cL_law 439 = .ok (.aload_n 0, 1) := by decide +kernel
theorem dL_law_440 : decode cL_law 440 = .ok (.iload 5, 2) := by decide +kernel
theorem dL_law_442 : decode cL_law 442 = .ok (.iconst 1, 1) := by decide +kernel
theorem dL_law_443 : decode cL_law 443 = .ok (.iadd, 1) := by decide +kernel
theorem dL_law_444 : decode cL_law 444 = .ok (.iaload, 1) := by decide +kernel
theorem dL_law_445 : decode cL_law 445 = .ok (.i2d, 1) := by decide +kernel
theorem dL_law_446 : decode cL_law 446 = .ok (.ldc2_w 69, 3) := by decide +kernel
theorem dL_law_449 : decode cL_law 449 = .ok (.dmul, 1) := by decide +kernel
theorem dL_law_450 : decode cL_law 450 = .ok (.aload_n 3, 1) := by decide +kernel
theorem dL_law_451 : decode cL_law 451 = .ok (.invokestatic 83, 3) := by decide +kernel
theorem dL_law_454 : decode cL_law 454 = .ok (.istore 6, 2) := by decide +kernel
theorem dL_law_456 : decode cL_law 456 = .ok (.aload_n 2, 1) := by decide +kernel
theorem dL_law_457 : decode cL_law 457 = .ok (.aload_n 0, 1) := by decide +kernel
theorem dL_law_458 : decode cL_law 458 = .ok (.iload 5, 2) := by decide +kernel
theorem dL_law_460 : decode cL_law 460 = .ok (.iconst 1, 1) := by decide +kernel
theorem dL_law_461 : decode cL_law 461 = .ok (.iadd, 1) := by decide +kernel
theorem dL_law_462 : decode cL_law 462 = .ok (.iaload, 1) := by decide +kernel
theorem dL_law_463 : decode cL_law 463 = .ok (.i2d, 1) := by decide +kernel
theorem dL_law_464 : decode cL_law 464 = .ok (.ldc2_w 69, 3) := by decide +kernel
theorem dL_law_467 : decode cL_law 467 = .ok (.dmul, 1) := by decide +kernel
theorem dL_law_468 : decode cL_law 468 = .ok (.invokevirtual 86, 3) := by decide +kernel
theorem dL_law_471 : decode cL_law 471 = .ok (.istore 7, 2) := by decide +kernel
theorem dL_law_473 : decode cL_law 473 = .ok (.aload_n 2, 1) := by decide +kernel
theorem dL_law_474 : decode cL_law 474 = .ok (.invokevirtual 65, 3) := by decide +kernel
theorem dL_law_477 : decode cL_law 477 = .ok (.iload 6, 2) := by decide +kernel
theorem dL_law_479 : decode cL_law 479 = .ok (.if_icmp .eq 5, 3) := by decide +kernel
theorem dL_law_482 : decode cL_law 482 = .ok (.iconst 0, 1) := by decide +kernel
theorem dL_law_483 : decode cL_law 483 = .ok (.ireturn, 1) := by decide +kernel
theorem dL_law_484 : decode cL_law 484 = .ok (.iload 6, 2) := by decide +kernel
theorem dL_law_486 : decode cL_law 486 = .ok (.ifCond .ne 15, 3) := by decide +kernel
theorem dL_law_489 : decode cL_law 489 = .ok (.aload_n 3, 1) := by decide +kernel
theorem dL_law_490 : decode cL_law 490 = .ok (.iconst 0, 1) := by decide +kernel
theorem dL_law_491 : decode cL_law 491 = .ok (.laload, 1) := by decide +kernel
theorem dL_law_492 : decode cL_law 492 = .ok (.iload 7, 2) := by decide +kernel
theorem dL_law_494 : decode cL_law 494 = .ok (.i2l, 1) := by decide +kernel
theorem dL_law_495 : decode cL_law 495 = .ok (.lcmp, 1) := by decide +kernel
theorem dL_law_496 : decode cL_law 496 = .ok (.ifCond .eq 5, 3) := by decide +kernel
theorem dL_law_499 : decode cL_law 499 = .ok (.iconst 0, 1) := by decide +kernel
theorem dL_law_500 : decode cL_law 500 = .ok (.ireturn, 1) := by decide +kernel
theorem dL_law_501 : decode cL_law 501 = .ok (.goto 524, 3) := by decide +kernel
theorem dL_law_504 : decode cL_law 504 = .ok (.aload_n 1, 1) := by decide +kernel
theorem dL_law_505 : decode cL_law 505 = .ok (.aload_n 0, 1) := by decide +kernel
theorem dL_law_506 : decode cL_law 506 = .ok (.iload 5, 2) := by decide +kernel
theorem dL_law_508 : decode cL_law 508 = .ok (.iconst 1, 1) := by decide +kernel
theorem dL_law_509 : decode cL_law 509 = .ok (.iadd, 1) := by decide +kernel
theorem dL_law_510 : decode cL_law 510 = .ok (.iaload, 1) := by decide +kernel
theorem dL_law_511 : decode cL_law 511 = .ok (.aload_n 0, 1) := by decide +kernel
theorem dL_law_512 : decode cL_law 512 = .ok (.iload 5, 2) := by decide +kernel
theorem dL_law_514 : decode cL_law 514 = .ok (.iconst 2, 1) := by decide +kernel
theorem dL_law_515 : decode cL_law 515 = .ok (.iadd, 1) := by decide +kernel
theorem dL_law_516 : decode cL_law 516 = .ok (.iaload, 1) := by decide +kernel
theorem dL_law_517 : decode cL_law 517 = .ok (.aload_n 0, 1) := by decide +kernel
theorem dL_law_518 : decode cL_law 518 = .ok (.iload 5, 2) := by decide +kernel
theorem dL_law_520 : decode cL_law 520 = .ok (.iconst 3, 1) := by decide +kernel
theorem dL_law_521 : decode cL_law 521 = .ok (.iadd, 1) := by decide +kernel
theorem dL_law_522 : decode cL_law 522 = .ok (.iaload, 1) := by decide +kernel
theorem dL_law_523 : decode cL_law 523 = .ok (.ifCond .eq 7, 3) := by decide +kernel
theorem dL_law_526 : decode cL_law 526 = .ok (.iconst 1, 1) := by decide +kernel
theorem dL_law_527 : decode cL_law 527 = .ok (.goto 4, 3) := by decide +kernel
theorem dL_law_530 : decode cL_law 530 = .ok (.iconst 0, 1) := by decide +kernel
theorem dL_law_531 : decode cL_law 531 = .ok (.aload_n 3, 1) := by decide +kernel
theorem dL_law_532 : decode cL_law 532 = .ok (.invokestatic 87, 3) := by decide +kernel
theorem dL_law_535 : decode cL_law 535 = .ok (.istore 6, 2) := by decide +kernel
theorem dL_law_537 : decode cL_law 537 = .ok (.aload_n 2, 1) := by decide +kernel
theorem dL_law_538 : decode cL_law 538 = .ok (.aload_n 0, 1) := by decide +kernel
theorem dL_law_539 : decode cL_law 539 = .ok (.iload 5, 2) := by decide +kernel
theorem dL_law_541 : decode cL_law 541 = .ok (.iconst 1, 1) := by decide +kernel
theorem dL_law_542 : decode cL_law 542 = .ok (.iadd, 1) := by decide +kernel
theorem dL_law_543 : decode cL_law 543 = .ok (.iaload, 1) := by decide +kernel
theorem dL_law_544 : decode cL_law 544 = .ok (.aload_n 0, 1) := by decide +kernel
theorem dL_law_545 : decode cL_law 545 = .ok (.iload 5, 2) := by decide +kernel
theorem dL_law_547 : decode cL_law 547 = .ok (.iconst 2, 1) := by decide +kernel
theorem dL_law_548 : decode cL_law 548 = .ok (.iadd, 1) := by decide +kernel
theorem dL_law_549 : decode cL_law 549 = .ok (.iaload, 1) := by decide +kernel
theorem dL_law_550 : decode cL_law 550 = .ok (.aload_n 0, 1) := by decide +kernel
theorem dL_law_551 : decode cL_law 551 = .ok (.iload 5, 2) := by decide +kernel
theorem dL_law_553 : decode cL_law 553 = .ok (.iconst 3, 1) := by decide +kernel
theorem dL_law_554 : decode cL_law 554 = .ok (.iadd, 1) := by decide +kernel
theorem dL_law_555 : decode cL_law 555 = .ok (.iaload, 1) := by decide +kernel
theorem dL_law_556 : decode cL_law 556 = .ok (.ifCond .eq 7, 3) := by decide +kernel
theorem dL_law_559 : decode cL_law 559 = .ok (.iconst 1, 1) := by decide +kernel
theorem dL_law_560 : decode cL_law 560 = .ok (.goto 4, 3) := by decide +kernel
theorem dL_law_563 : decode cL_law 563 = .ok (.iconst 0, 1) := by decide +kernel
theorem dL_law_564 : decode cL_law 564 = .ok (.invokevirtual 90, 3) := by decide +kernel
theorem dL_law_567 : decode cL_law 567 = .ok (.istore 7, 2) := by decide +kernel
theorem dL_law_569 : decode cL_law 569 = .ok (.aload_n 2, 1) := by decide +kernel
theorem dL_law_570 : decode cL_law 570 = .ok (.invokevirtual 65, 3) := by decide +kernel
theorem dL_law_573 : decode cL_law 573 = .ok (.iload 6, 2) := by decide +kernel
theorem dL_law_575 : decode cL_law 575 = .ok (.if_icmp .eq 5, 3) := by decide +kernel
theorem dL_law_578 : decode cL_law 578 = .ok (.iconst 0, 1) := by decide +kernel
theorem dL_law_579 : decode cL_law 579 = .ok (.ireturn, 1) := by decide +kernel
theorem dL_law_580 : decode cL_law 580 = .ok (.iload 6, 2) := by decide +kernel
theorem dL_law_582 : decode cL_law 582 = .ok (.ifCond .ne 15, 3) := by decide +kernel
theorem dL_law_585 : decode cL_law 585 = .ok (.aload_n 3, 1) := by decide +kernel
theorem dL_law_586 : decode cL_law 586 = .ok (.iconst 0, 1) := by decide +kernel
theorem dL_law_587 : decode cL_law 587 = .ok (.laload, 1) := by decide +kernel
theorem dL_law_588 : decode cL_law 588 = .ok (.iload 7, 2) := by decide +kernel
theorem dL_law_590 : decode cL_law 590 = .ok (.i2l, 1) := by decide +kernel
theorem dL_law_591 : decode cL_law 591 = .ok (.lcmp, 1) := by decide +kernel
theorem dL_law_592 : decode cL_law 592 = .ok (.ifCond .eq 5, 3) := by decide +kernel
theorem dL_law_595 : decode cL_law 595 = .ok (.iconst 0, 1) := by decide +kernel
theorem dL_law_596 : decode cL_law 596 = .ok (.ireturn, 1) := by decide +kernel
theorem dL_law_597 : decode cL_law 597 = .ok (.goto 428, 3) := by decide +kernel
theorem dL_law_600 : decode cL_law 600 = .ok (.aload_n 1, 1) := by decide +kernel
theorem dL_law_601 : decode cL_law 601 = .ok (.aload_n 0, 1) := by decide +kernel
theorem dL_law_602 : decode cL_law 602 = .ok (.iload 5, 2) := by decide +kernel
theorem dL_law_604 : decode cL_law 604 = .ok (.iconst 1, 1) := by decide +kernel
theorem dL_law_605 : decode cL_law 605 = .ok (.iadd, 1) := by decide +kernel
theorem dL_law_606 : decode cL_law 606 = .ok (.iaload, 1) := by decide +kernel
theorem dL_law_607 : decode cL_law 607 = .ok (.aload_n 3, 1) := by decide +kernel
theorem dL_law_608 : decode cL_law 608 = .ok (.invokestatic 91, 3) := by decide +kernel
theorem dL_law_611 : decode cL_law 611 = .ok (.istore 6, 2) := by decide +kernel
theorem dL_law_613 : decode cL_law 613 = .ok (.aload_n 2, 1) := by decide +kernel
theorem dL_law_614 : decode cL_law 614 = .ok (.aload_n 0, 1) := by decide +kernel
theorem dL_law_615 : decode cL_law 615 = .ok (.iload 5, 2) := by decide +kernel
theorem dL_law_617 : decode cL_law 617 = .ok (.iconst 1, 1) := by decide +kernel
theorem dL_law_618 : decode cL_law 618 = .ok (.iadd, 1) := by decide +kernel
theorem dL_law_619 : decode cL_law 619 = .ok (.iaload, 1) := by decide +kernel
theorem dL_law_620 : decode cL_law 620 = .ok (.invokevirtual 94, 3) := by decide +kernel
theorem dL_law_623 : decode cL_law 623 = .ok (.istore 7, 2) := by decide +kernel
theorem dL_law_625 : decode cL_law 625 = .ok (.aload_n 2, 1) := by decide +kernel
theorem dL_law_626 : decode cL_law 626 = .ok (.invokevirtual 65, 3) := by decide +kernel
theorem dL_law_629 : decode cL_law 629 = .ok (.iload 6, 2) := by decide +kernel
theorem dL_law_631 : decode cL_law 631 = .ok (.if_icmp .eq 5, 3) := by decide +kernel
theorem dL_law_634 : decode cL_law 634 = .ok (.iconst 0, 1) := by decide +kernel
theorem dL_law_635 : decode cL_law 635 = .ok (.ireturn, 1) := by decide +kernel
theorem dL_law_636 : decode cL_law 636 = .ok (.iload 6, 2) := by decide +kernel
theorem dL_law_638 : decode cL_law 638 = .ok (.ifCond .ne 15, 3) := by decide +kernel
theorem dL_law_641 : decode cL_law 641 = .ok (.aload_n 3, 1) := by decide +kernel
theorem dL_law_642 : decode cL_law 642 = .ok (.iconst 0, 1) := by decide +kernel
theorem dL_law_643 : decode cL_law 643 = .ok (.laload, 1) := by decide +kernel
theorem dL_law_644 : decode cL_law 644 = .ok (.iload 7, 2) := by decide +kernel
theorem dL_law_646 : decode cL_law 646 = .ok (.i2l, 1) := by decide +kernel
theorem dL_law_647 : decode cL_law 647 = .ok (.lcmp, 1) := by decide +kernel
theorem dL_law_648 : decode cL_law 648 = .ok (.ifCond .eq 5, 3) := by decide +kernel
theorem dL_law_651 : decode cL_law 651 = .ok (.iconst 0, 1) := by decide +kernel
theorem dL_law_652 : decode cL_law 652 = .ok (.ireturn, 1) := by decide +kernel
theorem dL_law_653 : decode cL_law 653 = .ok (.goto 372, 3) := by decide +kernel
theorem dL_law_656 : decode cL_law 656 = .ok (.aload_n 1, 1) := by decide +kernel
theorem dL_law_657 : decode cL_law 657 = .ok (.aload_n 0, 1) := by decide +kernel
theorem dL_law_658 : decode cL_law 658 = .ok (.iload 5, 2) := by decide +kernel
theorem dL_law_660 : decode cL_law 660 = .ok (.iconst 1, 1) := by decide +kernel
theorem dL_law_661 : decode cL_law 661 = .ok (.iadd, 1) := by decide +kernel
theorem dL_law_662 : decode cL_law 662 = .ok (.iaload, 1) := by decide +kernel
theorem dL_law_663 : decode cL_law 663 = .ok (.aload_n 0, 1) := by decide +kernel
theorem dL_law_664 : decode cL_law 664 = .ok (.iload 5, 2) := by decide +kernel
theorem dL_law_666 : decode cL_law 666 = .ok (.iconst 2, 1) := by decide +kernel
theorem dL_law_667 : decode cL_law 667 = .ok (.iadd, 1) := by decide +kernel
theorem dL_law_668 : decode cL_law 668 = .ok (.iaload, 1) := by decide +kernel
theorem dL_law_669 : decode cL_law 669 = .ok (.aload_n 3, 1) := by decide +kernel
theorem dL_law_670 : decode cL_law 670 = .ok (.invokestatic 95, 3) := by decide +kernel
theorem dL_law_673 : decode cL_law 673 = .ok (.istore 6, 2) := by decide +kernel
theorem dL_law_675 : decode cL_law 675 = .ok (.aload_n 2, 1) := by decide +kernel
theorem dL_law_676 : decode cL_law 676 = .ok (.aload_n 0, 1) := by decide +kernel
theorem dL_law_677 : decode cL_law 677 = .ok (.iload 5, 2) := by decide +kernel
theorem dL_law_679 : decode cL_law 679 = .ok (.iconst 1, 1) := by decide +kernel
theorem dL_law_680 : decode cL_law 680 = .ok (.iadd, 1) := by decide +kernel
theorem dL_law_681 : decode cL_law 681 = .ok (.iaload, 1) := by decide +kernel
theorem dL_law_682 : decode cL_law 682 = .ok (.aload_n 0, 1) := by decide +kernel
theorem dL_law_683 : decode cL_law 683 = .ok (.iload 5, 2) := by decide +kernel
theorem dL_law_685 : decode cL_law 685 = .ok (.iconst 2, 1) := by decide +kernel
theorem dL_law_686 : decode cL_law 686 = .ok (.iadd, 1) := by decide +kernel
theorem dL_law_687 : decode cL_law 687 = .ok (.iaload, 1) := by decide +kernel
theorem dL_law_688 : decode cL_law 688 = .ok (.invokevirtual 98, 3) := by decide +kernel
theorem dL_law_691 : decode cL_law 691 = .ok (.istore 7, 2) := by decide +kernel
theorem dL_law_693 : decode cL_law 693 = .ok (.aload_n 2, 1) := by decide +kernel
theorem dL_law_694 : decode cL_law 694 = .ok (.invokevirtual 65, 3) := by decide +kernel
theorem dL_law_697 : decode cL_law 697 = .ok (.iload 6, 2) := by decide +kernel
theorem dL_law_699 : decode cL_law 699 = .ok (.if_icmp .eq 5, 3) := by decide +kernel
theorem dL_law_702 : decode cL_law 702 = .ok (.iconst 0, 1) := by decide +kernel
theorem dL_law_703 : decode cL_law 703 = .ok (.ireturn, 1) := by decide +kernel
theorem dL_law_704 : decode cL_law 704 = .ok (.iload 6, 2) := by decide +kernel
theorem dL_law_706 : decode cL_law 706 = .ok (.ifCond .ne 15, 3) := by decide +kernel
theorem dL_law_709 : decode cL_law 709 = .ok (.aload_n 3, 1) := by decide +kernel
theorem dL_law_710 : decode cL_law 710 = .ok (.iconst 0, 1) := by decide +kernel
theorem dL_law_711 : decode cL_law 711 = .ok (.laload, 1) := by decide +kernel
theorem dL_law_712 : decode cL_law 712 = .ok (.iload 7, 2) := by decide +kernel
theorem dL_law_714 : decode cL_law 714 = .ok (.i2l, 1) := by decide +kernel
theorem dL_law_715 : decode cL_law 715 = .ok (.lcmp, 1) := by decide +kernel
theorem dL_law_716 : decode cL_law 716 = .ok (.ifCond .eq 5, 3) := by decide +kernel
theorem dL_law_719 : decode cL_law 719 = .ok (.iconst 0, 1) := by decide +kernel
theorem dL_law_720 : decode cL_law 720 = .ok (.ireturn, 1) := by decide +kernel
theorem dL_law_721 : decode cL_law 721 = .ok (.goto 304, 3) := by decide +kernel
theorem dL_law_724 : decode cL_law 724 = .ok (.aload_n 1, 1) := by decide +kernel
theorem dL_law_725 : decode cL_law 725 = .ok (.aload_n 0, 1) := by decide +kernel
theorem dL_law_726 : decode cL_law 726 = .ok (.iload 5, 2) := by decide +kernel
theorem dL_law_728 : decode cL_law 728 = .ok (.iconst 1, 1) := by decide +kernel
theorem dL_law_729 : decode cL_law 729 = .ok (.iadd, 1) := by decide +kernel
theorem dL_law_730 : decode cL_law 730 = .ok (.iaload, 1) := by decide +kernel
theorem dL_law_731 : decode cL_law 731 = .ok (.aload 4, 2) := by decide +kernel
theorem dL_law_733 : decode cL_law 733 = .ok (.invokestatic 99, 3) := by decide +kernel
theorem dL_law_736 : decode cL_law 736 = .ok (.istore 6, 2) := by decide +kernel
theorem dL_law_738 : decode cL_law 738 = .ok (.aload_n 2, 1) := by decide +kernel
theorem dL_law_739 : decode cL_law 739 = .ok (.aload_n 0, 1) := by decide +kernel
theorem dL_law_740 : decode cL_law 740 = .ok (.iload 5, 2) := by decide +kernel
theorem dL_law_742 : decode cL_law 742 = .ok (.iconst 1, 1) := by decide +kernel
theorem dL_law_743 : decode cL_law 743 = .ok (.iadd, 1) := by decide +kernel
theorem dL_law_744 : decode cL_law 744 = .ok (.iaload, 1) := by decide +kernel
theorem dL_law_745 : decode cL_law 745 = .ok (.invokevirtual 102, 3) := by decide +kernel
theorem dL_law_748 : decode cL_law 748 = .ok (.dstore 7, 2) := by decide +kernel
theorem dL_law_750 : decode cL_law 750 = .ok (.aload_n 2, 1) := by decide +kernel
theorem dL_law_751 : decode cL_law 751 = .ok (.invokevirtual 65, 3) := by decide +kernel
theorem dL_law_754 : decode cL_law 754 = .ok (.iload 6, 2) := by decide +kernel
theorem dL_law_756 : decode cL_law 756 = .ok (.if_icmp .eq 5, 3) := by decide +kernel
theorem dL_law_759 : decode cL_law 759 = .ok (.iconst 0, 1) := by decide +kernel
theorem dL_law_760 : decode cL_law 760 = .ok (.ireturn, 1) := by decide +kernel
theorem dL_law_761 : decode cL_law 761 = .ok (.iload 6, 2) := by decide +kernel
theorem dL_law_763 : decode cL_law 763 = .ok (.ifCond .ne 35, 3) := by decide +kernel
theorem dL_law_766 : decode cL_law 766 = .ok (.aload 4, 2) := by decide +kernel
theorem dL_law_768 : decode cL_law 768 = .ok (.iconst 0, 1) := by decide +kernel
theorem dL_law_769 : decode cL_law 769 = .ok (.daload, 1) := by decide +kernel
theorem dL_law_770 : decode cL_law 770 = .ok (.dload 7, 2) := by decide +kernel
theorem dL_law_772 : decode cL_law 772 = .ok (.dcmp .l, 1) := by decide +kernel
theorem dL_law_773 : decode cL_law 773 = .ok (.ifCond .eq 25, 3) := by decide +kernel
theorem dL_law_776 : decode cL_law 776 = .ok (.aload 4, 2) := by decide +kernel
theorem dL_law_778 : decode cL_law 778 = .ok (.iconst 0, 1) := by decide +kernel
theorem dL_law_779 : decode cL_law 779 = .ok (.daload, 1) := by decide +kernel
theorem dL_law_780 : decode cL_law 780 = .ok (.aload 4, 2) := by decide +kernel
theorem dL_law_782 : decode cL_law 782 = .ok (.iconst 0, 1) := by decide +kernel
theorem dL_law_783 : decode cL_law 783 = .ok (.daload, 1) := by decide +kernel
theorem dL_law_784 : decode cL_law 784 = .ok (.dcmp .l, 1) := by decide +kernel
theorem dL_law_785 : decode cL_law 785 = .ok (.ifCond .eq 11, 3) := by decide +kernel
theorem dL_law_788 : decode cL_law 788 = .ok (.dload 7, 2) := by decide +kernel
theorem dL_law_790 : decode cL_law 790 = .ok (.dload 7, 2) := by decide +kernel
theorem dL_law_792 : decode cL_law 792 = .ok (.dcmp .l, 1) := by decide +kernel
theorem dL_law_793 : decode cL_law 793 = .ok (.ifCond .ne 5, 3) := by decide +kernel
theorem dL_law_796 : decode cL_law 796 = .ok (.iconst 0, 1) := by decide +kernel
theorem dL_law_797 : decode cL_law 797 = .ok (.ireturn, 1) := by decide +kernel
theorem dL_law_798 : decode cL_law 798 = .ok (.goto 227, 3) := by decide +kernel
theorem dL_law_801 : decode cL_law 801 = .ok (.aload_n 1, 1) := by decide +kernel
theorem dL_law_802 : decode cL_law 802 = .ok (.aload_n 0, 1) := by decide +kernel
theorem dL_law_803 : decode cL_law 803 = .ok (.iload 5, 2) := by decide +kernel
theorem dL_law_805 : decode cL_law 805 = .ok (.iconst 1, 1) := by decide +kernel
theorem dL_law_806 : decode cL_law 806 = .ok (.iadd, 1) := by decide +kernel
theorem dL_law_807 : decode cL_law 807 = .ok (.iaload, 1) := by decide +kernel
theorem dL_law_808 : decode cL_law 808 = .ok (.aload 4, 2) := by decide +kernel
theorem dL_law_810 : decode cL_law 810 = .ok (.invokestatic 103, 3) := by decide +kernel
theorem dL_law_813 : decode cL_law 813 = .ok (.istore 6, 2) := by decide +kernel
theorem dL_law_815 : decode cL_law 815 = .ok (.aload_n 2, 1) := by decide +kernel
theorem dL_law_816 : decode cL_law 816 = .ok (.aload_n 0, 1) := by decide +kernel
theorem dL_law_817 : decode cL_law 817 = .ok (.iload 5, 2) := by decide +kernel
theorem dL_law_819 : decode cL_law 819 = .ok (.iconst 1, 1) := by decide +kernel
theorem dL_law_820 : decode cL_law 820 = .ok (.iadd, 1) := by decide +kernel
theorem dL_law_821 : decode cL_law 821 = .ok (.iaload, 1) := by decide +kernel
theorem dL_law_822 : decode cL_law 822 = .ok (.invokevirtual 105, 3) := by decide +kernel
theorem dL_law_825 : decode cL_law 825 = .ok (.dstore 7, 2) := by decide +kernel
theorem dL_law_827 : decode cL_law 827 = .ok (.aload_n 2, 1) := by decide +kernel
theorem dL_law_828 : decode cL_law 828 = .ok (.invokevirtual 65, 3) := by decide +kernel
theorem dL_law_831 : decode cL_law 831 = .ok (.iload 6, 2) := by decide +kernel
theorem dL_law_833 : decode cL_law 833 = .ok (.if_icmp .eq 5, 3) := by decide +kernel
theorem dL_law_836 : decode cL_law 836 = .ok (.iconst 0, 1) := by decide +kernel
theorem dL_law_837 : decode cL_law 837 = .ok (.ireturn, 1) := by decide +kernel
theorem dL_law_838 : decode cL_law 838 = .ok (.iload 6, 2) := by decide +kernel
theorem dL_law_840 : decode cL_law 840 = .ok (.ifCond .ne 35, 3) := by decide +kernel
theorem dL_law_843 : decode cL_law 843 = .ok (.aload 4, 2) := by decide +kernel
theorem dL_law_845 : decode cL_law 845 = .ok (.iconst 0, 1) := by decide +kernel
theorem dL_law_846 : decode cL_law 846 = .ok (.daload, 1) := by decide +kernel
theorem dL_law_847 : decode cL_law 847 = .ok (.dload 7, 2) := by decide +kernel
theorem dL_law_849 : decode cL_law 849 = .ok (.dcmp .l, 1) := by decide +kernel
theorem dL_law_850 : decode cL_law 850 = .ok (.ifCond .eq 25, 3) := by decide +kernel
theorem dL_law_853 : decode cL_law 853 = .ok (.aload 4, 2) := by decide +kernel
theorem dL_law_855 : decode cL_law 855 = .ok (.iconst 0, 1) := by decide +kernel
theorem dL_law_856 : decode cL_law 856 = .ok (.daload, 1) := by decide +kernel
theorem dL_law_857 : decode cL_law 857 = .ok (.aload 4, 2) := by decide +kernel
theorem dL_law_859 : decode cL_law 859 = .ok (.iconst 0, 1) := by decide +kernel
theorem dL_law_860 : decode cL_law 860 = .ok (.daload, 1) := by decide +kernel
theorem dL_law_861 : decode cL_law 861 = .ok (.dcmp .l, 1) := by decide +kernel
theorem dL_law_862 : decode cL_law 862 = .ok (.ifCond .eq 11, 3) := by decide +kernel
theorem dL_law_865 : decode cL_law 865 = .ok (.dload 7, 2) := by decide +kernel
theorem dL_law_867 : decode cL_law 867 = .ok (.dload 7, 2) := by decide +kernel
theorem dL_law_869 : decode cL_law 869 = .ok (.dcmp .l, 1) := by decide +kernel
theorem dL_law_870 : decode cL_law 870 = .ok (.ifCond .ne 5, 3) := by decide +kernel
theorem dL_law_873 : decode cL_law 873 = .ok (.iconst 0, 1) := by decide +kernel
theorem dL_law_874 : decode cL_law 874 = .ok (.ireturn, 1) := by decide +kernel
theorem dL_law_875 : decode cL_law 875 = .ok (.goto 150, 3) := by decide +kernel
theorem dL_law_878 : decode cL_law 878 = .ok (.aload_n 1, 1) := by decide +kernel
theorem dL_law_879 : decode cL_law 879 = .ok (.invokevirtual 106, 3) := by decide +kernel
theorem dL_law_882 : decode cL_law 882 = .ok (.dstore 6, 2) := by decide +kernel
theorem dL_law_884 : decode cL_law 884 = .ok (.aload_n 2, 1) := by decide +kernel
theorem dL_law_885 : decode cL_law 885 = .ok (.invokevirtual 110, 3) := by decide +kernel
theorem dL_law_888 : decode cL_law 888 = .ok (.dstore 8, 2) := by decide +kernel
theorem dL_law_890 : decode cL_law 890 = .ok (.dload 6, 2) := by decide +kernel
theorem dL_law_892 : decode cL_law 892 = .ok (.dload 8, 2) := by decide +kernel
theorem dL_law_894 : decode cL_law 894 = .ok (.dcmp .l, 1) := by decide +kernel
theorem dL_law_895 : decode cL_law 895 = .ok (.ifCond .eq 21, 3) := by decide +kernel
theorem dL_law_898 : decode cL_law 898 = .ok (.dload 6, 2) := by decide +kernel
theorem dL_law_900 : decode cL_law 900 = .ok (.dload 6, 2) := by decide +kernel
theorem dL_law_902 : decode cL_law 902 = .ok (.dcmp .l, 1) := by decide +kernel
theorem dL_law_903 : decode cL_law 903 = .ok (.ifCond .eq 11, 3) := by decide +kernel
theorem dL_law_906 : decode cL_law 906 = .ok (.dload 8, 2) := by decide +kernel
theorem dL_law_908 : decode cL_law 908 = .ok (.dload 8, 2) := by decide +kernel
theorem dL_law_910 : decode cL_law 910 = .ok (.dcmp .l, 1) := by decide +kernel
theorem dL_law_911 : decode cL_law 911 = .ok (.ifCond .ne 5, 3) := by decide +kernel
theorem dL_law_914 : decode cL_law 914 = .ok (.iconst 0, 1) := by decide +kernel
theorem dL_law_915 : decode cL_law 915 = .ok (.ireturn, 1) := by decide +kernel
theorem dL_law_916 : decode cL_law 916 = .ok (.goto 109, 3) := by decide +kernel
theorem dL_law_919 : decode cL_law 919 = .ok (.aload_n 1, 1) := by decide +kernel
theorem dL_law_920 : decode cL_law 920 = .ok (.aload_n 0, 1) := by decide +kernel
theorem dL_law_921 : decode cL_law 921 = .ok (.iload 5, 2) := by decide +kernel
theorem dL_law_923 : decode cL_law 923 = .ok (.iconst 1, 1) := by decide +kernel
theorem dL_law_924 : decode cL_law 924 = .ok (.iadd, 1) := by decide +kernel
theorem dL_law_925 : decode cL_law 925 = .ok (.iaload, 1) := by decide +kernel
theorem dL_law_926 : decode cL_law 926 = .ok (.aload_n 0, 1) := by decide +kernel
theorem dL_law_927 : decode cL_law 927 = .ok (.iload 5, 2) := by decide +kernel
theorem dL_law_929 : decode cL_law 929 = .ok (.iconst 2, 1) := by decide +kernel
theorem dL_law_930 : decode cL_law 930 = .ok (.iadd, 1) := by decide +kernel
theorem dL_law_931 : decode cL_law 931 = .ok (.iaload, 1) := by decide +kernel
theorem dL_law_932 : decode cL_law 932 = .ok (.aload_n 3, 1) := by decide +kernel
theorem dL_law_933 : decode cL_law 933 = .ok (.invokestatic 111, 3) := by decide +kernel
theorem dL_law_936 : decode cL_law 936 = .ok (.istore 6, 2) := by decide +kernel
theorem dL_law_938 : decode cL_law 938 = .ok (.aload_n 2, 1) := by decide +kernel
theorem dL_law_939 : decode cL_law 939 = .ok (.aload_n 0, 1) := by decide +kernel
theorem dL_law_940 : decode cL_law 940 = .ok (.iload 5, 2) := by decide +kernel
theorem dL_law_942 : decode cL_law 942 = .ok (.iconst 1, 1) := by decide +kernel
theorem dL_law_943 : decode cL_law 943 = .ok (.iadd, 1) := by decide +kernel
theorem dL_law_944 : decode cL_law 944 = .ok (.iaload, 1) := by decide +kernel
theorem dL_law_945 : decode cL_law 945 = .ok (.aload_n 0, 1) := by decide +kernel
theorem dL_law_946 : decode cL_law 946 = .ok (.iload 5, 2) := by decide +kernel
theorem dL_law_948 : decode cL_law 948 = .ok (.iconst 2, 1) := by decide +kernel
theorem dL_law_949 : decode cL_law 949 = .ok (.iadd, 1) := by decide +kernel
theorem dL_law_950 : decode cL_law 950 = .ok (.iaload, 1) := by decide +kernel
theorem dL_law_951 : decode cL_law 951 = .ok (.invokevirtual 113, 3) := by decide +kernel
theorem dL_law_954 : decode cL_law 954 = .ok (.istore 7, 2) := by decide +kernel
theorem dL_law_956 : decode cL_law 956 = .ok (.aload_n 2, 1) := by decide +kernel
theorem dL_law_957 : decode cL_law 957 = .ok (.invokevirtual 65, 3) := by decide +kernel
theorem dL_law_960 : decode cL_law 960 = .ok (.iload 6, 2) := by decide +kernel
theorem dL_law_962 : decode cL_law 962 = .ok (.if_icmp .eq 5, 3) := by decide +kernel
theorem dL_law_965 : decode cL_law 965 = .ok (.iconst 0, 1) := by decide +kernel
theorem dL_law_966 : decode cL_law 966 = .ok (.ireturn, 1) := by decide +kernel
theorem dL_law_967 : decode cL_law 967 = .ok (.iload 6, 2) := by decide +kernel
theorem dL_law_969 : decode cL_law 969 = .ok (.ifCond .ne 15, 3) := by decide +kernel
theorem dL_law_972 : decode cL_law 972 = .ok (.aload_n 3, 1) := by decide +kernel
theorem dL_law_973 : decode cL_law 973 = .ok (.iconst 0, 1) := by decide +kernel
theorem dL_law_974 : decode cL_law 974 = .ok (.laload, 1) := by decide +kernel
theorem dL_law_975 : decode cL_law 975 = .ok (.iload 7, 2) := by decide +kernel
theorem dL_law_977 : decode cL_law 977 = .ok (.i2l, 1) := by decide +kernel
theorem dL_law_978 : decode cL_law 978 = .ok (.lcmp, 1) := by decide +kernel
theorem dL_law_979 : decode cL_law 979 = .ok (.ifCond .eq 5, 3) := by decide +kernel
theorem dL_law_982 : decode cL_law 982 = .ok (.iconst 0, 1) := by decide +kernel
theorem dL_law_983 : decode cL_law 983 = .ok (.ireturn, 1) := by decide +kernel
theorem dL_law_984 : decode cL_law 984 = .ok (.goto 41, 3) := by decide +kernel
theorem dL_law_987 : decode cL_law 987 = .ok (.aload_n 1, 1) := by decide +kernel
theorem dL_law_988 : decode cL_law 988 = .ok (.aload_n 0, 1) := by decide +kernel
theorem dL_law_989 : decode cL_law 989 = .ok (.iload 5, 2) := by decide +kernel
theorem dL_law_991 : decode cL_law 991 = .ok (.iconst 1, 1) := by decide +kernel
theorem dL_law_992 : decode cL_law 992 = .ok (.iadd, 1) := by decide +kernel
theorem dL_law_993 : decode cL_law 993 = .ok (.iaload, 1) := by decide +kernel
theorem dL_law_994 : decode cL_law 994 = .ok (.invokevirtual 114, 3) := by decide +kernel
theorem dL_law_997 : decode cL_law 997 = .ok (.aload_n 2, 1) := by decide +kernel
theorem dL_law_998 : decode cL_law 998 = .ok (.aload_n 0, 1) := by decide +kernel
theorem dL_law_999 : decode cL_law 999 = .ok (.iload 5, 2) := by decide +kernel
theorem dL_law_1001 : decode cL_law 1001 = .ok (.iconst 1, 1) := by decide +kernel
theorem dL_law_1002 : decode cL_law 1002 = .ok (.iadd, 1) := by decide +kernel
theorem dL_law_1003 : decode cL_law 1003 = .ok (.iaload, 1) := by decide +kernel
theorem dL_law_1004 : decode cL_law 1004 = .ok (.invokevirtual 117, 3) := by decide +kernel
theorem dL_law_1007 : decode cL_law 1007 = .ok (.if_icmp .eq 18, 3) := by decide +kernel
theorem dL_law_1010 : decode cL_law 1010 = .ok (.iconst 0, 1) := by decide +kernel
theorem dL_law_1011 : decode cL_law 1011 = .ok (.ireturn, 1) := by decide +kernel
theorem dL_law_1012 : decode cL_law 1012 = .ok (.aload_n 1, 1) := by decide +kernel
theorem dL_law_1013 : decode cL_law 1013 = .ok (.invokevirtual 118, 3) := by decide +kernel
theorem dL_law_1016 : decode cL_law 1016 = .ok (.aload_n 2, 1) := by decide +kernel
theorem dL_law_1017 : decode cL_law 1017 = .ok (.invokevirtual 121, 3) := by decide +kernel
theorem dL_law_1020 : decode cL_law 1020 = .ok (.if_icmp .eq 5, 3) := by decide +kernel
theorem dL_law_1023 : decode cL_law 1023 = .ok (.iconst 0, 1) := by decide +kernel
theorem dL_law_1024 : decode cL_law 1024 = .ok (.ireturn, 1) := by decide +kernel
theorem dL_law_1025 : decode cL_law 1025 = .ok (.iinc 5 6, 3) := by decide +kernel
theorem dL_law_1028 : decode cL_law 1028 = .ok (.goto (-1000), 3) := by decide +kernel
theorem dL_law_1031 : decode cL_law 1031 = .ok (.iconst 1, 1) := by decide +kernel
theorem dL_law_1032 : decode cL_law 1032 = .ok (.ireturn, 1) := by decide +kernel
end
section
theorem mem_ps {big ws : List Cond} (ps : List Nat) (hp : ws = ps.filterMap (fun i => big[i]?)) : ∀ w ∈ ws, w ∈ big := by
  intro w hw
  rw [hp] at hw
  obtain ⟨i, -, hi⟩ := List.mem_filterMap.mp hw
  exact List.mem_of_getElem? hi
def wsL_law0_r1 : List Cond := [Cond.classLink RL 8 RX8, Cond.instantiable RX8 11, Cond.initialized RX8, Cond.classLink RL 56 RX9, Cond.instantiable RX9 43, Cond.initialized RX9, Cond.arrayClass .long, Cond.arrayClass .double, Cond.constantDouble RL 69 (4593671619917905920), Cond.methodLink RL 55 yX8_init, Cond.instanceMethod yX8_init, Cond.code yX8_init cX8_init 2 none, Cond.methodLink RX8 1 objectInit, Cond.instanceMethod objectInit, Cond.code objectInit ⟨#[0xb1]⟩ 1 none, Cond.classLink RX8 9 RX2, Cond.fieldLink RX8 11 "LinkQueues" "flows" "[LLinkQueues$Flow;", Cond.classLink RX8 15 RX7, Cond.instantiable RX7 3, Cond.initialized RX7, Cond.fieldLink RX8 18 "LinkQueues" "turns" "LLinkQueues$Turns;", Cond.classLink RX8 22 RX0, Cond.instantiable RX0 3, Cond.initialized RX0]
set_option maxRecDepth 20000 in
theorem in_wsL_law0_r1 : ∀ w ∈ wsL_law0_r1, w ∈ lw_tbl := mem_ps [40, 41, 24, 681, 682, 32, 943, 83, 942, 42, 43, 44, 45, 46, 47, 48, 261, 50, 51, 25, 262, 67, 68, 26] (by decide +kernel)
def wsL_law0_r2 : List Cond := [Cond.fieldLink RX8 25 "LinkQueues" "coins" "LLinkQueues$Coins;", Cond.classLink RX8 29 RX4, Cond.instantiable RX4 2, Cond.initialized RX4, Cond.fieldLink RX8 32 "LinkQueues" "outlog" "LLinkQueues$Outlog;", Cond.fieldLink RX8 36 "LinkQueues" "now" "I", Cond.fieldLink RX8 40 "LinkQueues" "numbers" "I", Cond.fieldLink RX8 43 "LinkQueues" "waitingPackets" "I", Cond.fieldLink RX8 46 "LinkQueues" "waitingBytes" "I", Cond.constant RX8 49 (1000000), Cond.fieldLink RX8 50 "LinkQueues" "limit" "I", Cond.constantDouble RX8 53 (4636737291354636288), Cond.fieldLink RX8 55 "LinkQueues" "rate" "D", Cond.fieldLink RX8 59 "LinkQueues" "freeFrom" "D", Cond.instantiable RX2 15, Cond.initialized RX2, Cond.instanceMethod yX7_init, Cond.code yX7_init cX7_init 1 none, Cond.methodLink RX7 1 objectInit, Cond.fieldLink RX7 7 "LinkQueues$Turns" "first" "LLinkQueues$Flow;", Cond.fieldLink RX7 13 "LinkQueues$Turns" "last" "LLinkQueues$Flow;", Cond.fieldLink RX7 16 "LinkQueues$Turns" "begun" "Z", Cond.instanceMethod yX0_init, Cond.code yX0_init cX0_init 1 none]
set_option maxRecDepth 20000 in
theorem in_wsL_law0_r2 : ∀ w ∈ wsL_law0_r2, w ∈ lw_tbl := mem_ps [263, 84, 85, 27, 264, 265, 266, 267, 268, 99, 269, 100, 270, 271, 101, 28, 53, 54, 55, 56, 58, 59, 70, 71] (by decide +kernel)
def wsL_law0_r3 : List Cond := [Cond.methodLink RX0 1 objectInit, Cond.fieldLink RX0 9 "LinkQueues$Coins" "row" "[D", Cond.fieldLink RX0 13 "LinkQueues$Coins" "told" "I", Cond.fieldLink RX0 17 "LinkQueues$Coins" "used" "I", Cond.instanceMethod yX4_init, Cond.code yX4_init cX4_init 1 none, Cond.methodLink RX4 1 objectInit, Cond.classLink RX4 9 RX5, Cond.fieldLink RX4 11 "LinkQueues$Outlog" "row" "[LLinkQueues$Packet;", Cond.fieldLink RX4 15 "LinkQueues$Outlog" "nth" "I", Cond.methodLink RX8 62 yX2_init, Cond.instanceMethod yX2_init, Cond.code yX2_init cX2_init 2 none, Cond.methodLink RX2 3 objectInit, Cond.classLink RX2 9 RX6, Cond.instantiable RX6 4, Cond.initialized RX6, Cond.fieldLink RX2 12 "LinkQueues$Flow" "queue" "LLinkQueues$Queue;", Cond.classLink RX2 18 RX3, Cond.instantiable RX3 7, Cond.initialized RX3, Cond.fieldLink RX2 21 "LinkQueues$Flow" "mean" "LLinkQueues$Mean;", Cond.classLink RX2 25 RX1, Cond.instantiable RX1 8]
set_option maxRecDepth 20000 in
theorem in_wsL_law0_r3 : ∀ w ∈ wsL_law0_r3, w ∈ lw_tbl := mem_ps [72, 73, 74, 75, 87, 88, 89, 90, 92, 93, 102, 103, 104, 105, 106, 107, 29, 200, 129, 130, 30, 202, 163, 164] (by decide +kernel)
def wsL_law0_r4 : List Cond := [Cond.initialized RX1, Cond.fieldLink RX2 28 "LinkQueues$Flow" "delay" "LLinkQueues$Delay;", Cond.fieldLink RX2 32 "LinkQueues$Flow" "kind" "I", Cond.fieldLink RX2 36 "LinkQueues$Flow" "quantum" "I", Cond.fieldLink RX2 39 "LinkQueues$Flow" "deficit" "I", Cond.fieldLink RX2 42 "LinkQueues$Flow" "behind" "LLinkQueues$Flow;", Cond.fieldLink RX2 46 "LinkQueues$Flow" "came" "I", Cond.fieldLink RX2 49 "LinkQueues$Flow" "sent" "I", Cond.fieldLink RX2 52 "LinkQueues$Flow" "sentBytes" "I", Cond.fieldLink RX2 55 "LinkQueues$Flow" "lostFull" "I", Cond.fieldLink RX2 58 "LinkQueues$Flow" "lostMean" "I", Cond.fieldLink RX2 61 "LinkQueues$Flow" "lostDelay" "I", Cond.fieldLink RX2 64 "LinkQueues$Flow" "marked" "I", Cond.fieldLink RX2 67 "LinkQueues$Flow" "place" "I", Cond.instanceMethod yX6_init, Cond.code yX6_init cX6_init 1 none, Cond.methodLink RX6 1 objectInit, Cond.fieldLink RX6 7 "LinkQueues$Queue" "first" "LLinkQueues$Packet;", Cond.fieldLink RX6 13 "LinkQueues$Queue" "last" "LLinkQueues$Packet;", Cond.fieldLink RX6 16 "LinkQueues$Queue" "packets" "I", Cond.fieldLink RX6 20 "LinkQueues$Queue" "bytes" "I", Cond.instanceMethod yX3_init, Cond.code yX3_init cX3_init 1 none, Cond.methodLink RX3 1 objectInit]
set_option maxRecDepth 20000 in
theorem in_wsL_law0_r4 : ∀ w ∈ wsL_law0_r4, w ∈ lw_tbl := mem_ps [31, 204, 206, 208, 211, 214, 216, 218, 220, 222, 224, 226, 228, 198, 109, 110, 111, 112, 114, 115, 118, 132, 133, 134] (by decide +kernel)
def wsL_law0_r5 : List Cond := [Cond.constantDouble RX3 7 (4617315517961601024), Cond.fieldLink RX3 9 "LinkQueues$Mean" "low" "D", Cond.constantDouble RX3 15 (4624633867356078080), Cond.fieldLink RX3 17 "LinkQueues$Mean" "high" "D", Cond.constantDouble RX3 20 (4591870180066957722), Cond.fieldLink RX3 22 "LinkQueues$Mean" "top" "D", Cond.constantDouble RX3 25 (4598175219545276416), Cond.fieldLink RX3 27 "LinkQueues$Mean" "weight" "D", Cond.fieldLink RX3 30 "LinkQueues$Mean" "average" "D", Cond.fieldLink RX3 33 "LinkQueues$Mean" "count" "I", Cond.fieldLink RX3 37 "LinkQueues$Mean" "emptySince" "I", Cond.instanceMethod yX1_init, Cond.code yX1_init cX1_init 1 none, Cond.methodLink RX1 1 objectInit, Cond.constantDouble RX1 7 (4617315517961601024), Cond.fieldLink RX1 9 "LinkQueues$Delay" "target" "D", Cond.constantDouble RX1 15 (4636737291354636288), Cond.fieldLink RX1 17 "LinkQueues$Delay" "interval" "D", Cond.fieldLink RX1 20 "LinkQueues$Delay" "isAbove" "Z", Cond.fieldLink RX1 24 "LinkQueues$Delay" "above" "D", Cond.fieldLink RX1 27 "LinkQueues$Delay" "drops" "Z", Cond.fieldLink RX1 30 "LinkQueues$Delay" "next" "D", Cond.fieldLink RX1 33 "LinkQueues$Delay" "count" "I", Cond.fieldLink RX1 37 "LinkQueues$Delay" "last" "I"]
set_option maxRecDepth 20000 in
theorem in_wsL_law0_r5 : ∀ w ∈ wsL_law0_r5, w ∈ lw_tbl := mem_ps [135, 139, 136, 140, 137, 141, 138, 142, 143, 145, 146, 166, 167, 168, 169, 171, 170, 172, 173, 174, 175, 177, 179, 180] (by decide +kernel)
def wsL_law0_r6 : List Cond := [Cond.methodLink RL 58 yX9_init, Cond.instanceMethod yX9_init, Cond.code yX9_init cX9_init 2 none, Cond.methodLink RX9 1 objectInit, Cond.constantDouble RX9 7 (4636737291354636288), Cond.fieldLink RX9 9 "LinkQueuesModel" "rate" "D", Cond.constant RX9 15 (1000000), Cond.fieldLink RX9 16 "LinkQueuesModel" "limit" "I", Cond.arrayClass .int, Cond.fieldLink RX9 20 "LinkQueuesModel" "kinds" "[I", Cond.fieldLink RX9 24 "LinkQueuesModel" "quanta" "[I", Cond.fieldLink RX9 27 "LinkQueuesModel" "low" "[D", Cond.fieldLink RX9 31 "LinkQueuesModel" "high" "[D", Cond.fieldLink RX9 34 "LinkQueuesModel" "top" "[D", Cond.fieldLink RX9 37 "LinkQueuesModel" "weight" "[D", Cond.fieldLink RX9 40 "LinkQueuesModel" "average" "[D", Cond.fieldLink RX9 43 "LinkQueuesModel" "meanCount" "[I", Cond.fieldLink RX9 46 "LinkQueuesModel" "emptySince" "[I", Cond.fieldLink RX9 49 "LinkQueuesModel" "target" "[D", Cond.fieldLink RX9 52 "LinkQueuesModel" "interval" "[D", Cond.fieldLink RX9 55 "LinkQueuesModel" "above" "[D", Cond.arrayClass .boolean, Cond.fieldLink RX9 58 "LinkQueuesModel" "hasAbove" "[Z", Cond.fieldLink RX9 62 "LinkQueuesModel" "drops" "[Z"]
set_option maxRecDepth 20000 in
theorem in_wsL_law0_r6 : ∀ w ∈ wsL_law0_r6, w ∈ lw_tbl := mem_ps [683, 684, 685, 686, 687, 696, 688, 697, 823, 699, 700, 701, 702, 703, 704, 705, 706, 707, 708, 709, 710, 824, 711, 712] (by decide +kernel)
def wsL_law0_r7 : List Cond := [Cond.fieldLink RX9 65 "LinkQueuesModel" "nextTime" "[D", Cond.fieldLink RX9 68 "LinkQueuesModel" "delayCount" "[I", Cond.fieldLink RX9 71 "LinkQueuesModel" "lastCount" "[I", Cond.fieldLink RX9 74 "LinkQueuesModel" "sizes" "[I", Cond.fieldLink RX9 77 "LinkQueuesModel" "numbers" "[I", Cond.fieldLink RX9 80 "LinkQueuesModel" "bytesOf" "[I", Cond.fieldLink RX9 83 "LinkQueuesModel" "times" "[I", Cond.fieldLink RX9 86 "LinkQueuesModel" "markable" "[Z", Cond.fieldLink RX9 89 "LinkQueuesModel" "marked" "[Z", Cond.fieldLink RX9 92 "LinkQueuesModel" "counts" "[I", Cond.fieldLink RX9 95 "LinkQueuesModel" "round" "[I", Cond.fieldLink RX9 98 "LinkQueuesModel" "deficits" "[I", Cond.fieldLink RX9 101 "LinkQueuesModel" "coinOf" "[D", Cond.fieldLink RX9 104 "LinkQueuesModel" "sentOf" "[I", Cond.constantDouble RX9 107 (4617315517961601024), Cond.constantDouble RX9 109 (4624633867356078080), Cond.constantDouble RX9 111 (4591870180066957722), Cond.constantDouble RX9 113 (4598175219545276416), Cond.methodLink RL 59 yL_kind, Cond.static yL_kind, Cond.initialized RL, Cond.codeWith yL_kind cL_kind 5 (some .int) [(0, 7, 10, 13)], Cond.classLink RL 13 "java/lang/IllegalArgumentException", Cond.methodLink RL 7 yX8_kind]
set_option maxRecDepth 20000 in
theorem in_wsL_law0_r7 : ∀ w ∈ wsL_law0_r7, w ∈ lw_tbl := mem_ps [713, 714, 715, 716, 717, 718, 719, 720, 721, 722, 724, 725, 728, 730, 689, 690, 691, 692, 311, 312, 23, 313, 314, 315] (by decide +kernel)
def wsL_law0_r8 : List Cond := [Cond.instanceMethod yX8_kind, Cond.selects RX8 yX8_kind yX8_kind, Cond.code yX8_kind cX8_kind 5 none, Cond.classLink RX8 69 "java/lang/IllegalArgumentException", Cond.initialized "java/lang/IllegalArgumentException", Cond.fieldLink RX8 78 "LinkQueues$Flow" "kind" "I", Cond.fieldLink RX8 81 "LinkQueues$Flow" "quantum" "I", Cond.fieldLink RX8 84 "LinkQueues$Flow" "mean" "LLinkQueues$Mean;", Cond.fieldLink RX8 93 "LinkQueues$Flow" "delay" "LLinkQueues$Delay;", Cond.methodLink RX8 65 yX8_flowAt, Cond.instanceMethod yX8_flowAt, Cond.selects RX8 yX8_flowAt yX8_flowAt, Cond.code yX8_flowAt cX8_flowAt 3 (some (.object "LinkQueues$Flow")), Cond.methodLink RX8 88 yX3_restart, Cond.instanceMethod yX3_restart, Cond.selects RX3 yX3_restart yX3_restart, Cond.code yX3_restart cX3_restart 2 none, Cond.methodLink RX8 97 yX1_restart, Cond.instanceMethod yX1_restart, Cond.selects RX1 yX1_restart yX1_restart, Cond.code yX1_restart cX1_restart 1 none, Cond.methodLink RL 64 yX9_kind, Cond.instanceMethod yX9_kind, Cond.selects RX9 yX9_kind yX9_kind]
set_option maxRecDepth 20000 in
theorem in_wsL_law0_r8 : ∀ w ∈ wsL_law0_r8, w ∈ lw_tbl := mem_ps [316, 317, 318, 323, 36, 207, 209, 203, 205, 319, 321, 0, 322, 392, 393, 394, 395, 396, 397, 398, 399, 829, 830, 831] (by decide +kernel)
def wsL_law0_r9 : List Cond := [Cond.code yX9_kind cX9_kind 4 none, Cond.fieldLink RX9 126 "LinkQueuesModel" "now" "I", Cond.methodLink RX9 118 yX9_isIn, Cond.static yX9_isIn, Cond.code yX9_isIn cX9_isIn 3 (some .boolean), Cond.methodLink RX9 122 yX9_refused, Cond.instanceMethod yX9_refused, Cond.selects RX9 yX9_refused yX9_refused, Cond.code yX9_refused cX9_refused 2 (some .boolean), Cond.fieldLink RX9 115 "LinkQueuesModel" "refusal" "I", Cond.methodLink RL 65 yX9_thrown, Cond.instanceMethod yX9_thrown, Cond.selects RX9 yX9_thrown yX9_thrown, Cond.code yX9_thrown cX9_thrown 1 (some .int), Cond.methodLink RL 71 yL_mean, Cond.static yL_mean, Cond.codeWith yL_mean cL_mean 11 (some .int) [(0, 12, 15, 13)], Cond.methodLink RL 15 yX8_mean, Cond.instanceMethod yX8_mean, Cond.selects RX8 yX8_mean yX8_mean, Cond.code yX8_mean cX8_mean 11 none, Cond.constantDouble RX8 101 (4652007308841189376), Cond.methodLink RX8 109 yX3_tell, Cond.instanceMethod yX3_tell]
set_option maxRecDepth 20000 in
theorem in_wsL_law0_r9 : ∀ w ∈ wsL_law0_r9, w ∈ lw_tbl := mem_ps [832, 694, 833, 834, 835, 836, 838, 12, 839, 693, 825, 826, 827, 828, 400, 401, 402, 403, 404, 405, 406, 407, 411, 412] (by decide +kernel)
def wsL_law0_r10 : List Cond := [Cond.selects RX3 yX3_tell yX3_tell, Cond.code yX3_tell cX3_tell 9 none, Cond.methodLink RL 74 yX9_mean, Cond.instanceMethod yX9_mean, Cond.selects RX9 yX9_mean yX9_mean, Cond.code yX9_mean cX9_mean 11 none, Cond.constantDouble RX9 129 (4652007308841189376), Cond.methodLink RL 75 yL_delay, Cond.static yL_delay, Cond.codeWith yL_delay cL_delay 7 (some .int) [(0, 8, 11, 13)], Cond.methodLink RL 19 yX8_delay, Cond.instanceMethod yX8_delay, Cond.selects RX8 yX8_delay yX8_delay, Cond.code yX8_delay cX8_delay 7 none, Cond.constantDouble RX8 113 (4666723172467343360), Cond.methodLink RX8 117 yX1_tell, Cond.instanceMethod yX1_tell, Cond.selects RX1 yX1_tell yX1_tell, Cond.code yX1_tell cX1_tell 5 none, Cond.methodLink RL 78 yX9_delay, Cond.instanceMethod yX9_delay, Cond.selects RX9 yX9_delay yX9_delay, Cond.code yX9_delay cX9_delay 7 none, Cond.constantDouble RX9 131 (4666723172467343360)]
set_option maxRecDepth 20000 in
theorem in_wsL_law0_r10 : ∀ w ∈ wsL_law0_r10, w ∈ lw_tbl := mem_ps [413, 414, 840, 841, 842, 843, 844, 415, 416, 417, 418, 419, 420, 421, 422, 424, 425, 426, 427, 845, 846, 847, 848, 849] (by decide +kernel)
def wsL_law0_r11 : List Cond := [Cond.methodLink RL 79 yL_link, Cond.static yL_link, Cond.codeWith yL_link cL_link 5 (some .int) [(0, 6, 9, 13)], Cond.methodLink RL 23 yX8_link, Cond.instanceMethod yX8_link, Cond.selects RX8 yX8_link yX8_link, Cond.code yX8_link cX8_link 4 none, Cond.constantDouble RX8 120 (4593671619917905920), Cond.methodLink RL 82 yX9_link, Cond.instanceMethod yX9_link, Cond.selects RX9 yX9_link yX9_link, Cond.code yX9_link cX9_link 5 none, Cond.constantDouble RX9 133 (4593671619917905920), Cond.methodLink RL 83 yL_coin, Cond.static yL_coin, Cond.codeWith yL_coin cL_coin 5 (some .int) [(0, 9, 12, 13), (0, 9, 16, 31)], Cond.classLink RL 31 "java/lang/IllegalStateException", Cond.methodLink RL 27 yX8_coin, Cond.instanceMethod yX8_coin, Cond.selects RX8 yX8_coin yX8_coin, Cond.code yX8_coin cX8_coin 3 (some .int), Cond.classLink RX8 132 "java/lang/IllegalStateException", Cond.initialized "java/lang/IllegalStateException", Cond.methodLink RX8 128 yX0_isFull]
set_option maxRecDepth 20000 in
theorem in_wsL_law0_r11 : ∀ w ∈ wsL_law0_r11, w ∈ lw_tbl := mem_ps [428, 429, 430, 431, 432, 433, 434, 435, 850, 851, 852, 853, 854, 438, 439, 440, 441, 442, 443, 444, 445, 455, 37, 447] (by decide +kernel)
def wsL_law0_r12 : List Cond := [Cond.instanceMethod yX0_isFull, Cond.selects RX0 yX0_isFull yX0_isFull, Cond.code yX0_isFull cX0_isFull 1 (some .boolean), Cond.methodLink RX0 20 yX0_waiting, Cond.instanceMethod yX0_waiting, Cond.selects RX0 yX0_waiting yX0_waiting, Cond.code yX0_waiting cX0_waiting 1 (some .int), Cond.methodLink RX8 137 yX0_add, Cond.instanceMethod yX0_add, Cond.selects RX0 yX0_add yX0_add, Cond.code yX0_add cX0_add 3 none, Cond.methodLink RX0 24 yX0_place, Cond.static yX0_place, Cond.code yX0_place cX0_place 1 (some .int), Cond.methodLink RX8 141 yX0_waiting, Cond.methodLink RL 86 yX9_coin, Cond.instanceMethod yX9_coin, Cond.selects RX9 yX9_coin yX9_coin, Cond.code yX9_coin cX9_coin 3 (some .int), Cond.fieldLink RX9 135 "LinkQueuesModel" "coins" "I", Cond.methodLink RL 87 yL_come, Cond.static yL_come, Cond.codeWith yL_come cL_come 6 (some .int) [(0, 12, 15, 13)], Cond.methodLink RL 33 yX8_come]
set_option maxRecDepth 20000 in
theorem in_wsL_law0_r12 : ∀ w ∈ wsL_law0_r12, w ∈ lw_tbl := mem_ps [448, 449, 450, 451, 452, 453, 454, 471, 472, 473, 474, 475, 476, 477, 478, 855, 856, 857, 858, 727, 479, 480, 481, 482] (by decide +kernel)
def wsL_law0_r13 : List Cond := [Cond.instanceMethod yX8_come, Cond.selects RX8 yX8_come yX8_come, Cond.code yX8_come cX8_come 6 (some .int), Cond.classLink RX8 147 RX5, Cond.instantiable RX5 8, Cond.initialized RX5, Cond.fieldLink RX8 152 "LinkQueues$Flow" "came" "I", Cond.fieldLink RX8 155 "LinkQueues$Flow" "lostFull" "I", Cond.fieldLink RX8 162 "LinkQueues$Flow" "lostMean" "I", Cond.fieldLink RX8 169 "LinkQueues$Packet" "number" "I", Cond.methodLink RX8 149 yX5_init, Cond.instanceMethod yX5_init, Cond.code yX5_init cX5_init 6 none, Cond.methodLink RX5 1 objectInit, Cond.fieldLink RX5 7 "LinkQueues$Packet" "marked" "Z", Cond.fieldLink RX5 13 "LinkQueues$Packet" "wait" "I", Cond.fieldLink RX5 17 "LinkQueues$Packet" "behind" "LLinkQueues$Packet;", Cond.fieldLink RX5 21 "LinkQueues$Packet" "number" "I", Cond.fieldLink RX5 24 "LinkQueues$Packet" "owner" "LLinkQueues$Flow;", Cond.fieldLink RX5 28 "LinkQueues$Packet" "bytes" "I", Cond.fieldLink RX5 31 "LinkQueues$Packet" "cameAt" "I", Cond.fieldLink RX5 34 "LinkQueues$Packet" "markable" "Z", Cond.methodLink RX8 158 yX2_letsIn, Cond.instanceMethod yX2_letsIn]
set_option maxRecDepth 20000 in
theorem in_wsL_law0_r13 : ∀ w ∈ wsL_law0_r13, w ∈ lw_tbl := mem_ps [483, 484, 485, 487, 488, 38, 217, 223, 225, 494, 489, 490, 491, 492, 504, 507, 510, 493, 495, 497, 500, 502, 529, 530] (by decide +kernel)
def wsL_law0_r14 : List Cond := [Cond.selects RX2 yX2_letsIn yX2_letsIn, Cond.code yX2_letsIn cX2_letsIn 4 (some .boolean), Cond.fieldLink RX2 70 "LinkQueues$Queue" "packets" "I", Cond.methodLink RX2 73 yX3_reckon, Cond.instanceMethod yX3_reckon, Cond.selects RX3 yX3_reckon yX3_reckon, Cond.code yX3_reckon cX3_reckon 5 none, Cond.methodLink RX3 40 Lib.Math.min.name, Cond.static Lib.Math.min.name, Cond.initialized "java/lang/Math", Cond.code Lib.Math.min.name Lib.Math.min.code 2 (some .int), Cond.methodLink RX2 77 yX3_refuses, Cond.instanceMethod yX3_refuses, Cond.selects RX3 yX3_refuses yX3_refuses, Cond.code yX3_refuses cX3_refuses 1 (some .boolean), Cond.methodLink RX2 81 yX3_hits, Cond.instanceMethod yX3_hits, Cond.selects RX3 yX3_hits yX3_hits, Cond.code yX3_hits cX3_hits 7 (some .boolean), Cond.methodLink RX3 46 yX0_use, Cond.instanceMethod yX0_use, Cond.selects RX0 yX0_use yX0_use, Cond.code yX0_use cX0_use 3 (some .double), Cond.constantDouble RX0 28 (4602678819172646912)]
set_option maxRecDepth 20000 in
theorem in_wsL_law0_r14 : ∀ w ∈ wsL_law0_r14, w ∈ lw_tbl := mem_ps [531, 532, 116, 533, 534, 535, 536, 537, 538, 39, 539, 540, 541, 542, 543, 544, 545, 546, 547, 548, 549, 550, 551, 552] (by decide +kernel)
def wsL_law0_r15 : List Cond := [Cond.methodLink RX2 85 yX2_takesMark, Cond.instanceMethod yX2_takesMark, Cond.selects RX2 yX2_takesMark yX2_takesMark, Cond.code yX2_takesMark cX2_takesMark 2 (some .boolean), Cond.fieldLink RX2 97 "LinkQueues$Packet" "markable" "Z", Cond.fieldLink RX2 101 "LinkQueues$Packet" "marked" "Z", Cond.methodLink RX8 165 yX8_putIn, Cond.instanceMethod yX8_putIn, Cond.selects RX8 yX8_putIn yX8_putIn, Cond.code yX8_putIn cX8_putIn 2 none, Cond.fieldLink RX8 224 "LinkQueues$Packet" "owner" "LLinkQueues$Flow;", Cond.fieldLink RX8 186 "LinkQueues$Flow" "queue" "LLinkQueues$Queue;", Cond.fieldLink RX8 190 "LinkQueues$Queue" "packets" "I", Cond.fieldLink RX8 231 "LinkQueues$Packet" "bytes" "I", Cond.methodLink RX8 280 yX7_join, Cond.instanceMethod yX7_join, Cond.selects RX7 yX7_join yX7_join, Cond.code yX7_join cX7_join 2 none, Cond.fieldLink RX7 20 "LinkQueues$Flow" "behind" "LLinkQueues$Flow;", Cond.methodLink RX8 284 yX6_add, Cond.instanceMethod yX6_add, Cond.selects RX6 yX6_add yX6_add, Cond.code yX6_add cX6_add 2 none, Cond.fieldLink RX6 23 "LinkQueues$Packet" "behind" "LLinkQueues$Packet;"]
set_option maxRecDepth 20000 in
theorem in_wsL_law0_r15 : ∀ w ∈ wsL_law0_r15, w ∈ lw_tbl := mem_ps [553, 555, 2, 556, 503, 505, 557, 559, 3, 560, 496, 201, 117, 499, 561, 562, 563, 564, 215, 565, 566, 567, 568, 511] (by decide +kernel)
def wsL_law0_r16 : List Cond := [Cond.fieldLink RX6 28 "LinkQueues$Packet" "bytes" "I", Cond.methodLink RL 90 yX9_come, Cond.instanceMethod yX9_come, Cond.selects RX9 yX9_come yX9_come, Cond.code yX9_come cX9_come 8 (some .int), Cond.fieldLink RX9 144 "LinkQueuesModel" "packets" "I", Cond.fieldLink RX9 158 "LinkQueuesModel" "roundSize" "I", Cond.methodLink RX9 147 yX9_bytesWaiting, Cond.instanceMethod yX9_bytesWaiting, Cond.selects RX9 yX9_bytesWaiting yX9_bytesWaiting, Cond.code yX9_bytesWaiting cX9_bytesWaiting 4 (some .int), Cond.methodLink RX9 151 yX9_waiting, Cond.instanceMethod yX9_waiting, Cond.selects RX9 yX9_waiting yX9_waiting, Cond.code yX9_waiting cX9_waiting 3 (some .int), Cond.methodLink RX9 155 yX9_look, Cond.instanceMethod yX9_look, Cond.selects RX9 yX9_look yX9_look, Cond.code yX9_look cX9_look 7 (some .int), Cond.methodLink RX9 140 yX9_useCoin, Cond.instanceMethod yX9_useCoin, Cond.selects RX9 yX9_useCoin yX9_useCoin, Cond.code yX9_useCoin cX9_useCoin 4 (some .double), Cond.constantDouble RX9 138 (4602678819172646912)]
set_option maxRecDepth 20000 in
theorem in_wsL_law0_r16 : ∀ w ∈ wsL_law0_r16, w ∈ lw_tbl := mem_ps [498, 859, 860, 861, 862, 695, 723, 863, 865, 13, 866, 867, 869, 14, 870, 871, 873, 15, 874, 875, 877, 16, 878, 879] (by decide +kernel)
def wsL_law0_r17 : List Cond := [Cond.methodLink RL 91 yL_tick, Cond.static yL_tick, Cond.codeWith yL_tick cL_tick 4 (some .int) [(0, 9, 12, 13)], Cond.methodLink RL 37 yX8_tick, Cond.instanceMethod yX8_tick, Cond.selects RX8 yX8_tick yX8_tick, Cond.code yX8_tick cX8_tick 4 (some .int), Cond.methodLink RX8 174 yX8_oneTick, Cond.instanceMethod yX8_oneTick, Cond.selects RX8 yX8_oneTick yX8_oneTick, Cond.code yX8_oneTick cX8_oneTick 3 (some .int), Cond.methodLink RX8 242 yX8_choose, Cond.instanceMethod yX8_choose, Cond.selects RX8 yX8_choose yX8_choose, Cond.code yX8_choose cX8_choose 3 (some (.object "LinkQueues$Packet")), Cond.fieldLink RX8 251 "LinkQueues$Turns" "first" "LLinkQueues$Flow;", Cond.methodLink RX8 254 yX8_lookAt, Cond.instanceMethod yX8_lookAt, Cond.selects RX8 yX8_lookAt yX8_lookAt, Cond.code yX8_lookAt cX8_lookAt 4 (some (.object "LinkQueues$Packet")), Cond.fieldLink RX8 261 "LinkQueues$Queue" "first" "LLinkQueues$Packet;", Cond.fieldLink RX8 201 "LinkQueues$Flow" "deficit" "I", Cond.fieldLink RX8 180 "LinkQueues$Flow" "lostDelay" "I", Cond.fieldLink RX8 277 "LinkQueues$Mean" "emptySince" "I"]
set_option maxRecDepth 20000 in
theorem in_wsL_law0_r17 : ∀ w ∈ wsL_law0_r17, w ∈ lw_tbl := mem_ps [569, 570, 571, 572, 573, 574, 575, 577, 579, 4, 580, 581, 583, 5, 584, 57, 585, 587, 6, 588, 113, 213, 227, 147] (by decide +kernel)
def wsL_law0_r18 : List Cond := [Cond.methodLink RX8 258 yX7_begin, Cond.instanceMethod yX7_begin, Cond.selects RX7 yX7_begin yX7_begin, Cond.code yX7_begin cX7_begin 1 none, Cond.fieldLink RX7 25 "LinkQueues$Flow" "deficit" "I", Cond.fieldLink RX7 29 "LinkQueues$Flow" "quantum" "I", Cond.methodLink RX8 264 yX7_passOn, Cond.instanceMethod yX7_passOn, Cond.selects RX7 yX7_passOn yX7_passOn, Cond.code yX7_passOn cX7_passOn 2 none, Cond.methodLink RX7 32 yX7_takeFirst, Cond.instanceMethod yX7_takeFirst, Cond.selects RX7 yX7_takeFirst yX7_takeFirst, Cond.code yX7_takeFirst cX7_takeFirst 2 (some (.object "LinkQueues$Flow")), Cond.methodLink RX7 36 yX7_join, Cond.methodLink RX8 267 yX8_takeOut, Cond.instanceMethod yX8_takeOut, Cond.selects RX8 yX8_takeOut yX8_takeOut, Cond.code yX8_takeOut cX8_takeOut 2 none, Cond.fieldLink RX8 288 "LinkQueues$Packet" "cameAt" "I", Cond.fieldLink RX8 232 "LinkQueues$Packet" "wait" "I", Cond.methodLink RX8 285 yX6_removeFirst, Cond.instanceMethod yX6_removeFirst, Cond.selects RX6 yX6_removeFirst yX6_removeFirst]
set_option maxRecDepth 20000 in
theorem in_wsL_law0_r18 : ∀ w ∈ wsL_law0_r18, w ∈ lw_tbl := mem_ps [589, 590, 591, 592, 212, 210, 593, 594, 595, 596, 597, 599, 7, 600, 601, 602, 604, 8, 605, 501, 509, 606, 607, 608] (by decide +kernel)
def wsL_law0_r19 : List Cond := [Cond.code yX6_removeFirst cX6_removeFirst 2 none, Cond.methodLink RX8 270 yX2_letsOut, Cond.instanceMethod yX2_letsOut, Cond.selects RX2 yX2_letsOut yX2_letsOut, Cond.code yX2_letsOut cX2_letsOut 3 (some .boolean), Cond.fieldLink RX2 89 "LinkQueues$Packet" "wait" "I", Cond.methodLink RX2 94 yX1_hits, Cond.instanceMethod yX1_hits, Cond.selects RX1 yX1_hits yX1_hits, Cond.code yX1_hits cX1_hits 4 (some .boolean), Cond.methodLink RX1 40 yX1_isLate, Cond.instanceMethod yX1_isLate, Cond.selects RX1 yX1_isLate yX1_isLate, Cond.code yX1_isLate cX1_isLate 4 (some .boolean), Cond.methodLink RX1 44 yX1_countToBeginWith, Cond.instanceMethod yX1_countToBeginWith, Cond.selects RX1 yX1_countToBeginWith yX1_countToBeginWith, Cond.code yX1_countToBeginWith cX1_countToBeginWith 3 (some .int), Cond.constantDouble RX1 52 (4625196817309499392), Cond.methodLink RX1 48 yX1_root, Cond.static yX1_root, Cond.code yX1_root cX1_root 4 (some .double), Cond.constantDouble RX1 54 (4611686018427387904), Cond.methodLink RX8 274 yX7_leave]
set_option maxRecDepth 20000 in
theorem in_wsL_law0_r19 : ∀ w ∈ wsL_law0_r19, w ∈ lw_tbl := mem_ps [609, 610, 611, 612, 613, 508, 614, 615, 616, 617, 618, 620, 9, 621, 622, 624, 10, 625, 626, 627, 628, 629, 630, 631] (by decide +kernel)
def wsL_law0_r20 : List Cond := [Cond.instanceMethod yX7_leave, Cond.selects RX7 yX7_leave yX7_leave, Cond.code yX7_leave cX7_leave 2 none, Cond.methodLink RX8 246 yX8_send, Cond.instanceMethod yX8_send, Cond.selects RX8 yX8_send yX8_send, Cond.code yX8_send cX8_send 2 none, Cond.fieldLink RX8 177 "LinkQueues$Flow" "sent" "I", Cond.fieldLink RX8 198 "LinkQueues$Flow" "sentBytes" "I", Cond.methodLink RX8 249 yX4_add, Cond.instanceMethod yX4_add, Cond.selects RX4 yX4_add yX4_add, Cond.code yX4_add cX4_add 2 none, Cond.methodLink RX4 19 yX4_place, Cond.static yX4_place, Cond.code yX4_place cX4_place 1 (some .int), Cond.methodLink RL 94 yX9_tick, Cond.instanceMethod yX9_tick, Cond.selects RX9 yX9_tick yX9_tick, Cond.code yX9_tick cX9_tick 6 (some .int), Cond.fieldLink RX9 198 "LinkQueuesModel" "free" "D", Cond.methodLink RX9 204 yX9_choose, Cond.instanceMethod yX9_choose, Cond.selects RX9 yX9_choose yX9_choose]
set_option maxRecDepth 20000 in
theorem in_wsL_law0_r20 : ∀ w ∈ wsL_law0_r20, w ∈ lw_tbl := mem_ps [632, 633, 634, 635, 637, 11, 638, 219, 221, 639, 640, 641, 642, 643, 644, 645, 880, 881, 882, 883, 698, 884, 886, 17] (by decide +kernel)
def wsL_law0_r21 : List Cond := [Cond.code yX9_choose cX9_choose 4 (some .int), Cond.fieldLink RX9 185 "LinkQueuesModel" "isTurn" "Z", Cond.fieldLink RX9 170 "LinkQueuesModel" "outMarkable" "Z", Cond.fieldLink RX9 164 "LinkQueuesModel" "outBytes" "I", Cond.fieldLink RX9 174 "LinkQueuesModel" "outMarked" "Z", Cond.methodLink RX9 188 yX9_leaveRound, Cond.instanceMethod yX9_leaveRound, Cond.selects RX9 yX9_leaveRound yX9_leaveRound, Cond.code yX9_leaveRound cX9_leaveRound 2 none, Cond.methodLink RX9 191 yX9_takeOut, Cond.instanceMethod yX9_takeOut, Cond.selects RX9 yX9_takeOut yX9_takeOut, Cond.code yX9_takeOut cX9_takeOut 4 none, Cond.fieldLink RX9 161 "LinkQueuesModel" "outNumber" "I", Cond.fieldLink RX9 167 "LinkQueuesModel" "outTime" "I", Cond.methodLink RX9 195 yX9_isHit, Cond.instanceMethod yX9_isHit, Cond.selects RX9 yX9_isHit yX9_isHit, Cond.code yX9_isHit cX9_isHit 6 (some .boolean), Cond.constantDouble RX9 183 (4625196817309499392), Cond.methodLink RX9 179 yX9_root, Cond.static yX9_root, Cond.code yX9_root cX9_root 4 (some .double), Cond.constantDouble RX9 177 (4611686018427387904)]
set_option maxRecDepth 20000 in
theorem in_wsL_law0_r21 : ∀ w ∈ wsL_law0_r21, w ∈ lw_tbl := mem_ps [887, 726, 734, 732, 735, 888, 890, 18, 891, 892, 894, 19, 895, 731, 733, 896, 898, 20, 899, 904, 900, 901, 902, 903] (by decide +kernel)
def wsL_law0_r22 : List Cond := [Cond.methodLink RX9 207 yX9_send, Cond.instanceMethod yX9_send, Cond.selects RX9 yX9_send yX9_send, Cond.code yX9_send cX9_send 3 none, Cond.fieldLink RX9 201 "LinkQueuesModel" "sentSize" "I", Cond.methodLink RL 95 yL_count, Cond.static yL_count, Cond.codeWith yL_count cL_count 5 (some .int) [(0, 10, 13, 13)], Cond.methodLink RL 41 yX8_count, Cond.instanceMethod yX8_count, Cond.selects RX8 yX8_count yX8_count, Cond.code yX8_count cX8_count 4 (some .int), Cond.fieldLink RX8 183 "LinkQueues$Flow" "marked" "I", Cond.fieldLink RX8 195 "LinkQueues$Queue" "bytes" "I", Cond.methodLink RL 98 yX9_count, Cond.instanceMethod yX9_count, Cond.selects RX9 yX9_count yX9_count, Cond.code yX9_count cX9_count 3 (some .int), Cond.methodLink RX9 210 yX9_isRound, Cond.instanceMethod yX9_isRound, Cond.selects RX9 yX9_isRound yX9_isRound, Cond.code yX9_isRound cX9_isRound 4 (some .boolean), Cond.methodLink RL 99 yL_average, Cond.static yL_average]
set_option maxRecDepth 20000 in
theorem in_wsL_law0_r22 : ∀ w ∈ wsL_law0_r22, w ∈ lw_tbl := mem_ps [905, 907, 21, 908, 729, 646, 647, 648, 649, 650, 651, 652, 229, 119, 909, 910, 911, 912, 913, 915, 22, 916, 654, 655] (by decide +kernel)
def wsL_law0_r23 : List Cond := [Cond.codeWith yL_average cL_average 4 (some .int) [(0, 8, 11, 13)], Cond.methodLink RL 45 yX8_average, Cond.instanceMethod yX8_average, Cond.selects RX8 yX8_average yX8_average, Cond.code yX8_average cX8_average 2 (some .double), Cond.fieldLink RX8 206 "LinkQueues$Mean" "average" "D", Cond.methodLink RL 102 yX9_average, Cond.instanceMethod yX9_average, Cond.selects RX9 yX9_average yX9_average, Cond.code yX9_average cX9_average 2 (some .double), Cond.methodLink RL 103 yL_next, Cond.static yL_next, Cond.codeWith yL_next cL_next 4 (some .int) [(0, 8, 11, 13)], Cond.methodLink RL 49 yX8_next, Cond.instanceMethod yX8_next, Cond.selects RX8 yX8_next yX8_next, Cond.code yX8_next cX8_next 3 (some .double), Cond.fieldLink RX8 209 "LinkQueues$Delay" "drops" "Z", Cond.fieldLink RX8 213 "LinkQueues$Delay" "next" "D", Cond.constantDouble RX8 216 (13830554455654793216), Cond.methodLink RL 105 yX9_next, Cond.instanceMethod yX9_next, Cond.selects RX9 yX9_next yX9_next, Cond.code yX9_next cX9_next 2 (some .double)]
set_option maxRecDepth 20000 in
theorem in_wsL_law0_r23 : ∀ w ∈ wsL_law0_r23, w ∈ lw_tbl := mem_ps [656, 657, 658, 659, 660, 144, 917, 918, 919, 920, 661, 662, 663, 664, 665, 666, 667, 176, 178, 668, 921, 922, 923, 924] (by decide +kernel)
def wsL_law0_r24 : List Cond := [Cond.constantDouble RX9 213 (13830554455654793216), Cond.methodLink RL 106 yX8_free, Cond.instanceMethod yX8_free, Cond.selects RX8 yX8_free yX8_free, Cond.code yX8_free cX8_free 1 (some .double), Cond.methodLink RL 110 yX9_free, Cond.instanceMethod yX9_free, Cond.selects RX9 yX9_free yX9_free, Cond.code yX9_free cX9_free 1 (some .double), Cond.methodLink RL 111 yL_sent, Cond.static yL_sent, Cond.codeWith yL_sent cL_sent 5 (some .int) [(0, 10, 13, 13)], Cond.methodLink RL 52 yX8_sent, Cond.instanceMethod yX8_sent, Cond.selects RX8 yX8_sent yX8_sent, Cond.code yX8_sent cX8_sent 4 (some .int), Cond.fieldLink RX8 228 "LinkQueues$Flow" "place" "I", Cond.fieldLink RX8 235 "LinkQueues$Packet" "marked" "Z", Cond.methodLink RX8 220 yX4_lastBut, Cond.instanceMethod yX4_lastBut, Cond.selects RX4 yX4_lastBut yX4_lastBut, Cond.code yX4_lastBut cX4_lastBut 2 (some (.object "LinkQueues$Packet")), Cond.methodLink RL 113 yX9_sent, Cond.instanceMethod yX9_sent]
set_option maxRecDepth 20000 in
theorem in_wsL_law0_r24 : ∀ w ∈ wsL_law0_r24, w ∈ lw_tbl := mem_ps [925, 295, 296, 297, 298, 926, 927, 928, 929, 669, 670, 671, 672, 673, 674, 675, 199, 506, 677, 678, 679, 680, 930, 931] (by decide +kernel)
def wsL_law0_r25 : List Cond := [Cond.selects RX9 yX9_sent yX9_sent, Cond.code yX9_sent cX9_sent 3 (some .int), Cond.methodLink RL 114 yX8_round, Cond.instanceMethod yX8_round, Cond.selects RX8 yX8_round yX8_round, Cond.code yX8_round cX8_round 3 (some .int), Cond.methodLink RX8 237 yX7_flowAfter, Cond.instanceMethod yX7_flowAfter, Cond.selects RX7 yX7_flowAfter yX7_flowAfter, Cond.code yX7_flowAfter cX7_flowAfter 4 (some (.object "LinkQueues$Flow")), Cond.methodLink RL 117 yX9_round, Cond.instanceMethod yX9_round, Cond.selects RX9 yX9_round yX9_round, Cond.code yX9_round cX9_round 2 (some .int), Cond.methodLink RL 118 yX8_clock, Cond.instanceMethod yX8_clock, Cond.selects RX8 yX8_clock yX8_clock, Cond.code yX8_clock cX8_clock 1 (some .int), Cond.methodLink RL 121 yX9_clock, Cond.instanceMethod yX9_clock, Cond.selects RX9 yX9_clock yX9_clock, Cond.code yX9_clock cX9_clock 1 (some .int)]
set_option maxRecDepth 20000 in
theorem in_wsL_law0_r25 : ∀ w ∈ wsL_law0_r25, w ∈ lw_tbl := mem_ps [932, 933, 299, 300, 301, 302, 303, 304, 305, 306, 934, 935, 936, 937, 307, 308, 309, 310, 938, 939, 940, 941] (by decide +kernel)
set_option maxRecDepth 20000 in
theorem in_wsX80 : ∀ w ∈ wsX80, w ∈ lw_tbl := mem_ps [272, 274, 276, 278, 280, 282, 284, 286, 288, 290, 292] (by decide +kernel)
set_option maxRecDepth 20000 in
theorem in_wsX90 : ∀ w ∈ wsX90, w ∈ lw_tbl := mem_ps [736, 738, 740, 742, 744, 746, 748, 750, 752, 754, 756, 758, 760, 762, 764, 766, 768, 770, 772, 774, 776, 778, 780, 782, 784, 786, 788, 790, 792, 794, 796, 798, 800, 802, 804, 806, 808, 810, 812, 814, 816, 818, 820] (by decide +kernel)
set_option maxRecDepth 20000 in
theorem in_wsX70 : ∀ w ∈ wsX70, w ∈ lw_tbl := mem_ps [60, 62, 64] (by decide +kernel)
set_option maxRecDepth 20000 in
theorem in_wsX00 : ∀ w ∈ wsX00, w ∈ lw_tbl := mem_ps [76, 78, 80] (by decide +kernel)
set_option maxRecDepth 20000 in
theorem in_wsX40 : ∀ w ∈ wsX40, w ∈ lw_tbl := mem_ps [94, 96] (by decide +kernel)
set_option maxRecDepth 20000 in
theorem in_wsX20 : ∀ w ∈ wsX20, w ∈ lw_tbl := mem_ps [230, 232, 234, 236, 238, 240, 242, 244, 246, 248, 250, 252, 254, 256, 258] (by decide +kernel)
set_option maxRecDepth 20000 in
theorem in_wsX60 : ∀ w ∈ wsX60, w ∈ lw_tbl := mem_ps [120, 122, 124, 126] (by decide +kernel)
set_option maxRecDepth 20000 in
theorem in_wsX30 : ∀ w ∈ wsX30, w ∈ lw_tbl := mem_ps [148, 150, 152, 154, 156, 158, 160] (by decide +kernel)
set_option maxRecDepth 20000 in
theorem in_wsX10 : ∀ w ∈ wsX10, w ∈ lw_tbl := mem_ps [181, 183, 185, 187, 189, 191, 193, 195] (by decide +kernel)
set_option maxRecDepth 20000 in
theorem in_wsX50 : ∀ w ∈ wsX50, w ∈ lw_tbl := mem_ps [512, 514, 516, 518, 520, 522, 524, 526] (by decide +kernel)
def wsL_law0 : List Cond := (wsL_law0_r1 ++ (wsL_law0_r2 ++ (wsL_law0_r3 ++ (wsL_law0_r4 ++ (wsL_law0_r5 ++ (wsL_law0_r6 ++ (wsL_law0_r7 ++ (wsL_law0_r8 ++ (wsL_law0_r9 ++ (wsL_law0_r10 ++ (wsL_law0_r11 ++ (wsL_law0_r12 ++ (wsL_law0_r13 ++ (wsL_law0_r14 ++ (wsL_law0_r15 ++ (wsL_law0_r16 ++ (wsL_law0_r17 ++ (wsL_law0_r18 ++ (wsL_law0_r19 ++ (wsL_law0_r20 ++ (wsL_law0_r21 ++ (wsL_law0_r22 ++ (wsL_law0_r23 ++ (wsL_law0_r24 ++ wsL_law0_r25)))))))))))))))))))))))) ++ wsX80 ++ wsX90 ++ wsX70 ++ wsX00 ++ wsX40 ++ wsX20 ++ wsX60 ++ wsX30 ++ wsX10 ++ wsX50 ++ ([] : List Cond)
def wsL_law : List Cond := wsL_law0 ++ (vx_atS RX8 73 "java/lang/IllegalArgumentException" ["java/lang/RuntimeException", "java/lang/Exception"]).filter goodWord ++ (vx_atS RX8 136 "java/lang/IllegalStateException" ["java/lang/RuntimeException", "java/lang/Exception"]).filter goodWord
theorem wsL_law_in0 : ∀ w ∈ wsL_law0, w ∈ lw_tbl := (fun w h => (List.mem_append.mp h).elim (fun h => (fun w h => (List.mem_append.mp h).elim (fun h => (fun w h => (List.mem_append.mp h).elim (fun h => (fun w h => (List.mem_append.mp h).elim (fun h => (fun w h => (List.mem_append.mp h).elim (fun h => (fun w h => (List.mem_append.mp h).elim (fun h => (fun w h => (List.mem_append.mp h).elim (fun h => (fun w h => (List.mem_append.mp h).elim (fun h => (fun w h => (List.mem_append.mp h).elim (fun h => (fun w h => (List.mem_append.mp h).elim (fun h => (fun w h => (List.mem_append.mp h).elim (fun h => (fun w h => (List.mem_append.mp h).elim (fun h => in_wsL_law0_r1 w h) (fun h => (fun w h => (List.mem_append.mp h).elim (fun h => in_wsL_law0_r2 w h) (fun h => (fun w h => (List.mem_append.mp h).elim (fun h => in_wsL_law0_r3 w h) (fun h => (fun w h => (List.mem_append.mp h).elim (fun h => in_wsL_law0_r4 w h) (fun h => (fun w h => (List.mem_append.mp h).elim (fun h => in_wsL_law0_r5 w h) (fun h => (fun w h => (List.mem_append.mp h).elim (fun h => in_wsL_law0_r6 w h) (fun h => (fun w h => (List.mem_append.mp h).elim (fun h => in_wsL_law0_r7 w h) (fun h => (fun w h => (List.mem_append.mp h).elim (fun h => in_wsL_law0_r8 w h) (fun h => (fun w h => (List.mem_append.mp h).elim (fun h => in_wsL_law0_r9 w h) (fun h => (fun w h => (List.mem_append.mp h).elim (fun h => in_wsL_law0_r10 w h) (fun h => (fun w h => (List.mem_append.mp h).elim (fun h => in_wsL_law0_r11 w h) (fun h => (fun w h => (List.mem_append.mp h).elim (fun h => in_wsL_law0_r12 w h) (fun h => (fun w h => (List.mem_append.mp h).elim (fun h => in_wsL_law0_r13 w h) (fun h => (fun w h => (List.mem_append.mp h).elim (fun h => in_wsL_law0_r14 w h) (fun h => (fun w h => (List.mem_append.mp h).elim (fun h => in_wsL_law0_r15 w h) (fun h => (fun w h => (List.mem_append.mp h).elim (fun h => in_wsL_law0_r16 w h) (fun h => (fun w h => (List.mem_append.mp h).elim (fun h => in_wsL_law0_r17 w h) (fun h => (fun w h => (List.mem_append.mp h).elim (fun h => in_wsL_law0_r18 w h) (fun h => (fun w h => (List.mem_append.mp h).elim (fun h => in_wsL_law0_r19 w h) (fun h => (fun w h => (List.mem_append.mp h).elim (fun h => in_wsL_law0_r20 w h) (fun h => (fun w h => (List.mem_append.mp h).elim (fun h => in_wsL_law0_r21 w h) (fun h => (fun w h => (List.mem_append.mp h).elim (fun h => in_wsL_law0_r22 w h) (fun h => (fun w h => (List.mem_append.mp h).elim (fun h => in_wsL_law0_r23 w h) (fun h => (fun w h => (List.mem_append.mp h).elim (fun h => in_wsL_law0_r24 w h) (fun h => in_wsL_law0_r25 w h)) w h)) w h)) w h)) w h)) w h)) w h)) w h)) w h)) w h)) w h)) w h)) w h)) w h)) w h)) w h)) w h)) w h)) w h)) w h)) w h)) w h)) w h)) w h)) w h) (fun h => in_wsX80 w h)) w h) (fun h => in_wsX90 w h)) w h) (fun h => in_wsX70 w h)) w h) (fun h => in_wsX00 w h)) w h) (fun h => in_wsX40 w h)) w h) (fun h => in_wsX20 w h)) w h) (fun h => in_wsX60 w h)) w h) (fun h => in_wsX30 w h)) w h) (fun h => in_wsX10 w h)) w h) (fun h => in_wsX50 w h)) w h) (fun h => (fun _ h => absurd h List.not_mem_nil) w h))
theorem wsL_law_x0 : ∀ w ∈ (vx_atS RX8 73 "java/lang/IllegalArgumentException" ["java/lang/RuntimeException", "java/lang/Exception"]).filter goodWord, w ∈ lw_tbl := by decide +kernel
theorem wsL_law_x1 : ∀ w ∈ (vx_atS RX8 136 "java/lang/IllegalStateException" ["java/lang/RuntimeException", "java/lang/Exception"]).filter goodWord, w ∈ lw_tbl := by decide +kernel
theorem wsL_law_in : ∀ w ∈ wsL_law, w ∈ lw_tbl := fun w h => (List.mem_append.mp h).elim (fun h => (List.mem_append.mp h).elim (fun h => wsL_law_in0 w h) (fun h => wsL_law_x0 w h)) (fun h => wsL_law_x1 w h)
theorem inlX0 : ∀ w ∈ wsX00, w ∈ wsL_law := fun _ h => List.mem_append_left _ (List.mem_append_left _ (List.mem_append_left _ (List.mem_append_left _ (List.mem_append_left _ (List.mem_append_left _ (List.mem_append_left _ (List.mem_append_left _ (List.mem_append_left _ (List.mem_append_right _ h)))))))))
theorem inlX1 : ∀ w ∈ wsX10, w ∈ wsL_law := fun _ h => List.mem_append_left _ (List.mem_append_left _ (List.mem_append_left _ (List.mem_append_left _ (List.mem_append_right _ h))))
theorem inlX2 : ∀ w ∈ wsX20, w ∈ wsL_law := fun _ h => List.mem_append_left _ (List.mem_append_left _ (List.mem_append_left _ (List.mem_append_left _ (List.mem_append_left _ (List.mem_append_left _ (List.mem_append_left _ (List.mem_append_right _ h)))))))
theorem inlX3 : ∀ w ∈ wsX30, w ∈ wsL_law := fun _ h => List.mem_append_left _ (List.mem_append_left _ (List.mem_append_left _ (List.mem_append_left _ (List.mem_append_left _ (List.mem_append_right _ h)))))
theorem inlX4 : ∀ w ∈ wsX40, w ∈ wsL_law := fun _ h => List.mem_append_left _ (List.mem_append_left _ (List.mem_append_left _ (List.mem_append_left _ (List.mem_append_left _ (List.mem_append_left _ (List.mem_append_left _ (List.mem_append_left _ (List.mem_append_right _ h))))))))
theorem inlX5 : ∀ w ∈ wsX50, w ∈ wsL_law := fun _ h => List.mem_append_left _ (List.mem_append_left _ (List.mem_append_left _ (List.mem_append_right _ h)))
theorem inlX6 : ∀ w ∈ wsX60, w ∈ wsL_law := fun _ h => List.mem_append_left _ (List.mem_append_left _ (List.mem_append_left _ (List.mem_append_left _ (List.mem_append_left _ (List.mem_append_left _ (List.mem_append_right _ h))))))
theorem inlX7 : ∀ w ∈ wsX70, w ∈ wsL_law := fun _ h => List.mem_append_left _ (List.mem_append_left _ (List.mem_append_left _ (List.mem_append_left _ (List.mem_append_left _ (List.mem_append_left _ (List.mem_append_left _ (List.mem_append_left _ (List.mem_append_left _ (List.mem_append_left _ (List.mem_append_right _ h))))))))))
theorem inlX8 : ∀ w ∈ wsX80, w ∈ wsL_law := fun _ h => List.mem_append_left _ (List.mem_append_left _ (List.mem_append_left _ (List.mem_append_left _ (List.mem_append_left _ (List.mem_append_left _ (List.mem_append_left _ (List.mem_append_left _ (List.mem_append_left _ (List.mem_append_left _ (List.mem_append_left _ (List.mem_append_left _ (List.mem_append_right _ h))))))))))))
theorem inlX9 : ∀ w ∈ wsX90, w ∈ wsL_law := fun _ h => List.mem_append_left _ (List.mem_append_left _ (List.mem_append_left _ (List.mem_append_left _ (List.mem_append_left _ (List.mem_append_left _ (List.mem_append_left _ (List.mem_append_left _ (List.mem_append_left _ (List.mem_append_left _ (List.mem_append_left _ (List.mem_append_right _ h)))))))))))
set_option maxRecDepth 20000 in
theorem ggL_law_X8_init : GoodIn wsL_law wsX8_init := goodIn_r _ [11, 12, 13, 14, 15, 16, 17, 18, 19, 20, 21, 22, 23, 24, 25, 26, 27, 28, 29, 30, 31, 32, 33, 34, 35, 36, 37, 38, 39, 40, 41, 42, 43, 44, 45, 46, 47, 48, 7, 49, 50, 51, 52, 53, 54, 55, 56, 57, 58, 59, 60, 61, 62, 63, 64, 65, 66, 67, 68, 69, 70, 71, 72, 73, 74, 75, 76, 77, 78, 79, 80, 81, 82, 83, 84, 85, 86, 87, 88, 89, 90, 91, 92, 93, 94, 95, 96, 97, 98, 99, 100, 101, 102, 103, 104, 105, 106, 107, 108, 109, 110, 111, 112, 113, 114, 115, 116, 117, 118, 119, 598, 599, 600, 601, 602, 603, 604, 605, 606, 607, 608, 652, 653, 654, 655, 656, 657, 658, 659, 660, 661, 662, 663, 664, 665, 666, 667, 668, 669, 670, 671, 672, 673, 674, 675, 676, 677, 678, 679, 680, 681, 682, 683, 684, 685, 686, 687, 688, 689, 690, 691, 692, 693] (by decide +kernel) (by decide +kernel)
set_option maxRecDepth 20000 in
theorem gL_law_X8_init : GoodIn wsL_law (wsX8_init) := ggL_law_X8_init
set_option maxRecDepth 20000 in
theorem ggL_law_X9_init : GoodIn wsL_law wsX9_init := goodIn_r _ [122, 123, 13, 14, 124, 125, 126, 127, 128, 129, 130, 7, 131, 132, 133, 134, 135, 136, 137, 138, 139, 140, 141, 142, 143, 144, 145, 146, 147, 148, 149, 150, 151, 152, 153, 154, 155, 156, 157, 158, 159, 160, 161, 609, 610, 611, 612, 613, 614, 615, 616, 617, 618, 619, 620, 621, 622, 623, 624, 625, 626, 627, 628, 629, 630, 631, 632, 633, 634, 635, 636, 637, 638, 639, 640, 641, 642, 643, 644, 645, 646, 647, 648, 649, 650, 651] (by decide +kernel) (by decide +kernel)
set_option maxRecDepth 20000 in
theorem gL_law_X9_init : GoodIn wsL_law (wsX9_init) := ggL_law_X9_init
set_option maxRecDepth 20000 in
theorem ggL_law_L_kind : GoodIn wsL_law wsL_kind := goodIn_ca (goodIn_r _ [165, 166, 167, 168, 169, 2, 170, 171, 172, 173, 174, 175, 29, 176, 177, 178, 179, 180, 16, 181, 182, 183, 68, 184, 104, 105, 106, 185, 186, 187, 72, 188, 114, 116, 118, 119, 660, 661, 662, 663, 664, 665, 666, 667, 668, 669, 670, 671, 672, 673, 674, 598, 599, 600, 601, 602, 603, 604, 605, 606, 607, 608, 679, 680, 681, 682, 683, 684, 685, 686, 687, 688, 689, 690, 691, 692, 693] (by decide +kernel) (by decide +kernel)) (goodIn_sub (fun _ h => List.mem_append_left _ (List.mem_append_right _ h)) (by decide +kernel))
set_option maxRecDepth 20000 in
theorem gL_law_L_kind : GoodIn wsL_law (va_wsS RL 59 yL_kind wsL_kind) := goodIn_app (goodIn_of _ (by decide +kernel)) ggL_law_L_kind
set_option maxRecDepth 20000 in
theorem ggL_law_X9_kind : GoodIn wsL_law wsX9_kind := goodIn_r _ [192, 129, 130, 135, 136, 137, 193, 142, 143, 144, 145, 146, 194, 195, 5, 196, 197, 198, 199, 200, 201, 609, 610, 611, 612, 613, 614, 615, 616, 617, 618, 619, 620, 621, 622, 623, 624, 625, 626, 627, 628, 629, 630, 631, 632, 633, 634, 635, 636, 637, 638, 639, 640, 641, 642, 643, 644, 645, 646, 647, 648, 649, 650, 651] (by decide +kernel) (by decide +kernel)
set_option maxRecDepth 20000 in
theorem gL_law_X9_kind : GoodIn wsL_law (wsV RL 64 RX9 yX9_kind wsX9_kind) := goodIn_app (goodIn_of _ (by decide +kernel)) ggL_law_X9_kind
set_option maxRecDepth 20000 in
theorem ggL_law_X9_thrown : GoodIn wsL_law wsX9_thrown := goodIn_r _ [205, 201, 609, 610, 611, 612, 613, 614, 615, 616, 617, 618, 619, 620, 621, 622, 623, 624, 625, 626, 627, 628, 629, 630, 631, 632, 633, 634, 635, 636, 637, 638, 639, 640, 641, 642, 643, 644, 645, 646, 647, 648, 649, 650, 651] (by decide +kernel) (by decide +kernel)
set_option maxRecDepth 20000 in
theorem gL_law_X9_thrown : GoodIn wsL_law (wsV RL 65 RX9 yX9_thrown wsX9_thrown) := goodIn_app (goodIn_of _ (by decide +kernel)) ggL_law_X9_thrown
set_option maxRecDepth 20000 in
theorem ggL_law_L_mean : GoodIn wsL_law wsL_mean := goodIn_ca (goodIn_r _ [208, 166, 209, 210, 211, 2, 212, 171, 172, 213, 175, 177, 178, 179, 180, 16, 214, 215, 216, 68, 217, 97, 99, 101, 103, 660, 661, 662, 663, 664, 665, 666, 667, 668, 669, 670, 671, 672, 673, 674, 598, 599, 600, 601, 602, 603, 604, 605, 606, 607, 608, 679, 680, 681, 682, 683, 684, 685] (by decide +kernel) (by decide +kernel)) (goodIn_sub (fun _ h => List.mem_append_left _ (List.mem_append_right _ h)) (by decide +kernel))
set_option maxRecDepth 20000 in
theorem gL_law_L_mean : GoodIn wsL_law (va_wsS RL 71 yL_mean wsL_mean) := goodIn_app (goodIn_of _ (by decide +kernel)) ggL_law_L_mean
set_option maxRecDepth 20000 in
theorem ggL_law_X9_mean : GoodIn wsL_law wsX9_mean := goodIn_r _ [221, 222, 131, 132, 133, 134, 194, 195, 5, 196, 197, 198, 199, 200, 201, 609, 610, 611, 612, 613, 614, 615, 616, 617, 618, 619, 620, 621, 622, 623, 624, 625, 626, 627, 628, 629, 630, 631, 632, 633, 634, 635, 636, 637, 638, 639, 640, 641, 642, 643, 644, 645, 646, 647, 648, 649, 650, 651] (by decide +kernel) (by decide +kernel)
set_option maxRecDepth 20000 in
theorem gL_law_X9_mean : GoodIn wsL_law (wsV RL 74 RX9 yX9_mean wsX9_mean) := goodIn_app (goodIn_of _ (by decide +kernel)) ggL_law_X9_mean
set_option maxRecDepth 20000 in
theorem ggL_law_L_delay : GoodIn wsL_law wsL_delay := goodIn_ca (goodIn_r _ [225, 166, 226, 227, 228, 2, 229, 171, 172, 230, 176, 177, 178, 179, 180, 16, 231, 232, 233, 72, 234, 111, 113, 660, 661, 662, 663, 664, 665, 666, 667, 668, 669, 670, 671, 672, 673, 674, 598, 599, 600, 601, 602, 603, 604, 605, 606, 607, 608, 686, 687, 688, 689, 690, 691, 692, 693] (by decide +kernel) (by decide +kernel)) (goodIn_sub (fun _ h => List.mem_append_left _ (List.mem_append_right _ h)) (by decide +kernel))
set_option maxRecDepth 20000 in
theorem gL_law_L_delay : GoodIn wsL_law (va_wsS RL 75 yL_delay wsL_delay) := goodIn_app (goodIn_of _ (by decide +kernel)) ggL_law_L_delay
set_option maxRecDepth 20000 in
theorem ggL_law_X9_delay : GoodIn wsL_law wsX9_delay := goodIn_r _ [238, 239, 138, 139, 194, 195, 5, 196, 197, 198, 199, 200, 201, 609, 610, 611, 612, 613, 614, 615, 616, 617, 618, 619, 620, 621, 622, 623, 624, 625, 626, 627, 628, 629, 630, 631, 632, 633, 634, 635, 636, 637, 638, 639, 640, 641, 642, 643, 644, 645, 646, 647, 648, 649, 650, 651] (by decide +kernel) (by decide +kernel)
set_option maxRecDepth 20000 in
theorem gL_law_X9_delay : GoodIn wsL_law (wsV RL 78 RX9 yX9_delay wsX9_delay) := goodIn_app (goodIn_of _ (by decide +kernel)) ggL_law_X9_delay
set_option maxRecDepth 20000 in
theorem ggL_law_L_link : GoodIn wsL_law wsL_link := goodIn_ca (goodIn_r _ [242, 166, 243, 244, 245, 2, 246, 171, 172, 247, 230, 33, 36, 34, 598, 599, 600, 601, 602, 603, 604, 605, 606, 607, 608] (by decide +kernel) (by decide +kernel)) (goodIn_sub (fun _ h => List.mem_append_left _ (List.mem_append_right _ h)) (by decide +kernel))
set_option maxRecDepth 20000 in
theorem gL_law_L_link : GoodIn wsL_law (va_wsS RL 79 yL_link wsL_link) := goodIn_app (goodIn_of _ (by decide +kernel)) ggL_law_L_link
set_option maxRecDepth 20000 in
theorem ggL_law_X9_link : GoodIn wsL_law wsX9_link := goodIn_r _ [251, 252, 239, 126, 125, 127, 194, 195, 5, 196, 197, 198, 199, 200, 201, 609, 610, 611, 612, 613, 614, 615, 616, 617, 618, 619, 620, 621, 622, 623, 624, 625, 626, 627, 628, 629, 630, 631, 632, 633, 634, 635, 636, 637, 638, 639, 640, 641, 642, 643, 644, 645, 646, 647, 648, 649, 650, 651] (by decide +kernel) (by decide +kernel)
set_option maxRecDepth 20000 in
theorem gL_law_X9_link : GoodIn wsL_law (wsV RL 82 RX9 yX9_link wsX9_link) := goodIn_app (goodIn_of _ (by decide +kernel)) ggL_law_X9_link
set_option maxRecDepth 20000 in
theorem ggL_law_L_coin : GoodIn wsL_law wsL_coin := goodIn_ca (goodIn_ca (goodIn_r _ [255, 166, 256, 257, 258, 259, 2, 260, 171, 172, 261, 262, 24, 263, 264, 265, 23, 266, 267, 268, 269, 270, 50, 51, 271, 272, 273, 274, 49, 275, 276, 277, 278, 598, 599, 600, 601, 602, 603, 604, 605, 606, 607, 608, 655, 656, 657] (by decide +kernel) (by decide +kernel)) (goodIn_sub (fun _ h => List.mem_append_left _ (List.mem_append_right _ h)) (by decide +kernel))) (goodIn_sub (fun _ h => List.mem_append_right _ h) (by decide +kernel))
set_option maxRecDepth 20000 in
theorem gL_law_L_coin : GoodIn wsL_law (va_wsS RL 83 yL_coin wsL_coin) := goodIn_app (goodIn_of _ (by decide +kernel)) ggL_law_L_coin
set_option maxRecDepth 20000 in
theorem ggL_law_X9_coin : GoodIn wsL_law wsX9_coin := goodIn_r _ [282, 283, 156, 197, 198, 199, 5, 200, 201, 609, 610, 611, 612, 613, 614, 615, 616, 617, 618, 619, 620, 621, 622, 623, 624, 625, 626, 627, 628, 629, 630, 631, 632, 633, 634, 635, 636, 637, 638, 639, 640, 641, 642, 643, 644, 645, 646, 647, 648, 649, 650, 651] (by decide +kernel) (by decide +kernel)
set_option maxRecDepth 20000 in
theorem gL_law_X9_coin : GoodIn wsL_law (wsV RL 86 RX9 yX9_coin wsX9_coin) := goodIn_app (goodIn_of _ (by decide +kernel)) ggL_law_X9_coin
set_option maxRecDepth 20000 in
theorem ggL_law_L_come : GoodIn wsL_law wsL_come := goodIn_ca (goodIn_r _ [286, 166, 287, 288, 289, 2, 290, 171, 172, 291, 292, 293, 30, 29, 294, 31, 32, 34, 295, 24, 296, 297, 177, 178, 179, 180, 16, 298, 299, 300, 301, 13, 14, 302, 303, 304, 305, 306, 307, 308, 309, 310, 311, 312, 39, 313, 74, 69, 65, 314, 315, 316, 317, 68, 318, 104, 103, 106, 319, 320, 321, 322, 323, 324, 325, 326, 99, 105, 327, 328, 329, 330, 97, 101, 331, 332, 333, 23, 334, 335, 49, 51, 267, 268, 269, 270, 50, 275, 276, 277, 336, 337, 338, 339, 340, 341, 84, 342, 343, 344, 345, 346, 347, 348, 20, 349, 350, 351, 352, 19, 353, 44, 43, 354, 355, 356, 357, 64, 358, 90, 89, 359, 91, 92, 360, 694, 695, 696, 697, 698, 699, 700, 701, 598, 599, 600, 601, 602, 603, 604, 605, 606, 607, 608, 660, 661, 662, 663, 664, 665, 666, 667, 668, 669, 670, 671, 672, 673, 674, 675, 676, 677, 678, 679, 680, 681, 682, 683, 684, 685, 655, 656, 657, 652, 653, 654] (by decide +kernel) (by decide +kernel)) (goodIn_sub (fun _ h => List.mem_append_left _ (List.mem_append_right _ h)) (by decide +kernel))
set_option maxRecDepth 20000 in
theorem gL_law_L_come : GoodIn wsL_law (va_wsS RL 87 yL_come wsL_come) := goodIn_app (goodIn_of _ (by decide +kernel)) ggL_law_L_come
set_option maxRecDepth 20000 in
theorem ggL_law_X9_come : GoodIn wsL_law wsX9_come := goodIn_r _ [364, 365, 153, 127, 129, 147, 154, 366, 155, 148, 149, 150, 193, 151, 152, 194, 195, 5, 196, 197, 198, 199, 200, 201, 367, 368, 369, 370, 371, 372, 373, 374, 375, 376, 377, 378, 137, 135, 134, 131, 136, 132, 133, 379, 380, 381, 382, 283, 383, 156, 609, 610, 611, 612, 613, 614, 615, 616, 617, 618, 619, 620, 621, 622, 623, 624, 625, 626, 627, 628, 629, 630, 631, 632, 633, 634, 635, 636, 637, 638, 639, 640, 641, 642, 643, 644, 645, 646, 647, 648, 649, 650, 651] (by decide +kernel) (by decide +kernel)
set_option maxRecDepth 20000 in
theorem gL_law_X9_come : GoodIn wsL_law (wsV RL 90 RX9 yX9_come wsX9_come) := goodIn_app (goodIn_of _ (by decide +kernel)) ggL_law_X9_come
set_option maxRecDepth 20000 in
theorem ggL_law_L_tick : GoodIn wsL_law wsL_tick := goodIn_ca (goodIn_r _ [386, 166, 387, 388, 389, 2, 390, 171, 172, 391, 392, 393, 394, 29, 37, 395, 396, 397, 398, 33, 20, 399, 400, 401, 402, 403, 347, 404, 349, 405, 406, 348, 175, 407, 408, 409, 410, 19, 411, 43, 45, 412, 413, 414, 415, 416, 417, 418, 419, 420, 421, 354, 44, 422, 351, 352, 353, 423, 424, 425, 426, 346, 31, 32, 427, 428, 429, 430, 431, 64, 432, 89, 359, 90, 91, 92, 360, 433, 434, 435, 39, 436, 74, 73, 437, 65, 314, 438, 439, 440, 72, 441, 116, 118, 119, 113, 117, 442, 443, 444, 445, 111, 114, 115, 446, 447, 448, 449, 450, 451, 452, 453, 454, 336, 337, 338, 339, 340, 341, 84, 455, 456, 457, 458, 459, 460, 461, 462, 463, 464, 28, 36, 465, 466, 467, 27, 468, 57, 56, 469, 470, 471, 598, 599, 600, 601, 602, 603, 604, 605, 606, 607, 608, 652, 653, 654, 660, 661, 662, 663, 664, 665, 666, 667, 668, 669, 670, 671, 672, 673, 674, 675, 676, 677, 678, 694, 695, 696, 697, 698, 699, 700, 701, 679, 680, 681, 682, 683, 684, 685, 686, 687, 688, 689, 690, 691, 692, 693, 658, 659] (by decide +kernel) (by decide +kernel)) (goodIn_sub (fun _ h => List.mem_append_left _ (List.mem_append_right _ h)) (by decide +kernel))
set_option maxRecDepth 20000 in
theorem gL_law_L_tick : GoodIn wsL_law (va_wsS RL 91 yL_tick wsL_tick) := goodIn_app (goodIn_of _ (by decide +kernel)) ggL_law_L_tick
set_option maxRecDepth 20000 in
theorem ggL_law_X9_tick : GoodIn wsL_law wsX9_tick := goodIn_r _ [475, 193, 476, 194, 195, 5, 196, 197, 198, 199, 200, 201, 477, 478, 479, 480, 366, 154, 481, 155, 130, 149, 129, 482, 153, 483, 484, 147, 485, 486, 487, 488, 489, 490, 491, 492, 148, 493, 150, 494, 151, 152, 137, 495, 496, 497, 498, 138, 142, 140, 139, 143, 144, 145, 146, 499, 500, 501, 502, 503, 504, 505, 506, 507, 125, 157, 508, 609, 610, 611, 612, 613, 614, 615, 616, 617, 618, 619, 620, 621, 622, 623, 624, 625, 626, 627, 628, 629, 630, 631, 632, 633, 634, 635, 636, 637, 638, 639, 640, 641, 642, 643, 644, 645, 646, 647, 648, 649, 650, 651] (by decide +kernel) (by decide +kernel)
set_option maxRecDepth 20000 in
theorem gL_law_X9_tick : GoodIn wsL_law (wsV RL 94 RX9 yX9_tick wsX9_tick) := goodIn_app (goodIn_of _ (by decide +kernel)) ggL_law_X9_tick
set_option maxRecDepth 20000 in
theorem ggL_law_L_count : GoodIn wsL_law wsL_count := goodIn_ca (goodIn_r _ [511, 166, 512, 513, 514, 2, 515, 171, 172, 294, 463, 295, 296, 406, 516, 347, 348, 517, 464, 405, 177, 178, 179, 180, 16, 660, 661, 662, 663, 664, 665, 666, 667, 668, 669, 670, 671, 672, 673, 674, 675, 676, 677, 678, 598, 599, 600, 601, 602, 603, 604, 605, 606, 607, 608] (by decide +kernel) (by decide +kernel)) (goodIn_sub (fun _ h => List.mem_append_left _ (List.mem_append_right _ h)) (by decide +kernel))
set_option maxRecDepth 20000 in
theorem gL_law_L_count : GoodIn wsL_law (va_wsS RL 95 yL_count wsL_count) := goodIn_app (goodIn_of _ (by decide +kernel)) ggL_law_L_count
set_option maxRecDepth 20000 in
theorem ggL_law_X9_count : GoodIn wsL_law wsX9_count := goodIn_r _ [521, 147, 155, 153, 194, 195, 5, 196, 197, 198, 199, 200, 201, 367, 368, 369, 370, 149, 522, 523, 524, 525, 366, 154, 609, 610, 611, 612, 613, 614, 615, 616, 617, 618, 619, 620, 621, 622, 623, 624, 625, 626, 627, 628, 629, 630, 631, 632, 633, 634, 635, 636, 637, 638, 639, 640, 641, 642, 643, 644, 645, 646, 647, 648, 649, 650, 651] (by decide +kernel) (by decide +kernel)
set_option maxRecDepth 20000 in
theorem gL_law_X9_count : GoodIn wsL_law (wsV RL 98 RX9 yX9_count wsX9_count) := goodIn_app (goodIn_of _ (by decide +kernel)) ggL_law_X9_count
set_option maxRecDepth 20000 in
theorem ggL_law_L_average : GoodIn wsL_law wsL_average := goodIn_ca (goodIn_r _ [528, 166, 529, 530, 531, 2, 532, 175, 533, 177, 178, 179, 180, 171, 172, 16, 660, 661, 662, 663, 664, 665, 666, 667, 668, 669, 670, 671, 672, 673, 674, 679, 680, 681, 682, 683, 684, 685, 598, 599, 600, 601, 602, 603, 604, 605, 606, 607, 608] (by decide +kernel) (by decide +kernel)) (goodIn_sub (fun _ h => List.mem_append_left _ (List.mem_append_right _ h)) (by decide +kernel))
set_option maxRecDepth 20000 in
theorem gL_law_L_average : GoodIn wsL_law (va_wsS RL 99 yL_average wsL_average) := goodIn_app (goodIn_of _ (by decide +kernel)) ggL_law_L_average
set_option maxRecDepth 20000 in
theorem ggL_law_X9_average : GoodIn wsL_law wsX9_average := goodIn_r _ [537, 135, 194, 195, 5, 196, 197, 198, 199, 200, 201, 609, 610, 611, 612, 613, 614, 615, 616, 617, 618, 619, 620, 621, 622, 623, 624, 625, 626, 627, 628, 629, 630, 631, 632, 633, 634, 635, 636, 637, 638, 639, 640, 641, 642, 643, 644, 645, 646, 647, 648, 649, 650, 651] (by decide +kernel) (by decide +kernel)
set_option maxRecDepth 20000 in
theorem gL_law_X9_average : GoodIn wsL_law (wsV RL 102 RX9 yX9_average wsX9_average) := goodIn_app (goodIn_of _ (by decide +kernel)) ggL_law_X9_average
set_option maxRecDepth 20000 in
theorem ggL_law_L_next : GoodIn wsL_law wsL_next := goodIn_ca (goodIn_r _ [540, 166, 541, 542, 543, 2, 544, 176, 545, 546, 547, 177, 178, 179, 180, 171, 172, 16, 660, 661, 662, 663, 664, 665, 666, 667, 668, 669, 670, 671, 672, 673, 674, 686, 687, 688, 689, 690, 691, 692, 693, 598, 599, 600, 601, 602, 603, 604, 605, 606, 607, 608] (by decide +kernel) (by decide +kernel)) (goodIn_sub (fun _ h => List.mem_append_left _ (List.mem_append_right _ h)) (by decide +kernel))
set_option maxRecDepth 20000 in
theorem gL_law_L_next : GoodIn wsL_law (va_wsS RL 103 yL_next wsL_next) := goodIn_app (goodIn_of _ (by decide +kernel)) ggL_law_L_next
set_option maxRecDepth 20000 in
theorem ggL_law_X9_next : GoodIn wsL_law wsX9_next := goodIn_r _ [551, 143, 144, 552, 194, 195, 5, 196, 197, 198, 199, 200, 201, 609, 610, 611, 612, 613, 614, 615, 616, 617, 618, 619, 620, 621, 622, 623, 624, 625, 626, 627, 628, 629, 630, 631, 632, 633, 634, 635, 636, 637, 638, 639, 640, 641, 642, 643, 644, 645, 646, 647, 648, 649, 650, 651] (by decide +kernel) (by decide +kernel)
set_option maxRecDepth 20000 in
theorem gL_law_X9_next : GoodIn wsL_law (wsV RL 105 RX9 yX9_next wsX9_next) := goodIn_app (goodIn_of _ (by decide +kernel)) ggL_law_X9_next
set_option maxRecDepth 20000 in
theorem ggL_law_X8_free : GoodIn wsL_law wsX8_free := goodIn_r _ [556, 37, 598, 599, 600, 601, 602, 603, 604, 605, 606, 607, 608] (by decide +kernel) (by decide +kernel)
set_option maxRecDepth 20000 in
theorem gL_law_X8_free : GoodIn wsL_law (wsV RL 106 RX8 yX8_free wsX8_free) := goodIn_app (goodIn_of _ (by decide +kernel)) ggL_law_X8_free
set_option maxRecDepth 20000 in
theorem ggL_law_X9_free : GoodIn wsL_law wsX9_free := goodIn_r _ [560, 201, 476, 609, 610, 611, 612, 613, 614, 615, 616, 617, 618, 619, 620, 621, 622, 623, 624, 625, 626, 627, 628, 629, 630, 631, 632, 633, 634, 635, 636, 637, 638, 639, 640, 641, 642, 643, 644, 645, 646, 647, 648, 649, 650, 651] (by decide +kernel) (by decide +kernel)
set_option maxRecDepth 20000 in
theorem gL_law_X9_free : GoodIn wsL_law (wsV RL 110 RX9 yX9_free wsX9_free) := goodIn_app (goodIn_of _ (by decide +kernel)) ggL_law_X9_free
set_option maxRecDepth 20000 in
theorem ggL_law_L_sent : GoodIn wsL_law wsL_sent := goodIn_ca (goodIn_r _ [563, 166, 564, 565, 566, 2, 567, 171, 172, 28, 297, 346, 568, 349, 428, 569, 570, 571, 572, 27, 573, 56, 57, 469, 470, 471, 598, 599, 600, 601, 602, 603, 604, 605, 606, 607, 608, 694, 695, 696, 697, 698, 699, 700, 701, 660, 661, 662, 663, 664, 665, 666, 667, 668, 669, 670, 671, 672, 673, 674, 658, 659] (by decide +kernel) (by decide +kernel)) (goodIn_sub (fun _ h => List.mem_append_left _ (List.mem_append_right _ h)) (by decide +kernel))
set_option maxRecDepth 20000 in
theorem gL_law_L_sent : GoodIn wsL_law (va_wsS RL 111 yL_sent wsL_sent) := goodIn_app (goodIn_of _ (by decide +kernel)) ggL_law_L_sent
set_option maxRecDepth 20000 in
theorem ggL_law_X9_sent : GoodIn wsL_law wsX9_sent := goodIn_r _ [577, 508, 157, 194, 195, 5, 196, 197, 198, 199, 200, 201, 609, 610, 611, 612, 613, 614, 615, 616, 617, 618, 619, 620, 621, 622, 623, 624, 625, 626, 627, 628, 629, 630, 631, 632, 633, 634, 635, 636, 637, 638, 639, 640, 641, 642, 643, 644, 645, 646, 647, 648, 649, 650, 651] (by decide +kernel) (by decide +kernel)
set_option maxRecDepth 20000 in
theorem gL_law_X9_sent : GoodIn wsL_law (wsV RL 113 RX9 yX9_sent wsX9_sent) := goodIn_app (goodIn_of _ (by decide +kernel)) ggL_law_X9_sent
set_option maxRecDepth 20000 in
theorem ggL_law_X8_round : GoodIn wsL_law wsX8_round := goodIn_r _ [581, 20, 568, 582, 583, 584, 19, 585, 43, 354, 598, 599, 600, 601, 602, 603, 604, 605, 606, 607, 608, 660, 661, 662, 663, 664, 665, 666, 667, 668, 669, 670, 671, 672, 673, 674, 652, 653, 654] (by decide +kernel) (by decide +kernel)
set_option maxRecDepth 20000 in
theorem gL_law_X8_round : GoodIn wsL_law (wsV RL 114 RX8 yX8_round wsX8_round) := goodIn_app (goodIn_of _ (by decide +kernel)) ggL_law_X8_round
set_option maxRecDepth 20000 in
theorem ggL_law_X9_round : GoodIn wsL_law wsX9_round := goodIn_r _ [589, 201, 366, 154, 194, 195, 5, 196, 609, 610, 611, 612, 613, 614, 615, 616, 617, 618, 619, 620, 621, 622, 623, 624, 625, 626, 627, 628, 629, 630, 631, 632, 633, 634, 635, 636, 637, 638, 639, 640, 641, 642, 643, 644, 645, 646, 647, 648, 649, 650, 651] (by decide +kernel) (by decide +kernel)
set_option maxRecDepth 20000 in
theorem gL_law_X9_round : GoodIn wsL_law (wsV RL 117 RX9 yX9_round wsX9_round) := goodIn_app (goodIn_of _ (by decide +kernel)) ggL_law_X9_round
set_option maxRecDepth 20000 in
theorem ggL_law_X8_clock : GoodIn wsL_law wsX8_clock := goodIn_r _ [593, 29, 598, 599, 600, 601, 602, 603, 604, 605, 606, 607, 608] (by decide +kernel) (by decide +kernel)
set_option maxRecDepth 20000 in
theorem gL_law_X8_clock : GoodIn wsL_law (wsV RL 118 RX8 yX8_clock wsX8_clock) := goodIn_app (goodIn_of _ (by decide +kernel)) ggL_law_X8_clock
set_option maxRecDepth 20000 in
theorem ggL_law_X9_clock : GoodIn wsL_law wsX9_clock := goodIn_r _ [597, 201, 193, 609, 610, 611, 612, 613, 614, 615, 616, 617, 618, 619, 620, 621, 622, 623, 624, 625, 626, 627, 628, 629, 630, 631, 632, 633, 634, 635, 636, 637, 638, 639, 640, 641, 642, 643, 644, 645, 646, 647, 648, 649, 650, 651] (by decide +kernel) (by decide +kernel)
set_option maxRecDepth 20000 in
theorem gL_law_X9_clock : GoodIn wsL_law (wsV RL 121 RX9 yX9_clock wsX9_clock) := goodIn_app (goodIn_of _ (by decide +kernel)) ggL_law_X9_clock
end
