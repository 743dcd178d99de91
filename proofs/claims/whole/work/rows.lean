section
-- ===== PART A: goes FIRST, ahead of the names: the tables' words, and 'selects' of the private methods out of them =====
/-- a private method of a class that the tables say can be made, by its rows of tables_1 -/
def lw_okq (q : MethodName × Nat) : Prop := (q.1.cls ≠ "java/lang/invoke/MethodHandle" ∧ q.1.cls ≠ "java/lang/invoke/VarHandle") ∧ Cond.instantiable q.1.cls q.2 ∈ tables_1 ∧ Cond.privateMethod q.1 ∈ tables_1 ∧ Cond.instanceMethod q.1 ∈ tables_1
theorem lw_p0 : lw_okq (⟨"CycleKernel", "nextTime", "()J"⟩, 14) := ⟨⟨by decide +kernel, by decide +kernel⟩, List.mem_of_getElem? (i := 18) (by decide +kernel), List.mem_of_getElem? (i := 146) (by decide +kernel), List.mem_of_getElem? (i := 147) (by decide +kernel)⟩
theorem lw_p1 : lw_okq (⟨"java/lang/Throwable", "fillInStackTrace", "(I)Ljava/lang/Throwable;"⟩, 6) := ⟨⟨by decide +kernel, by decide +kernel⟩, List.mem_of_getElem? (i := 220) (by decide +kernel), List.mem_of_getElem? (i := 218) (by decide +kernel), List.mem_of_getElem? (i := 219) (by decide +kernel)⟩
theorem lw_p2 : lw_okq (⟨"CycleKernel", "taskOf", "(I)LCycleKernel$Task;"⟩, 14) := ⟨⟨by decide +kernel, by decide +kernel⟩, List.mem_of_getElem? (i := 18) (by decide +kernel), List.mem_of_getElem? (i := 336) (by decide +kernel), List.mem_of_getElem? (i := 337) (by decide +kernel)⟩
theorem lw_p3 : lw_okq (⟨"CycleKernel", "signalOf", "(I)LCycleKernel$Signal;"⟩, 14) := ⟨⟨by decide +kernel, by decide +kernel⟩, List.mem_of_getElem? (i := 18) (by decide +kernel), List.mem_of_getElem? (i := 356) (by decide +kernel), List.mem_of_getElem? (i := 357) (by decide +kernel)⟩
theorem lw_p4 : lw_okq (⟨"CycleKernel$Signal", "together", "(I)I"⟩, 6) := ⟨⟨by decide +kernel, by decide +kernel⟩, List.mem_of_getElem? (i := 266) (by decide +kernel), List.mem_of_getElem? (i := 433) (by decide +kernel), List.mem_of_getElem? (i := 434) (by decide +kernel)⟩
theorem lw_p5 : lw_okq (⟨"CycleKernel$Signal", "logicTogether", "(I)I"⟩, 6) := ⟨⟨by decide +kernel, by decide +kernel⟩, List.mem_of_getElem? (i := 266) (by decide +kernel), List.mem_of_getElem? (i := 437) (by decide +kernel), List.mem_of_getElem? (i := 438) (by decide +kernel)⟩
theorem lw_p6 : lw_okq (⟨"CycleKernel", "fitsMode", "(IJ)Z"⟩, 14) := ⟨⟨by decide +kernel, by decide +kernel⟩, List.mem_of_getElem? (i := 18) (by decide +kernel), List.mem_of_getElem? (i := 475) (by decide +kernel), List.mem_of_getElem? (i := 476) (by decide +kernel)⟩
theorem lw_p7 : lw_okq (⟨"CycleKernel", "fitsTime", "()Z"⟩, 14) := ⟨⟨by decide +kernel, by decide +kernel⟩, List.mem_of_getElem? (i := 18) (by decide +kernel), List.mem_of_getElem? (i := 479) (by decide +kernel), List.mem_of_getElem? (i := 480) (by decide +kernel)⟩
theorem lw_p8 : lw_okq (⟨"CycleKernel", "assignElement", "(LCycleKernel$Row;IZJ)I"⟩, 14) := ⟨⟨by decide +kernel, by decide +kernel⟩, List.mem_of_getElem? (i := 18) (by decide +kernel), List.mem_of_getElem? (i := 502) (by decide +kernel), List.mem_of_getElem? (i := 503) (by decide +kernel)⟩
theorem lw_p9 : lw_okq (⟨"CycleKernel$Row", "deleteBetween", "(LCycleKernel$Transaction;LCycleKernel$Transaction;)I"⟩, 3) := ⟨⟨by decide +kernel, by decide +kernel⟩, List.mem_of_getElem? (i := 375) (by decide +kernel), List.mem_of_getElem? (i := 514) (by decide +kernel), List.mem_of_getElem? (i := 515) (by decide +kernel)⟩
theorem lw_p10 : lw_okq (⟨"CycleKernel$Row", "join", "(LCycleKernel$Transaction;LCycleKernel$Transaction;)V"⟩, 3) := ⟨⟨by decide +kernel, by decide +kernel⟩, List.mem_of_getElem? (i := 375) (by decide +kernel), List.mem_of_getElem? (i := 522) (by decide +kernel), List.mem_of_getElem? (i := 523) (by decide +kernel)⟩
theorem lw_p11 : lw_okq (⟨"CycleKernel", "isAnyBusy", "()Z"⟩, 14) := ⟨⟨by decide +kernel, by decide +kernel⟩, List.mem_of_getElem? (i := 18) (by decide +kernel), List.mem_of_getElem? (i := 609) (by decide +kernel), List.mem_of_getElem? (i := 610) (by decide +kernel)⟩
theorem lw_p12 : lw_okq (⟨"CycleKernel", "updateSignals", "()V"⟩, 14) := ⟨⟨by decide +kernel, by decide +kernel⟩, List.mem_of_getElem? (i := 18) (by decide +kernel), List.mem_of_getElem? (i := 614) (by decide +kernel), List.mem_of_getElem? (i := 615) (by decide +kernel)⟩
theorem lw_p13 : lw_okq (⟨"CycleKernel", "wakeTasks", "()V"⟩, 14) := ⟨⟨by decide +kernel, by decide +kernel⟩, List.mem_of_getElem? (i := 18) (by decide +kernel), List.mem_of_getElem? (i := 634) (by decide +kernel), List.mem_of_getElem? (i := 635) (by decide +kernel)⟩
theorem lw_p14 : lw_okq (⟨"CycleKernelModel", "noProcess", "(I)Z"⟩, 34) := ⟨⟨by decide +kernel, by decide +kernel⟩, List.mem_of_getElem? (i := 695) (by decide +kernel), List.mem_of_getElem? (i := 823) (by decide +kernel), List.mem_of_getElem? (i := 824) (by decide +kernel)⟩
theorem lw_p15 : lw_okq (⟨"CycleKernelModel", "noSignal", "(I)Z"⟩, 34) := ⟨⟨by decide +kernel, by decide +kernel⟩, List.mem_of_getElem? (i := 695) (by decide +kernel), List.mem_of_getElem? (i := 827) (by decide +kernel), List.mem_of_getElem? (i := 828) (by decide +kernel)⟩
def lw_privs_1 : List (MethodName × Nat) := [(⟨"CycleKernel", "nextTime", "()J"⟩, 14), (⟨"java/lang/Throwable", "fillInStackTrace", "(I)Ljava/lang/Throwable;"⟩, 6), (⟨"CycleKernel", "taskOf", "(I)LCycleKernel$Task;"⟩, 14), (⟨"CycleKernel", "signalOf", "(I)LCycleKernel$Signal;"⟩, 14), (⟨"CycleKernel$Signal", "together", "(I)I"⟩, 6), (⟨"CycleKernel$Signal", "logicTogether", "(I)I"⟩, 6), (⟨"CycleKernel", "fitsMode", "(IJ)Z"⟩, 14), (⟨"CycleKernel", "fitsTime", "()Z"⟩, 14), (⟨"CycleKernel", "assignElement", "(LCycleKernel$Row;IZJ)I"⟩, 14), (⟨"CycleKernel$Row", "deleteBetween", "(LCycleKernel$Transaction;LCycleKernel$Transaction;)I"⟩, 3), (⟨"CycleKernel$Row", "join", "(LCycleKernel$Transaction;LCycleKernel$Transaction;)V"⟩, 3), (⟨"CycleKernel", "isAnyBusy", "()Z"⟩, 14), (⟨"CycleKernel", "updateSignals", "()V"⟩, 14), (⟨"CycleKernel", "wakeTasks", "()V"⟩, 14), (⟨"CycleKernelModel", "noProcess", "(I)Z"⟩, 34), (⟨"CycleKernelModel", "noSignal", "(I)Z"⟩, 34)]
theorem lw_r1 : ∀ q ∈ lw_privs_1, lw_okq q := List.forall_mem_cons.mpr ⟨lw_p0, List.forall_mem_cons.mpr ⟨lw_p1, List.forall_mem_cons.mpr ⟨lw_p2, List.forall_mem_cons.mpr ⟨lw_p3, List.forall_mem_cons.mpr ⟨lw_p4, List.forall_mem_cons.mpr ⟨lw_p5, List.forall_mem_cons.mpr ⟨lw_p6, List.forall_mem_cons.mpr ⟨lw_p7, List.forall_mem_cons.mpr ⟨lw_p8, List.forall_mem_cons.mpr ⟨lw_p9, List.forall_mem_cons.mpr ⟨lw_p10, List.forall_mem_cons.mpr ⟨lw_p11, List.forall_mem_cons.mpr ⟨lw_p12, List.forall_mem_cons.mpr ⟨lw_p13, List.forall_mem_cons.mpr ⟨lw_p14, List.forall_mem_cons.mpr ⟨lw_p15, fun _ h => absurd h List.not_mem_nil⟩⟩⟩⟩⟩⟩⟩⟩⟩⟩⟩⟩⟩⟩⟩⟩
theorem lw_p16 : lw_okq (⟨"CycleKernelModel", "driverOf", "(II)I"⟩, 34) := ⟨⟨by decide +kernel, by decide +kernel⟩, List.mem_of_getElem? (i := 695) (by decide +kernel), List.mem_of_getElem? (i := 831) (by decide +kernel), List.mem_of_getElem? (i := 832) (by decide +kernel)⟩
theorem lw_p17 : lw_okq (⟨"CycleKernelModel", "isDriven", "(I)Z"⟩, 34) := ⟨⟨by decide +kernel, by decide +kernel⟩, List.mem_of_getElem? (i := 695) (by decide +kernel), List.mem_of_getElem? (i := 835) (by decide +kernel), List.mem_of_getElem? (i := 836) (by decide +kernel)⟩
theorem lw_p18 : lw_okq (⟨"CycleKernelModel", "noElement", "(II)Z"⟩, 34) := ⟨⟨by decide +kernel, by decide +kernel⟩, List.mem_of_getElem? (i := 695) (by decide +kernel), List.mem_of_getElem? (i := 843) (by decide +kernel), List.mem_of_getElem? (i := 844) (by decide +kernel)⟩
theorem lw_p19 : lw_okq (⟨"CycleKernelModel", "cannot", "(II)Z"⟩, 34) := ⟨⟨by decide +kernel, by decide +kernel⟩, List.mem_of_getElem? (i := 695) (by decide +kernel), List.mem_of_getElem? (i := 847) (by decide +kernel), List.mem_of_getElem? (i := 848) (by decide +kernel)⟩
theorem lw_p20 : lw_okq (⟨"CycleKernelModel", "made", "(II)I"⟩, 34) := ⟨⟨by decide +kernel, by decide +kernel⟩, List.mem_of_getElem? (i := 695) (by decide +kernel), List.mem_of_getElem? (i := 855) (by decide +kernel), List.mem_of_getElem? (i := 856) (by decide +kernel)⟩
theorem lw_p21 : lw_okq (⟨"CycleKernelModel", "good", "(IIIJ)Z"⟩, 34) := ⟨⟨by decide +kernel, by decide +kernel⟩, List.mem_of_getElem? (i := 695) (by decide +kernel), List.mem_of_getElem? (i := 879) (by decide +kernel), List.mem_of_getElem? (i := 880) (by decide +kernel)⟩
theorem lw_p22 : lw_okq (⟨"CycleKernelModel", "assignOne", "(IIIJ)I"⟩, 34) := ⟨⟨by decide +kernel, by decide +kernel⟩, List.mem_of_getElem? (i := 695) (by decide +kernel), List.mem_of_getElem? (i := 883) (by decide +kernel), List.mem_of_getElem? (i := 884) (by decide +kernel)⟩
theorem lw_p23 : lw_okq (⟨"CycleKernelModel", "move", "(II)V"⟩, 34) := ⟨⟨by decide +kernel, by decide +kernel⟩, List.mem_of_getElem? (i := 695) (by decide +kernel), List.mem_of_getElem? (i := 887) (by decide +kernel), List.mem_of_getElem? (i := 888) (by decide +kernel)⟩
theorem lw_p24 : lw_okq (⟨"CycleKernelModel", "some", "(I)Z"⟩, 34) := ⟨⟨by decide +kernel, by decide +kernel⟩, List.mem_of_getElem? (i := 695) (by decide +kernel), List.mem_of_getElem? (i := 915) (by decide +kernel), List.mem_of_getElem? (i := 916) (by decide +kernel)⟩
theorem lw_p25 : lw_okq (⟨"CycleKernelModel", "takeDue", "()V"⟩, 34) := ⟨⟨by decide +kernel, by decide +kernel⟩, List.mem_of_getElem? (i := 695) (by decide +kernel), List.mem_of_getElem? (i := 920) (by decide +kernel), List.mem_of_getElem? (i := 921) (by decide +kernel)⟩
theorem lw_p26 : lw_okq (⟨"CycleKernelModel", "renew", "(I)V"⟩, 34) := ⟨⟨by decide +kernel, by decide +kernel⟩, List.mem_of_getElem? (i := 695) (by decide +kernel), List.mem_of_getElem? (i := 924) (by decide +kernel), List.mem_of_getElem? (i := 925) (by decide +kernel)⟩
theorem lw_p27 : lw_okq (⟨"CycleKernelModel", "look", "(I)V"⟩, 34) := ⟨⟨by decide +kernel, by decide +kernel⟩, List.mem_of_getElem? (i := 695) (by decide +kernel), List.mem_of_getElem? (i := 928) (by decide +kernel), List.mem_of_getElem? (i := 929) (by decide +kernel)⟩
def lw_privs_2 : List (MethodName × Nat) := [(⟨"CycleKernelModel", "driverOf", "(II)I"⟩, 34), (⟨"CycleKernelModel", "isDriven", "(I)Z"⟩, 34), (⟨"CycleKernelModel", "noElement", "(II)Z"⟩, 34), (⟨"CycleKernelModel", "cannot", "(II)Z"⟩, 34), (⟨"CycleKernelModel", "made", "(II)I"⟩, 34), (⟨"CycleKernelModel", "good", "(IIIJ)Z"⟩, 34), (⟨"CycleKernelModel", "assignOne", "(IIIJ)I"⟩, 34), (⟨"CycleKernelModel", "move", "(II)V"⟩, 34), (⟨"CycleKernelModel", "some", "(I)Z"⟩, 34), (⟨"CycleKernelModel", "takeDue", "()V"⟩, 34), (⟨"CycleKernelModel", "renew", "(I)V"⟩, 34), (⟨"CycleKernelModel", "look", "(I)V"⟩, 34)]
theorem lw_r2 : ∀ q ∈ lw_privs_2, lw_okq q := List.forall_mem_cons.mpr ⟨lw_p16, List.forall_mem_cons.mpr ⟨lw_p17, List.forall_mem_cons.mpr ⟨lw_p18, List.forall_mem_cons.mpr ⟨lw_p19, List.forall_mem_cons.mpr ⟨lw_p20, List.forall_mem_cons.mpr ⟨lw_p21, List.forall_mem_cons.mpr ⟨lw_p22, List.forall_mem_cons.mpr ⟨lw_p23, List.forall_mem_cons.mpr ⟨lw_p24, List.forall_mem_cons.mpr ⟨lw_p25, List.forall_mem_cons.mpr ⟨lw_p26, List.forall_mem_cons.mpr ⟨lw_p27, fun _ h => absurd h List.not_mem_nil⟩⟩⟩⟩⟩⟩⟩⟩⟩⟩⟩⟩
def lw_privs : List (MethodName × Nat) := lw_privs_1 ++ (lw_privs_2)
def lw_tbl : List Cond := k2_sels lw_privs ++ tables_1
theorem lw_privs_ok : ∀ q ∈ lw_privs, lw_okq q := by
  show ∀ q ∈ lw_privs_1 ++ (lw_privs_2), lw_okq q
  exact List.forall_mem_append.mpr ⟨lw_r1, lw_r2⟩
end
section
/-! ===== BEGIN words of one list among another's, by their places ===== -/
theorem goodIn_r {big : List Cond} (ws : List Cond) (ps : List Nat) (hp : ws = ps.filterMap (fun i => big[i]?)) (h : ws.all goodWord = true) : GoodIn big ws := by
  intro w hw
  have h1 := List.all_eq_true.mp h w hw
  rw [hp] at hw
  obtain ⟨i, -, hi⟩ := List.mem_filterMap.mp hw
  have hm : w ∈ big := by first | exact List.mem_of_getElem? hi | exact List.getElem?_mem hi
  exact ⟨hm, good_of_word h1⟩
theorem goodIn_app {big a b : List Cond} (ha : GoodIn big a) (hb : GoodIn big b) : GoodIn big (a ++ b) := fun w h => (List.mem_append.mp h).elim (ha w) (hb w)
theorem goodIn_ca {big a b : List Cond} {c : Cond} (ha : GoodIn big (c :: a)) (hb : GoodIn big b) : GoodIn big (c :: (a ++ b)) := fun w h => (List.mem_cons.mp h).elim (fun e => ha w (List.mem_cons.mpr (Or.inl e))) (fun h => (List.mem_append.mp h).elim (fun h => ha w (List.mem_cons.mpr (Or.inr h))) (hb w))
theorem goodIn_sub {big ws : List Cond} (hm : ∀ w ∈ ws, w ∈ big) (h : ws.all goodWord = true) : GoodIn big ws := fun w hw => ⟨hm w hw, good_of_word (List.all_eq_true.mp h w hw)⟩
/-! ===== END ===== -/

/-! ===== BEGIN exceptions that leave a method, and their catching by the caller (launches without stack traces) ===== -/
section VXA
/-! The laws vx_back, vx_callV, vx_callS, vx_callSW, vx_throw0, vx_throwS follow proofs of the library, with one case more: JvmDerived/Free/Laws.lean (Back.of_free), Shelf42/LK1.lean (callV, callS), Shelf/KitTraced.lean (throwNew0V, throwNewS). -/
/-- where a method has thrown q: the class by its name, the cell, what was written, the world -/
def vx_T (XC : String → State → State → Prop) (st : State) (q : Addr) (t : State) (mc ms : Nat) (free : Addr → Prop) : Prop :=
  ∃ (E : String) (ce : Cell) (L : List Loc), XC E st t ∧ t.heap[q]? = some ce ∧ ce.vm = .none ∧ st.vm.findClass E = some ce.cls ∧ st.WarmedH t.vm ∧ st.sameButNew ({ t with vm := st.vm } : State) L mc ms ∧ ∀ z ∈ L, free z.base
def vx_Q (Qc : Array Value → State → Outcome → State → Prop) (XC : String → State → State → Prop) (mc ms : Nat) (free : Addr → Prop) : Array Value → State → Outcome → State → Prop := fun a st o t =>
  (Qc a st o t ∧ ∃ L, FrameEnd st o t L mc ms ∧ ∀ q ∈ L, free q.base) ∨ ∃ q, o = .threw q ∧ vx_T XC st q t mc ms free
/-- a callee that returns or throws -/
def vx_Met (l : Launch) (y : MethodName) (ws : List Cond) (rm : Room) (Pc : Array Value → State → Prop) (Qc : Array Value → State → Outcome → State → Prop) (XC : String → State → State → Prop) (mc ms : Nat) (free : Addr → Prop) : Prop :=
  MetFree l y (headSpec ws rm) Pc (fun _ _ _ _ _ => True) (vx_Q Qc XC mc ms free)
def vx_Post (XC : String → State → State → Prop) (mc ms : Nat) (free : Addr → Prop) : Pt → Array Value → Addr → Pt → Prop := fun A a q B =>
  ∃ (g : JFrame) (mk : MethodId) (t : State) (L : List Loc) (E : String) (ce : Cell), B.U.heap = t.heap ∧ B.U.vm = t.vm ∧ XC E (A.U.calling g mk a) t ∧ t.heap[q]? = some ce ∧ ce.vm = .none ∧ A.U.vm.findClass E = some ce.cls ∧ B.locs = A.locs ++ L ∧ (∀ z ∈ L, free z.base) ∧ B.cells = A.cells + mc ∧ B.slots = A.slots + ms
def vx_Back (l : Launch) (R : Room) (p : Program) (e : Env) (below : List Frame) (s : State) (sargs : Array Value) (y : MethodName) (len W9 : Nat)
    (Pre : Pt → Array Value → Prop) (Post : Pt → Array Value → Option Value → Pt → Prop) (PostX : Pt → Array Value → Addr → Pt → Prop) : Prop :=
  ∀ (m : MethodId) (meth : Method) (c : Code) (A : Pt) (g : JFrame) (ig : Instr) (mk : MethodId) (a : Array Value),
    Stand p l e R s m sargs below meth c A.U A.locs A.cells A.slots → g.method = m → g.locals.size = c.maxLocals → decode c.code g.pc = .ok (ig, len) →
    2 * g.monitorRoom + (g.stack.map fun v => v.category).sum ≤ W9 → A.U.methodNamed? y = some mk → Pre A a →
    (∃ (v : Option Value) (B : Pt), Stand p l e R s m sargs below meth c B.U B.locs B.cells B.slots ∧ Post A a v B ∧
      Steps p.tables e below (doInvoke e (A.U.setTop g) [] mk a).1 (B.U.setTop { g with pc := g.pc + len, stack := v.toList ++ g.stack })) ∨
    (∃ (q : Addr) (B : Pt), Stand p l e R s m sargs below meth c B.U B.locs B.cells B.slots ∧ PostX A a q B ∧
      Steps p.tables e below (doInvoke e (A.U.setTop g) [] mk a).1 ((B.U.setTop g).pushFrame (.throwing q)))
section Payer
variable {l : Launch} {R : Room} {p : Program} {e : Env} {below : List Frame} {s : State} {sargs : Array Value} {y : MethodName} {len W9 : Nat}
theorem vx_back {ws : List Cond} {rm : Room} {Pc : Array Value → State → Prop} {Qc : Array Value → State → Outcome → State → Prop} {XC : String → State → State → Prop} {mc ms : Nat} {free : Addr → Prop} {bytes : ByteArray} {maxL : Nat} {ret : Option FieldType}
    (hM : vx_Met l y ws rm Pc Qc XC mc ms free) (hblind : FrameBlind Pc) (hrc : rm.cells = mc) (hrs : rm.slots = ms)
    (hframes : rm.frames + 1 ≤ R.frames) (hlocals : W9 + (maxL + 11) + rm.locals ≤ R.locals)
    (hws : ∀ w ∈ ws, ∀ a' U, s.WarmedH U.vm → w.before a' U = true) (hcode : Cond.code y bytes maxL ret ∈ ws) (hinit : ∀ a' U, s.WarmedH U.vm → (Cond.initialized y.cls).before a' U = true) :
    vx_Back l R p e below s sargs y len W9 (PreOf R mc ms Pc) (PostOf Qc mc ms free) (vx_Post XC mc ms free) := by
  intro m meth c A g ig mk a X hg hsize hdg hW hn hp
  have h1 : (headSpec ws rm).pre.before a A.U = true := atoms_intro fun w hw => hws w hw _ _ X.warmed
  have h2 : (Cond.code y bytes maxL ret).before a A.U = true := hws _ hcode _ _ X.warmed
  have h3 : (Cond.initialized y.cls).before a A.U = true := hinit _ _ X.warmed
  have h4 : A.cells + (headSpec ws rm).room.cells ≤ R.cells := by rw [show (headSpec ws rm).room.cells = mc from hrc]; exact hp.1
  have h5 : A.slots + (headSpec ws rm).room.slots ≤ R.slots := by rw [show (headSpec ws rm).room.slots = ms from hrs]; exact hp.2.1
  have hPc : Pc a (A.U.calling g mk a) := hblind _ _ _ _ hp.2.2
  obtain ⟨U, Ls, c0, s0⟩ := A
  dsimp only [Pt.U, Pt.locs, Pt.cells, Pt.slots] at h1 h2 h3 h4 h5 X hn hPc ⊢
  obtain ⟨methY, cY, hmY, hcY, -, hlY, -, -, -, -⟩ := Cond.code_spec hn h2
  obtain ⟨kY, hkY, -⟩ := className_of_methodNamed hn
  have hinitY : kY.init = .initialized := Cond.initialized_spec (findClass_of_methodNamed hn) hkY h3
  have h : At U g.method c below := by rw [hg]; exact X.here
  have hlocals9 : W9 + (maxL + 11) + (headSpec ws rm).room.locals ≤ R.locals := hlocals
  have happ : (headSpec ws rm).appliesLoose y e.platform (U.calling g mk a) = true :=
    Spec.appliesLoose_calling (g := g) h hdg hn hkY hinitY
      (X.room_calling (g := g) (R' := (headSpec ws rm).room) hsize hmY hcY hframes (by rw [hlY]; omega) h4 h5) h1
  obtain ⟨mid, hmid⟩ := h.above
  have hfr : (U.setTop g).frames = (.java g :: mid) ++ below := by rw [State.frames_setTop' g h.top, hmid]; rfl
  obtain ⟨o, s₂, hsteps, -, hend, hq⟩ := Steps.callFree hM p X.admits X.cas X.clock (acts := []) hfr happ hPc trivial
  have hq' : vx_Q Qc XC mc ms free a (U.calling g mk a) o s₂ := hq
  rw [State.frames_setTop' g h.top] at hend
  obtain ⟨g₀, hg0⟩ := Option.isSome_iff_exists.mp h.top
  obtain ⟨r, hr⟩ := State.topJava?_eq_some.mp hg0
  have hr' : (({ U with heap := s₂.heap, slotsUsed := s₂.slotsUsed } : State).setVm s₂.vm).frames = .java g₀ :: r := hr
  rcases hq' with ⟨hqc, L, hfe, hL⟩ | ⟨q, rfl, E, ce, L, hx, hce, hcv, hcl, hW₂, hsm, hL⟩
  · obtain ⟨⟨v, rfl⟩, hW₂, e2, q2, q3, q4, q5, q6⟩ := id hfe
    have e3 : s₂ = ({ (U.calling g mk a).setFrames s₂.frames with heap := s₂.heap, slotsUsed := s₂.slotsUsed } : State).setVm s₂.vm := by
      have : s₂ = ({ s₂ with vm := (U.calling g mk a).vm } : State).setVm s₂.vm := rfl
      rw [e2] at this
      exact this
    obtain ⟨c₂, i₂, len₂, hc₂, hd₂, hf₂⟩ := hend
    have hW' : U.WarmedH s₂.vm := hW₂
    have hcc : c₂ = c := by
      have h1 : s₂.code? g.method = U.code? g.method := by
        rw [State.code?_eq, State.code?_eq, hW'.alike.method?]
      exact Option.some.inj (hc₂.symm.trans (h1.trans h.code))
    subst hcc
    have hlen : len₂ = len := by rw [hdg] at hd₂; cases hd₂; rfl
    subst hlen
    have hs₂ : s₂ = (({ U with heap := s₂.heap, slotsUsed := s₂.slotsUsed } : State).setVm s₂.vm).setTop { g with pc := g.pc + len₂, stack := v.toList ++ g.stack } := by
      refine e3.trans ?_
      rw [hf₂, State.calling_eq h.top, State.setFrames_setFrames, State.setTop_of_frames _ hr', hr]
      rfl
    have hsame : U.sameButNew ({ U with heap := s₂.heap, slotsUsed := s₂.slotsUsed } : State) L mc ms := by
      refine ⟨?_, q2, q3, q4, q5, q6⟩
      obtain ⟨t, ht, -⟩ := State.frames_cons hr
      show ({ U with heap := s₂.heap, slotsUsed := s₂.slotsUsed } : State) = { U.setFrames U.frames with heap := s₂.heap, slotsUsed := s₂.slotsUsed }
      rw [State.setFrames_self ht]
    subst hg
    refine Or.inl ⟨v, ⟨(({ U with heap := s₂.heap, slotsUsed := s₂.slotsUsed } : State).setVm s₂.vm), Ls ++ L, c0 + mc, s0 + ms⟩,
      ⟨X.admits, X.cas, X.clock, X.frames, X.room, X.hears, X.method, X.code, (X.here.setHeapUsed s₂.heap s₂.slotsUsed).setVm hW'.alike, X.tail, State.WarmedH.trans X.warmed hW', X.limits, X.bytes, X.same.trans (hsame.setVm s.vm)⟩,
      ⟨g, mk, s₂, L, rfl, rfl, hqc, rfl, hL, rfl, rfl⟩, ?_⟩
    show Steps p.tables e below _ ((({ U with heap := s₂.heap, slotsUsed := s₂.slotsUsed } : State).setVm s₂.vm).setTop { g with pc := g.pc + len₂, stack := v.toList ++ g.stack })
    rw [← hs₂]
    exact hsteps
  · obtain ⟨e2, q2, q3, q4, q5, q6⟩ := id hsm
    have e3 : s₂ = ({ (U.calling g mk a).setFrames s₂.frames with heap := s₂.heap, slotsUsed := s₂.slotsUsed } : State).setVm s₂.vm := by
      have : s₂ = ({ s₂ with vm := (U.calling g mk a).vm } : State).setVm s₂.vm := rfl
      rw [e2] at this
      exact this
    have hf₂ : s₂.frames = .throwing q :: .java g :: U.frames.tail := hend
    have hW' : U.WarmedH s₂.vm := hW₂
    have hs₂ : s₂ = ((({ U with heap := s₂.heap, slotsUsed := s₂.slotsUsed } : State).setVm s₂.vm).setTop g).pushFrame (.throwing q) := by
      refine e3.trans ?_
      rw [hf₂, State.calling_eq h.top, State.setFrames_setFrames, State.pushFrame, State.frames_setTop _ hr', State.setTop_of_frames _ hr', State.setFrames_setFrames, hr]
      rfl
    have hsame : U.sameButNew ({ U with heap := s₂.heap, slotsUsed := s₂.slotsUsed } : State) L mc ms := by
      refine ⟨?_, q2, q3, q4, q5, q6⟩
      obtain ⟨t, ht, -⟩ := State.frames_cons hr
      show ({ U with heap := s₂.heap, slotsUsed := s₂.slotsUsed } : State) = { U.setFrames U.frames with heap := s₂.heap, slotsUsed := s₂.slotsUsed }
      rw [State.setFrames_self ht]
    subst hg
    refine Or.inr ⟨q, ⟨(({ U with heap := s₂.heap, slotsUsed := s₂.slotsUsed } : State).setVm s₂.vm), Ls ++ L, c0 + mc, s0 + ms⟩,
      ⟨X.admits, X.cas, X.clock, X.frames, X.room, X.hears, X.method, X.code, (X.here.setHeapUsed s₂.heap s₂.slotsUsed).setVm hW'.alike, X.tail, State.WarmedH.trans X.warmed hW', X.limits, X.bytes, X.same.trans (hsame.setVm s.vm)⟩,
      ⟨g, mk, s₂, L, E, ce, rfl, rfl, hx, hce, hcv, hcl, rfl, hL, rfl, rfl⟩, ?_⟩
    show Steps p.tables e below _ (((({ U with heap := s₂.heap, slotsUsed := s₂.slotsUsed } : State).setVm s₂.vm).setTop g).pushFrame (.throwing q))
    rw [← hs₂]
    exact hsteps
end Payer
section Calls
variable {p : Program} {l : Launch} {e : Env} {R : Room} {s : State} {m : MethodId} {args : Array Value} {below : List Frame} {meth : Method} {c : Code} {T : State} {locs : List Loc} {cells slots : Nat}
theorem vx_callV (X : Stand p l e R s m args below meth c T locs cells slots) (hexec : p.tables.exec = Jvm.exec) {own C : String} {index : Nat} {y : MethodName} {bytes : ByteArray} {maxL : Nat} {ret : Option FieldType}
    (hown : s.vm.findClass own = some m.cls) (hlink : (Cond.methodLink own index y).before args s = true) (hinst : (Cond.instanceMethod y).before args s = true) (hsel : (Cond.selects C y y).before args s = true)
    (hcode : (Cond.code y bytes maxL ret).before args s = true) (hy : y.cls ≠ "java/lang/invoke/MethodHandle" ∧ y.cls ≠ "java/lang/invoke/VarHandle")
    {W9 : Nat} {Pre : Pt → Array Value → Prop} {Post : Pt → Array Value → Option Value → Pt → Prop} {PostX : Pt → Array Value → Addr → Pt → Prop} (hK : vx_Back l R p e below s args y 3 W9 Pre Post PostX)
    {b : Addr} {cellB : Cell} (hcell : T.heap[b]? = some cellB) (hobj : cellB.vm.isStatics = false) (hcls : s.vm.findClass C = some cellB.cls)
    {g : JFrame} (hg : g.method = m) (hsize : g.locals.size = c.maxLocals) {argsL rest : List Value} (hlen : ∀ sig, parseMethodDescriptor y.desc = some sig → argsL.length = sig.parameters.length)
    (hstack : g.stack = argsL.reverse ++ .ref b :: rest) (hW : 2 * g.monitorRoom + (rest.map fun v => v.category).sum ≤ W9) (hdg : decode c.code g.pc = .ok (.invokevirtual index, 3))
    (hpre : ∀ vm₁, s.WarmedH vm₁ → Pre ⟨T.setVm vm₁, locs, cells, slots⟩ (Value.ref b :: argsL).toArray) :
    (∃ (v : Option Value) (vm₁ : Vm) (B : Pt), s.WarmedH vm₁ ∧ Stand p l e R s m args below meth c B.U B.locs B.cells B.slots ∧ Post ⟨T.setVm vm₁, locs, cells, slots⟩ (Value.ref b :: argsL).toArray v B ∧
      ∀ target, Steps p.tables e below (B.U.setTop { g with pc := g.pc + 3, stack := v.toList ++ rest }) target → Steps p.tables e below (T.setTop g) target) ∨
    (∃ (q : Addr) (vm₁ : Vm) (B : Pt), s.WarmedH vm₁ ∧ Stand p l e R s m args below meth c B.U B.locs B.cells B.slots ∧ PostX ⟨T.setVm vm₁, locs, cells, slots⟩ (Value.ref b :: argsL).toArray q B ∧
      Steps p.tables e below (T.setTop g) ((B.U.setTop { g with stack := rest }).pushFrame (.throwing q))) := by
  obtain ⟨mk, methM, hnamed, hmethM, hstM, habM⟩ := Cond.instanceMethod_spec hinst
  obtain ⟨methM', cM, hmethM', -, -, -, -, -, -, hsigM⟩ := Cond.code_spec hnamed hcode
  cases hmethM.symm.trans hmethM'
  obtain ⟨c2, r2, m2, q1, q2, q3, q4, kP, hkP, hkPi⟩ := Cond.selects_spec hsel
  cases hcls.symm.trans q1
  cases (State.methodFound?_of_named hnamed hy).symm.trans q2
  cases hnamed.symm.trans q3
  have hselP : selectMethod e.platform s.vm cellB.cls mk = .method mk := by rw [Launch.admits_selectMethod X.admits]; exact q4
  obtain ⟨vm₁, X₁, hstep₁⟩ := X.invokevirtual hexec hown hlink hnamed hmethM hstM hkP hkPi hy (a := b) (cell := cellB) hcell
    (fun z h => by rw [h] at hobj; cases hobj) hselP hmethM habM hkP hkPi (g := g) hg (argsL := argsL) (rest := rest) (hlen _ hsigM) hstack hdg
  rcases hK m meth c ⟨T.setVm vm₁, locs, cells, slots⟩ { g with stack := rest } (.invokevirtual index) mk (Value.ref b :: argsL).toArray X₁ hg hsize hdg hW (X₁.named hnamed) (hpre vm₁ X₁.warmed) with ⟨v, B, X', hpost, hsteps⟩ | ⟨q, B, X', hpost, hsteps⟩
  · exact Or.inl ⟨v, vm₁, B, X₁.warmed, X', hpost, fun target h => hstep₁ _ fun acts => by rw [doInvoke_state]; exact hsteps.trans h⟩
  · exact Or.inr ⟨q, vm₁, B, X₁.warmed, X', hpost, hstep₁ _ fun acts => by rw [doInvoke_state]; exact hsteps⟩
theorem vx_callS (X : Stand p l e R s m args below meth c T locs cells slots) (hexec : p.tables.exec = Jvm.exec) {own : String} {index : Nat} {y : MethodName} {bytes : ByteArray} {maxL : Nat} {ret : Option FieldType}
    (hown : s.vm.findClass own = some m.cls) (hlink : (Cond.methodLink own index y).before args s = true) (hstat : (Cond.static y).before args s = true) (hinit : (Cond.initialized y.cls).before args s = true)
    (hcode : (Cond.code y bytes maxL ret).before args s = true) (hy : y.cls ≠ "java/lang/invoke/MethodHandle" ∧ y.cls ≠ "java/lang/invoke/VarHandle")
    {W9 : Nat} {Pre : Pt → Array Value → Prop} {Post : Pt → Array Value → Option Value → Pt → Prop} {PostX : Pt → Array Value → Addr → Pt → Prop} (hK : vx_Back l R p e below s args y 3 W9 Pre Post PostX)
    {g : JFrame} (hg : g.method = m) (hsize : g.locals.size = c.maxLocals) {argsL rest : List Value} (hlen : ∀ sig, parseMethodDescriptor y.desc = some sig → argsL.length = sig.parameters.length)
    (hstack : g.stack = argsL.reverse ++ rest) (hW : 2 * g.monitorRoom + (rest.map fun v => v.category).sum ≤ W9) (hdg : decode c.code g.pc = .ok (.invokestatic index, 3))
    (hpre : ∀ vm₁, s.WarmedH vm₁ → Pre ⟨T.setVm vm₁, locs, cells, slots⟩ argsL.toArray) :
    (∃ (v : Option Value) (vm₁ : Vm) (B : Pt), s.WarmedH vm₁ ∧ Stand p l e R s m args below meth c B.U B.locs B.cells B.slots ∧ Post ⟨T.setVm vm₁, locs, cells, slots⟩ argsL.toArray v B ∧
      ∀ target, Steps p.tables e below (B.U.setTop { g with pc := g.pc + 3, stack := v.toList ++ rest }) target → Steps p.tables e below (T.setTop g) target) ∨
    (∃ (q : Addr) (vm₁ : Vm) (B : Pt), s.WarmedH vm₁ ∧ Stand p l e R s m args below meth c B.U B.locs B.cells B.slots ∧ PostX ⟨T.setVm vm₁, locs, cells, slots⟩ argsL.toArray q B ∧
      Steps p.tables e below (T.setTop g) ((B.U.setTop { g with stack := rest }).pushFrame (.throwing q))) := by
  obtain ⟨mk, hnamed⟩ := Cond.code_named hcode
  obtain ⟨methM, cM, hmethM, -, -, -, -, -, -, hsigM⟩ := Cond.code_spec hnamed hcode
  have hstatic : methM.isStatic = true := Cond.static_spec hnamed hmethM hstat
  obtain ⟨kP, hkP, -⟩ := className_of_methodNamed hnamed
  have hinitP : kP.init = .initialized := Cond.initialized_spec (findClass_of_methodNamed hnamed) hkP hinit
  obtain ⟨vm₁, X₁, hstep₁⟩ := X.invokestatic hexec hown hlink hnamed hmethM hstatic hkP hinitP hy (g := g) hg (argsL := argsL) (rest := rest) (hlen _ hsigM) hstack hdg
  rcases hK m meth c ⟨T.setVm vm₁, locs, cells, slots⟩ { g with stack := rest } (.invokestatic index) mk argsL.toArray X₁ hg hsize hdg hW (X₁.named hnamed) (hpre vm₁ X₁.warmed) with ⟨v, B, X', hpost, hsteps⟩ | ⟨q, B, X', hpost, hsteps⟩
  · exact Or.inl ⟨v, vm₁, B, X₁.warmed, X', hpost, fun target h => hstep₁ _ fun acts => by rw [doInvoke_state]; exact hsteps.trans h⟩
  · exact Or.inr ⟨q, vm₁, B, X₁.warmed, X', hpost, hstep₁ _ fun acts => by rw [doInvoke_state]; exact hsteps⟩
end Calls
theorem vx_cls {s : State} {T : State} {vm₁ : Vm} {E : String} {k : ClassId} (hW : s.WarmedH vm₁) (h : (T.setVm vm₁).vm.findClass E = some k) : s.vm.findClass E = some k := by
  have h1 : vm₁.findClass E = some k := h
  rw [hW.alike.findClass] at h1
  exact h1
/-- the method's frame g, with q thrown over it -/
def vx_W (p : Program) (l : Launch) (e : Env) (R : Room) (s : State) (m : MethodId) (args : Array Value) (below : List Frame) (meth : Method) (c : Code) (H : Heap) (locs : List Loc) (cells slots : Nat) (Q : State → Prop) (g : JFrame) (q : Addr) : Prop :=
  ∀ T : State, T.heap = H → Stand p l e R s m args below meth c T locs cells slots → ∃ t, Steps p.tables e below ((T.setTop g).pushFrame (.throwing q)) t ∧ Q t
def vx_Run (p : Program) (l : Launch) (e : Env) (R : Room) (s : State) (m : MethodId) (args : Array Value) (below : List Frame) (meth : Method) (c : Code) (H : Heap) (locs : List Loc) (cells slots mc ms : Nat) (g : JFrame) (rest : List Value) (Qa : State → Outcome → State → Prop) (XC : String → State → State → Prop) (free : Addr → Prop) : Prop :=
  ∀ T : State, T.heap = H → Stand p l e R s m args below meth c T locs cells slots →
    (∃ (v : Option Value) (st₀ t T' : State) (L : List Loc), st₀.heap = H ∧ Stand p l e R s m args below meth c T' (locs ++ L) (cells + mc) (slots + ms) ∧ (∀ q ∈ L, free q.base) ∧ T'.heap = t.heap ∧ T'.vm = t.vm ∧ Qa st₀ (.returned v) t ∧
      Goes p e below T g T' { g with pc := g.pc + 3, stack := v.toList ++ rest }) ∨
    (∃ (q : Addr) (st₀ t T' : State) (L : List Loc) (E : String) (ce : Cell), st₀.heap = H ∧ Stand p l e R s m args below meth c T' (locs ++ L) (cells + mc) (slots + ms) ∧ (∀ z ∈ L, free z.base) ∧ T'.heap = t.heap ∧ T'.vm = t.vm ∧ XC E st₀ t ∧ t.heap[q]? = some ce ∧ ce.vm = .none ∧ s.vm.findClass E = some ce.cls ∧
      Steps p.tables e below (T.setTop g) ((T'.setTop { g with stack := rest }).pushFrame (.throwing q)))
def vx_X {S : Type} (px : S → Prop) (B : String → S → State → Prop) (A : Nat → Prop) : String → State → State → Prop := fun E st t => ∃ u : S, px u ∧ B E u t ∧ va_F A st t
section Runs
variable {p : Program} {l : Launch} {e : Env} {R : Room} {s : State} {m : MethodId} {args : Array Value} {below : List Frame} {meth : Method} {c : Code} {H : Heap} {locs : List Loc} {cells slots : Nat}
variable {y : MethodName} {bytes cc : ByteArray} {maxL nL mc ms n index : Nat} {ret : Option FieldType} {ws : List Cond} {rm : Room} {Pc : Array Value → State → Prop} {Qc : Array Value → State → Outcome → State → Prop} {XC : String → State → State → Prop} {free : Addr → Prop} {Ts : List Cond} {own C : String} {b : Addr} {As rest : List Value} {g : JFrame}
theorem vx_callBack (cb : CallB R s args own index y bytes maxL ret ws rm mc ms n) (hM : vx_Met l y ws rm Pc Qc XC mc ms free) (hbl : FrameBlind Pc) : vx_Back l R p e below s args y 3 8 (PreOf R mc ms Pc) (PostOf Qc mc ms free) (vx_Post XC mc ms free) := by
  obtain ⟨hrc, hrs, hfr, hlo, hws, hcw, -, hini, -⟩ := cb
  exact vx_back (bytes := bytes) (maxL := maxL) (ret := ret) hM hbl hrc hrs hfr hlo hws hcw (fun a' U hW => word_at hW (Or.inl (by first | rfl | simp [Cond.onTables, Cond.keeps, Cond.steady])) hini)
theorem vx_runV (S : CallFix p m c cc nL s args Ts own) (hM : vx_Met l y ws rm Pc Qc XC mc ms free) (cw : CallW R s args own C index y bytes maxL ret ws rm mc ms n) (hp : PreV s H C b Pc As)
    (hg : g.method = m) (hn : As.length = n) (hsize : g.locals.size = nL) (hstack : g.stack = As.reverse ++ .ref b :: rest) (hW : 2 * g.monitorRoom + (rest.map fun v => v.category).sum ≤ 8) (hdg : decode cc g.pc = .ok (.invokevirtual index, 3)) (hf : cells + mc ≤ R.cells ∧ slots + ms ≤ R.slots) :
    vx_Run p l e R s m args below meth c H locs cells slots mc ms g rest (Qc (Value.ref b :: As).toArray) XC free := by
  have hK : vx_Back l R p e below s args y 3 8 (PreOf R mc ms Pc) (PostOf Qc mc ms free) (vx_Post XC mc ms free) := vx_callBack cw.1 hM hp.1
  obtain ⟨⟨-, -, -, -, -, -, hcode, -, hy, hlen, hl⟩, hin, hse⟩ := cw
  obtain ⟨hx, hb, hml, ho, -⟩ := S
  obtain ⟨-, ⟨cellB, hcB, hoB, hclB⟩, hPc⟩ := hp
  intro T hT X
  rcases vx_callV X hx (C := C) (bytes := bytes) (maxL := maxL) (ret := ret) ho hl hin hse hcode hy hK (by rw [hT]; exact hcB) hoB hclB hg (hsize.trans hml.symm) (argsL := As) (rest := rest) (fun sig h => hn.trans (hlen sig h)) hstack hW (by rw [hb]; exact hdg)
    (fun vm₁ hW₁ => ⟨hf.1, hf.2, hPc (T.setVm vm₁) hT hW₁⟩) with ⟨v, vm₁, ⟨U', l2, c2, s2⟩, hW₁, X', ⟨g', mk, t, L, e1, e2, hq, h1, hL, h2, h3⟩, st⟩ | ⟨q, vm₁, ⟨U', l2, c2, s2⟩, hW₁, X', ⟨g', mk, t, L, E, ce, e1, e2, hq, hce, hcv, hcl, h1, hL, h2, h3⟩, st⟩
  · dsimp only [Pt.U, Pt.locs, Pt.cells, Pt.slots] at X' e1 e2 h1 h2 h3 st
    subst h1; subst h2; subst h3
    exact Or.inl ⟨v, (T.setVm vm₁).calling g' mk (Value.ref b :: As).toArray, t, U', L, hT, X', hL, e1, e2, hq, st⟩
  · dsimp only [Pt.U, Pt.locs, Pt.cells, Pt.slots] at X' e1 e2 h1 h2 h3 st hcl
    subst h1; subst h2; subst h3
    exact Or.inr ⟨q, (T.setVm vm₁).calling g' mk (Value.ref b :: As).toArray, t, U', L, E, ce, hT, X', hL, e1, e2, hq, hce, hcv, vx_cls hW₁ hcl, st⟩
theorem vx_runS (S : CallFix p m c cc nL s args Ts own) (hM : vx_Met l y ws rm Pc Qc XC mc ms free) (cw : CallB R s args own index y bytes maxL ret ws rm mc ms n ∧ (Cond.static y).before args s = true) (hp : PreS s H Pc As)
    (hg : g.method = m) (hn : As.length = n) (hsize : g.locals.size = nL) (hstack : g.stack = As.reverse ++ rest) (hW : 2 * g.monitorRoom + (rest.map fun v => v.category).sum ≤ 8) (hdg : decode cc g.pc = .ok (.invokestatic index, 3)) (hf : cells + mc ≤ R.cells ∧ slots + ms ≤ R.slots) :
    vx_Run p l e R s m args below meth c H locs cells slots mc ms g rest (Qc As.toArray) XC free := by
  have hK : vx_Back l R p e below s args y 3 8 (PreOf R mc ms Pc) (PostOf Qc mc ms free) (vx_Post XC mc ms free) := vx_callBack cw.1 hM hp.1
  obtain ⟨⟨-, -, -, -, -, -, hcode, hini, hy, hlen, hl⟩, hstt⟩ := cw
  obtain ⟨hx, hb, hml, ho, -⟩ := S
  intro T hT X
  rcases vx_callS X hx (bytes := bytes) (maxL := maxL) (ret := ret) ho hl hstt hini hcode hy hK hg (hsize.trans hml.symm) (argsL := As) (rest := rest) (fun sig h => hn.trans (hlen sig h)) hstack hW (by rw [hb]; exact hdg)
    (fun vm₁ hW₁ => ⟨hf.1, hf.2, hp.2 (T.setVm vm₁) hT hW₁⟩) with ⟨v, vm₁, ⟨U', l2, c2, s2⟩, hW₁, X', ⟨g', mk, t, L, e1, e2, hq, h1, hL, h2, h3⟩, st⟩ | ⟨q, vm₁, ⟨U', l2, c2, s2⟩, hW₁, X', ⟨g', mk, t, L, E, ce, e1, e2, hq, hce, hcv, hcl, h1, hL, h2, h3⟩, st⟩
  · dsimp only [Pt.U, Pt.locs, Pt.cells, Pt.slots] at X' e1 e2 h1 h2 h3 st
    subst h1; subst h2; subst h3
    exact Or.inl ⟨v, (T.setVm vm₁).calling g' mk As.toArray, t, U', L, hT, X', hL, e1, e2, hq, st⟩
  · dsimp only [Pt.U, Pt.locs, Pt.cells, Pt.slots] at X' e1 e2 h1 h2 h3 st hcl
    subst h1; subst h2; subst h3
    exact Or.inr ⟨q, (T.setVm vm₁).calling g' mk As.toArray, t, U', L, E, ce, hT, X', hL, e1, e2, hq, hce, hcv, vx_cls hW₁ hcl, st⟩
end Runs
section Rows
variable {p : Program} {l : Launch} {e : Env} {R : Room} {s : State} {m : MethodId} {args : Array Value} {below : List Frame} {meth : Method} {c : Code} {H : Heap} {locs : List Loc} {cells slots : Nat} {Q : State → Prop}
variable {mc ms : Nat} {free : Addr → Prop} {A0 A1 : Nat → Prop} {H0 : Heap} {a : Array Value} {pc : Nat} {ls : Array Slot} {st0 rest : List Value}
theorem vx_keep {st₀ t T' : State} {L : List Loc} (h0 : st₀.heap = H) (e1 : T'.heap = t.heap) (hS : va_S A0 H0 H locs) (hA : ∀ q, q < H.size → A1 q → A0 q) (hf : ∀ q, free q → A0 q) (hL : ∀ q ∈ L, free q.base) (hF : va_F A1 st₀ t) :
    H.size ≤ T'.heap.size ∧ (∀ q : Nat, q < H.size → ¬ A1 q → T'.heap[q]? = H[q]?) ∧ va_S A0 H0 T'.heap (locs ++ L) := by
  obtain ⟨hz, hk⟩ := hF
  rw [h0] at hz hk
  exact ⟨by rw [e1]; exact hz, fun q h1 h2 => by rw [e1]; exact hk q h1 h2,
    ⟨Nat.le_trans hS.1 (by rw [e1]; exact hz), fun q h1 h2 => by rw [e1, hk q (Nat.lt_of_lt_of_le h1 hS.1) (fun z => h2 (hA q (Nat.lt_of_lt_of_le h1 hS.1) z))]; exact hS.2.1 q h1 h2, fun q hq => by
      rcases List.mem_append.mp hq with h | h
      · exact hS.2.2 q h
      · exact hf _ (hL q h)⟩⟩
theorem vx_calli {S SX : Type} {post : Int32 → S → Prop} {px : SX → Prop} {B : S → State → Prop} {BX : String → SX → State → Prop} {AX : Nat → Prop} (hr : vx_Run p l e R s m args below meth c H locs cells slots mc ms (F0 m pc ls st0) rest (va_Qi post B A1 a) (vx_X px BX AX) free) (hS : va_S A0 H0 H locs) (hA : ∀ q, q < H.size → A1 q → A0 q) (hf : ∀ q, free q → A0 q) (hAX : ∀ q, q < H.size → AX q → A0 q)
    (kx : ∀ (E : String) (ce : Cell) (q9 : Addr) (u : SX) (t : State) (H1 : Heap) (locs1 : List Loc), t.heap = H1 → s.vm.Alike t.vm → px u → BX E u t → H.size ≤ H1.size → (∀ q : Nat, q < H.size → ¬ AX q → H1[q]? = H[q]?) → va_S A0 H0 H1 locs1 → H1[q9]? = some ce → ce.vm = .none → s.vm.findClass E = some ce.cls → vx_W p l e R s m args below meth c H1 locs1 (cells + mc) (slots + ms) Q (F0 m pc ls rest) q9)
    (kk : ∀ (r : Int32) (u : S) (t : State) (H1 : Heap) (locs1 : List Loc), t.heap = H1 → s.vm.Alike t.vm → post r u → B u t → H.size ≤ H1.size → (∀ q : Nat, q < H.size → ¬ A1 q → H1[q]? = H[q]?) → va_S A0 H0 H1 locs1 → W p l e R s m args below meth c H1 locs1 (cells + mc) (slots + ms) Q (F0 m (pc + 3) ls (.int r :: rest))) : W p l e R s m args below meth c H locs cells slots Q (F0 m pc ls st0) := by
  intro T hT X
  rcases hr T hT X with ⟨v, st₀, t, T', L, h0, X', hL, e1, e2, ⟨⟨r, u, hv, hp, hb⟩, hF⟩, st⟩ | ⟨q, st₀, t, T', L, E, ce, h0, X', hL, e1, e2, ⟨u, hp, hb, hF⟩, hce, hcv, hcl, st⟩
  · cases hv
    obtain ⟨k1, k2, k3⟩ := vx_keep h0 e1 hS hA hf hL hF
    obtain ⟨t2, a1, b1⟩ := kk r u t T'.heap (locs ++ L) e1.symm (by rw [← e2]; exact X'.warmed.alike) hp hb k1 k2 k3 T' rfl X'
    exact ⟨t2, st t2 a1, b1⟩
  · obtain ⟨k1, k2, k3⟩ := vx_keep h0 e1 hS hAX hf hL hF
    obtain ⟨t2, a1, b1⟩ := kx E ce q u t T'.heap (locs ++ L) e1.symm (by rw [← e2]; exact X'.warmed.alike) hp hb k1 k2 k3 (by rw [e1]; exact hce) hcv hcl T' rfl X'
    exact ⟨t2, st.trans a1, b1⟩
theorem vx_calll {S SX : Type} {post : Int64 → S → Prop} {px : SX → Prop} {B : S → State → Prop} {BX : String → SX → State → Prop} {AX : Nat → Prop} (hr : vx_Run p l e R s m args below meth c H locs cells slots mc ms (F0 m pc ls st0) rest (va_Ql post B A1 a) (vx_X px BX AX) free) (hS : va_S A0 H0 H locs) (hA : ∀ q, q < H.size → A1 q → A0 q) (hf : ∀ q, free q → A0 q) (hAX : ∀ q, q < H.size → AX q → A0 q)
    (kx : ∀ (E : String) (ce : Cell) (q9 : Addr) (u : SX) (t : State) (H1 : Heap) (locs1 : List Loc), t.heap = H1 → s.vm.Alike t.vm → px u → BX E u t → H.size ≤ H1.size → (∀ q : Nat, q < H.size → ¬ AX q → H1[q]? = H[q]?) → va_S A0 H0 H1 locs1 → H1[q9]? = some ce → ce.vm = .none → s.vm.findClass E = some ce.cls → vx_W p l e R s m args below meth c H1 locs1 (cells + mc) (slots + ms) Q (F0 m pc ls rest) q9)
    (kk : ∀ (r : Int64) (u : S) (t : State) (H1 : Heap) (locs1 : List Loc), t.heap = H1 → s.vm.Alike t.vm → post r u → B u t → H.size ≤ H1.size → (∀ q : Nat, q < H.size → ¬ A1 q → H1[q]? = H[q]?) → va_S A0 H0 H1 locs1 → W p l e R s m args below meth c H1 locs1 (cells + mc) (slots + ms) Q (F0 m (pc + 3) ls (.long r :: rest))) : W p l e R s m args below meth c H locs cells slots Q (F0 m pc ls st0) := by
  intro T hT X
  rcases hr T hT X with ⟨v, st₀, t, T', L, h0, X', hL, e1, e2, ⟨⟨r, u, hv, hp, hb⟩, hF⟩, st⟩ | ⟨q, st₀, t, T', L, E, ce, h0, X', hL, e1, e2, ⟨u, hp, hb, hF⟩, hce, hcv, hcl, st⟩
  · cases hv
    obtain ⟨k1, k2, k3⟩ := vx_keep h0 e1 hS hA hf hL hF
    obtain ⟨t2, a1, b1⟩ := kk r u t T'.heap (locs ++ L) e1.symm (by rw [← e2]; exact X'.warmed.alike) hp hb k1 k2 k3 T' rfl X'
    exact ⟨t2, st t2 a1, b1⟩
  · obtain ⟨k1, k2, k3⟩ := vx_keep h0 e1 hS hAX hf hL hF
    obtain ⟨t2, a1, b1⟩ := kx E ce q u t T'.heap (locs ++ L) e1.symm (by rw [← e2]; exact X'.warmed.alike) hp hb k1 k2 k3 (by rw [e1]; exact hce) hcv hcl T' rfl X'
    exact ⟨t2, st.trans a1, b1⟩
theorem vx_callf {S SX : Type} {post : UInt32 → S → Prop} {px : SX → Prop} {B : S → State → Prop} {BX : String → SX → State → Prop} {AX : Nat → Prop} (hr : vx_Run p l e R s m args below meth c H locs cells slots mc ms (F0 m pc ls st0) rest (va_Qf post B A1 a) (vx_X px BX AX) free) (hS : va_S A0 H0 H locs) (hA : ∀ q, q < H.size → A1 q → A0 q) (hf : ∀ q, free q → A0 q) (hAX : ∀ q, q < H.size → AX q → A0 q)
    (kx : ∀ (E : String) (ce : Cell) (q9 : Addr) (u : SX) (t : State) (H1 : Heap) (locs1 : List Loc), t.heap = H1 → s.vm.Alike t.vm → px u → BX E u t → H.size ≤ H1.size → (∀ q : Nat, q < H.size → ¬ AX q → H1[q]? = H[q]?) → va_S A0 H0 H1 locs1 → H1[q9]? = some ce → ce.vm = .none → s.vm.findClass E = some ce.cls → vx_W p l e R s m args below meth c H1 locs1 (cells + mc) (slots + ms) Q (F0 m pc ls rest) q9)
    (kk : ∀ (r : UInt32) (u : S) (t : State) (H1 : Heap) (locs1 : List Loc), t.heap = H1 → s.vm.Alike t.vm → post r u → B u t → H.size ≤ H1.size → (∀ q : Nat, q < H.size → ¬ A1 q → H1[q]? = H[q]?) → va_S A0 H0 H1 locs1 → W p l e R s m args below meth c H1 locs1 (cells + mc) (slots + ms) Q (F0 m (pc + 3) ls (.float r :: rest))) : W p l e R s m args below meth c H locs cells slots Q (F0 m pc ls st0) := by
  intro T hT X
  rcases hr T hT X with ⟨v, st₀, t, T', L, h0, X', hL, e1, e2, ⟨⟨r, u, hv, hp, hb⟩, hF⟩, st⟩ | ⟨q, st₀, t, T', L, E, ce, h0, X', hL, e1, e2, ⟨u, hp, hb, hF⟩, hce, hcv, hcl, st⟩
  · cases hv
    obtain ⟨k1, k2, k3⟩ := vx_keep h0 e1 hS hA hf hL hF
    obtain ⟨t2, a1, b1⟩ := kk r u t T'.heap (locs ++ L) e1.symm (by rw [← e2]; exact X'.warmed.alike) hp hb k1 k2 k3 T' rfl X'
    exact ⟨t2, st t2 a1, b1⟩
  · obtain ⟨k1, k2, k3⟩ := vx_keep h0 e1 hS hAX hf hL hF
    obtain ⟨t2, a1, b1⟩ := kx E ce q u t T'.heap (locs ++ L) e1.symm (by rw [← e2]; exact X'.warmed.alike) hp hb k1 k2 k3 (by rw [e1]; exact hce) hcv hcl T' rfl X'
    exact ⟨t2, st.trans a1, b1⟩
theorem vx_calld {S SX : Type} {post : UInt64 → S → Prop} {px : SX → Prop} {B : S → State → Prop} {BX : String → SX → State → Prop} {AX : Nat → Prop} (hr : vx_Run p l e R s m args below meth c H locs cells slots mc ms (F0 m pc ls st0) rest (va_Qd post B A1 a) (vx_X px BX AX) free) (hS : va_S A0 H0 H locs) (hA : ∀ q, q < H.size → A1 q → A0 q) (hf : ∀ q, free q → A0 q) (hAX : ∀ q, q < H.size → AX q → A0 q)
    (kx : ∀ (E : String) (ce : Cell) (q9 : Addr) (u : SX) (t : State) (H1 : Heap) (locs1 : List Loc), t.heap = H1 → s.vm.Alike t.vm → px u → BX E u t → H.size ≤ H1.size → (∀ q : Nat, q < H.size → ¬ AX q → H1[q]? = H[q]?) → va_S A0 H0 H1 locs1 → H1[q9]? = some ce → ce.vm = .none → s.vm.findClass E = some ce.cls → vx_W p l e R s m args below meth c H1 locs1 (cells + mc) (slots + ms) Q (F0 m pc ls rest) q9)
    (kk : ∀ (r : UInt64) (u : S) (t : State) (H1 : Heap) (locs1 : List Loc), t.heap = H1 → s.vm.Alike t.vm → post r u → B u t → H.size ≤ H1.size → (∀ q : Nat, q < H.size → ¬ A1 q → H1[q]? = H[q]?) → va_S A0 H0 H1 locs1 → W p l e R s m args below meth c H1 locs1 (cells + mc) (slots + ms) Q (F0 m (pc + 3) ls (.double r :: rest))) : W p l e R s m args below meth c H locs cells slots Q (F0 m pc ls st0) := by
  intro T hT X
  rcases hr T hT X with ⟨v, st₀, t, T', L, h0, X', hL, e1, e2, ⟨⟨r, u, hv, hp, hb⟩, hF⟩, st⟩ | ⟨q, st₀, t, T', L, E, ce, h0, X', hL, e1, e2, ⟨u, hp, hb, hF⟩, hce, hcv, hcl, st⟩
  · cases hv
    obtain ⟨k1, k2, k3⟩ := vx_keep h0 e1 hS hA hf hL hF
    obtain ⟨t2, a1, b1⟩ := kk r u t T'.heap (locs ++ L) e1.symm (by rw [← e2]; exact X'.warmed.alike) hp hb k1 k2 k3 T' rfl X'
    exact ⟨t2, st t2 a1, b1⟩
  · obtain ⟨k1, k2, k3⟩ := vx_keep h0 e1 hS hAX hf hL hF
    obtain ⟨t2, a1, b1⟩ := kx E ce q u t T'.heap (locs ++ L) e1.symm (by rw [← e2]; exact X'.warmed.alike) hp hb k1 k2 k3 (by rw [e1]; exact hce) hcv hcl T' rfl X'
    exact ⟨t2, st.trans a1, b1⟩
theorem vx_callv {S SX : Type} {post : S → Prop} {px : SX → Prop} {B : S → State → Prop} {BX : String → SX → State → Prop} {AX : Nat → Prop} (hr : vx_Run p l e R s m args below meth c H locs cells slots mc ms (F0 m pc ls st0) rest (va_Qv post B A1 a) (vx_X px BX AX) free) (hS : va_S A0 H0 H locs) (hA : ∀ q, q < H.size → A1 q → A0 q) (hf : ∀ q, free q → A0 q) (hAX : ∀ q, q < H.size → AX q → A0 q)
    (kx : ∀ (E : String) (ce : Cell) (q9 : Addr) (u : SX) (t : State) (H1 : Heap) (locs1 : List Loc), t.heap = H1 → s.vm.Alike t.vm → px u → BX E u t → H.size ≤ H1.size → (∀ q : Nat, q < H.size → ¬ AX q → H1[q]? = H[q]?) → va_S A0 H0 H1 locs1 → H1[q9]? = some ce → ce.vm = .none → s.vm.findClass E = some ce.cls → vx_W p l e R s m args below meth c H1 locs1 (cells + mc) (slots + ms) Q (F0 m pc ls rest) q9)
    (kk : ∀ (u : S) (t : State) (H1 : Heap) (locs1 : List Loc), t.heap = H1 → s.vm.Alike t.vm → post u → B u t → H.size ≤ H1.size → (∀ q : Nat, q < H.size → ¬ A1 q → H1[q]? = H[q]?) → va_S A0 H0 H1 locs1 → W p l e R s m args below meth c H1 locs1 (cells + mc) (slots + ms) Q (F0 m (pc + 3) ls (rest))) : W p l e R s m args below meth c H locs cells slots Q (F0 m pc ls st0) := by
  intro T hT X
  rcases hr T hT X with ⟨v, st₀, t, T', L, h0, X', hL, e1, e2, ⟨⟨u, hv, hp, hb⟩, hF⟩, st⟩ | ⟨q, st₀, t, T', L, E, ce, h0, X', hL, e1, e2, ⟨u, hp, hb, hF⟩, hce, hcv, hcl, st⟩
  · cases hv
    obtain ⟨k1, k2, k3⟩ := vx_keep h0 e1 hS hA hf hL hF
    obtain ⟨t2, a1, b1⟩ := kk u t T'.heap (locs ++ L) e1.symm (by rw [← e2]; exact X'.warmed.alike) hp hb k1 k2 k3 T' rfl X'
    exact ⟨t2, st t2 a1, b1⟩
  · obtain ⟨k1, k2, k3⟩ := vx_keep h0 e1 hS hAX hf hL hF
    obtain ⟨t2, a1, b1⟩ := kx E ce q u t T'.heap (locs ++ L) e1.symm (by rw [← e2]; exact X'.warmed.alike) hp hb k1 k2 k3 (by rw [e1]; exact hce) hcv hcl T' rfl X'
    exact ⟨t2, st.trans a1, b1⟩
/-- caught by the row x of this method's table; the rows ahead don't take it -/
theorem vx_catch {own name : String} {E : String} {ce : Cell} {q : Addr} (hown : s.vm.findClass own = some m.cls) (pre : List ExceptionTableEntry) (x : ExceptionTableEntry) (suf : List ExceptionTableEntry) (hsplit : c.exceptionTable.toList = pre ++ x :: suf)
    (hpass : ∀ z ∈ pre, covers z pc = false ∨ (z.catchType ≠ 0 ∧ ∃ nm : String, (Cond.classLink own z.catchType nm).before args s = true ∧ va_Nc E nm s)) (hx : covers x pc = true) (h0 : x.catchType ≠ 0)
    (hlink : (Cond.classLink own x.catchType name).before args s = true) (hcast : (Cond.castable E name).before args s = true) (hcell : H[q]? = some ce) (hv : ce.vm = .none) (hcl : s.vm.findClass E = some ce.cls)
    (kk : W p l e R s m args below meth c H locs cells slots Q (F0 m x.handlerPc ls [.ref q])) : vx_W p l e R s m args below meth c H locs cells slots Q (F0 m pc ls rest) q := by
  intro T hT X
  have hpl : e.platform.magicAccessors = ({} : Platform).magicAccessors := by rw [X.admits.platform]
  obtain ⟨c3, c4, hc3, hc4, hasg⟩ := Cond.castable_spec hcast
  cases Option.some.inj (hc3.symm.trans hcl)
  obtain ⟨c5, hc5, hcl5⟩ := Cond.classLink_spec hown hlink e.platform hpl
  cases Option.some.inj (hc4.symm.trans hc5)
  obtain ⟨vm', X', st⟩ := X.thenCaughtThrough q (g := F0 m pc ls rest) rfl (Steps.refl _) (by rw [hT]; exact hcell) (by rw [hv]; rfl) (by obtain ⟨k9, h9, -⟩ := Vm.findClass_spec hcl; exact ⟨k9, h9⟩) pre x suf hsplit
    (fun z hz => by
      rcases hpass z hz with h | ⟨hz0, nm, hl1, hn1⟩
      · exact Or.inl h
      · obtain ⟨c6, hc6, hcl6⟩ := Cond.classLink_spec hown hl1 e.platform hpl
        obtain ⟨a8, b8, h1, h2, h3⟩ := hn1
        cases Option.some.inj (h1.symm.trans hcl)
        cases Option.some.inj (h2.symm.trans hc6)
        exact Or.inr ⟨hz0, _, hcl6, h3⟩) hx (Or.inr ⟨h0, c4, hcl5, hasg⟩)
  obtain ⟨t, a1, b1⟩ := kk (T.setVm vm') hT X'
  exact ⟨t, st.trans a1, b1⟩
end Rows
section Ends
variable {p : Program} {l : Launch} {e : Env} {R : Room} {s : State} {m : MethodId} {args : Array Value} {below : List Frame} {meth : Method} {c : Code} {H : Heap} {locs : List Loc} {cells slots : Nat} {Q : State → Prop}
variable {mc ms : Nat} {free : Addr → Prop} {A0 A1 : Nat → Prop} {H0 : Heap} {a : Array Value} {ls : Array Slot} {st0 rest : List Value}
variable {Qc : Array Value → State → Outcome → State → Prop} {XC : String → State → State → Prop}
/-- what a body that may throw owes at its end -/
def vx_MQ (below : List Frame) (Qc : Array Value → State → Outcome → State → Prop) (XC : String → State → State → Prop) (a : Array Value) (s : State) (mc ms : Nat) (free : Addr → Prop) : State → Prop := fun t =>
  ∃ o, t.status = .running ∧ Ended t below o ∧ vx_Q Qc XC mc ms free a s o t
theorem vx_ret {g : JFrame} {mc ms : Nat} (k : W p l e R s m args below meth c H locs cells slots (MQ below Qc args s mc ms free) g) : W p l e R s m args below meth c H locs cells slots (vx_MQ below Qc XC args s mc ms free) g := by
  intro T hT X
  obtain ⟨t, a1, o, b1, b2, b3, b4⟩ := k T hT X
  exact ⟨t, a1, o, b1, b2, Or.inl ⟨b3, b4⟩⟩
/-- not caught here: it goes on to the caller -/
theorem vx_widen {g : JFrame} {q : Addr} {k n : Nat} (h1 : cells ≤ k) (h2 : slots ≤ n) (kk : vx_W p l e R s m args below meth c H locs k n Q g q) : vx_W p l e R s m args below meth c H locs cells slots Q g q := fun T hT X => kk T hT (stand_widen X h1 h2)
theorem vx_out {pc : Nat} {E : String} {ce : Cell} {q : Addr} {mc ms : Nat} (hout : ∀ x ∈ c.exceptionTable.toList, covers x pc = false) (hlocks : meth.locks = false) (hcell : H[q]? = some ce) (hv : ce.vm = .none) (hcl : s.vm.findClass E = some ce.cls)
    (hx : ∀ t : State, t.heap = H → s.vm.Alike t.vm → XC E s t) (hf : ∀ z ∈ locs, free z.base) (hc : cells ≤ mc) (hs : slots ≤ ms) :
    vx_W p l e R s m args below meth c H locs cells slots (vx_MQ below Qc XC args s mc ms free) (F0 m pc ls rest) q := by
  intro T hT X
  obtain ⟨st1, hrun, hend, hW, hsm⟩ := X.leaveThrown q (g := F0 m pc ls rest) rfl rfl rfl hout hlocks
  have hcell9 : (T.setFrames (.throwing q :: below)).heap[q]? = some ce := by
    show T.heap[q]? = some ce
    rw [hT]; exact hcell
  exact ⟨_, st1, .threw q, hrun, hend, Or.inr ⟨q, rfl, E, ce, locs, hx _ hT hW.alike, hcell9, hv, hcl, hW, hsm.mono hc hs, hf⟩⟩
theorem vx_frame {U : State} {k n : Nat} (h : s.sameButNew ({ U with vm := s.vm } : State) locs k n) : s.heap.size ≤ U.heap.size ∧ ∀ q : Nat, q < s.heap.size → (∀ z ∈ locs, z.base ≠ q) → U.heap[q]? = s.heap[q]? := by
  obtain ⟨-, h2, -, -, -, h6⟩ := h
  refine ⟨h2, fun q hq hz => ?_⟩
  obtain ⟨c9, e1, e2, e3, e4⟩ := h6 q _ (Array.getElem?_eq_getElem hq)
  have hs : c9.slots = (s.heap[q]).slots := Array.ext_getElem? fun i => e4 i fun hm => hz _ hm rfl
  have h9 : c9 = s.heap[q] := by
    rw [hs] at e2
    exact e2
  have e5 : U.heap[q]? = some c9 := e1
  rw [e5, h9, Array.getElem?_eq_getElem hq]
/-- the words of a throw but the four that speak of the heap -/
def vx_no (w : Cond) : Bool := decide (w ≠ .isRef (.static Bundle.tN "UNASSIGNED_STACK" Bundle.steD)) && decide (w ≠ .isRef (.static Bundle.tN "SUPPRESSED_SENTINEL" Bundle.listD)) && decide (w ≠ .laysStatic Bundle.tN "UNASSIGNED_STACK" Bundle.steD) && decide (w ≠ .laysStatic Bundle.tN "SUPPRESSED_SENTINEL" Bundle.listD)
def vx_at0 (own : String) (ic : Nat) (X : String) (names : List String) : List Cond := (Bundle.ownAtoms0 own ic X names).filter vx_no
def vx_atS (own : String) (ic : Nat) (X : String) (names : List String) : List Cond := (Bundle.ownAtoms own ic X names).filter vx_no
/-- a word that the tables alone decide, or a good one -/
def vx_ot (w : Cond) : Bool := w.onTables || goodWord w
theorem vx_ot_at {args a' : Array Value} {s U : State} {w : Cond} (hW : s.WarmedH U.vm) (hvm : s.vm = U.vm) (hg : vx_ot w = true) (h : w.before args s = true) : w.before a' U = true := by
  simp only [vx_ot, Bool.or_eq_true] at hg
  rcases hg with hg | hg
  · exact va_tabs hg hvm h
  · exact word_at hW (good_of_word hg) h
/-- a list's words: the good ones out of the method's own list, the others by premises of their own -/
theorem vx_hat {args : Array Value} {s : State} {L B : List Cond} (h1 : ∀ w ∈ L.filter goodWord, w.before args s = true) (h2 : ∀ w ∈ L.filter (fun w => !goodWord w), w ∈ B) (h3 : ∀ w ∈ B, w.before args s = true) : ∀ w ∈ L, w.before args s = true := by
  intro w hw
  by_cases g : goodWord w = true
  · exact h1 w (List.mem_filter.mpr ⟨hw, g⟩)
  · refine h3 w (h2 w (List.mem_filter.mpr ⟨hw, ?_⟩))
    show (!goodWord w) = true
    cases hgw : goodWord w
    · rfl
    · exact absurd hgw g
theorem vx_c {args : Array Value} {s : State} {w : Cond} {B : List Cond} (h : w.before args s = true) (t : ∀ w ∈ B, w.before args s = true) : ∀ w' ∈ w :: B, w'.before args s = true := fun w' h' => (List.mem_cons.mp h').elim (fun e => by rw [e]; exact h) (t w')
theorem vx_n {args : Array Value} {s : State} : ∀ w ∈ ([] : List Cond), w.before args s = true := fun _ h => nomatch h
theorem vx_own {args : Array Value} {s : State} {L : List Cond} (h1 : ∀ w ∈ L.filter vx_no, w.before args s = true)
    (hU : (Cond.isRef (.static Bundle.tN "UNASSIGNED_STACK" Bundle.steD)).before args s = true) (hN : (Cond.isRef (.static Bundle.tN "SUPPRESSED_SENTINEL" Bundle.listD)).before args s = true)
    (lU : (Cond.laysStatic Bundle.tN "UNASSIGNED_STACK" Bundle.steD).before args s = true) (lN : (Cond.laysStatic Bundle.tN "SUPPRESSED_SENTINEL" Bundle.listD).before args s = true) : ∀ w ∈ L, w.before args s = true := by
  intro w hw
  by_cases e1 : w = .isRef (.static Bundle.tN "UNASSIGNED_STACK" Bundle.steD)
  · rw [e1]; exact hU
  · by_cases e2 : w = .isRef (.static Bundle.tN "SUPPRESSED_SENTINEL" Bundle.listD)
    · rw [e2]; exact hN
    · by_cases e3 : w = .laysStatic Bundle.tN "UNASSIGNED_STACK" Bundle.steD
      · rw [e3]; exact lU
      · by_cases e4 : w = .laysStatic Bundle.tN "SUPPRESSED_SENTINEL" Bundle.listD
        · rw [e4]; exact lN
        · exact h1 w (List.mem_filter.mpr ⟨hw, by unfold vx_no; rw [decide_eq_true e1, decide_eq_true e2, decide_eq_true e3, decide_eq_true e4]; rfl⟩)
/-- where a static field lies, its class's statics cell in H -/
def vx_L (C n d : String) (A : Nat → Prop) (U : State) (H : Heap) : Prop := ∃ (c : ClassId) (k : Class) (i : Nat) (f : Field) (a : Nat) (cell : Cell), U.vm.findClass C = some c ∧ U.fieldFound? C n d = some (c, k, i, f) ∧ f.isStatic = true ∧ k.statics = some a ∧ H[a]? = some cell ∧ cell.vm.isStatics = true ∧ cell.cls = c ∧ f.slot < cell.slots.size ∧ k.staticTypes[f.slot]? = some f.type ∧ ¬ A a
theorem vx_L.moved {C n d : String} {A : Nat → Prop} {u U : State} {H : Heap} (hvm : u.vm.Alike U.vm) (h : vx_L C n d A u H) : vx_L C n d A U H := by
  obtain ⟨c, k, i, f, a, cell, h1, h2, h3, h4, h5, h6, h7, h8, h9, h10⟩ := h
  obtain ⟨k', hi', he⟩ := State.fieldFound?_setVm hvm h2
  exact ⟨c, k', i, f, a, cell, by rw [hvm.findClass]; exact h1, hi', h3, by rw [he]; exact h4, h5, h6, h7, h8, by rw [he]; exact h9, h10⟩
theorem vx_L.kept {C n d : String} {A : Nat → Prop} {U : State} {H H1 : Heap} (h : vx_L C n d A U H) (hq : ∀ a : Nat, a < H.size → ¬ A a → H1[a]? = H[a]?) : vx_L C n d A U H1 := by
  obtain ⟨c, k, i, f, a, cell, h1, h2, h3, h4, h5, h6, h7, h8, h9, h10⟩ := h
  exact ⟨c, k, i, f, a, cell, h1, h2, h3, h4, by rw [hq a (Array.getElem?_eq_some_iff.mp h5).1 h10]; exact h5, h6, h7, h8, h9, h10⟩
theorem vx_L.narrow {C n d : String} {A B : Nat → Prop} {U : State} {H : Heap} (h : vx_L C n d A U H) (hAB : ∀ q, B q → A q) : vx_L C n d B U H := by
  obtain ⟨c, k, i, f, a, cell, h1, h2, h3, h4, h5, h6, h7, h8, h9, h10⟩ := h
  exact ⟨c, k, i, f, a, cell, h1, h2, h3, h4, h5, h6, h7, h8, h9, fun z => h10 (hAB _ z)⟩
theorem vx_L.word {C n d : String} {A : Nat → Prop} {s : State} {args : Array Value} (h : vx_L C n d A s s.heap) : (Cond.laysStatic C n d).before args s = true := by
  obtain ⟨c, k, i, f, a, cell, h1, h2, h3, h4, h5, h6, h7, h8, h9, -⟩ := h
  show (Cond.laysStatic C n d).holds args s none s [] = true
  exact Cond.laysStatic_of h1 h2 h3 h4 h5 h6 h7 h8 h9
/-- .. and what it holds: null or some reference -/
def vx_Zq (C n d : String) (A : Nat → Prop) (U : State) (H : Heap) : Prop := va_Zq C n d A U H ∧ vx_L C n d A U H
theorem vx_Zq.moved {C n d : String} {A : Nat → Prop} {u U : State} {H : Heap} (hvm : u.vm.Alike U.vm) (h : vx_Zq C n d A u H) : vx_Zq C n d A U H := ⟨va_Zq.moved hvm h.1, vx_L.moved hvm h.2⟩
theorem vx_Zq.kept {C n d : String} {A : Nat → Prop} {U : State} {H H1 : Heap} (h : vx_Zq C n d A U H) (hq : ∀ a : Nat, a < H.size → ¬ A a → H1[a]? = H[a]?) : vx_Zq C n d A U H1 := ⟨va_Zq.kept h.1 hq, vx_L.kept h.2 hq⟩
theorem vx_Zq.narrow {C n d : String} {A B : Nat → Prop} {U : State} {H : Heap} (h : vx_Zq C n d A U H) (hAB : ∀ q, B q → A q) : vx_Zq C n d B U H := ⟨va_Zq.narrow h.1 hAB, vx_L.narrow h.2 hAB⟩
theorem vx_Zqof {args : Array Value} {s : State} {C n d : String} {A : Nat → Prop} (hl : (Cond.laysStatic C n d).before args s = true) (hini : (Cond.initialized C).before args s = true) (h : (Cond.isRef (.static C n d)).before args s = true) (hA : ∀ a : Nat, a < s.heap.size → ¬ A a) : vx_Zq C n d A s s.heap := by
  refine ⟨va_Zqof hl hini h hA, ?_⟩
  obtain ⟨c, k, i, f, a, cell, h1, h2, h3, h4, h5, h6, h7, h8, h9⟩ := Cond.laysStatic_spec hl
  exact ⟨c, k, i, f, a, cell, h1, h2, h3, h4, h5, h6, h7, h8, h9, hA a (Array.getElem?_eq_some_iff.mp h5).1⟩
theorem vx_isRef {C n d : String} {v : Value} {A : Nat → Prop} {s : State} {args : Array Value} (h : va_Z C n d v A s s.heap) (hv : v.isRef = true) : (Cond.isRef (.static C n d)).before args s = true := by
  obtain ⟨cf, kf, fi, f, a, cell, h1, h2, h3, h4, h5, h6, h7, -⟩ := h
  have he : (Term.static C n d).eval args s none [] s = some v := by
    simp [Term.eval, State.fieldNamed?, h1, h2, h4, h5, h6, h7]
  simp only [Cond.before, Cond.holds, Cond.value, he]
  cases v <;> simp_all [Value.isRef]
theorem vx_isRefq {C n d : String} {A : Nat → Prop} {s : State} {args : Array Value} (h : va_Zq C n d A s s.heap) : (Cond.isRef (.static C n d)).before args s = true := by
  rcases h with h | ⟨t, h⟩
  · exact vx_isRef h rfl
  · exact vx_isRef h rfl
/-- the same frame, seen from here: as if the method were called anew in this heap -/
theorem vx_rebase {T : State} (X : Stand p l e R s m args below meth c T locs cells slots) {R' : Room} (hf : R'.frames ≤ R.frames) (hl : R'.locals ≤ R.locals) (hc : cells + R'.cells ≤ R.cells) (hs : slots + R'.slots ≤ R.slots) :
    Stand p l e R' ((T.setVm s.vm).setFrames (.invoking m args :: below)) m args below meth c T [] 0 0 := by
  have htop : (T.setVm s.vm).topJava?.isSome := X.here.top
  have hF : ((T.setVm s.vm).setFrames (.invoking m args :: below)).frames = .invoking m args :: below := State.frames_setFrames _ (State.cur_lt_of_top htop)
  obtain ⟨g₀, hg0⟩ := Option.isSome_iff_exists.mp htop
  obtain ⟨r, hr⟩ := State.topJava?_eq_some.mp hg0
  have hl9 : e.platform.stackLimits (T.setVm s.vm).me = e.platform.stackLimits s.me := X.limits
  have hb9 : (T.setVm s.vm).me.stackBytes = s.me.stackBytes := X.bytes
  refine ⟨X.admits, X.cas, X.clock, hF, ?_, X.hears, X.method, X.code, X.here, X.tail, X.warmed, ?_, ?_, ?_⟩
  · have h := X.room
    have hU : ((T.setVm s.vm).setFrames (.invoking m args :: below)).localsInUse = s.localsInUse := by
      rw [State.localsInUse_invoking hF (meth := meth) (c := c) X.method X.code, State.localsInUse_invoking X.frames X.method X.code]
    simp only [State.hasRoom, Bool.and_eq_true, decide_eq_true_eq] at h ⊢
    obtain ⟨⟨⟨⟨h1, h2, h3, h4, h5, h6⟩, h7⟩, h8⟩, h9⟩ := h
    rw [X.frames, List.length_cons] at h2 h3
    have q1 := X.heapSize
    have q2 := X.used
    simp only [hF, hU, List.length_cons, State.stackLimits_setFrames, State.stackBytes_setFrames, hl9, hb9]
    refine ⟨⟨⟨⟨by omega, by omega, by omega, by omega, by omega, h6⟩, ?_⟩, ?_⟩, X.book⟩
    · show T.heap.size + R'.cells ≤ e.platform.maxCells
      omega
    · show T.slotsUsed + R'.slots ≤ e.platform.maxSlots
      omega
  · rw [State.stackLimits_setFrames]; rfl
  · rw [State.stackBytes_setFrames]; rfl
  · refine ⟨?_, Nat.le_refl _, Nat.le_refl _, ?_, ?_, fun a c9 h9 => ⟨c9, h9, rfl, rfl, fun _ _ => rfl⟩⟩
    · obtain ⟨t, ht, -⟩ := State.frames_cons hr
      show T.setVm s.vm = { ((T.setVm s.vm).setFrames (.invoking m args :: below)).setFrames (T.setVm s.vm).frames with heap := T.heap, slotsUsed := T.slotsUsed }
      rw [State.setFrames_setFrames, State.setFrames_self ht]
      rfl
    · show T.slotsUsed = T.slotsUsed + ((T.heap.toList.drop T.heap.size).map (·.slots.size)).sum
      rw [List.drop_eq_nil_of_le (Nat.le_of_eq Array.length_toList)]
      rfl
    · show ((T.heap.toList.drop T.heap.size).map (·.slots.size)).sum ≤ 0
      rw [List.drop_eq_nil_of_le (Nat.le_of_eq Array.length_toList)]
      exact Nat.le_refl _
/-- 'throw new E()': new; dup; invokespecial; athrow -/
theorem vx_throw0 {cc : ByteArray} {pc : Nat} (hexec : p.tables.exec = Jvm.exec) (hb : c.code = cc) (hl : l.stackTraces = false) {own cls : String} {names : List String} {ik ic mc ms : Nat} {A : Nat → Prop}
    (hown : s.vm.findClass own = some m.cls) (hcls : Bundle.fit cls = true) (hnames : ∀ n ∈ names, Bundle.fit n = true)
    (hk : (Cond.classLink own ik cls).before args s = true) (hini : (Cond.initialized cls).before args s = true) (hat : ∀ w ∈ vx_at0 own ic cls names, w.before args s = true)
    (hgood : ∀ w ∈ Cond.classLink own ik cls :: Cond.initialized cls :: vx_at0 own ic cls names, vx_ot w = true)
    (hU : vx_Zq Bundle.tN "UNASSIGNED_STACK" Bundle.steD A s s.heap) (hN : vx_Zq Bundle.tN "SUPPRESSED_SENTINEL" Bundle.listD A s s.heap) (hS : va_S A s.heap H locs) (hsize : ls.size = c.maxLocals)
    (d0 : decode cc pc = .ok (.new ik, 3)) (d3 : decode cc (pc + 3) = .ok (.dup, 1)) (d4 : decode cc (pc + 4) = .ok (.invokespecial ic, 3)) (d7 : decode cc (pc + 7) = .ok (.athrow, 1))
    (hout : ∀ x ∈ c.exceptionTable.toList, covers x (pc + 7) = false)
    (hRframes : names.length + 3 < R.frames) (hRlocals : (rest.map fun v => v.category).sum + (13 * (names.length + 1) + 42) ≤ R.locals) (hRcells : cells + 1 ≤ R.cells) (hRslots : slots + 6 ≤ R.slots) (hlocks : meth.locks = false)
    (hx : ∀ t : State, s.vm.Alike t.vm → H.size ≤ t.heap.size → (∀ q : Nat, q < H.size → t.heap[q]? = H[q]?) → XC cls s t)
    (hf : ∀ z ∈ locs, free z.base) (hc : cells + 1 ≤ mc) (hs : slots + 6 ≤ ms) :
    W p l e R s m args below meth c H locs cells slots (vx_MQ below Qc XC args s mc ms free) (F0 m pc ls rest) := by
  intro T hT X
  have htr : e.platform.stackTraces = false := (show e.platform.stackTraces = l.stackTraces by rw [X.admits.platform]).trans hl
  have Y := vx_rebase X (R' := { frames := R.frames, locals := R.locals, cells := 1, slots := 6 }) (Nat.le_refl _) (Nat.le_refl _) hRcells hRslots
  obtain ⟨s', hA⟩ : ∃ z, z = (T.setVm s.vm).setFrames (.invoking m args :: below) := ⟨_, rfl⟩
  rw [← hA] at Y
  have hvm : s'.vm = s.vm := by rw [hA]; rfl
  have hhp : s'.heap = H := by rw [hA]; exact hT
  have hW0 : s.WarmedH s'.vm := by rw [hvm]; exact State.WarmedH.refl s
  have hat' : ∀ w ∈ vx_at0 own ic cls names, w.before args s' = true := fun w hw => vx_ot_at hW0 hvm.symm (hgood w (List.mem_cons_of_mem _ (List.mem_cons_of_mem _ hw))) (hat w hw)
  have hk' : (Cond.classLink own ik cls).before args s' = true := vx_ot_at hW0 hvm.symm (hgood _ List.mem_cons_self) hk
  have hini' : (Cond.initialized cls).before args s' = true := vx_ot_at hW0 hvm.symm (hgood _ (List.mem_cons_of_mem _ List.mem_cons_self)) hini
  have hU' : vx_Zq Bundle.tN "UNASSIGNED_STACK" Bundle.steD A s' s'.heap := by rw [hhp]; exact vx_Zq.moved hW0.alike (hU.kept hS.2.1)
  have hN' : vx_Zq Bundle.tN "SUPPRESSED_SENTINEL" Bundle.listD A s' s'.heap := by rw [hhp]; exact vx_Zq.moved hW0.alike (hN.kept hS.2.1)
  have h : ∀ w ∈ Bundle.ownAtoms0 own ic cls names, w.before args s' = true := vx_own hat' (vx_isRefq hU'.1) (vx_isRefq hN'.1) hU'.2.word hN'.2.word
  have hown' : s'.vm.findClass own = some m.cls := by rw [hvm]; exact hown
  have hins : (Cond.instantiable cls 6).before args s' = true := h _ (by simp [Bundle.ownAtoms0])
  obtain ⟨vm₁, cX, kX, hfX, hkX, -, -, X₁, st1⟩ := Y.newCold hexec (own := own) (C := cls) (index := ik) (n := 6) hown' hk' hins hini'
    (g := F0 m pc ls rest) rfl (by rw [hb]; exact d0) (Nat.le_refl _) (Nat.le_refl _)
  generalize hT1 : (T.setVm vm₁).pushCell { cls := cX, slots := kX.instanceTypes.map defaultValue, vm := .none } = T1 at X₁ st1
  have hcat : (Value.ref T.heap.size).category = 1 := rfl
  have hcellA : T1.heap[T.heap.size]? = some (freshCell cX kX) := by rw [← hT1]; exact State.heap_pushCell_size _ _
  have d3' : decode c.code (pc + 3) = .ok (.dup, 1) := by rw [hb]; exact d3
  obtain ⟨U, hsteps, hrun, hend, hW, hsame, ce, hce, hO⟩ := X₁.ctorThrow0 hexec htr (own := own) (cls := cls) (names := names) (ic := ic) hown' hcls hnames h (fun x hx => nomatch hx) hfX hkX hcellA (by rw [hhp, hT]; exact Nat.le_refl _)
    (g := { method := m, pc := pc + 4, locals := ls, stack := .ref T.heap.size :: .ref T.heap.size :: rest, locked := none }) rfl hsize rfl rfl (rest := rest) rfl
    (by rw [hb]; exact d4) (by rw [hb]; exact d7) hout hRframes (by simp only [List.map_cons, List.sum_cons, hcat]; omega) hlocks
  obtain ⟨f1, f2⟩ := vx_frame hsame
  rw [hhp] at f1 f2
  have hWs : s.WarmedH U.vm := State.WarmedH.trans hW0 hW
  have hcl : s.vm.findClass cls = some ce.cls := by
    have h9 := hO.cls
    rw [hvm] at h9
    exact h9
  have hall : s.sameButNew ({ U with vm := s.vm } : State) locs mc ms := by
    subst hA
    obtain ⟨e1, e2⟩ := hsame
    rw [State.setFrames_setFrames] at e1
    have h2 : (T.setVm s.vm).sameButNew ({ U with vm := s.vm } : State) [] (0 + 1) (0 + 6) := ⟨e1, e2⟩
    have h3 := X.same.trans h2
    rw [List.append_nil] at h3
    exact h3.mono hc hs
  refine ⟨U, ?_, .threw T.heap.size, hrun, hend, Or.inr ⟨T.heap.size, rfl, cls, ce, locs, hx U hWs.alike f1 (fun q hq => f2 q hq (fun z hz => nomatch hz)), hce, hO.vm, hcl, hWs, hall, hf⟩⟩
  refine st1 _ ?_
  show Steps p.tables e below (T1.setTop { method := m, pc := pc + 3, locals := ls, stack := .ref T.heap.size :: rest, locked := none }) _
  jvm_step X₁.here [X₁.here.top, hexec, d3', Value.category]
  exact hsteps
/-- 'throw new E("text")': new; dup; ldc; invokespecial; athrow -/
theorem vx_throwS {cc : ByteArray} {pc : Nat} (hexec : p.tables.exec = Jvm.exec) (hb : c.code = cc) (hl : l.stackTraces = false) {own cls text : String} {names : List String} {ik is ic mc ms sa : Nat} {A : Nat → Prop}
    (hown : s.vm.findClass own = some m.cls) (hcls : Bundle.fit cls = true) (hnames : ∀ n ∈ names, Bundle.fit n = true)
    (hk : (Cond.classLink own ik cls).before args s = true) (hini : (Cond.initialized cls).before args s = true) (hstr : vk_R own is text sa s) (hat : ∀ w ∈ vx_atS own ic cls names, w.before args s = true)
    (hgood : ∀ w ∈ Cond.classLink own ik cls :: Cond.initialized cls :: vx_atS own ic cls names, vx_ot w = true)
    (hU : vx_Zq Bundle.tN "UNASSIGNED_STACK" Bundle.steD A s s.heap) (hN : vx_Zq Bundle.tN "SUPPRESSED_SENTINEL" Bundle.listD A s s.heap) (hS : va_S A s.heap H locs) (hsize : ls.size = c.maxLocals)
    (d0 : decode cc pc = .ok (.new ik, 3)) (d3 : decode cc (pc + 3) = .ok (.dup, 1)) (d4 : decode cc (pc + 4) = .ok (.ldc is, 2)) (d6 : decode cc (pc + 6) = .ok (.invokespecial ic, 3)) (d9 : decode cc (pc + 9) = .ok (.athrow, 1))
    (hout : ∀ x ∈ c.exceptionTable.toList, covers x (pc + 9) = false)
    (hRframes : names.length + 3 < R.frames) (hRlocals : (rest.map fun v => v.category).sum + (13 * (names.length + 1) + 43) ≤ R.locals) (hRcells : cells + 1 ≤ R.cells) (hRslots : slots + 6 ≤ R.slots) (hlocks : meth.locks = false)
    (hx : ∀ t : State, s.vm.Alike t.vm → H.size ≤ t.heap.size → (∀ q : Nat, q < H.size → t.heap[q]? = H[q]?) → XC cls s t)
    (hf : ∀ z ∈ locs, free z.base) (hc : cells + 1 ≤ mc) (hs : slots + 6 ≤ ms) :
    W p l e R s m args below meth c H locs cells slots (vx_MQ below Qc XC args s mc ms free) (F0 m pc ls rest) := by
  intro T hT X
  have htr : e.platform.stackTraces = false := (show e.platform.stackTraces = l.stackTraces by rw [X.admits.platform]).trans hl
  have Y := vx_rebase X (R' := { frames := R.frames, locals := R.locals, cells := 1, slots := 6 }) (Nat.le_refl _) (Nat.le_refl _) hRcells hRslots
  obtain ⟨s', hA⟩ : ∃ z, z = (T.setVm s.vm).setFrames (.invoking m args :: below) := ⟨_, rfl⟩
  rw [← hA] at Y
  have hvm : s'.vm = s.vm := by rw [hA]; rfl
  have hhp : s'.heap = H := by rw [hA]; exact hT
  have hW0 : s.WarmedH s'.vm := by rw [hvm]; exact State.WarmedH.refl s
  have hat' : ∀ w ∈ vx_atS own ic cls names, w.before args s' = true := fun w hw => vx_ot_at hW0 hvm.symm (hgood w (List.mem_cons_of_mem _ (List.mem_cons_of_mem _ hw))) (hat w hw)
  have hk' : (Cond.classLink own ik cls).before args s' = true := vx_ot_at hW0 hvm.symm (hgood _ List.mem_cons_self) hk
  have hini' : (Cond.initialized cls).before args s' = true := vx_ot_at hW0 hvm.symm (hgood _ (List.mem_cons_of_mem _ List.mem_cons_self)) hini
  have hU' : vx_Zq Bundle.tN "UNASSIGNED_STACK" Bundle.steD A s' s'.heap := by rw [hhp]; exact vx_Zq.moved hW0.alike (hU.kept hS.2.1)
  have hN' : vx_Zq Bundle.tN "SUPPRESSED_SENTINEL" Bundle.listD A s' s'.heap := by rw [hhp]; exact vx_Zq.moved hW0.alike (hN.kept hS.2.1)
  have h : ∀ w ∈ Bundle.ownAtoms own ic cls names, w.before args s' = true := vx_own hat' (vx_isRefq hU'.1) (vx_isRefq hN'.1) hU'.2.word hN'.2.word
  have hown' : s'.vm.findClass own = some m.cls := by rw [hvm]; exact hown
  have hins : (Cond.instantiable cls 6).before args s' = true := h _ (by simp [Bundle.ownAtoms])
  obtain ⟨vm₁, cX, kX, hfX, hkX, -, -, X₁, st1⟩ := Y.newCold hexec (own := own) (C := cls) (index := ik) (n := 6) hown' hk' hins hini'
    (g := F0 m pc ls rest) rfl (by rw [hb]; exact d0) (Nat.le_refl _) (Nat.le_refl _)
  generalize hT1 : (T.setVm vm₁).pushCell { cls := cX, slots := kX.instanceTypes.map defaultValue, vm := .none } = T1 at X₁ st1
  have hcat : (Value.ref T.heap.size).category = 1 := rfl
  have hcellA : T1.heap[T.heap.size]? = some (freshCell cX kX) := by rw [← hT1]; exact State.heap_pushCell_size _ _
  have d3' : decode c.code (pc + 3) = .ok (.dup, 1) := by rw [hb]; exact d3
  have d4' : decode c.code (pc + 4) = .ok (.ldc is, 2) := by rw [hb]; exact d4
  have hstr' : vk_R own is text sa s' := vk_R.warm hW0 hstr
  obtain ⟨U, hsteps, hrun, hend, hW, hsame, ce, hce, hO⟩ := X₁.ctorThrowS hexec htr (own := own) (cls := cls) (names := names) (ic := ic) hown' hcls hnames h (fun x hx => nomatch hx) hfX hkX hcellA (by rw [hhp, hT]; exact Nat.le_refl _) (msg := .ref sa) rfl
    (g := { method := m, pc := pc + 6, locals := ls, stack := .ref sa :: .ref T.heap.size :: .ref T.heap.size :: rest, locked := none }) rfl hsize rfl rfl (rest := rest) rfl
    (by rw [hb]; exact d6) (by rw [hb]; exact d9) hout hRframes (by simp only [List.map_cons, List.sum_cons, hcat]; omega) hlocks
  obtain ⟨f1, f2⟩ := vx_frame hsame
  rw [hhp] at f1 f2
  have hWs : s.WarmedH U.vm := State.WarmedH.trans hW0 hW
  have hcl : s.vm.findClass cls = some ce.cls := by
    have h9 := hO.cls
    rw [hvm] at h9
    exact h9
  have hall : s.sameButNew ({ U with vm := s.vm } : State) locs mc ms := by
    subst hA
    obtain ⟨e1, e2⟩ := hsame
    rw [State.setFrames_setFrames] at e1
    have h2 : (T.setVm s.vm).sameButNew ({ U with vm := s.vm } : State) [] (0 + 1) (0 + 6) := ⟨e1, e2⟩
    have h3 := X.same.trans h2
    rw [List.append_nil] at h3
    exact h3.mono hc hs
  refine ⟨U, ?_, .threw T.heap.size, hrun, hend, Or.inr ⟨T.heap.size, rfl, cls, ce, locs, hx U hWs.alike f1 (fun q hq => f2 q hq (fun z hz => nomatch hz)), hce, hO.vm, hcl, hWs, hall, hf⟩⟩
  refine st1 _ ?_
  show Steps p.tables e below (T1.setTop { method := m, pc := pc + 3, locals := ls, stack := .ref T.heap.size :: rest, locked := none }) _
  jvm_step X₁.here [X₁.here.top, hexec, d3', Value.category]
  exact X₁.ldcString hexec (own := own) (text := text) (index := is) (a := sa) hown' hstr'.1 hstr'.2
    (g := { method := m, pc := pc + 4, locals := ls, stack := .ref T.heap.size :: .ref T.heap.size :: rest, locked := none }) rfl d4' _ hsteps
/-- 'throw new E("text")', the text by a wide index -/
theorem vx_throwSW {cc : ByteArray} {pc : Nat} (hexec : p.tables.exec = Jvm.exec) (hb : c.code = cc) (hl : l.stackTraces = false) {own cls text : String} {names : List String} {ik is ic mc ms sa : Nat} {A : Nat → Prop}
    (hown : s.vm.findClass own = some m.cls) (hcls : Bundle.fit cls = true) (hnames : ∀ n ∈ names, Bundle.fit n = true)
    (hk : (Cond.classLink own ik cls).before args s = true) (hini : (Cond.initialized cls).before args s = true) (hstr : vk_R own is text sa s) (hat : ∀ w ∈ vx_atS own ic cls names, w.before args s = true)
    (hgood : ∀ w ∈ Cond.classLink own ik cls :: Cond.initialized cls :: vx_atS own ic cls names, vx_ot w = true)
    (hU : vx_Zq Bundle.tN "UNASSIGNED_STACK" Bundle.steD A s s.heap) (hN : vx_Zq Bundle.tN "SUPPRESSED_SENTINEL" Bundle.listD A s s.heap) (hS : va_S A s.heap H locs) (hsize : ls.size = c.maxLocals)
    (d0 : decode cc pc = .ok (.new ik, 3)) (d3 : decode cc (pc + 3) = .ok (.dup, 1)) (d4 : decode cc (pc + 4) = .ok (.ldc_w is, 3)) (d7 : decode cc (pc + 7) = .ok (.invokespecial ic, 3)) (d10 : decode cc (pc + 10) = .ok (.athrow, 1))
    (hout : ∀ x ∈ c.exceptionTable.toList, covers x (pc + 10) = false)
    (hRframes : names.length + 3 < R.frames) (hRlocals : (rest.map fun v => v.category).sum + (13 * (names.length + 1) + 43) ≤ R.locals) (hRcells : cells + 1 ≤ R.cells) (hRslots : slots + 6 ≤ R.slots) (hlocks : meth.locks = false)
    (hx : ∀ t : State, s.vm.Alike t.vm → H.size ≤ t.heap.size → (∀ q : Nat, q < H.size → t.heap[q]? = H[q]?) → XC cls s t)
    (hf : ∀ z ∈ locs, free z.base) (hc : cells + 1 ≤ mc) (hs : slots + 6 ≤ ms) :
    W p l e R s m args below meth c H locs cells slots (vx_MQ below Qc XC args s mc ms free) (F0 m pc ls rest) := by
  intro T hT X
  have htr : e.platform.stackTraces = false := (show e.platform.stackTraces = l.stackTraces by rw [X.admits.platform]).trans hl
  have Y := vx_rebase X (R' := { frames := R.frames, locals := R.locals, cells := 1, slots := 6 }) (Nat.le_refl _) (Nat.le_refl _) hRcells hRslots
  obtain ⟨s', hA⟩ : ∃ z, z = (T.setVm s.vm).setFrames (.invoking m args :: below) := ⟨_, rfl⟩
  rw [← hA] at Y
  have hvm : s'.vm = s.vm := by rw [hA]; rfl
  have hhp : s'.heap = H := by rw [hA]; exact hT
  have hW0 : s.WarmedH s'.vm := by rw [hvm]; exact State.WarmedH.refl s
  have hat' : ∀ w ∈ vx_atS own ic cls names, w.before args s' = true := fun w hw => vx_ot_at hW0 hvm.symm (hgood w (List.mem_cons_of_mem _ (List.mem_cons_of_mem _ hw))) (hat w hw)
  have hk' : (Cond.classLink own ik cls).before args s' = true := vx_ot_at hW0 hvm.symm (hgood _ List.mem_cons_self) hk
  have hini' : (Cond.initialized cls).before args s' = true := vx_ot_at hW0 hvm.symm (hgood _ (List.mem_cons_of_mem _ List.mem_cons_self)) hini
  have hU' : vx_Zq Bundle.tN "UNASSIGNED_STACK" Bundle.steD A s' s'.heap := by rw [hhp]; exact vx_Zq.moved hW0.alike (hU.kept hS.2.1)
  have hN' : vx_Zq Bundle.tN "SUPPRESSED_SENTINEL" Bundle.listD A s' s'.heap := by rw [hhp]; exact vx_Zq.moved hW0.alike (hN.kept hS.2.1)
  have h : ∀ w ∈ Bundle.ownAtoms own ic cls names, w.before args s' = true := vx_own hat' (vx_isRefq hU'.1) (vx_isRefq hN'.1) hU'.2.word hN'.2.word
  have hown' : s'.vm.findClass own = some m.cls := by rw [hvm]; exact hown
  have hins : (Cond.instantiable cls 6).before args s' = true := h _ (by simp [Bundle.ownAtoms])
  obtain ⟨vm₁, cX, kX, hfX, hkX, -, -, X₁, st1⟩ := Y.newCold hexec (own := own) (C := cls) (index := ik) (n := 6) hown' hk' hins hini'
    (g := F0 m pc ls rest) rfl (by rw [hb]; exact d0) (Nat.le_refl _) (Nat.le_refl _)
  generalize hT1 : (T.setVm vm₁).pushCell { cls := cX, slots := kX.instanceTypes.map defaultValue, vm := .none } = T1 at X₁ st1
  have hcat : (Value.ref T.heap.size).category = 1 := rfl
  have hcellA : T1.heap[T.heap.size]? = some (freshCell cX kX) := by rw [← hT1]; exact State.heap_pushCell_size _ _
  have d3' : decode c.code (pc + 3) = .ok (.dup, 1) := by rw [hb]; exact d3
  have d4' : decode c.code (pc + 4) = .ok (.ldc_w is, 3) := by rw [hb]; exact d4
  have hstr' : vk_R own is text sa s' := vk_R.warm hW0 hstr
  obtain ⟨U, hsteps, hrun, hend, hW, hsame, ce, hce, hO⟩ := X₁.ctorThrowS hexec htr (own := own) (cls := cls) (names := names) (ic := ic) hown' hcls hnames h (fun x hx => nomatch hx) hfX hkX hcellA (by rw [hhp, hT]; exact Nat.le_refl _) (msg := .ref sa) rfl
    (g := { method := m, pc := pc + 7, locals := ls, stack := .ref sa :: .ref T.heap.size :: .ref T.heap.size :: rest, locked := none }) rfl hsize rfl rfl (rest := rest) rfl
    (by rw [hb]; exact d7) (by rw [hb]; exact d10) hout hRframes (by simp only [List.map_cons, List.sum_cons, hcat]; omega) hlocks
  obtain ⟨f1, f2⟩ := vx_frame hsame
  rw [hhp] at f1 f2
  have hWs : s.WarmedH U.vm := State.WarmedH.trans hW0 hW
  have hcl : s.vm.findClass cls = some ce.cls := by
    have h9 := hO.cls
    rw [hvm] at h9
    exact h9
  have hall : s.sameButNew ({ U with vm := s.vm } : State) locs mc ms := by
    subst hA
    obtain ⟨e1, e2⟩ := hsame
    rw [State.setFrames_setFrames] at e1
    have h2 : (T.setVm s.vm).sameButNew ({ U with vm := s.vm } : State) [] (0 + 1) (0 + 6) := ⟨e1, e2⟩
    have h3 := X.same.trans h2
    rw [List.append_nil] at h3
    exact h3.mono hc hs
  refine ⟨U, ?_, .threw T.heap.size, hrun, hend, Or.inr ⟨T.heap.size, rfl, cls, ce, locs, hx U hWs.alike f1 (fun q hq => f2 q hq (fun z hz => nomatch hz)), hce, hO.vm, hcl, hWs, hall, hf⟩⟩
  refine st1 _ ?_
  show Steps p.tables e below (T1.setTop { method := m, pc := pc + 3, locals := ls, stack := .ref T.heap.size :: rest, locked := none }) _
  jvm_step X₁.here [X₁.here.top, hexec, d3', Value.category]
  exact X₁.ldcStringW hexec (own := own) (text := text) (index := is) (a := sa) hown' hstr'.1 hstr'.2
    (g := { method := m, pc := pc + 4, locals := ls, stack := .ref T.heap.size :: .ref T.heap.size :: rest, locked := none }) rfl d4' _ hsteps
end Ends
section Bodies
variable {l : Launch}
theorem vx_ofW {y : MethodName} {ws ws' : List Cond} {rm : Room} {Pc : Array Value → State → Prop} {Qc : Array Value → State → Outcome → State → Prop} {XC : String → State → State → Prop} {mc ms : Nat} {free : Addr → Prop} {cc : ByteArray} {maxL : Nat} {ret : Option FieldType}
    (hy : plainName y.cls = true) (hw : ws = Cond.code y cc maxL ret :: ws')
    (body : ∀ p e s m args below meth c s₁, BodyLoose p l y (headSpec ws rm) cc maxL ret e s m args below meth c s₁ → c.maxLocals = maxL → (∀ x ∈ c.exceptionTable.toList, False) → Pc args s →
      W p l e (headSpec ws rm).room s m args below meth c s.heap [] 0 0 (vx_MQ below Qc XC args s mc ms free) (entryFrame m args maxL)) : vx_Met l y ws rm Pc Qc XC mc ms free := by
  refine MetFree.of_bodyS (code := cc) (maxLocals := maxL) (ret := ret) hy ?_ ?_
  · intro args s m h hn
    obtain ⟨meth, c, h1, h2, h3, h4, h5, h6, -, -⟩ := Cond.code_spec hn (atoms_spec (ws := ws) h _ (by rw [hw]; exact List.mem_cons_self))
    exact ⟨meth, c, h1, h2, h3, h4, h5, h6⟩
  · intro p e s m args below meth c s₁ B hml hP _
    have hh0 : s₁.heap = s.heap := by rw [B.state]; rfl
    have ht : ∀ x ∈ c.exceptionTable.toList, False := by
      obtain ⟨meth9, c9, h1, h2, -, -, -, -, h7, -⟩ := Cond.code_spec B.named (atoms_spec (ws := ws) B.pre _ (by rw [hw]; exact List.mem_cons_self))
      cases Option.some.inj (h1.symm.trans B.method)
      cases Option.some.inj (h2.symm.trans (Stand.of_body B).code)
      intro x hx
      rw [Array.isEmpty_iff.mp h7] at hx
      cases hx
    obtain ⟨t, a1, o, b1, b2, b3⟩ := body p e s m args below meth c s₁ B hml ht hP s₁ hh0 (Stand.of_body B)
    exact ⟨t, o, a1, b1, b2, b3⟩
/-- the table of a body with handlers -/
theorem vx_table {p : Program} {x y : MethodName} {S : Spec} {cc bytes : ByteArray} {maxL maxL' : Nat} {ret ret' : Option FieldType} {e : Env} {s s₁ : State} {m : MethodId} {args : Array Value} {below : List Frame} {meth : Method} {c : Code} {hh : List (Nat × Nat × Nat × Nat)}
    (B : BodyLoose p l y S cc maxL ret e s m args below meth c s₁) (h : (Cond.codeWith y bytes maxL' ret' hh).before args s = true) : c.exceptionTable.toList = tableOf hh := by
  obtain ⟨m9, meth9, c9, hn9, h1, h2, -, -, h6, -⟩ := Cond.codeWith_spec h
  cases Option.some.inj (hn9.symm.trans B.named)
  cases Option.some.inj (h1.symm.trans B.method)
  cases Option.some.inj (h2.symm.trans (Stand.of_body B).code)
  rw [← h6, table_eq]
end Bodies
end VXA
/-! ===== END ===== -/
/-! ===== BEGIN a static call of a method with an exception table ===== -/
section VXS
variable {p : Program} {l : Launch} {e : Env} {R : Room} {s : State} {m : MethodId} {args : Array Value} {below : List Frame} {meth : Method} {c : Code} {T : State} {H : Heap} {locs : List Loc} {cells slots : Nat}
abbrev vx_CSW (R : Room) (s : State) (args : Array Value) (own : String) (index : Nat) (y : MethodName) (bytes : ByteArray) (maxL : Nat) (ret : Option FieldType) (hh : List (Nat × Nat × Nat × Nat)) (ws : List Cond) (rm : Room) (mc ms n : Nat) : Prop :=
  (rm.cells = mc ∧ rm.slots = ms ∧ rm.frames + 1 ≤ R.frames ∧ 8 + (maxL + 11) + rm.locals ≤ R.locals ∧ (∀ w ∈ ws, ∀ (a' : Array Value) (U : State), s.WarmedH U.vm → w.before a' U = true) ∧ Cond.codeWith y bytes maxL ret hh ∈ ws) ∧
  (Cond.codeWith y bytes maxL ret hh).before args s = true ∧ (Cond.initialized y.cls).before args s = true ∧ (y.cls ≠ "java/lang/invoke/MethodHandle" ∧ y.cls ≠ "java/lang/invoke/VarHandle") ∧
  (∀ sig, parseMethodDescriptor y.desc = some sig → n = sig.parameters.length) ∧ (Cond.methodLink own index y).before args s = true ∧ (Cond.static y).before args s = true
theorem vx_cwSW {own : String} {index maxL mc ms : Nat} {y : MethodName} {bytes : ByteArray} {ret : Option FieldType} {hh : List (Nat × Nat × Nat × Nat)} {Ts ws ws' : List Cond} {rm : Room} (n : Nat) (ht : ∀ w ∈ Ts, w.before args s = true) (hT : GoodIn Ts (va_wsS own index y ws)) (hw : ws = Cond.codeWith y bytes maxL ret hh :: ws') (hrc : rm.cells = mc) (hrs : rm.slots = ms)
    (hd : y.cls ≠ "java/lang/invoke/MethodHandle" ∧ y.cls ≠ "java/lang/invoke/VarHandle" ∧ (parseMethodDescriptor y.desc).map (fun d => d.parameters.length) = some n) (hR : rm.frames + 1 ≤ R.frames ∧ 8 + (maxL + 11) + rm.locals ≤ R.locals) :
    vx_CSW R s args own index y bytes maxL ret hh ws rm mc ms n := by
  have ok : ∀ w ∈ va_wsS own index y ws, w.before args s = true := fun w h => ht w (hT w h).1
  have hG : GoodIn Ts ws := fun w h => hT w (by unfold va_wsS; exact List.mem_append_right _ h)
  have hc : Cond.codeWith y bytes maxL ret hh ∈ ws := by rw [hw]; exact List.mem_cons_self
  refine ⟨⟨hrc, hrs, hR.1, hR.2, pay_in ht hG, hc⟩, ht _ (hG _ hc).1, ok _ (by simp [va_wsS]), ⟨hd.1, hd.2.1⟩, fun sig h => ?_, ok _ (by simp [va_wsS]), ok _ (by simp [va_wsS])⟩
  have h2 := hd.2.2
  rw [h] at h2
  exact (Option.some.inj h2).symm
theorem vx_callSW (X : Stand p l e R s m args below meth c T locs cells slots) (hexec : p.tables.exec = Jvm.exec) {own : String} {index : Nat} {y : MethodName} {bytes : ByteArray} {maxL : Nat} {ret : Option FieldType} {hh : List (Nat × Nat × Nat × Nat)}
    (hown : s.vm.findClass own = some m.cls) (hlink : (Cond.methodLink own index y).before args s = true) (hstat : (Cond.static y).before args s = true) (hinit : (Cond.initialized y.cls).before args s = true)
    (hcode : (Cond.codeWith y bytes maxL ret hh).before args s = true) (hy : y.cls ≠ "java/lang/invoke/MethodHandle" ∧ y.cls ≠ "java/lang/invoke/VarHandle")
    {W9 : Nat} {Pre : Pt → Array Value → Prop} {Post : Pt → Array Value → Option Value → Pt → Prop} (hK : Back l R p e below s args y 3 W9 Pre Post)
    {g : JFrame} (hg : g.method = m) (hsize : g.locals.size = c.maxLocals) {argsL rest : List Value} (hlen : ∀ sig, parseMethodDescriptor y.desc = some sig → argsL.length = sig.parameters.length)
    (hstack : g.stack = argsL.reverse ++ rest) (hW : 2 * g.monitorRoom + (rest.map fun v => v.category).sum ≤ W9) (hdg : decode c.code g.pc = .ok (.invokestatic index, 3))
    (hpre : ∀ vm₁, s.WarmedH vm₁ → Pre ⟨T.setVm vm₁, locs, cells, slots⟩ argsL.toArray) :
    ∃ (v : Option Value) (vm₁ : Vm) (B : Pt), s.WarmedH vm₁ ∧ Stand p l e R s m args below meth c B.U B.locs B.cells B.slots ∧ Post ⟨T.setVm vm₁, locs, cells, slots⟩ argsL.toArray v B ∧
      ∀ target, Steps p.tables e below (B.U.setTop { g with pc := g.pc + 3, stack := v.toList ++ rest }) target → Steps p.tables e below (T.setTop g) target := by
  obtain ⟨mk, methM, cM, hnamed, hmethM, -, -, -, -, -, -, hsigM⟩ := Cond.codeWith_spec hcode
  have hstatic : methM.isStatic = true := Cond.static_spec hnamed hmethM hstat
  obtain ⟨kP, hkP, -⟩ := className_of_methodNamed hnamed
  have hinitP : kP.init = .initialized := Cond.initialized_spec (findClass_of_methodNamed hnamed) hkP hinit
  obtain ⟨vm₁, X₁, hstep₁⟩ := X.invokestatic hexec hown hlink hnamed hmethM hstatic hkP hinitP hy (g := g) hg (argsL := argsL) (rest := rest) (hlen _ hsigM) hstack hdg
  obtain ⟨v, B, X', hpost, hsteps⟩ := hK m meth c ⟨T.setVm vm₁, locs, cells, slots⟩ { g with stack := rest } (.invokestatic index) mk argsL.toArray X₁ hg hsize hdg hW (X₁.named hnamed) (hpre vm₁ X₁.warmed)
  exact ⟨v, vm₁, B, X₁.warmed, X', hpost, fun target h => hstep₁ _ fun acts => by rw [doInvoke_state]; exact hsteps.trans h⟩
theorem vx_runSW {y : MethodName} {bytes cc : ByteArray} {maxL nL mc ms n index : Nat} {ret : Option FieldType} {hh : List (Nat × Nat × Nat × Nat)} {ws : List Cond} {rm : Room} {Pc : Array Value → State → Prop} {Qc : Array Value → State → Outcome → State → Prop} {free : Addr → Prop} {Ts : List Cond} {own : String} {As rest : List Value} {g : JFrame}
    (S : CallFix p m c cc nL s args Ts own) (hM : Met l y ws rm Pc Qc mc ms free) (cw : vx_CSW R s args own index y bytes maxL ret hh ws rm mc ms n) (hp : PreS s H Pc As)
    (hg : g.method = m) (hn : As.length = n) (hsize : g.locals.size = nL) (hstack : g.stack = As.reverse ++ rest) (hW : 2 * g.monitorRoom + (rest.map fun v => v.category).sum ≤ 8) (hdg : decode cc g.pc = .ok (.invokestatic index, 3)) (hf : cells + mc ≤ R.cells ∧ slots + ms ≤ R.slots) :
    va_Run p l e R s m args below meth c H locs cells slots mc ms g rest (Qc As.toArray) (free) := by
  obtain ⟨⟨hrc, hrs, hfr, hlo, hws, hcw⟩, hcode, hini, hy, hlen, hl, hstt⟩ := cw
  have hK : Back l R p e below s args y 3 8 (PreOf R mc ms Pc) (PostOf Qc mc ms free) := va_backW (hh := hh) (bytes := bytes) (maxL := maxL) (ret := ret) hM hp.1 hrc hrs hfr hlo hws hcw (fun a' U hW => word_at hW (Or.inl (by first | rfl | simp [Cond.onTables, Cond.keeps, Cond.steady])) hini)
  obtain ⟨hx, hb, hml, ho, -⟩ := S
  intro T hT X
  obtain ⟨v, vm₁, ⟨U', l2, c2, s2⟩, hW₁, X', ⟨g', mk, t, L, e1, e2, hq, h1, hL, h2, h3⟩, st⟩ := vx_callSW X hx (hh := hh) (bytes := bytes) (maxL := maxL) (ret := ret) ho hl hstt hini hcode hy hK hg (hsize.trans hml.symm) (argsL := As) (rest := rest) (fun sig h => hn.trans (hlen sig h)) hstack hW (by rw [hb]; exact hdg)
    (fun vm₁ hW₁ => ⟨hf.1, hf.2, hp.2 (T.setVm vm₁) hT hW₁⟩)
  dsimp only [Pt.U, Pt.locs, Pt.cells, Pt.slots] at X' e1 e2 h1 h2 h3 st
  subst h1; subst h2; subst h3
  exact ⟨v, (T.setVm vm₁).calling g' mk As.toArray, t, U', L, hT, X', hL, e1, e2, hq, st⟩
/-- not caught here, past rows that name other classes: it goes on to the caller -/
theorem vx_outP {p : Program} {l : Launch} {e : Env} {R : Room} {s : State} {m : MethodId} {args : Array Value} {below : List Frame} {meth : Method} {c : Code} {H : Heap} {locs : List Loc} {cells slots : Nat} {free : Addr → Prop} {ls : Array Slot} {rest : List Value} {Qc : Array Value → State → Outcome → State → Prop} {XC : String → State → State → Prop}
    {pc : Nat} {own E : String} {ce : Cell} {q : Addr} {mc ms : Nat} (hown : s.vm.findClass own = some m.cls) (hlocks : meth.locks = false)
    (hpass : ∀ z ∈ c.exceptionTable.toList, covers z pc = false ∨ (z.catchType ≠ 0 ∧ ∃ nm : String, (Cond.classLink own z.catchType nm).before args s = true ∧ va_Nc E nm s)) (hcell : H[q]? = some ce) (hv : ce.vm = .none) (hcl : s.vm.findClass E = some ce.cls)
    (hx : ∀ t : State, t.heap = H → s.vm.Alike t.vm → XC E s t) (hf : ∀ z ∈ locs, free z.base) (hc : cells ≤ mc) (hs : slots ≤ ms) :
    vx_W p l e R s m args below meth c H locs cells slots (vx_MQ below Qc XC args s mc ms free) (F0 m pc ls rest) q := by
  intro T hT X
  have hpl : e.platform.magicAccessors = ({} : Platform).magicAccessors := by rw [X.admits.platform]
  obtain ⟨vm', hW', X', st⟩ := X.outThrough hlocks q (g := F0 m pc ls rest) rfl rfl rfl (cell := ce) (by rw [hT]; exact hcell) (by rw [hv]; rfl)
    (by obtain ⟨k9, h9, -⟩ := Vm.findClass_spec hcl; exact ⟨k9, h9⟩) (fun z hz => by
      rcases hpass z hz with h | ⟨hz0, nm, hl1, hn1⟩
      · exact Or.inl h
      · obtain ⟨c6, hc6, hcl6⟩ := Cond.classLink_spec hown hl1 e.platform hpl
        obtain ⟨a8, b8, h1, h2, h3⟩ := hn1
        cases Option.some.inj (h1.symm.trans hcl)
        cases Option.some.inj (h2.symm.trans hc6)
        exact Or.inr ⟨hz0, _, hcl6, h3⟩)
  obtain ⟨g₀, hfr⟩ := X'.frames_eq
  have hcell9 : ((T.setVm vm').setFrames (.throwing q :: below)).heap[q]? = some ce := by
    show T.heap[q]? = some ce
    rw [hT]; exact hcell
  have hend : Ended ((T.setVm vm').setFrames (.throwing q :: below)) below (.threw q) := State.frames_setFrames _ (State.cur_lt_of_frames hfr)
  refine ⟨(T.setVm vm').setFrames (.throwing q :: below), ?_, .threw q, X'.here.running, hend, Or.inr ⟨q, rfl, E, ce, locs, hx _ hT (X'.ends _).1.alike, hcell9, hv, hcl, (X'.ends _).1, (X'.ends _).2.mono hc hs, hf⟩⟩
  rw [X.pushThrowing_eq]
  exact st
/-- a thing of a world lies in the heap -/
theorem vx_lt {D : va_G} {cl : List vw_C} {ws : va_W} {H1 : Heap} (h : va_P D cl ws H1) {k : Nat} {q : Nat × va_E} (hk : ws[k]? = some q) : q.1 < H1.size := (h k q hk).lt
end VXS
/-! ===== END ===== -/
/-! ===== BEGIN methods with a table of their own: called by a name, returning or throwing ===== -/
section VXH
/-! vx_backW, vx_callVX, vx_callSX, vx_callVW, vx_runVW, vx_runVX, vx_runSX, vx_ofWH follow the same proofs as their sisters above (Free/Laws.lean, Shelf42/LK1.lean); vx_outP calls Shelf42/NT130.lean (outThrough). -/
section
variable {l : Launch} {R : Room} {p : Program} {e : Env} {below : List Frame} {s : State} {sargs : Array Value} {y : MethodName} {len W9 : Nat}
theorem vx_backW {ws : List Cond} {rm : Room} {Pc : Array Value → State → Prop} {Qc : Array Value → State → Outcome → State → Prop} {XC : String → State → State → Prop} {mc ms : Nat} {free : Addr → Prop} {bytes : ByteArray} {maxL : Nat} {ret : Option FieldType} {hh : List (Nat × Nat × Nat × Nat)}
    (hM : vx_Met l y ws rm Pc Qc XC mc ms free) (hblind : FrameBlind Pc) (hrc : rm.cells = mc) (hrs : rm.slots = ms)
    (hframes : rm.frames + 1 ≤ R.frames) (hlocals : W9 + (maxL + 11) + rm.locals ≤ R.locals)
    (hws : ∀ w ∈ ws, ∀ a' U, s.WarmedH U.vm → w.before a' U = true) (hcode : Cond.codeWith y bytes maxL ret hh ∈ ws) (hinit : ∀ a' U, s.WarmedH U.vm → (Cond.initialized y.cls).before a' U = true) :
    vx_Back l R p e below s sargs y len W9 (PreOf R mc ms Pc) (PostOf Qc mc ms free) (vx_Post XC mc ms free) := by
  intro m meth c A g ig mk a X hg hsize hdg hW hn hp
  have h1 : (headSpec ws rm).pre.before a A.U = true := atoms_intro fun w hw => hws w hw _ _ X.warmed
  have h2 : (Cond.codeWith y bytes maxL ret hh).before a A.U = true := hws _ hcode _ _ X.warmed
  have h3 : (Cond.initialized y.cls).before a A.U = true := hinit _ _ X.warmed
  have h4 : A.cells + (headSpec ws rm).room.cells ≤ R.cells := by rw [show (headSpec ws rm).room.cells = mc from hrc]; exact hp.1
  have h5 : A.slots + (headSpec ws rm).room.slots ≤ R.slots := by rw [show (headSpec ws rm).room.slots = ms from hrs]; exact hp.2.1
  have hPc : Pc a (A.U.calling g mk a) := hblind _ _ _ _ hp.2.2
  obtain ⟨U, Ls, c0, s0⟩ := A
  dsimp only [Pt.U, Pt.locs, Pt.cells, Pt.slots] at h1 h2 h3 h4 h5 X hn hPc ⊢
  obtain ⟨m9, methY, cY, hn9, hmY, hcY, -, hlY, -⟩ := Cond.codeWith_spec h2
  cases Option.some.inj (hn9.symm.trans hn)
  obtain ⟨kY, hkY, -⟩ := className_of_methodNamed hn
  have hinitY : kY.init = .initialized := Cond.initialized_spec (findClass_of_methodNamed hn) hkY h3
  have h : At U g.method c below := by rw [hg]; exact X.here
  have hlocals9 : W9 + (maxL + 11) + (headSpec ws rm).room.locals ≤ R.locals := hlocals
  have happ : (headSpec ws rm).appliesLoose y e.platform (U.calling g mk a) = true :=
    Spec.appliesLoose_calling (g := g) h hdg hn hkY hinitY
      (X.room_calling (g := g) (R' := (headSpec ws rm).room) hsize hmY hcY hframes (by rw [hlY]; omega) h4 h5) h1
  obtain ⟨mid, hmid⟩ := h.above
  have hfr : (U.setTop g).frames = (.java g :: mid) ++ below := by rw [State.frames_setTop' g h.top, hmid]; rfl
  obtain ⟨o, s₂, hsteps, -, hend, hq⟩ := Steps.callFree hM p X.admits X.cas X.clock (acts := []) hfr happ hPc trivial
  have hq' : vx_Q Qc XC mc ms free a (U.calling g mk a) o s₂ := hq
  rw [State.frames_setTop' g h.top] at hend
  obtain ⟨g₀, hg0⟩ := Option.isSome_iff_exists.mp h.top
  obtain ⟨r, hr⟩ := State.topJava?_eq_some.mp hg0
  have hr' : (({ U with heap := s₂.heap, slotsUsed := s₂.slotsUsed } : State).setVm s₂.vm).frames = .java g₀ :: r := hr
  rcases hq' with ⟨hqc, L, hfe, hL⟩ | ⟨q, rfl, E, ce, L, hx, hce, hcv, hcl, hW₂, hsm, hL⟩
  · obtain ⟨⟨v, rfl⟩, hW₂, e2, q2, q3, q4, q5, q6⟩ := id hfe
    have e3 : s₂ = ({ (U.calling g mk a).setFrames s₂.frames with heap := s₂.heap, slotsUsed := s₂.slotsUsed } : State).setVm s₂.vm := by
      have : s₂ = ({ s₂ with vm := (U.calling g mk a).vm } : State).setVm s₂.vm := rfl
      rw [e2] at this
      exact this
    obtain ⟨c₂, i₂, len₂, hc₂, hd₂, hf₂⟩ := hend
    have hW' : U.WarmedH s₂.vm := hW₂
    have hcc : c₂ = c := by
      have h1 : s₂.code? g.method = U.code? g.method := by
        rw [State.code?_eq, State.code?_eq, hW'.alike.method?]
      exact Option.some.inj (hc₂.symm.trans (h1.trans h.code))
    subst hcc
    have hlen : len₂ = len := by rw [hdg] at hd₂; cases hd₂; rfl
    subst hlen
    have hs₂ : s₂ = (({ U with heap := s₂.heap, slotsUsed := s₂.slotsUsed } : State).setVm s₂.vm).setTop { g with pc := g.pc + len₂, stack := v.toList ++ g.stack } := by
      refine e3.trans ?_
      rw [hf₂, State.calling_eq h.top, State.setFrames_setFrames, State.setTop_of_frames _ hr', hr]
      rfl
    have hsame : U.sameButNew ({ U with heap := s₂.heap, slotsUsed := s₂.slotsUsed } : State) L mc ms := by
      refine ⟨?_, q2, q3, q4, q5, q6⟩
      obtain ⟨t, ht, -⟩ := State.frames_cons hr
      show ({ U with heap := s₂.heap, slotsUsed := s₂.slotsUsed } : State) = { U.setFrames U.frames with heap := s₂.heap, slotsUsed := s₂.slotsUsed }
      rw [State.setFrames_self ht]
    subst hg
    refine Or.inl ⟨v, ⟨(({ U with heap := s₂.heap, slotsUsed := s₂.slotsUsed } : State).setVm s₂.vm), Ls ++ L, c0 + mc, s0 + ms⟩,
      ⟨X.admits, X.cas, X.clock, X.frames, X.room, X.hears, X.method, X.code, (X.here.setHeapUsed s₂.heap s₂.slotsUsed).setVm hW'.alike, X.tail, State.WarmedH.trans X.warmed hW', X.limits, X.bytes, X.same.trans (hsame.setVm s.vm)⟩,
      ⟨g, mk, s₂, L, rfl, rfl, hqc, rfl, hL, rfl, rfl⟩, ?_⟩
    show Steps p.tables e below _ ((({ U with heap := s₂.heap, slotsUsed := s₂.slotsUsed } : State).setVm s₂.vm).setTop { g with pc := g.pc + len₂, stack := v.toList ++ g.stack })
    rw [← hs₂]
    exact hsteps
  · obtain ⟨e2, q2, q3, q4, q5, q6⟩ := id hsm
    have e3 : s₂ = ({ (U.calling g mk a).setFrames s₂.frames with heap := s₂.heap, slotsUsed := s₂.slotsUsed } : State).setVm s₂.vm := by
      have : s₂ = ({ s₂ with vm := (U.calling g mk a).vm } : State).setVm s₂.vm := rfl
      rw [e2] at this
      exact this
    have hf₂ : s₂.frames = .throwing q :: .java g :: U.frames.tail := hend
    have hW' : U.WarmedH s₂.vm := hW₂
    have hs₂ : s₂ = ((({ U with heap := s₂.heap, slotsUsed := s₂.slotsUsed } : State).setVm s₂.vm).setTop g).pushFrame (.throwing q) := by
      refine e3.trans ?_
      rw [hf₂, State.calling_eq h.top, State.setFrames_setFrames, State.pushFrame, State.frames_setTop _ hr', State.setTop_of_frames _ hr', State.setFrames_setFrames, hr]
      rfl
    have hsame : U.sameButNew ({ U with heap := s₂.heap, slotsUsed := s₂.slotsUsed } : State) L mc ms := by
      refine ⟨?_, q2, q3, q4, q5, q6⟩
      obtain ⟨t, ht, -⟩ := State.frames_cons hr
      show ({ U with heap := s₂.heap, slotsUsed := s₂.slotsUsed } : State) = { U.setFrames U.frames with heap := s₂.heap, slotsUsed := s₂.slotsUsed }
      rw [State.setFrames_self ht]
    subst hg
    refine Or.inr ⟨q, ⟨(({ U with heap := s₂.heap, slotsUsed := s₂.slotsUsed } : State).setVm s₂.vm), Ls ++ L, c0 + mc, s0 + ms⟩,
      ⟨X.admits, X.cas, X.clock, X.frames, X.room, X.hears, X.method, X.code, (X.here.setHeapUsed s₂.heap s₂.slotsUsed).setVm hW'.alike, X.tail, State.WarmedH.trans X.warmed hW', X.limits, X.bytes, X.same.trans (hsame.setVm s.vm)⟩,
      ⟨g, mk, s₂, L, E, ce, rfl, rfl, hx, hce, hcv, hcl, rfl, hL, rfl, rfl⟩, ?_⟩
    show Steps p.tables e below _ (((({ U with heap := s₂.heap, slotsUsed := s₂.slotsUsed } : State).setVm s₂.vm).setTop g).pushFrame (.throwing q))
    rw [← hs₂]
    exact hsteps
end
variable {p : Program} {l : Launch} {e : Env} {R : Room} {s : State} {m : MethodId} {args : Array Value} {below : List Frame} {meth : Method} {c : Code} {T : State} {H : Heap} {locs : List Loc} {cells slots : Nat}
theorem vx_callVX (X : Stand p l e R s m args below meth c T locs cells slots) (hexec : p.tables.exec = Jvm.exec) {own C : String} {index : Nat} {y : MethodName} {bytes : ByteArray} {maxL : Nat} {ret : Option FieldType} {hh : List (Nat × Nat × Nat × Nat)}
    (hown : s.vm.findClass own = some m.cls) (hlink : (Cond.methodLink own index y).before args s = true) (hinst : (Cond.instanceMethod y).before args s = true) (hsel : (Cond.selects C y y).before args s = true)
    (hcode : (Cond.codeWith y bytes maxL ret hh).before args s = true) (hy : y.cls ≠ "java/lang/invoke/MethodHandle" ∧ y.cls ≠ "java/lang/invoke/VarHandle")
    {W9 : Nat} {Pre : Pt → Array Value → Prop} {Post : Pt → Array Value → Option Value → Pt → Prop} {PostX : Pt → Array Value → Addr → Pt → Prop} (hK : vx_Back l R p e below s args y 3 W9 Pre Post PostX)
    {b : Addr} {cellB : Cell} (hcell : T.heap[b]? = some cellB) (hobj : cellB.vm.isStatics = false) (hcls : s.vm.findClass C = some cellB.cls)
    {g : JFrame} (hg : g.method = m) (hsize : g.locals.size = c.maxLocals) {argsL rest : List Value} (hlen : ∀ sig, parseMethodDescriptor y.desc = some sig → argsL.length = sig.parameters.length)
    (hstack : g.stack = argsL.reverse ++ .ref b :: rest) (hW : 2 * g.monitorRoom + (rest.map fun v => v.category).sum ≤ W9) (hdg : decode c.code g.pc = .ok (.invokevirtual index, 3))
    (hpre : ∀ vm₁, s.WarmedH vm₁ → Pre ⟨T.setVm vm₁, locs, cells, slots⟩ (Value.ref b :: argsL).toArray) :
    (∃ (v : Option Value) (vm₁ : Vm) (B : Pt), s.WarmedH vm₁ ∧ Stand p l e R s m args below meth c B.U B.locs B.cells B.slots ∧ Post ⟨T.setVm vm₁, locs, cells, slots⟩ (Value.ref b :: argsL).toArray v B ∧
      ∀ target, Steps p.tables e below (B.U.setTop { g with pc := g.pc + 3, stack := v.toList ++ rest }) target → Steps p.tables e below (T.setTop g) target) ∨
    (∃ (q : Addr) (vm₁ : Vm) (B : Pt), s.WarmedH vm₁ ∧ Stand p l e R s m args below meth c B.U B.locs B.cells B.slots ∧ PostX ⟨T.setVm vm₁, locs, cells, slots⟩ (Value.ref b :: argsL).toArray q B ∧
      Steps p.tables e below (T.setTop g) ((B.U.setTop { g with stack := rest }).pushFrame (.throwing q))) := by
  obtain ⟨mk, methM, hnamed, hmethM, hstM, habM⟩ := Cond.instanceMethod_spec hinst
  obtain ⟨m8, methM', cM, hn8, hmethM', -, -, -, -, -, -, hsigM⟩ := Cond.codeWith_spec hcode
  cases Option.some.inj (hn8.symm.trans hnamed)
  cases hmethM.symm.trans hmethM'
  obtain ⟨c2, r2, m2, q1, q2, q3, q4, kP, hkP, hkPi⟩ := Cond.selects_spec hsel
  cases hcls.symm.trans q1
  cases (State.methodFound?_of_named hnamed hy).symm.trans q2
  cases hnamed.symm.trans q3
  have hselP : selectMethod e.platform s.vm cellB.cls mk = .method mk := by rw [Launch.admits_selectMethod X.admits]; exact q4
  obtain ⟨vm₁, X₁, hstep₁⟩ := X.invokevirtual hexec hown hlink hnamed hmethM hstM hkP hkPi hy (a := b) (cell := cellB) hcell
    (fun z h => by rw [h] at hobj; cases hobj) hselP hmethM habM hkP hkPi (g := g) hg (argsL := argsL) (rest := rest) (hlen _ hsigM) hstack hdg
  rcases hK m meth c ⟨T.setVm vm₁, locs, cells, slots⟩ { g with stack := rest } (.invokevirtual index) mk (Value.ref b :: argsL).toArray X₁ hg hsize hdg hW (X₁.named hnamed) (hpre vm₁ X₁.warmed) with ⟨v, B, X', hpost, hsteps⟩ | ⟨q, B, X', hpost, hsteps⟩
  · exact Or.inl ⟨v, vm₁, B, X₁.warmed, X', hpost, fun target h => hstep₁ _ fun acts => by rw [doInvoke_state]; exact hsteps.trans h⟩
  · exact Or.inr ⟨q, vm₁, B, X₁.warmed, X', hpost, hstep₁ _ fun acts => by rw [doInvoke_state]; exact hsteps⟩
theorem vx_callSX (X : Stand p l e R s m args below meth c T locs cells slots) (hexec : p.tables.exec = Jvm.exec) {own : String} {index : Nat} {y : MethodName} {bytes : ByteArray} {maxL : Nat} {ret : Option FieldType} {hh : List (Nat × Nat × Nat × Nat)}
    (hown : s.vm.findClass own = some m.cls) (hlink : (Cond.methodLink own index y).before args s = true) (hstat : (Cond.static y).before args s = true) (hinit : (Cond.initialized y.cls).before args s = true)
    (hcode : (Cond.codeWith y bytes maxL ret hh).before args s = true) (hy : y.cls ≠ "java/lang/invoke/MethodHandle" ∧ y.cls ≠ "java/lang/invoke/VarHandle")
    {W9 : Nat} {Pre : Pt → Array Value → Prop} {Post : Pt → Array Value → Option Value → Pt → Prop} {PostX : Pt → Array Value → Addr → Pt → Prop} (hK : vx_Back l R p e below s args y 3 W9 Pre Post PostX)
    {g : JFrame} (hg : g.method = m) (hsize : g.locals.size = c.maxLocals) {argsL rest : List Value} (hlen : ∀ sig, parseMethodDescriptor y.desc = some sig → argsL.length = sig.parameters.length)
    (hstack : g.stack = argsL.reverse ++ rest) (hW : 2 * g.monitorRoom + (rest.map fun v => v.category).sum ≤ W9) (hdg : decode c.code g.pc = .ok (.invokestatic index, 3))
    (hpre : ∀ vm₁, s.WarmedH vm₁ → Pre ⟨T.setVm vm₁, locs, cells, slots⟩ argsL.toArray) :
    (∃ (v : Option Value) (vm₁ : Vm) (B : Pt), s.WarmedH vm₁ ∧ Stand p l e R s m args below meth c B.U B.locs B.cells B.slots ∧ Post ⟨T.setVm vm₁, locs, cells, slots⟩ argsL.toArray v B ∧
      ∀ target, Steps p.tables e below (B.U.setTop { g with pc := g.pc + 3, stack := v.toList ++ rest }) target → Steps p.tables e below (T.setTop g) target) ∨
    (∃ (q : Addr) (vm₁ : Vm) (B : Pt), s.WarmedH vm₁ ∧ Stand p l e R s m args below meth c B.U B.locs B.cells B.slots ∧ PostX ⟨T.setVm vm₁, locs, cells, slots⟩ argsL.toArray q B ∧
      Steps p.tables e below (T.setTop g) ((B.U.setTop { g with stack := rest }).pushFrame (.throwing q))) := by
  obtain ⟨mk, methM, cM, hnamed, hmethM, -, -, -, -, -, -, hsigM⟩ := Cond.codeWith_spec hcode
  have hstatic : methM.isStatic = true := Cond.static_spec hnamed hmethM hstat
  obtain ⟨kP, hkP, -⟩ := className_of_methodNamed hnamed
  have hinitP : kP.init = .initialized := Cond.initialized_spec (findClass_of_methodNamed hnamed) hkP hinit
  obtain ⟨vm₁, X₁, hstep₁⟩ := X.invokestatic hexec hown hlink hnamed hmethM hstatic hkP hinitP hy (g := g) hg (argsL := argsL) (rest := rest) (hlen _ hsigM) hstack hdg
  rcases hK m meth c ⟨T.setVm vm₁, locs, cells, slots⟩ { g with stack := rest } (.invokestatic index) mk argsL.toArray X₁ hg hsize hdg hW (X₁.named hnamed) (hpre vm₁ X₁.warmed) with ⟨v, B, X', hpost, hsteps⟩ | ⟨q, B, X', hpost, hsteps⟩
  · exact Or.inl ⟨v, vm₁, B, X₁.warmed, X', hpost, fun target h => hstep₁ _ fun acts => by rw [doInvoke_state]; exact hsteps.trans h⟩
  · exact Or.inr ⟨q, vm₁, B, X₁.warmed, X', hpost, hstep₁ _ fun acts => by rw [doInvoke_state]; exact hsteps⟩
theorem vx_callVW (X : Stand p l e R s m args below meth c T locs cells slots) (hexec : p.tables.exec = Jvm.exec) {own C : String} {index : Nat} {y : MethodName} {bytes : ByteArray} {maxL : Nat} {ret : Option FieldType} {hh : List (Nat × Nat × Nat × Nat)}
    (hown : s.vm.findClass own = some m.cls) (hlink : (Cond.methodLink own index y).before args s = true) (hinst : (Cond.instanceMethod y).before args s = true) (hsel : (Cond.selects C y y).before args s = true)
    (hcode : (Cond.codeWith y bytes maxL ret hh).before args s = true) (hy : y.cls ≠ "java/lang/invoke/MethodHandle" ∧ y.cls ≠ "java/lang/invoke/VarHandle")
    {W9 : Nat} {Pre : Pt → Array Value → Prop} {Post : Pt → Array Value → Option Value → Pt → Prop} (hK : Back l R p e below s args y 3 W9 Pre Post)
    {b : Addr} {cellB : Cell} (hcell : T.heap[b]? = some cellB) (hobj : cellB.vm.isStatics = false) (hcls : s.vm.findClass C = some cellB.cls)
    {g : JFrame} (hg : g.method = m) (hsize : g.locals.size = c.maxLocals) {argsL rest : List Value} (hlen : ∀ sig, parseMethodDescriptor y.desc = some sig → argsL.length = sig.parameters.length)
    (hstack : g.stack = argsL.reverse ++ .ref b :: rest) (hW : 2 * g.monitorRoom + (rest.map fun v => v.category).sum ≤ W9) (hdg : decode c.code g.pc = .ok (.invokevirtual index, 3))
    (hpre : ∀ vm₁, s.WarmedH vm₁ → Pre ⟨T.setVm vm₁, locs, cells, slots⟩ (Value.ref b :: argsL).toArray) :
    ∃ (v : Option Value) (vm₁ : Vm) (B : Pt), s.WarmedH vm₁ ∧ Stand p l e R s m args below meth c B.U B.locs B.cells B.slots ∧ Post ⟨T.setVm vm₁, locs, cells, slots⟩ (Value.ref b :: argsL).toArray v B ∧
      ∀ target, Steps p.tables e below (B.U.setTop { g with pc := g.pc + 3, stack := v.toList ++ rest }) target → Steps p.tables e below (T.setTop g) target := by
  obtain ⟨mk, methM, hnamed, hmethM, hstM, habM⟩ := Cond.instanceMethod_spec hinst
  obtain ⟨m8, methM', cM, hn8, hmethM', -, -, -, -, -, -, hsigM⟩ := Cond.codeWith_spec hcode
  cases Option.some.inj (hn8.symm.trans hnamed)
  cases hmethM.symm.trans hmethM'
  obtain ⟨c2, r2, m2, q1, q2, q3, q4, kP, hkP, hkPi⟩ := Cond.selects_spec hsel
  cases hcls.symm.trans q1
  cases (State.methodFound?_of_named hnamed hy).symm.trans q2
  cases hnamed.symm.trans q3
  have hselP : selectMethod e.platform s.vm cellB.cls mk = .method mk := by rw [Launch.admits_selectMethod X.admits]; exact q4
  obtain ⟨vm₁, X₁, hstep₁⟩ := X.invokevirtual hexec hown hlink hnamed hmethM hstM hkP hkPi hy (a := b) (cell := cellB) hcell
    (fun z h => by rw [h] at hobj; cases hobj) hselP hmethM habM hkP hkPi (g := g) hg (argsL := argsL) (rest := rest) (hlen _ hsigM) hstack hdg
  obtain ⟨v, B, X', hpost, hsteps⟩ := hK m meth c ⟨T.setVm vm₁, locs, cells, slots⟩ { g with stack := rest } (.invokevirtual index) mk (Value.ref b :: argsL).toArray X₁ hg hsize hdg hW (X₁.named hnamed) (hpre vm₁ X₁.warmed)
  exact ⟨v, vm₁, B, X₁.warmed, X', hpost, fun target h => hstep₁ _ fun acts => by rw [doInvoke_state]; exact hsteps.trans h⟩
abbrev vx_CVW (R : Room) (s : State) (args : Array Value) (own C : String) (index : Nat) (y : MethodName) (bytes : ByteArray) (maxL : Nat) (ret : Option FieldType) (hh : List (Nat × Nat × Nat × Nat)) (ws : List Cond) (rm : Room) (mc ms n : Nat) : Prop :=
  (rm.cells = mc ∧ rm.slots = ms ∧ rm.frames + 1 ≤ R.frames ∧ 8 + (maxL + 11) + rm.locals ≤ R.locals ∧ (∀ w ∈ ws, ∀ (a' : Array Value) (U : State), s.WarmedH U.vm → w.before a' U = true) ∧ Cond.codeWith y bytes maxL ret hh ∈ ws) ∧
  (Cond.codeWith y bytes maxL ret hh).before args s = true ∧ (Cond.initialized y.cls).before args s = true ∧ (y.cls ≠ "java/lang/invoke/MethodHandle" ∧ y.cls ≠ "java/lang/invoke/VarHandle") ∧
  (∀ sig, parseMethodDescriptor y.desc = some sig → n = sig.parameters.length) ∧ (Cond.methodLink own index y).before args s = true ∧ (Cond.instanceMethod y).before args s = true ∧ (Cond.selects C y y).before args s = true
theorem vx_cwVW {own C : String} {index maxL mc ms : Nat} {y : MethodName} {bytes : ByteArray} {ret : Option FieldType} {hh : List (Nat × Nat × Nat × Nat)} {Ts ws ws' : List Cond} {rm : Room} (n : Nat) (ht : ∀ w ∈ Ts, w.before args s = true) (hT : GoodIn Ts (wsV own index C y ws)) (hw : ws = Cond.codeWith y bytes maxL ret hh :: ws') (hrc : rm.cells = mc) (hrs : rm.slots = ms)
    (hd : y.cls = C ∧ y.cls ≠ "java/lang/invoke/MethodHandle" ∧ y.cls ≠ "java/lang/invoke/VarHandle" ∧ (parseMethodDescriptor y.desc).map (fun d => d.parameters.length) = some n) (hR : rm.frames + 1 ≤ R.frames ∧ 8 + (maxL + 11) + rm.locals ≤ R.locals) :
    vx_CVW R s args own C index y bytes maxL ret hh ws rm mc ms n := by
  obtain ⟨hC, hd⟩ := hd
  subst hC
  have ok : ∀ w ∈ wsV own index y.cls y ws, w.before args s = true := fun w h => ht w (hT w h).1
  have hG : GoodIn Ts ws := fun w h => hT w (by unfold wsV; exact List.mem_append_right _ h)
  have hc : Cond.codeWith y bytes maxL ret hh ∈ ws := by rw [hw]; exact List.mem_cons_self
  refine ⟨⟨hrc, hrs, hR.1, hR.2, pay_in ht hG, hc⟩, ht _ (hG _ hc).1, ok _ (by simp [wsV]), ⟨hd.1, hd.2.1⟩, fun sig h => ?_, ok _ (by simp [wsV]), ok _ (by simp [wsV]), ok _ (by simp [wsV])⟩
  have h2 := hd.2.2
  rw [h] at h2
  exact (Option.some.inj h2).symm
theorem vx_runVW {y : MethodName} {bytes cc : ByteArray} {maxL nL mc ms n index : Nat} {ret : Option FieldType} {hh : List (Nat × Nat × Nat × Nat)} {ws : List Cond} {rm : Room} {Pc : Array Value → State → Prop} {Qc : Array Value → State → Outcome → State → Prop} {free : Addr → Prop} {Ts : List Cond} {own C : String} {b : Addr} {As rest : List Value} {g : JFrame}
    (S : CallFix p m c cc nL s args Ts own) (hM : Met l y ws rm Pc Qc mc ms free) (cw : vx_CVW R s args own C index y bytes maxL ret hh ws rm mc ms n) (hp : PreV s H C b Pc As)
    (hg : g.method = m) (hn : As.length = n) (hsize : g.locals.size = nL) (hstack : g.stack = As.reverse ++ .ref b :: rest) (hW : 2 * g.monitorRoom + (rest.map fun v => v.category).sum ≤ 8) (hdg : decode cc g.pc = .ok (.invokevirtual index, 3)) (hf : cells + mc ≤ R.cells ∧ slots + ms ≤ R.slots) :
    va_Run p l e R s m args below meth c H locs cells slots mc ms g rest (Qc (Value.ref b :: As).toArray) free := by
  obtain ⟨⟨hrc, hrs, hfr, hlo, hws, hcw⟩, hcode, hini, hy, hlen, hl, hin, hse⟩ := cw
  have hK : Back l R p e below s args y 3 8 (PreOf R mc ms Pc) (PostOf Qc mc ms free) := va_backW (hh := hh) (bytes := bytes) (maxL := maxL) (ret := ret) hM hp.1 hrc hrs hfr hlo hws hcw (fun a' U hW => word_at hW (Or.inl (by first | rfl | simp [Cond.onTables, Cond.keeps, Cond.steady])) hini)
  obtain ⟨hx, hb, hml, ho, -⟩ := S
  obtain ⟨-, ⟨cellB, hcB, hoB, hclB⟩, hPc⟩ := hp
  intro T hT X
  obtain ⟨v, vm₁, ⟨U', l2, c2, s2⟩, hW₁, X', ⟨g', mk, t, L, e1, e2, hq, h1, hL, h2, h3⟩, st⟩ := vx_callVW X hx (C := C) (hh := hh) (bytes := bytes) (maxL := maxL) (ret := ret) ho hl hin hse hcode hy hK (by rw [hT]; exact hcB) hoB hclB hg (hsize.trans hml.symm) (argsL := As) (rest := rest) (fun sig h => hn.trans (hlen sig h)) hstack hW (by rw [hb]; exact hdg)
    (fun vm₁ hW₁ => ⟨hf.1, hf.2, hPc (T.setVm vm₁) hT hW₁⟩)
  dsimp only [Pt.U, Pt.locs, Pt.cells, Pt.slots] at X' e1 e2 h1 h2 h3 st
  subst h1; subst h2; subst h3
  exact ⟨v, (T.setVm vm₁).calling g' mk (Value.ref b :: As).toArray, t, U', L, hT, X', hL, e1, e2, hq, st⟩
section
variable {y : MethodName} {bytes cc : ByteArray} {maxL nL mc ms n index : Nat} {ret : Option FieldType} {ws : List Cond} {rm : Room} {Pc : Array Value → State → Prop} {Qc : Array Value → State → Outcome → State → Prop} {XC : String → State → State → Prop} {free : Addr → Prop} {Ts : List Cond} {own C : String} {b : Addr} {As rest : List Value} {g : JFrame}
theorem vx_runVX {hh : List (Nat × Nat × Nat × Nat)} (S : CallFix p m c cc nL s args Ts own) (hM : vx_Met l y ws rm Pc Qc XC mc ms free) (cw : vx_CVW R s args own C index y bytes maxL ret hh ws rm mc ms n) (hp : PreV s H C b Pc As)
    (hg : g.method = m) (hn : As.length = n) (hsize : g.locals.size = nL) (hstack : g.stack = As.reverse ++ .ref b :: rest) (hW : 2 * g.monitorRoom + (rest.map fun v => v.category).sum ≤ 8) (hdg : decode cc g.pc = .ok (.invokevirtual index, 3)) (hf : cells + mc ≤ R.cells ∧ slots + ms ≤ R.slots) :
    vx_Run p l e R s m args below meth c H locs cells slots mc ms g rest (Qc (Value.ref b :: As).toArray) XC free := by
  obtain ⟨⟨hrc, hrs, hfr, hlo, hws, hcw⟩, hcode, hini, hy, hlen, hl, hin, hse⟩ := cw
  have hK : vx_Back l R p e below s args y 3 8 (PreOf R mc ms Pc) (PostOf Qc mc ms free) (vx_Post XC mc ms free) := vx_backW (hh := hh) (bytes := bytes) (maxL := maxL) (ret := ret) hM hp.1 hrc hrs hfr hlo hws hcw (fun a' U hW => word_at hW (Or.inl (by first | rfl | simp [Cond.onTables, Cond.keeps, Cond.steady])) hini)
  obtain ⟨hx, hb, hml, ho, -⟩ := S
  obtain ⟨-, ⟨cellB, hcB, hoB, hclB⟩, hPc⟩ := hp
  intro T hT X
  rcases vx_callVX X hx (C := C) (hh := hh) (bytes := bytes) (maxL := maxL) (ret := ret) ho hl hin hse hcode hy hK (by rw [hT]; exact hcB) hoB hclB hg (hsize.trans hml.symm) (argsL := As) (rest := rest) (fun sig h => hn.trans (hlen sig h)) hstack hW (by rw [hb]; exact hdg)
    (fun vm₁ hW₁ => ⟨hf.1, hf.2, hPc (T.setVm vm₁) hT hW₁⟩) with ⟨v, vm₁, ⟨U', l2, c2, s2⟩, hW₁, X', ⟨g', mk, t, L, e1, e2, hq, h1, hL, h2, h3⟩, st⟩ | ⟨q, vm₁, ⟨U', l2, c2, s2⟩, hW₁, X', ⟨g', mk, t, L, E, ce, e1, e2, hq, hce, hcv, hcl, h1, hL, h2, h3⟩, st⟩
  · dsimp only [Pt.U, Pt.locs, Pt.cells, Pt.slots] at X' e1 e2 h1 h2 h3 st
    subst h1; subst h2; subst h3
    exact Or.inl ⟨v, (T.setVm vm₁).calling g' mk (Value.ref b :: As).toArray, t, U', L, hT, X', hL, e1, e2, hq, st⟩
  · dsimp only [Pt.U, Pt.locs, Pt.cells, Pt.slots] at X' e1 e2 h1 h2 h3 st hcl
    subst h1; subst h2; subst h3
    exact Or.inr ⟨q, (T.setVm vm₁).calling g' mk (Value.ref b :: As).toArray, t, U', L, E, ce, hT, X', hL, e1, e2, hq, hce, hcv, vx_cls hW₁ hcl, st⟩
theorem vx_runSX {hh : List (Nat × Nat × Nat × Nat)} (S : CallFix p m c cc nL s args Ts own) (hM : vx_Met l y ws rm Pc Qc XC mc ms free) (cw : vx_CSW R s args own index y bytes maxL ret hh ws rm mc ms n) (hp : PreS s H Pc As)
    (hg : g.method = m) (hn : As.length = n) (hsize : g.locals.size = nL) (hstack : g.stack = As.reverse ++ rest) (hW : 2 * g.monitorRoom + (rest.map fun v => v.category).sum ≤ 8) (hdg : decode cc g.pc = .ok (.invokestatic index, 3)) (hf : cells + mc ≤ R.cells ∧ slots + ms ≤ R.slots) :
    vx_Run p l e R s m args below meth c H locs cells slots mc ms g rest (Qc As.toArray) XC free := by
  obtain ⟨⟨hrc, hrs, hfr, hlo, hws, hcw⟩, hcode, hini, hy, hlen, hl, hstt⟩ := cw
  have hK : vx_Back l R p e below s args y 3 8 (PreOf R mc ms Pc) (PostOf Qc mc ms free) (vx_Post XC mc ms free) := vx_backW (hh := hh) (bytes := bytes) (maxL := maxL) (ret := ret) hM hp.1 hrc hrs hfr hlo hws hcw (fun a' U hW => word_at hW (Or.inl (by first | rfl | simp [Cond.onTables, Cond.keeps, Cond.steady])) hini)
  obtain ⟨hx, hb, hml, ho, -⟩ := S
  intro T hT X
  rcases vx_callSX X hx (hh := hh) (bytes := bytes) (maxL := maxL) (ret := ret) ho hl hstt hini hcode hy hK hg (hsize.trans hml.symm) (argsL := As) (rest := rest) (fun sig h => hn.trans (hlen sig h)) hstack hW (by rw [hb]; exact hdg)
    (fun vm₁ hW₁ => ⟨hf.1, hf.2, hp.2 (T.setVm vm₁) hT hW₁⟩) with ⟨v, vm₁, ⟨U', l2, c2, s2⟩, hW₁, X', ⟨g', mk, t, L, e1, e2, hq, h1, hL, h2, h3⟩, st⟩ | ⟨q, vm₁, ⟨U', l2, c2, s2⟩, hW₁, X', ⟨g', mk, t, L, E, ce, e1, e2, hq, hce, hcv, hcl, h1, hL, h2, h3⟩, st⟩
  · dsimp only [Pt.U, Pt.locs, Pt.cells, Pt.slots] at X' e1 e2 h1 h2 h3 st
    subst h1; subst h2; subst h3
    exact Or.inl ⟨v, (T.setVm vm₁).calling g' mk As.toArray, t, U', L, hT, X', hL, e1, e2, hq, st⟩
  · dsimp only [Pt.U, Pt.locs, Pt.cells, Pt.slots] at X' e1 e2 h1 h2 h3 st hcl
    subst h1; subst h2; subst h3
    exact Or.inr ⟨q, (T.setVm vm₁).calling g' mk As.toArray, t, U', L, E, ce, hT, X', hL, e1, e2, hq, hce, hcv, vx_cls hW₁ hcl, st⟩
end
end VXH
theorem vx_ofWH {l : Launch} {y : MethodName} {ws ws' : List Cond} {rm : Room} {Pc : Array Value → State → Prop} {Qc : Array Value → State → Outcome → State → Prop} {XC : String → State → State → Prop} {mc ms : Nat} {free : Addr → Prop} {cc : ByteArray} {maxL : Nat} {ret : Option FieldType} {hh : List (Nat × Nat × Nat × Nat)}
    (hy : plainName y.cls = true) (hw : ws = Cond.codeWith y cc maxL ret hh :: ws')
    (body : ∀ p e s m args below meth c s₁, BodyLoose p l y (headSpec ws rm) cc maxL ret e s m args below meth c s₁ → c.maxLocals = maxL → Pc args s →
      W p l e (headSpec ws rm).room s m args below meth c s.heap [] 0 0 (vx_MQ below Qc XC args s mc ms free) (entryFrame m args maxL)) : vx_Met l y ws rm Pc Qc XC mc ms free := by
  refine MetFree.of_bodyS (code := cc) (maxLocals := maxL) (ret := ret) hy ?_ ?_
  · intro args s m h hn
    obtain ⟨m9, meth, c, hn9, h1, h2, h3, h4, -, h5, h6, -⟩ := Cond.codeWith_spec (atoms_spec (ws := ws) h _ (by rw [hw]; exact List.mem_cons_self))
    cases hn.symm.trans hn9
    exact ⟨meth, c, h1, h2, h3, h4, h5, h6⟩
  · intro p e s m args below meth c s₁ B hml hP _
    have hh0 : s₁.heap = s.heap := by rw [B.state]; rfl
    obtain ⟨t, a1, o, b1, b2, b3⟩ := body p e s m args below meth c s₁ B hml hP s₁ hh0 (Stand.of_body B)
    exact ⟨t, o, a1, b1, b2, b3⟩
/-! ===== END ===== -/
end
section
/-! by program (wip/whole/gen_parts.py) out of the claim: classes, fields, tags, methods -/
def wd_T0 : u_T := fun k => match k with
  | 0 => ("CycleKernel", "stepLimit", "I", true)
  | 1 => ("CycleKernel", "signals", "[LCycleKernel$Signal;", true)
  | 2 => ("CycleKernel", "tasks", "[LCycleKernel$Task;", true)
  | 3 => ("CycleKernel", "store", "LCycleKernel$Store;", true)
  | 4 => ("CycleKernel", "waves", "LCycleKernel$Waves;", true)
  | 5 => ("CycleKernel", "awaited", "LCycleKernel$SignalSet;", true)
  | 6 => ("CycleKernel", "events", "LCycleKernel$SignalSet;", true)
  | 7 => ("CycleKernel", "signalCount", "I", false)
  | 8 => ("CycleKernel", "taskCount", "I", false)
  | 9 => ("CycleKernel", "elementCount", "I", false)
  | 10 => ("CycleKernel", "drivenCount", "I", false)
  | 11 => ("CycleKernel", "started", "Z", false)
  | 12 => ("CycleKernel", "nowTime", "J", false)
  | _ => ("CycleKernel", "nowStep", "I", false)
def wd_T1 : u_T := fun k => match k with
  | 0 => ("CycleKernel$Driver", "process", "I", true)
  | 1 => ("CycleKernel$Driver", "rows", "[LCycleKernel$Row;", true)
  | _ => ("CycleKernel$Driver", "other", "LCycleKernel$Driver;", true)
def wd_T2 : u_T := fun k => match k with
  | 0 => ("CycleKernel$Row", "store", "LCycleKernel$Store;", true)
  | 1 => ("CycleKernel$Row", "head", "LCycleKernel$Transaction;", false)
  | _ => ("CycleKernel$Row", "value", "I", false)
def wd_T3 : u_T := fun k => match k with
  | 0 => ("CycleKernel$Signal", "is", "I", true)
  | 1 => ("CycleKernel$Signal", "size", "I", true)
  | 2 => ("CycleKernel$Signal", "values", "[I", true)
  | 3 => ("CycleKernel$Signal", "lastValues", "[I", true)
  | 4 => ("CycleKernel$Signal", "drivers", "LCycleKernel$Driver;", false)
  | _ => ("CycleKernel$Signal", "active", "Z", false)
def wd_T4 : u_T := fun k => match k with
  | _ => ("CycleKernel$SignalSet", "words", "[J", true)
def wd_T5 : u_T := fun k => match k with
  | 0 => ("CycleKernel$Store", "inUse", "I", false)
  | _ => ("CycleKernel$Store", "idle", "LCycleKernel$Transaction;", false)
def wd_T6 : u_T := fun k => match k with
  | 0 => ("CycleKernel$Task", "awaited", "LCycleKernel$SignalSet;", true)
  | 1 => ("CycleKernel$Task", "state", "I", false)
  | 2 => ("CycleKernel$Task", "question", "Z", false)
  | _ => ("CycleKernel$Task", "until", "J", false)
def wd_T7 : u_T := fun k => match k with
  | 0 => ("CycleKernel$Transaction", "time", "J", false)
  | 1 => ("CycleKernel$Transaction", "value", "I", false)
  | _ => ("CycleKernel$Transaction", "later", "LCycleKernel$Transaction;", false)
def wd_T8 : u_T := fun k => match k with
  | 0 => ("CycleKernel$Waves", "delays", "[J", true)
  | 1 => ("CycleKernel$Waves", "elements", "[I", true)
  | _ => ("CycleKernel$Waves", "count", "I", false)
def wd_T9 : u_T := fun k => match k with
  | 0 => ("CycleKernelModel", "code", "I", false)
  | 1 => ("CycleKernelModel", "limit", "I", true)
  | 2 => ("CycleKernelModel", "started", "Z", false)
  | 3 => ("CycleKernelModel", "signals", "I", false)
  | 4 => ("CycleKernelModel", "is", "[I", true)
  | 5 => ("CycleKernelModel", "width", "[I", true)
  | 6 => ("CycleKernelModel", "first", "[I", true)
  | 7 => ("CycleKernelModel", "active", "[Z", true)
  | 8 => ("CycleKernelModel", "event", "[Z", true)
  | 9 => ("CycleKernelModel", "elements", "I", false)
  | 10 => ("CycleKernelModel", "value", "[I", true)
  | 11 => ("CycleKernelModel", "last", "[I", true)
  | 12 => ("CycleKernelModel", "drivers", "I", false)
  | 13 => ("CycleKernelModel", "driverProcess", "[I", true)
  | 14 => ("CycleKernelModel", "driverElement", "[I", true)
  | 15 => ("CycleKernelModel", "driverValue", "[I", true)
  | 16 => ("CycleKernelModel", "size", "I", false)
  | 17 => ("CycleKernelModel", "owner", "[I", true)
  | 18 => ("CycleKernelModel", "time", "[J", true)
  | 19 => ("CycleKernelModel", "what", "[I", true)
  | 20 => ("CycleKernelModel", "rowTime", "[J", true)
  | 21 => ("CycleKernelModel", "rowValue", "[I", true)
  | 22 => ("CycleKernelModel", "marked", "[Z", true)
  | 23 => ("CycleKernelModel", "processes", "I", false)
  | 24 => ("CycleKernelModel", "state", "[I", true)
  | 25 => ("CycleKernelModel", "question", "[Z", true)
  | 26 => ("CycleKernelModel", "until", "[J", true)
  | 27 => ("CycleKernelModel", "waitsFor", "[Z", true)
  | 28 => ("CycleKernelModel", "laid", "[Z", true)
  | 29 => ("CycleKernelModel", "waves", "[I", true)
  | 30 => ("CycleKernelModel", "delays", "[J", true)
  | 31 => ("CycleKernelModel", "waveCount", "I", false)
  | 32 => ("CycleKernelModel", "now", "J", false)
  | _ => ("CycleKernelModel", "step", "I", false)
def wm_cls : List vw_C := [("CycleKernel", wd_T0, 14), ("CycleKernel$Driver", wd_T1, 3), ("CycleKernel$Row", wd_T2, 3), ("CycleKernel$Signal", wd_T3, 6), ("CycleKernel$SignalSet", wd_T4, 1), ("CycleKernel$Store", wd_T5, 2), ("CycleKernel$Task", wd_T6, 4), ("CycleKernel$Transaction", wd_T7, 3), ("CycleKernel$Waves", wd_T8, 3), ("CycleKernelModel", wd_T9, 34)]
def wd_t0 : Nat → FieldType := fun k => match k with
  | 0 => .int
  | 1 => (.array (.object "CycleKernel$Signal"))
  | 2 => (.array (.object "CycleKernel$Task"))
  | 3 => (.object "CycleKernel$Store")
  | 4 => (.object "CycleKernel$Waves")
  | 5 => (.object "CycleKernel$SignalSet")
  | 6 => (.object "CycleKernel$SignalSet")
  | 7 => .int
  | 8 => .int
  | 9 => .int
  | 10 => .int
  | 11 => .boolean
  | 12 => .long
  | _ => .int
def wd_t1 : Nat → FieldType := fun k => match k with
  | 0 => .int
  | 1 => (.array (.object "CycleKernel$Row"))
  | _ => (.object "CycleKernel$Driver")
def wd_t2 : Nat → FieldType := fun k => match k with
  | 0 => (.object "CycleKernel$Store")
  | 1 => (.object "CycleKernel$Transaction")
  | _ => .int
def wd_t3 : Nat → FieldType := fun k => match k with
  | 0 => .int
  | 1 => .int
  | 2 => (.array .int)
  | 3 => (.array .int)
  | 4 => (.object "CycleKernel$Driver")
  | _ => .boolean
def wd_t4 : Nat → FieldType := fun k => match k with
  | _ => (.array .long)
def wd_t5 : Nat → FieldType := fun k => match k with
  | 0 => .int
  | _ => (.object "CycleKernel$Transaction")
def wd_t6 : Nat → FieldType := fun k => match k with
  | 0 => (.object "CycleKernel$SignalSet")
  | 1 => .int
  | 2 => .boolean
  | _ => .long
def wd_t7 : Nat → FieldType := fun k => match k with
  | 0 => .long
  | 1 => .int
  | _ => (.object "CycleKernel$Transaction")
def wd_t8 : Nat → FieldType := fun k => match k with
  | 0 => (.array .long)
  | 1 => (.array .int)
  | _ => .int
def wd_t9 : Nat → FieldType := fun k => match k with
  | 0 => .int
  | 1 => .int
  | 2 => .boolean
  | 3 => .int
  | 4 => (.array .int)
  | 5 => (.array .int)
  | 6 => (.array .int)
  | 7 => (.array .boolean)
  | 8 => (.array .boolean)
  | 9 => .int
  | 10 => (.array .int)
  | 11 => (.array .int)
  | 12 => .int
  | 13 => (.array .int)
  | 14 => (.array .int)
  | 15 => (.array .int)
  | 16 => .int
  | 17 => (.array .int)
  | 18 => (.array .long)
  | 19 => (.array .int)
  | 20 => (.array .long)
  | 21 => (.array .int)
  | 22 => (.array .boolean)
  | 23 => .int
  | 24 => (.array .int)
  | 25 => (.array .boolean)
  | 26 => (.array .long)
  | 27 => (.array .boolean)
  | 28 => (.array .boolean)
  | 29 => (.array .int)
  | 30 => (.array .long)
  | 31 => .int
  | 32 => .long
  | _ => .int
def wm_ty (ci : Nat) : Nat → FieldType := match ci with
  | 0 => wd_t0
  | 1 => wd_t1
  | 2 => wd_t2
  | 3 => wd_t3
  | 4 => wd_t4
  | 5 => wd_t5
  | 6 => wd_t6
  | 7 => wd_t7
  | 8 => wd_t8
  | _ => wd_t9
def wm_tags (t : Nat) : Option (Nat ⊕ FieldType) := match t with
  | 1 => some (.inr .int)
  | 2 => some (.inl 0)
  | 3 => some (.inl 1)
  | 4 => some (.inl 2)
  | 5 => some (.inl 3)
  | 6 => some (.inl 4)
  | 7 => some (.inl 5)
  | 8 => some (.inl 6)
  | 9 => some (.inl 7)
  | 10 => some (.inl 8)
  | 11 => some (.inl 9)
  | 20 => some (.inr (.object "CycleKernel$Signal"))
  | 21 => some (.inr (.object "CycleKernel$Task"))
  | 22 => some (.inr (.object "CycleKernel$Row"))
  | 23 => some (.inr .long)
  | 24 => some (.inr .int)
  | 25 => some (.inr .long)
  | 26 => some (.inr .int)
  | 27 => some (.inr .int)
  | 28 => some (.inr .long)
  | 30 => some (.inr .int)
  | 31 => some (.inr .int)
  | 32 => some (.inr .int)
  | 33 => some (.inr .boolean)
  | 34 => some (.inr .boolean)
  | 35 => some (.inr .int)
  | 36 => some (.inr .int)
  | 37 => some (.inr .int)
  | 38 => some (.inr .int)
  | 39 => some (.inr .int)
  | 40 => some (.inr .int)
  | 41 => some (.inr .long)
  | 42 => some (.inr .int)
  | 43 => some (.inr .long)
  | 44 => some (.inr .int)
  | 45 => some (.inr .boolean)
  | 46 => some (.inr .int)
  | 47 => some (.inr .boolean)
  | 48 => some (.inr .long)
  | 49 => some (.inr .boolean)
  | 50 => some (.inr .boolean)
  | 51 => some (.inr .int)
  | 52 => some (.inr .long)
  | _ => none
theorem wm_tags_0 : wm_tags 0 = none := rfl
def wm_ats : List FieldType := [.int, (.object "CycleKernel$Signal"), (.object "CycleKernel$Task"), (.object "CycleKernel$Row"), .long, .boolean]
def wm_WG : List Cond := lw_tbl.filter goodWord
def wm_NW : List Cond := [(Jvm.Cond.methodLinkNest "CycleKernel" (23 : Nat) ({ cls := "CycleKernel$Store", name := "<init>", desc := "()V" } : Jvm.MethodName) "CycleKernel"), (Jvm.Cond.methodLinkNest "CycleKernel" (30 : Nat) ({ cls := "CycleKernel$Waves", name := "<init>", desc := "()V" } : Jvm.MethodName) "CycleKernel"), (Jvm.Cond.methodLinkNest "CycleKernel" (37 : Nat) ({ cls := "CycleKernel$SignalSet", name := "<init>", desc := "()V" } : Jvm.MethodName) "CycleKernel"), (Jvm.Cond.methodLinkNest "CycleKernel$Signal" (56 : Nat) ({ cls := "CycleKernel", name := "sooner", desc := "(JJ)J" } : Jvm.MethodName) "CycleKernel"), (Jvm.Cond.castable "java/lang/IllegalArgumentException" "java/lang/IllegalArgumentException"), (Jvm.Cond.declares ({ cls := "java/lang/RuntimeException", name := "<init>", desc := "()V" } : Jvm.MethodName)), (Jvm.Cond.declares ({ cls := "java/lang/RuntimeException", name := "<init>", desc := "(Ljava/lang/String;)V" } : Jvm.MethodName)), (Jvm.Cond.declares ({ cls := "java/lang/Exception", name := "<init>", desc := "()V" } : Jvm.MethodName)), (Jvm.Cond.declares ({ cls := "java/lang/Exception", name := "<init>", desc := "(Ljava/lang/String;)V" } : Jvm.MethodName)), (Jvm.Cond.declares ({ cls := "java/lang/Throwable", name := "<init>", desc := "()V" } : Jvm.MethodName)), (Jvm.Cond.declares ({ cls := "java/lang/Throwable", name := "<init>", desc := "(Ljava/lang/String;)V" } : Jvm.MethodName)), (Jvm.Cond.castable "java/lang/IllegalStateException" "java/lang/IllegalStateException"), (Jvm.Cond.methodLinkNest "CycleKernel" (82 : Nat) ({ cls := "CycleKernel$Task", name := "<init>", desc := "()V" } : Jvm.MethodName) "CycleKernel"), (Jvm.Cond.methodLinkNest "CycleKernel$Task" (11 : Nat) ({ cls := "CycleKernel$SignalSet", name := "<init>", desc := "()V" } : Jvm.MethodName) "CycleKernel"), (Jvm.Cond.castable "java/lang/IndexOutOfBoundsException" "java/lang/IndexOutOfBoundsException"), (Jvm.Cond.methodLinkNest "CycleKernel$Store" (15 : Nat) ({ cls := "CycleKernel$Transaction", name := "<init>", desc := "()V" } : Jvm.MethodName) "CycleKernel")]
def wm_ib (i : Nat) (w : Cond) : Bool := match lw_tbl[i]? with
  | some v => decide (v = w) && goodWord w
  | none => false
theorem wm_ib_in {i : Nat} {w : Cond} (h : wm_ib i w = true) : w ∈ wm_WG := by
  unfold wm_ib at h
  split at h
  · next v e =>
    simp only [Bool.and_eq_true, decide_eq_true_eq] at h
    obtain ⟨rfl, h2⟩ := h
    exact List.mem_filter.mpr ⟨List.mem_of_getElem? e, h2⟩
  · cases h
theorem wm_WG_good : ∀ w ∈ wm_WG, goodWord w = true := fun _ h => (List.mem_filter.mp h).2
theorem wm_NW_ok : ∀ w ∈ wm_NW, (∃ a i x g, w = Cond.methodLinkNest a i x g) ∨ (∃ x, w = Cond.declares x) ∨ ∃ a b, w = Cond.castable a b := by
  intro w hw
  simp only [wm_NW, List.mem_cons, List.not_mem_nil, or_false] at hw
  rcases hw with rfl | rfl | rfl | rfl | rfl | rfl | rfl | rfl | rfl | rfl | rfl | rfl | rfl | rfl | rfl | rfl <;> first | exact Or.inl ⟨_, _, _, _, rfl⟩ | exact Or.inr (Or.inl ⟨_, rfl⟩) | exact Or.inr (Or.inr ⟨_, _, rfl⟩)
def wm_xn (a : Nat) : String := match a with
  | 1 => "java/lang/IllegalArgumentException"
  | 2 => "java/lang/IllegalStateException"
  | _ => "java/lang/IndexOutOfBoundsException"
def wm_xi (a : Nat) : Nat := match a with
  | 1 => 54
  | 2 => 73
  | _ => 156
def wm_xc : List String := ["java/lang/RuntimeException", "java/lang/Exception"]
def wm_xa (a : Nat) : List Cond := vx_atS "CycleKernel" (wm_xi a) (wm_xn a) wm_xc
def wm_xk (w : Cond) : Bool := vx_ot w && (if goodWord w then decide (w ∈ lw_tbl) else decide (w ∈ wm_NW))
theorem wm_xk1 : (wm_xa 1).all wm_xk = true := by decide +kernel
theorem wm_xk2 : (wm_xa 2).all wm_xk = true := by decide +kernel
theorem wm_xk3 : (wm_xa 3).all wm_xk = true := by decide +kernel
theorem wm_xk_ok {a : Nat} (h : a = 1 ∨ a = 2 ∨ a = 3) : ∀ w ∈ wm_xa a, vx_ot w = true ∧ (w ∈ wm_WG ∨ w ∈ wm_NW) := by
  intro w hw
  have h9 : wm_xk w = true := by
    rcases h with rfl | rfl | rfl
    · exact List.all_eq_true.mp wm_xk1 w hw
    · exact List.all_eq_true.mp wm_xk2 w hw
    · exact List.all_eq_true.mp wm_xk3 w hw
  simp only [wm_xk, Bool.and_eq_true] at h9
  refine ⟨h9.1, ?_⟩
  have h2 := h9.2
  split at h2
  · next e => exact Or.inl (List.mem_filter.mpr ⟨of_decide_eq_true h2, e⟩)
  · exact Or.inr (of_decide_eq_true h2)
def wm_sr : List (String × Nat × String) := [("CycleKernel", 52, "no such class of signals"), ("CycleKernel", 57, "no such number of elements"), ("CycleKernel", 71, "no more signals"), ("CycleKernel", 80, "no more processes"), ("CycleKernel", 268, "no such process"), ("CycleKernel", 270, "no such signal"), ("CycleKernel", 91, "behind the start"), ("CycleKernel", 104, "a number has one driver at most"), ("CycleKernel", 112, "too many elements of drivers"), ("CycleKernel", 154, "no such element"), ("CycleKernel", 127, "no value of logic"), ("CycleKernel", 141, "no such delay"), ("CycleKernel", 146, "too many values are laid down"), ("CycleKernel", 157, "no value is laid down"), ("CycleKernel", 165, "nothing can be assigned"), ("CycleKernel", 179, "this can't be assigned"), ("CycleKernel", 184, "too many transactions"), ("CycleKernel", 207, "the process does not run"), ("CycleKernel", 223, "the process neither runs nor is asked"), ("CycleKernel", 225, "the process is not asked"), ("CycleKernel", 230, "no cycle can be made"), ("CycleKernel", 245, "no such state"), ("CycleKernel", 262, "the time is before now")]
theorem wd_in0 : (List.range 14).all (fun k => wm_ib (([116, 118, 120, 122, 124, 126, 128, 130, 132, 134, 136, 138, 140, 142] : List Nat).getD k 0) (u_lay "CycleKernel" wd_T0 k)) = true := by decide +kernel
theorem wd_ty0 : (List.range 14).all (fun k => decide (parseFieldDescriptor (wd_T0 k).2.2.1 = some (wd_t0 k))) = true := by decide +kernel
theorem wd_nm0 : (List.range 14).all (fun a => (List.range 14).all (fun b => decide (a = b) || decide ((wd_T0 a).2.1 ≠ (wd_T0 b).2.1))) = true := by decide +kernel
theorem wd_in1 : (List.range 3).all (fun k => wm_ib (([426, 428, 430] : List Nat).getD k 0) (u_lay "CycleKernel$Driver" wd_T1 k)) = true := by decide +kernel
theorem wd_ty1 : (List.range 3).all (fun k => decide (parseFieldDescriptor (wd_T1 k).2.2.1 = some (wd_t1 k))) = true := by decide +kernel
theorem wd_nm1 : (List.range 3).all (fun a => (List.range 3).all (fun b => decide (a = b) || decide ((wd_T1 a).2.1 ≠ (wd_T1 b).2.1))) = true := by decide +kernel
theorem wd_in2 : (List.range 3).all (fun k => wm_ib (([412, 414, 416] : List Nat).getD k 0) (u_lay "CycleKernel$Row" wd_T2 k)) = true := by decide +kernel
theorem wd_ty2 : (List.range 3).all (fun k => decide (parseFieldDescriptor (wd_T2 k).2.2.1 = some (wd_t2 k))) = true := by decide +kernel
theorem wd_nm2 : (List.range 3).all (fun a => (List.range 3).all (fun b => decide (a = b) || decide ((wd_T2 a).2.1 ≠ (wd_T2 b).2.1))) = true := by decide +kernel
theorem wd_in3 : (List.range 6).all (fun k => wm_ib (([310, 312, 314, 316, 318, 320] : List Nat).getD k 0) (u_lay "CycleKernel$Signal" wd_T3 k)) = true := by decide +kernel
theorem wd_ty3 : (List.range 6).all (fun k => decide (parseFieldDescriptor (wd_T3 k).2.2.1 = some (wd_t3 k))) = true := by decide +kernel
theorem wd_nm3 : (List.range 6).all (fun a => (List.range 6).all (fun b => decide (a = b) || decide ((wd_T3 a).2.1 ≠ (wd_T3 b).2.1))) = true := by decide +kernel
theorem wd_in4 : (List.range 1).all (fun k => wm_ib (([98] : List Nat).getD k 0) (u_lay "CycleKernel$SignalSet" wd_T4 k)) = true := by decide +kernel
theorem wd_ty4 : (List.range 1).all (fun k => decide (parseFieldDescriptor (wd_T4 k).2.2.1 = some (wd_t4 k))) = true := by decide +kernel
theorem wd_nm4 : (List.range 1).all (fun a => (List.range 1).all (fun b => decide (a = b) || decide ((wd_T4 a).2.1 ≠ (wd_T4 b).2.1))) = true := by decide +kernel
theorem wd_in5 : (List.range 2).all (fun k => wm_ib (([66, 68] : List Nat).getD k 0) (u_lay "CycleKernel$Store" wd_T5 k)) = true := by decide +kernel
theorem wd_ty5 : (List.range 2).all (fun k => decide (parseFieldDescriptor (wd_T5 k).2.2.1 = some (wd_t5 k))) = true := by decide +kernel
theorem wd_nm5 : (List.range 2).all (fun a => (List.range 2).all (fun b => decide (a = b) || decide ((wd_T5 a).2.1 ≠ (wd_T5 b).2.1))) = true := by decide +kernel
theorem wd_in6 : (List.range 4).all (fun k => wm_ib (([346, 348, 350, 352] : List Nat).getD k 0) (u_lay "CycleKernel$Task" wd_T6 k)) = true := by decide +kernel
theorem wd_ty6 : (List.range 4).all (fun k => decide (parseFieldDescriptor (wd_T6 k).2.2.1 = some (wd_t6 k))) = true := by decide +kernel
theorem wd_nm6 : (List.range 4).all (fun a => (List.range 4).all (fun b => decide (a = b) || decide ((wd_T6 a).2.1 ≠ (wd_T6 b).2.1))) = true := by decide +kernel
theorem wd_in7 : (List.range 3).all (fun k => wm_ib (([579, 581, 583] : List Nat).getD k 0) (u_lay "CycleKernel$Transaction" wd_T7 k)) = true := by decide +kernel
theorem wd_ty7 : (List.range 3).all (fun k => decide (parseFieldDescriptor (wd_T7 k).2.2.1 = some (wd_t7 k))) = true := by decide +kernel
theorem wd_nm7 : (List.range 3).all (fun a => (List.range 3).all (fun b => decide (a = b) || decide ((wd_T7 a).2.1 ≠ (wd_T7 b).2.1))) = true := by decide +kernel
theorem wd_in8 : (List.range 3).all (fun k => wm_ib (([82, 84, 86] : List Nat).getD k 0) (u_lay "CycleKernel$Waves" wd_T8 k)) = true := by decide +kernel
theorem wd_ty8 : (List.range 3).all (fun k => decide (parseFieldDescriptor (wd_T8 k).2.2.1 = some (wd_t8 k))) = true := by decide +kernel
theorem wd_nm8 : (List.range 3).all (fun a => (List.range 3).all (fun b => decide (a = b) || decide ((wd_T8 a).2.1 ≠ (wd_T8 b).2.1))) = true := by decide +kernel
theorem wd_in9 : (List.range 34).all (fun k => wm_ib (([763, 765, 767, 769, 771, 773, 775, 777, 779, 781, 783, 785, 787, 789, 791, 793, 795, 797, 799, 801, 803, 805, 807, 809, 811, 813, 815, 817, 819, 821, 823, 825, 827, 829] : List Nat).getD k 0) (u_lay "CycleKernelModel" wd_T9 k)) = true := by decide +kernel
theorem wd_ty9 : (List.range 34).all (fun k => decide (parseFieldDescriptor (wd_T9 k).2.2.1 = some (wd_t9 k))) = true := by decide +kernel
theorem wd_nm9 : (List.range 34).all (fun a => (List.range 34).all (fun b => decide (a = b) || decide ((wd_T9 a).2.1 ≠ (wd_T9 b).2.1))) = true := by decide +kernel
theorem wd_all {n : Nat} {f : Nat → Bool} (h : (List.range n).all f = true) {k : Nat} (hk : k < n) : f k = true := List.all_eq_true.mp h k (List.mem_range.mpr hk)
theorem wd_cases {P : Nat → vw_C → Prop} (h0 : P 0 ("CycleKernel", wd_T0, 14)) (h1 : P 1 ("CycleKernel$Driver", wd_T1, 3)) (h2 : P 2 ("CycleKernel$Row", wd_T2, 3)) (h3 : P 3 ("CycleKernel$Signal", wd_T3, 6)) (h4 : P 4 ("CycleKernel$SignalSet", wd_T4, 1)) (h5 : P 5 ("CycleKernel$Store", wd_T5, 2)) (h6 : P 6 ("CycleKernel$Task", wd_T6, 4)) (h7 : P 7 ("CycleKernel$Transaction", wd_T7, 3)) (h8 : P 8 ("CycleKernel$Waves", wd_T8, 3)) (h9 : P 9 ("CycleKernelModel", wd_T9, 34)) : ∀ ci r, wm_cls[ci]? = some r → P ci r := by
  intro ci r h
  match ci, h with
  | 0, h => cases h; exact h0
  | 1, h => cases h; exact h1
  | 2, h => cases h; exact h2
  | 3, h => cases h; exact h3
  | 4, h => cases h; exact h4
  | 5, h => cases h; exact h5
  | 6, h => cases h; exact h6
  | 7, h => cases h; exact h7
  | 8, h => cases h; exact h8
  | 9, h => cases h; exact h9
  | ci + 10, h => simp [wm_cls] at h
theorem wm_cls_in : ∀ (ci : Nat) (r : vw_C), wm_cls[ci]? = some r → ∀ w ∈ u_ws r.1 r.2.1 r.2.2, w ∈ wm_WG := by
  refine wd_cases ?_ ?_ ?_ ?_ ?_ ?_ ?_ ?_ ?_ ?_ <;> intro w hw <;> obtain ⟨k, hk, rfl⟩ := List.mem_map.mp hw
  · exact wm_ib_in (wd_all wd_in0 (List.mem_range.mp hk))
  · exact wm_ib_in (wd_all wd_in1 (List.mem_range.mp hk))
  · exact wm_ib_in (wd_all wd_in2 (List.mem_range.mp hk))
  · exact wm_ib_in (wd_all wd_in3 (List.mem_range.mp hk))
  · exact wm_ib_in (wd_all wd_in4 (List.mem_range.mp hk))
  · exact wm_ib_in (wd_all wd_in5 (List.mem_range.mp hk))
  · exact wm_ib_in (wd_all wd_in6 (List.mem_range.mp hk))
  · exact wm_ib_in (wd_all wd_in7 (List.mem_range.mp hk))
  · exact wm_ib_in (wd_all wd_in8 (List.mem_range.mp hk))
  · exact wm_ib_in (wd_all wd_in9 (List.mem_range.mp hk))
theorem wm_cls_ty : ∀ (ci : Nat) (r : vw_C), wm_cls[ci]? = some r → ∀ k, k < r.2.2 → parseFieldDescriptor (r.2.1 k).2.2.1 = some (wm_ty ci k) := by
  refine wd_cases ?_ ?_ ?_ ?_ ?_ ?_ ?_ ?_ ?_ ?_ <;> intro k hk
  · exact of_decide_eq_true (wd_all wd_ty0 hk)
  · exact of_decide_eq_true (wd_all wd_ty1 hk)
  · exact of_decide_eq_true (wd_all wd_ty2 hk)
  · exact of_decide_eq_true (wd_all wd_ty3 hk)
  · exact of_decide_eq_true (wd_all wd_ty4 hk)
  · exact of_decide_eq_true (wd_all wd_ty5 hk)
  · exact of_decide_eq_true (wd_all wd_ty6 hk)
  · exact of_decide_eq_true (wd_all wd_ty7 hk)
  · exact of_decide_eq_true (wd_all wd_ty8 hk)
  · exact of_decide_eq_true (wd_all wd_ty9 hk)
theorem wm_cls_nm : ∀ (ci : Nat) (r : vw_C), wm_cls[ci]? = some r → ∀ a, a < r.2.2 → ∀ b, b < r.2.2 → a ≠ b → (r.2.1 a).2.1 ≠ (r.2.1 b).2.1 := by
  refine wd_cases ?_ ?_ ?_ ?_ ?_ ?_ ?_ ?_ ?_ ?_ <;> intro a ha b hb hab
  · have h := wd_all (wd_all wd_nm0 ha) hb
    simp only [Bool.or_eq_true, decide_eq_true_eq] at h
    exact h.resolve_left hab
  · have h := wd_all (wd_all wd_nm1 ha) hb
    simp only [Bool.or_eq_true, decide_eq_true_eq] at h
    exact h.resolve_left hab
  · have h := wd_all (wd_all wd_nm2 ha) hb
    simp only [Bool.or_eq_true, decide_eq_true_eq] at h
    exact h.resolve_left hab
  · have h := wd_all (wd_all wd_nm3 ha) hb
    simp only [Bool.or_eq_true, decide_eq_true_eq] at h
    exact h.resolve_left hab
  · have h := wd_all (wd_all wd_nm4 ha) hb
    simp only [Bool.or_eq_true, decide_eq_true_eq] at h
    exact h.resolve_left hab
  · have h := wd_all (wd_all wd_nm5 ha) hb
    simp only [Bool.or_eq_true, decide_eq_true_eq] at h
    exact h.resolve_left hab
  · have h := wd_all (wd_all wd_nm6 ha) hb
    simp only [Bool.or_eq_true, decide_eq_true_eq] at h
    exact h.resolve_left hab
  · have h := wd_all (wd_all wd_nm7 ha) hb
    simp only [Bool.or_eq_true, decide_eq_true_eq] at h
    exact h.resolve_left hab
  · have h := wd_all (wd_all wd_nm8 ha) hb
    simp only [Bool.or_eq_true, decide_eq_true_eq] at h
    exact h.resolve_left hab
  · have h := wd_all (wd_all wd_nm9 ha) hb
    simp only [Bool.or_eq_true, decide_eq_true_eq] at h
    exact h.resolve_left hab
def wm_my (i : Nat) : MethodName := match i with
  | 0 => ⟨"CycleKernel", "<init>", "(I)V"⟩
  | 1 => ⟨"CycleKernel", "signal", "(II)I"⟩
  | 2 => ⟨"CycleKernel", "process", "()I"⟩
  | 3 => ⟨"CycleKernel", "drive", "(II)V"⟩
  | 4 => ⟨"CycleKernel", "first", "(III)V"⟩
  | 5 => ⟨"CycleKernel", "start", "()V"⟩
  | 6 => ⟨"CycleKernel", "wave", "(J)V"⟩
  | 7 => ⟨"CycleKernel", "put", "(II)V"⟩
  | 8 => ⟨"CycleKernel", "drop", "()V"⟩
  | 9 => ⟨"CycleKernel", "assign", "(IIIIIJ)I"⟩
  | 10 => ⟨"CycleKernel", "on", "(I)V"⟩
  | 11 => ⟨"CycleKernel", "suspend", "(IZJ)V"⟩
  | 12 => ⟨"CycleKernel", "end", "(I)V"⟩
  | 13 => ⟨"CycleKernel", "answer", "(IZ)V"⟩
  | 14 => ⟨"CycleKernel", "cycle", "()I"⟩
  | 15 => ⟨"CycleKernel", "state", "(I)I"⟩
  | 16 => ⟨"CycleKernel", "which", "(II)I"⟩
  | 17 => ⟨"CycleKernel", "value", "(IIZ)I"⟩
  | 18 => ⟨"CycleKernel", "marks", "(I)I"⟩
  | 19 => ⟨"CycleKernel", "event", "(I)I"⟩
  | 20 => ⟨"CycleKernel", "now", "()J"⟩
  | 21 => ⟨"CycleKernel", "step", "()I"⟩
  | 22 => ⟨"CycleKernel", "next", "()J"⟩
  | 23 => ⟨"CycleKernel", "pending", "(III)I"⟩
  | 24 => ⟨"CycleKernel", "projected", "(IIIJ)I"⟩
  | 25 => ⟨"CycleKernel", "taskOf", "(I)LCycleKernel$Task;"⟩
  | 26 => ⟨"CycleKernel", "signalOf", "(I)LCycleKernel$Signal;"⟩
  | 27 => ⟨"CycleKernel", "checkElements", "(LCycleKernel$Signal;II)V"⟩
  | 28 => ⟨"CycleKernel", "fitsMode", "(IJ)Z"⟩
  | 29 => ⟨"CycleKernel", "fitsTime", "()Z"⟩
  | 30 => ⟨"CycleKernel", "assignElement", "(LCycleKernel$Row;IZJ)I"⟩
  | 31 => ⟨"CycleKernel", "isAnyBusy", "()Z"⟩
  | 32 => ⟨"CycleKernel", "nextTime", "()J"⟩
  | 33 => ⟨"CycleKernel", "sooner", "(JJ)J"⟩
  | 34 => ⟨"CycleKernel", "updateSignals", "()V"⟩
  | 35 => ⟨"CycleKernel", "wakeTasks", "()V"⟩
  | 36 => ⟨"CycleKernel$Driver", "<init>", "(IILCycleKernel$Store;LCycleKernel$Driver;)V"⟩
  | 37 => ⟨"CycleKernel$Row", "<init>", "(LCycleKernel$Store;)V"⟩
  | 38 => ⟨"CycleKernel$Row", "length", "()I"⟩
  | 39 => ⟨"CycleKernel$Row", "soonest", "()J"⟩
  | 40 => ⟨"CycleKernel$Row", "valueAt", "(J)I"⟩
  | 41 => ⟨"CycleKernel$Row", "takeDue", "(J)Z"⟩
  | 42 => ⟨"CycleKernel$Row", "lastBefore", "(J)LCycleKernel$Transaction;"⟩
  | 43 => ⟨"CycleKernel$Row", "deleteFrom", "(J)I"⟩
  | 44 => ⟨"CycleKernel$Row", "deleteOthers", "(JI)I"⟩
  | 45 => ⟨"CycleKernel$Row", "addBehind", "(LCycleKernel$Transaction;JI)LCycleKernel$Transaction;"⟩
  | 46 => ⟨"CycleKernel$Row", "deleteBetween", "(LCycleKernel$Transaction;LCycleKernel$Transaction;)I"⟩
  | 47 => ⟨"CycleKernel$Row", "join", "(LCycleKernel$Transaction;LCycleKernel$Transaction;)V"⟩
  | 48 => ⟨"CycleKernel$Signal", "<init>", "(II)V"⟩
  | 49 => ⟨"CycleKernel$Signal", "canHave", "(I)Z"⟩
  | 50 => ⟨"CycleKernel$Signal", "driverOf", "(I)LCycleKernel$Driver;"⟩
  | 51 => ⟨"CycleKernel$Signal", "begin", "()V"⟩
  | 52 => ⟨"CycleKernel$Signal", "soonest", "()J"⟩
  | 53 => ⟨"CycleKernel$Signal", "takeDue", "(J)Z"⟩
  | 54 => ⟨"CycleKernel$Signal", "update", "()Z"⟩
  | 55 => ⟨"CycleKernel$Signal", "together", "(I)I"⟩
  | 56 => ⟨"CycleKernel$Signal", "logicTogether", "(I)I"⟩
  | 57 => ⟨"CycleKernel$SignalSet", "<init>", "()V"⟩
  | 58 => ⟨"CycleKernel$SignalSet", "add", "(I)V"⟩
  | 59 => ⟨"CycleKernel$SignalSet", "has", "(I)Z"⟩
  | 60 => ⟨"CycleKernel$SignalSet", "meets", "(LCycleKernel$SignalSet;)Z"⟩
  | 61 => ⟨"CycleKernel$SignalSet", "copy", "(LCycleKernel$SignalSet;)V"⟩
  | 62 => ⟨"CycleKernel$SignalSet", "clear", "()V"⟩
  | 63 => ⟨"CycleKernel$Store", "<init>", "()V"⟩
  | 64 => ⟨"CycleKernel$Store", "take", "(JI)LCycleKernel$Transaction;"⟩
  | 65 => ⟨"CycleKernel$Store", "giveBack", "(LCycleKernel$Transaction;)V"⟩
  | 66 => ⟨"CycleKernel$Task", "<init>", "()V"⟩
  | 67 => ⟨"CycleKernel$Task", "isBusy", "()Z"⟩
  | 68 => ⟨"CycleKernel$Task", "waitsUntil", "()J"⟩
  | 69 => ⟨"CycleKernel$Task", "wake", "(JLCycleKernel$SignalSet;)V"⟩
  | 70 => ⟨"CycleKernel$Transaction", "<init>", "()V"⟩
  | 71 => ⟨"CycleKernel$Waves", "<init>", "()V"⟩
  | 72 => ⟨"CycleKernel$Waves", "add", "(J)V"⟩
  | 73 => ⟨"CycleKernel$Waves", "setLatest", "(II)V"⟩
  | 74 => ⟨"CycleKernel$Waves", "elementOf", "(II)I"⟩
  | 75 => ⟨"CycleKernel$Waves", "latestDelay", "()J"⟩
  | 76 => ⟨"CycleKernel$Waves", "rise", "()Z"⟩
  | 77 => ⟨"CycleKernel$Waves", "fit", "(LCycleKernel$Signal;I)Z"⟩
  | 78 => ⟨"CycleKernelModel", "<init>", "(I)V"⟩
  | 79 => ⟨"CycleKernelModel", "thrown", "()I"⟩
  | 80 => ⟨"CycleKernelModel", "noProcess", "(I)Z"⟩
  | 81 => ⟨"CycleKernelModel", "noSignal", "(I)Z"⟩
  | 82 => ⟨"CycleKernelModel", "noElement", "(II)Z"⟩
  | 83 => ⟨"CycleKernelModel", "signal", "(II)I"⟩
  | 84 => ⟨"CycleKernelModel", "process", "()I"⟩
  | 85 => ⟨"CycleKernelModel", "driverOf", "(II)I"⟩
  | 86 => ⟨"CycleKernelModel", "isDriven", "(I)Z"⟩
  | 87 => ⟨"CycleKernelModel", "drive", "(II)V"⟩
  | 88 => ⟨"CycleKernelModel", "cannot", "(II)Z"⟩
  | 89 => ⟨"CycleKernelModel", "first", "(III)V"⟩
  | 90 => ⟨"CycleKernelModel", "start", "()V"⟩
  | 91 => ⟨"CycleKernelModel", "both", "(II)I"⟩
  | 92 => ⟨"CycleKernelModel", "made", "(II)I"⟩
  | 93 => ⟨"CycleKernelModel", "wave", "(J)V"⟩
  | 94 => ⟨"CycleKernelModel", "put", "(II)V"⟩
  | 95 => ⟨"CycleKernelModel", "drop", "()V"⟩
  | 96 => ⟨"CycleKernelModel", "good", "(IIIJ)Z"⟩
  | 97 => ⟨"CycleKernelModel", "assign", "(IIIIIJ)I"⟩
  | 98 => ⟨"CycleKernelModel", "assignOne", "(IIIJ)I"⟩
  | 99 => ⟨"CycleKernelModel", "move", "(II)V"⟩
  | 100 => ⟨"CycleKernelModel", "on", "(I)V"⟩
  | 101 => ⟨"CycleKernelModel", "suspend", "(IZJ)V"⟩
  | 102 => ⟨"CycleKernelModel", "end", "(I)V"⟩
  | 103 => ⟨"CycleKernelModel", "answer", "(IZ)V"⟩
  | 104 => ⟨"CycleKernelModel", "next", "()J"⟩
  | 105 => ⟨"CycleKernelModel", "some", "(I)Z"⟩
  | 106 => ⟨"CycleKernelModel", "cycle", "()I"⟩
  | 107 => ⟨"CycleKernelModel", "takeDue", "()V"⟩
  | 108 => ⟨"CycleKernelModel", "renew", "(I)V"⟩
  | 109 => ⟨"CycleKernelModel", "look", "(I)V"⟩
  | 110 => ⟨"CycleKernelModel", "state", "(I)I"⟩
  | 111 => ⟨"CycleKernelModel", "which", "(II)I"⟩
  | 112 => ⟨"CycleKernelModel", "value", "(IIZ)I"⟩
  | 113 => ⟨"CycleKernelModel", "marks", "(I)I"⟩
  | 114 => ⟨"CycleKernelModel", "event", "(I)I"⟩
  | 115 => ⟨"CycleKernelModel", "now", "()J"⟩
  | 116 => ⟨"CycleKernelModel", "step", "()I"⟩
  | 117 => ⟨"CycleKernelModel", "pending", "(III)I"⟩
  | 118 => ⟨"CycleKernelModel", "projected", "(IIIJ)I"⟩
  | 119 => ⟨"CycleKernelLaw", "cell", "([II)I"⟩
  | 120 => ⟨"CycleKernelLaw", "signal", "(LCycleKernel;II[J)I"⟩
  | 121 => ⟨"CycleKernelLaw", "process", "(LCycleKernel;[J)I"⟩
  | 122 => ⟨"CycleKernelLaw", "drive", "(LCycleKernel;II)I"⟩
  | 123 => ⟨"CycleKernelLaw", "first", "(LCycleKernel;III)I"⟩
  | 124 => ⟨"CycleKernelLaw", "start", "(LCycleKernel;)I"⟩
  | 125 => ⟨"CycleKernelLaw", "wave", "(LCycleKernel;J)I"⟩
  | 126 => ⟨"CycleKernelLaw", "put", "(LCycleKernel;II)I"⟩
  | 127 => ⟨"CycleKernelLaw", "assign", "(LCycleKernel;IIIIIJ[J)I"⟩
  | 128 => ⟨"CycleKernelLaw", "on", "(LCycleKernel;I)I"⟩
  | 129 => ⟨"CycleKernelLaw", "suspend", "(LCycleKernel;IZJ)I"⟩
  | 130 => ⟨"CycleKernelLaw", "end", "(LCycleKernel;I)I"⟩
  | 131 => ⟨"CycleKernelLaw", "answer", "(LCycleKernel;IZ)I"⟩
  | 132 => ⟨"CycleKernelLaw", "cycle", "(LCycleKernel;[J)I"⟩
  | 133 => ⟨"CycleKernelLaw", "state", "(LCycleKernel;I[J)I"⟩
  | 134 => ⟨"CycleKernelLaw", "which", "(LCycleKernel;II[J)I"⟩
  | 135 => ⟨"CycleKernelLaw", "value", "(LCycleKernel;IIZ[J)I"⟩
  | 136 => ⟨"CycleKernelLaw", "marks", "(LCycleKernel;I[J)I"⟩
  | 137 => ⟨"CycleKernelLaw", "pending", "(LCycleKernel;III[J)I"⟩
  | 138 => ⟨"CycleKernelLaw", "projected", "(LCycleKernel;IIIJ[J)I"⟩
  | _ => ⟨"", "", ""⟩
def wm_mb (i : Nat) : ByteArray := match i with
  | 0 => prog_1_method_1_code
  | 1 => prog_1_method_2_code
  | 2 => prog_1_method_3_code
  | 3 => prog_1_method_4_code
  | 4 => prog_1_method_5_code
  | 5 => prog_1_method_6_code
  | 6 => prog_1_method_7_code
  | 7 => prog_1_method_8_code
  | 8 => prog_1_method_9_code
  | 9 => prog_1_method_10_code
  | 10 => prog_1_method_11_code
  | 11 => prog_1_method_12_code
  | 12 => prog_1_method_13_code
  | 13 => prog_1_method_14_code
  | 14 => prog_1_method_15_code
  | 15 => prog_1_method_16_code
  | 16 => prog_1_method_17_code
  | 17 => prog_1_method_18_code
  | 18 => prog_1_method_19_code
  | 19 => prog_1_method_20_code
  | 20 => prog_1_method_21_code
  | 21 => prog_1_method_22_code
  | 22 => prog_1_method_23_code
  | 23 => prog_1_method_24_code
  | 24 => prog_1_method_25_code
  | 25 => prog_1_method_26_code
  | 26 => prog_1_method_27_code
  | 27 => prog_1_method_28_code
  | 28 => prog_1_method_29_code
  | 29 => prog_1_method_30_code
  | 30 => prog_1_method_31_code
  | 31 => prog_1_method_32_code
  | 32 => prog_1_method_33_code
  | 33 => prog_1_method_34_code
  | 34 => prog_1_method_35_code
  | 35 => prog_1_method_36_code
  | 36 => prog_2_method_1_code
  | 37 => prog_3_method_1_code
  | 38 => prog_3_method_2_code
  | 39 => prog_3_method_3_code
  | 40 => prog_3_method_4_code
  | 41 => prog_3_method_5_code
  | 42 => prog_3_method_6_code
  | 43 => prog_3_method_7_code
  | 44 => prog_3_method_8_code
  | 45 => prog_3_method_9_code
  | 46 => prog_3_method_10_code
  | 47 => prog_3_method_11_code
  | 48 => prog_4_method_1_code
  | 49 => prog_4_method_2_code
  | 50 => prog_4_method_3_code
  | 51 => prog_4_method_4_code
  | 52 => prog_4_method_5_code
  | 53 => prog_4_method_6_code
  | 54 => prog_4_method_7_code
  | 55 => prog_4_method_8_code
  | 56 => prog_4_method_9_code
  | 57 => prog_5_method_1_code
  | 58 => prog_5_method_2_code
  | 59 => prog_5_method_3_code
  | 60 => prog_5_method_4_code
  | 61 => prog_5_method_5_code
  | 62 => prog_5_method_6_code
  | 63 => prog_6_method_1_code
  | 64 => prog_6_method_2_code
  | 65 => prog_6_method_3_code
  | 66 => prog_7_method_1_code
  | 67 => prog_7_method_2_code
  | 68 => prog_7_method_3_code
  | 69 => prog_7_method_4_code
  | 70 => prog_8_method_1_code
  | 71 => prog_9_method_1_code
  | 72 => prog_9_method_2_code
  | 73 => prog_9_method_3_code
  | 74 => prog_9_method_4_code
  | 75 => prog_9_method_5_code
  | 76 => prog_9_method_6_code
  | 77 => prog_9_method_7_code
  | 78 => prog_11_method_1_code
  | 79 => prog_11_method_2_code
  | 80 => prog_11_method_3_code
  | 81 => prog_11_method_4_code
  | 82 => prog_11_method_5_code
  | 83 => prog_11_method_6_code
  | 84 => prog_11_method_7_code
  | 85 => prog_11_method_8_code
  | 86 => prog_11_method_9_code
  | 87 => prog_11_method_10_code
  | 88 => prog_11_method_11_code
  | 89 => prog_11_method_12_code
  | 90 => prog_11_method_13_code
  | 91 => prog_11_method_14_code
  | 92 => prog_11_method_15_code
  | 93 => prog_11_method_16_code
  | 94 => prog_11_method_17_code
  | 95 => prog_11_method_18_code
  | 96 => prog_11_method_19_code
  | 97 => prog_11_method_20_code
  | 98 => prog_11_method_21_code
  | 99 => prog_11_method_22_code
  | 100 => prog_11_method_23_code
  | 101 => prog_11_method_24_code
  | 102 => prog_11_method_25_code
  | 103 => prog_11_method_26_code
  | 104 => prog_11_method_27_code
  | 105 => prog_11_method_28_code
  | 106 => prog_11_method_29_code
  | 107 => prog_11_method_30_code
  | 108 => prog_11_method_31_code
  | 109 => prog_11_method_32_code
  | 110 => prog_11_method_33_code
  | 111 => prog_11_method_34_code
  | 112 => prog_11_method_35_code
  | 113 => prog_11_method_36_code
  | 114 => prog_11_method_37_code
  | 115 => prog_11_method_38_code
  | 116 => prog_11_method_39_code
  | 117 => prog_11_method_40_code
  | 118 => prog_11_method_41_code
  | 119 => method_2_code
  | 120 => method_3_code
  | 121 => method_4_code
  | 122 => method_5_code
  | 123 => method_6_code
  | 124 => method_7_code
  | 125 => method_8_code
  | 126 => method_9_code
  | 127 => method_10_code
  | 128 => method_11_code
  | 129 => method_12_code
  | 130 => method_13_code
  | 131 => method_14_code
  | 132 => method_15_code
  | 133 => method_16_code
  | 134 => method_17_code
  | 135 => method_18_code
  | 136 => method_19_code
  | 137 => method_20_code
  | 138 => method_21_code
  | _ => ⟨#[]⟩
def wm_mL (i : Nat) : Nat := match i with
  | 0 => 2
  | 1 => 3
  | 2 => 1
  | 3 => 4
  | 4 => 5
  | 5 => 2
  | 6 => 3
  | 7 => 3
  | 8 => 1
  | 9 => 15
  | 10 => 2
  | 11 => 6
  | 12 => 3
  | 13 => 4
  | 14 => 4
  | 15 => 2
  | 16 => 5
  | 17 => 5
  | 18 => 3
  | 19 => 4
  | 20 => 1
  | 21 => 1
  | 22 => 1
  | 23 => 6
  | 24 => 8
  | 25 => 2
  | 26 => 2
  | 27 => 3
  | 28 => 4
  | 29 => 1
  | 30 => 11
  | 31 => 2
  | 32 => 4
  | 33 => 4
  | 34 => 3
  | 35 => 3
  | 36 => 6
  | 37 => 2
  | 38 => 3
  | 39 => 1
  | 40 => 5
  | 41 => 4
  | 42 => 5
  | 43 => 3
  | 44 => 7
  | 45 => 6
  | 46 => 6
  | 47 => 3
  | 48 => 3
  | 49 => 2
  | 50 => 3
  | 51 => 3
  | 52 => 5
  | 53 => 6
  | 54 => 3
  | 55 => 2
  | 56 => 9
  | 57 => 1
  | 58 => 2
  | 59 => 2
  | 60 => 3
  | 61 => 3
  | 62 => 2
  | 63 => 1
  | 64 => 5
  | 65 => 2
  | 66 => 1
  | 67 => 1
  | 68 => 1
  | 69 => 4
  | 70 => 1
  | 71 => 1
  | 72 => 5
  | 73 => 3
  | 74 => 3
  | 75 => 1
  | 76 => 2
  | 77 => 5
  | 78 => 2
  | 79 => 1
  | 80 => 2
  | 81 => 2
  | 82 => 3
  | 83 => 3
  | 84 => 1
  | 85 => 4
  | 86 => 4
  | 87 => 4
  | 88 => 3
  | 89 => 4
  | 90 => 3
  | 91 => 2
  | 92 => 6
  | 93 => 4
  | 94 => 3
  | 95 => 2
  | 96 => 9
  | 97 => 10
  | 98 => 14
  | 99 => 3
  | 100 => 2
  | 101 => 6
  | 102 => 2
  | 103 => 3
  | 104 => 5
  | 105 => 4
  | 106 => 5
  | 107 => 4
  | 108 => 3
  | 109 => 4
  | 110 => 2
  | 111 => 5
  | 112 => 4
  | 113 => 2
  | 114 => 4
  | 115 => 1
  | 116 => 1
  | 117 => 7
  | 118 => 9
  | 119 => 2
  | 120 => 5
  | 121 => 3
  | 122 => 4
  | 123 => 5
  | 124 => 2
  | 125 => 4
  | 126 => 4
  | 127 => 10
  | 128 => 3
  | 129 => 6
  | 130 => 3
  | 131 => 4
  | 132 => 3
  | 133 => 4
  | 134 => 5
  | 135 => 6
  | 136 => 4
  | 137 => 6
  | 138 => 8
  | _ => 0
def wm_mrt (i : Nat) : Option FieldType := match i with
  | 0 => none
  | 1 => some .int
  | 2 => some .int
  | 3 => none
  | 4 => none
  | 5 => none
  | 6 => none
  | 7 => none
  | 8 => none
  | 9 => some .int
  | 10 => none
  | 11 => none
  | 12 => none
  | 13 => none
  | 14 => some .int
  | 15 => some .int
  | 16 => some .int
  | 17 => some .int
  | 18 => some .int
  | 19 => some .int
  | 20 => some .long
  | 21 => some .int
  | 22 => some .long
  | 23 => some .int
  | 24 => some .int
  | 25 => some (.object "CycleKernel$Task")
  | 26 => some (.object "CycleKernel$Signal")
  | 27 => none
  | 28 => some .boolean
  | 29 => some .boolean
  | 30 => some .int
  | 31 => some .boolean
  | 32 => some .long
  | 33 => some .long
  | 34 => none
  | 35 => none
  | 36 => none
  | 37 => none
  | 38 => some .int
  | 39 => some .long
  | 40 => some .int
  | 41 => some .boolean
  | 42 => some (.object "CycleKernel$Transaction")
  | 43 => some .int
  | 44 => some .int
  | 45 => some (.object "CycleKernel$Transaction")
  | 46 => some .int
  | 47 => none
  | 48 => none
  | 49 => some .boolean
  | 50 => some (.object "CycleKernel$Driver")
  | 51 => none
  | 52 => some .long
  | 53 => some .boolean
  | 54 => some .boolean
  | 55 => some .int
  | 56 => some .int
  | 57 => none
  | 58 => none
  | 59 => some .boolean
  | 60 => some .boolean
  | 61 => none
  | 62 => none
  | 63 => none
  | 64 => some (.object "CycleKernel$Transaction")
  | 65 => none
  | 66 => none
  | 67 => some .boolean
  | 68 => some .long
  | 69 => none
  | 70 => none
  | 71 => none
  | 72 => none
  | 73 => none
  | 74 => some .int
  | 75 => some .long
  | 76 => some .boolean
  | 77 => some .boolean
  | 78 => none
  | 79 => some .int
  | 80 => some .boolean
  | 81 => some .boolean
  | 82 => some .boolean
  | 83 => some .int
  | 84 => some .int
  | 85 => some .int
  | 86 => some .boolean
  | 87 => none
  | 88 => some .boolean
  | 89 => none
  | 90 => none
  | 91 => some .int
  | 92 => some .int
  | 93 => none
  | 94 => none
  | 95 => none
  | 96 => some .boolean
  | 97 => some .int
  | 98 => some .int
  | 99 => none
  | 100 => none
  | 101 => none
  | 102 => none
  | 103 => none
  | 104 => some .long
  | 105 => some .boolean
  | 106 => some .int
  | 107 => none
  | 108 => none
  | 109 => none
  | 110 => some .int
  | 111 => some .int
  | 112 => some .int
  | 113 => some .int
  | 114 => some .int
  | 115 => some .long
  | 116 => some .int
  | 117 => some .int
  | 118 => some .int
  | 119 => some .int
  | 120 => some .int
  | 121 => some .int
  | 122 => some .int
  | 123 => some .int
  | 124 => some .int
  | 125 => some .int
  | 126 => some .int
  | 127 => some .int
  | 128 => some .int
  | 129 => some .int
  | 130 => some .int
  | 131 => some .int
  | 132 => some .int
  | 133 => some .int
  | 134 => some .int
  | 135 => some .int
  | 136 => some .int
  | 137 => some .int
  | 138 => some .int
  | _ => none
def wm_mc (i : Nat) : Nat := match i with
  | 0 => 10
  | 1 => 4
  | 2 => 4
  | 3 => 69
  | 4 => 3
  | 5 => 1
  | 6 => 1
  | 7 => 1
  | 8 => 0
  | 9 => 1028
  | 10 => 1
  | 11 => 2
  | 12 => 2
  | 13 => 2
  | 14 => 1
  | 15 => 1
  | 16 => 1
  | 17 => 2
  | 18 => 1
  | 19 => 0
  | 20 => 0
  | 21 => 0
  | 22 => 0
  | 23 => 3
  | 24 => 4
  | 25 => 1
  | 26 => 1
  | 27 => 1
  | 28 => 0
  | 29 => 0
  | 30 => 16
  | 31 => 0
  | 32 => 0
  | 33 => 0
  | 34 => 0
  | 35 => 0
  | 36 => 65
  | 37 => 0
  | 38 => 0
  | 39 => 0
  | 40 => 0
  | 41 => 0
  | 42 => 0
  | 43 => 0
  | 44 => 0
  | 45 => 1
  | 46 => 0
  | 47 => 0
  | 48 => 2
  | 49 => 0
  | 50 => 0
  | 51 => 0
  | 52 => 0
  | 53 => 0
  | 54 => 0
  | 55 => 0
  | 56 => 0
  | 57 => 1
  | 58 => 0
  | 59 => 0
  | 60 => 0
  | 61 => 0
  | 62 => 0
  | 63 => 0
  | 64 => 1
  | 65 => 0
  | 66 => 2
  | 67 => 0
  | 68 => 0
  | 69 => 0
  | 70 => 0
  | 71 => 2
  | 72 => 0
  | 73 => 0
  | 74 => 0
  | 75 => 0
  | 76 => 0
  | 77 => 0
  | 78 => 23
  | 79 => 0
  | 80 => 0
  | 81 => 0
  | 82 => 0
  | 83 => 0
  | 84 => 0
  | 85 => 0
  | 86 => 0
  | 87 => 0
  | 88 => 0
  | 89 => 0
  | 90 => 0
  | 91 => 0
  | 92 => 0
  | 93 => 0
  | 94 => 0
  | 95 => 0
  | 96 => 0
  | 97 => 0
  | 98 => 0
  | 99 => 0
  | 100 => 0
  | 101 => 0
  | 102 => 0
  | 103 => 0
  | 104 => 0
  | 105 => 0
  | 106 => 0
  | 107 => 0
  | 108 => 0
  | 109 => 0
  | 110 => 0
  | 111 => 0
  | 112 => 0
  | 113 => 0
  | 114 => 0
  | 115 => 0
  | 116 => 0
  | 117 => 0
  | 118 => 0
  | 119 => 0
  | 120 => 4
  | 121 => 4
  | 122 => 69
  | 123 => 3
  | 124 => 1
  | 125 => 1
  | 126 => 1
  | 127 => 1028
  | 128 => 1
  | 129 => 2
  | 130 => 2
  | 131 => 2
  | 132 => 1
  | 133 => 1
  | 134 => 1
  | 135 => 2
  | 136 => 1
  | 137 => 3
  | 138 => 4
  | _ => 0
def wm_ms (i : Nat) : Nat := match i with
  | 0 => 1319
  | 1 => 140
  | 2 => 15
  | 3 => 277
  | 4 => 18
  | 5 => 6
  | 6 => 6
  | 7 => 6
  | 8 => 0
  | 9 => 3096
  | 10 => 6
  | 11 => 12
  | 12 => 12
  | 13 => 12
  | 14 => 6
  | 15 => 6
  | 16 => 6
  | 17 => 12
  | 18 => 6
  | 19 => 0
  | 20 => 0
  | 21 => 0
  | 22 => 0
  | 23 => 18
  | 24 => 24
  | 25 => 6
  | 26 => 6
  | 27 => 6
  | 28 => 0
  | 29 => 0
  | 30 => 48
  | 31 => 0
  | 32 => 0
  | 33 => 0
  | 34 => 0
  | 35 => 0
  | 36 => 256
  | 37 => 0
  | 38 => 0
  | 39 => 0
  | 40 => 0
  | 41 => 0
  | 42 => 0
  | 43 => 0
  | 44 => 0
  | 45 => 3
  | 46 => 0
  | 47 => 0
  | 48 => 128
  | 49 => 0
  | 50 => 0
  | 51 => 0
  | 52 => 0
  | 53 => 0
  | 54 => 0
  | 55 => 0
  | 56 => 0
  | 57 => 4
  | 58 => 0
  | 59 => 0
  | 60 => 0
  | 61 => 0
  | 62 => 0
  | 63 => 0
  | 64 => 3
  | 65 => 0
  | 66 => 5
  | 67 => 0
  | 68 => 0
  | 69 => 0
  | 70 => 0
  | 71 => 1040
  | 72 => 0
  | 73 => 0
  | 74 => 0
  | 75 => 0
  | 76 => 0
  | 77 => 0
  | 78 => 66992
  | 79 => 0
  | 80 => 0
  | 81 => 0
  | 82 => 0
  | 83 => 0
  | 84 => 0
  | 85 => 0
  | 86 => 0
  | 87 => 0
  | 88 => 0
  | 89 => 0
  | 90 => 0
  | 91 => 0
  | 92 => 0
  | 93 => 0
  | 94 => 0
  | 95 => 0
  | 96 => 0
  | 97 => 0
  | 98 => 0
  | 99 => 0
  | 100 => 0
  | 101 => 0
  | 102 => 0
  | 103 => 0
  | 104 => 0
  | 105 => 0
  | 106 => 0
  | 107 => 0
  | 108 => 0
  | 109 => 0
  | 110 => 0
  | 111 => 0
  | 112 => 0
  | 113 => 0
  | 114 => 0
  | 115 => 0
  | 116 => 0
  | 117 => 0
  | 118 => 0
  | 119 => 0
  | 120 => 140
  | 121 => 15
  | 122 => 277
  | 123 => 18
  | 124 => 6
  | 125 => 6
  | 126 => 6
  | 127 => 3096
  | 128 => 6
  | 129 => 12
  | 130 => 12
  | 131 => 12
  | 132 => 6
  | 133 => 6
  | 134 => 6
  | 135 => 12
  | 136 => 6
  | 137 => 18
  | 138 => 24
  | _ => 0
def wm_mn (i : Nat) : Nat := match i with
  | 0 => 2
  | 1 => 3
  | 2 => 1
  | 3 => 3
  | 4 => 4
  | 5 => 1
  | 6 => 2
  | 7 => 3
  | 8 => 1
  | 9 => 7
  | 10 => 2
  | 11 => 4
  | 12 => 2
  | 13 => 3
  | 14 => 1
  | 15 => 2
  | 16 => 3
  | 17 => 4
  | 18 => 2
  | 19 => 2
  | 20 => 1
  | 21 => 1
  | 22 => 1
  | 23 => 4
  | 24 => 5
  | 25 => 2
  | 26 => 2
  | 27 => 3
  | 28 => 3
  | 29 => 1
  | 30 => 5
  | 31 => 1
  | 32 => 1
  | 33 => 2
  | 34 => 1
  | 35 => 1
  | 36 => 5
  | 37 => 2
  | 38 => 1
  | 39 => 1
  | 40 => 2
  | 41 => 2
  | 42 => 2
  | 43 => 2
  | 44 => 3
  | 45 => 4
  | 46 => 3
  | 47 => 3
  | 48 => 3
  | 49 => 2
  | 50 => 2
  | 51 => 1
  | 52 => 1
  | 53 => 2
  | 54 => 1
  | 55 => 2
  | 56 => 2
  | 57 => 1
  | 58 => 2
  | 59 => 2
  | 60 => 2
  | 61 => 2
  | 62 => 1
  | 63 => 1
  | 64 => 3
  | 65 => 2
  | 66 => 1
  | 67 => 1
  | 68 => 1
  | 69 => 3
  | 70 => 1
  | 71 => 1
  | 72 => 2
  | 73 => 3
  | 74 => 3
  | 75 => 1
  | 76 => 1
  | 77 => 3
  | 78 => 2
  | 79 => 1
  | 80 => 2
  | 81 => 2
  | 82 => 3
  | 83 => 3
  | 84 => 1
  | 85 => 3
  | 86 => 2
  | 87 => 3
  | 88 => 3
  | 89 => 4
  | 90 => 1
  | 91 => 2
  | 92 => 3
  | 93 => 2
  | 94 => 3
  | 95 => 1
  | 96 => 5
  | 97 => 7
  | 98 => 5
  | 99 => 3
  | 100 => 2
  | 101 => 4
  | 102 => 2
  | 103 => 3
  | 104 => 1
  | 105 => 2
  | 106 => 1
  | 107 => 1
  | 108 => 2
  | 109 => 2
  | 110 => 2
  | 111 => 3
  | 112 => 4
  | 113 => 2
  | 114 => 2
  | 115 => 1
  | 116 => 1
  | 117 => 4
  | 118 => 5
  | 119 => 2
  | 120 => 4
  | 121 => 2
  | 122 => 3
  | 123 => 4
  | 124 => 1
  | 125 => 2
  | 126 => 3
  | 127 => 8
  | 128 => 2
  | 129 => 4
  | 130 => 2
  | 131 => 3
  | 132 => 2
  | 133 => 3
  | 134 => 4
  | 135 => 5
  | 136 => 3
  | 137 => 5
  | 138 => 6
  | _ => 0
def wd_mf (i : Nat) : Nat := match i with
  | 0 => 2
  | 1 => 6
  | 2 => 6
  | 3 => 7
  | 4 => 7
  | 5 => 6
  | 6 => 6
  | 7 => 6
  | 8 => 2
  | 9 => 7
  | 10 => 7
  | 11 => 7
  | 12 => 7
  | 13 => 7
  | 14 => 6
  | 15 => 7
  | 16 => 6
  | 17 => 7
  | 18 => 7
  | 19 => 2
  | 20 => 1
  | 21 => 1
  | 22 => 4
  | 23 => 7
  | 24 => 7
  | 25 => 6
  | 26 => 6
  | 27 => 6
  | 28 => 1
  | 29 => 2
  | 30 => 4
  | 31 => 2
  | 32 => 3
  | 33 => 1
  | 34 => 5
  | 35 => 3
  | 36 => 2
  | 37 => 1
  | 38 => 1
  | 39 => 1
  | 40 => 1
  | 41 => 3
  | 42 => 1
  | 43 => 3
  | 44 => 3
  | 45 => 3
  | 46 => 2
  | 47 => 1
  | 48 => 1
  | 49 => 1
  | 50 => 1
  | 51 => 3
  | 52 => 2
  | 53 => 4
  | 54 => 3
  | 55 => 2
  | 56 => 1
  | 57 => 1
  | 58 => 1
  | 59 => 1
  | 60 => 1
  | 61 => 1
  | 62 => 1
  | 63 => 1
  | 64 => 2
  | 65 => 1
  | 66 => 2
  | 67 => 1
  | 68 => 1
  | 69 => 2
  | 70 => 1
  | 71 => 1
  | 72 => 1
  | 73 => 1
  | 74 => 1
  | 75 => 1
  | 76 => 1
  | 77 => 2
  | 78 => 1
  | 79 => 1
  | 80 => 1
  | 81 => 1
  | 82 => 2
  | 83 => 1
  | 84 => 1
  | 85 => 1
  | 86 => 1
  | 87 => 2
  | 88 => 1
  | 89 => 3
  | 90 => 3
  | 91 => 1
  | 92 => 2
  | 93 => 1
  | 94 => 1
  | 95 => 1
  | 96 => 2
  | 97 => 3
  | 98 => 2
  | 99 => 1
  | 100 => 2
  | 101 => 2
  | 102 => 2
  | 103 => 2
  | 104 => 1
  | 105 => 1
  | 106 => 4
  | 107 => 2
  | 108 => 3
  | 109 => 1
  | 110 => 2
  | 111 => 1
  | 112 => 3
  | 113 => 2
  | 114 => 1
  | 115 => 1
  | 116 => 1
  | 117 => 3
  | 118 => 3
  | 119 => 1
  | 120 => 7
  | 121 => 7
  | 122 => 8
  | 123 => 8
  | 124 => 7
  | 125 => 7
  | 126 => 7
  | 127 => 8
  | 128 => 8
  | 129 => 8
  | 130 => 8
  | 131 => 8
  | 132 => 7
  | 133 => 8
  | 134 => 7
  | 135 => 8
  | 136 => 8
  | 137 => 8
  | 138 => 8
  | _ => 0
def wd_ml (i : Nat) : Nat := match i with
  | 0 => 40
  | 1 => 90
  | 2 => 90
  | 3 => 111
  | 4 => 112
  | 5 => 91
  | 6 => 90
  | 7 => 90
  | 8 => 41
  | 9 => 123
  | 10 => 111
  | 11 => 111
  | 12 => 111
  | 13 => 111
  | 14 => 137
  | 15 => 111
  | 16 => 90
  | 17 => 112
  | 18 => 111
  | 19 => 41
  | 20 => 20
  | 21 => 20
  | 22 => 90
  | 23 => 112
  | 24 => 112
  | 25 => 90
  | 26 => 90
  | 27 => 90
  | 28 => 20
  | 29 => 41
  | 30 => 93
  | 31 => 40
  | 32 => 67
  | 33 => 20
  | 34 => 115
  | 35 => 65
  | 36 => 41
  | 37 => 20
  | 38 => 20
  | 39 => 20
  | 40 => 20
  | 41 => 67
  | 42 => 20
  | 43 => 67
  | 44 => 67
  | 45 => 64
  | 46 => 42
  | 47 => 20
  | 48 => 20
  | 49 => 20
  | 50 => 20
  | 51 => 69
  | 52 => 43
  | 53 => 90
  | 54 => 69
  | 55 => 48
  | 56 => 20
  | 57 => 20
  | 58 => 20
  | 59 => 20
  | 60 => 20
  | 61 => 20
  | 62 => 20
  | 63 => 20
  | 64 => 40
  | 65 => 20
  | 66 => 40
  | 67 => 20
  | 68 => 20
  | 69 => 42
  | 70 => 20
  | 71 => 20
  | 72 => 20
  | 73 => 20
  | 74 => 20
  | 75 => 20
  | 76 => 20
  | 77 => 42
  | 78 => 20
  | 79 => 20
  | 80 => 20
  | 81 => 20
  | 82 => 41
  | 83 => 20
  | 84 => 20
  | 85 => 20
  | 86 => 20
  | 87 => 43
  | 88 => 20
  | 89 => 63
  | 90 => 66
  | 91 => 20
  | 92 => 41
  | 93 => 20
  | 94 => 20
  | 95 => 20
  | 96 => 42
  | 97 => 75
  | 98 => 42
  | 99 => 20
  | 100 => 41
  | 101 => 41
  | 102 => 41
  | 103 => 41
  | 104 => 20
  | 105 => 20
  | 106 => 88
  | 107 => 42
  | 108 => 66
  | 109 => 20
  | 110 => 41
  | 111 => 20
  | 112 => 63
  | 113 => 41
  | 114 => 20
  | 115 => 20
  | 116 => 20
  | 117 => 63
  | 118 => 63
  | 119 => 20
  | 120 => 112
  | 121 => 110
  | 122 => 134
  | 123 => 136
  | 124 => 112
  | 125 => 112
  | 126 => 112
  | 127 => 157
  | 128 => 132
  | 129 => 136
  | 130 => 133
  | 131 => 134
  | 132 => 160
  | 133 => 132
  | 134 => 114
  | 135 => 136
  | 136 => 133
  | 137 => 137
  | 138 => 139
  | _ => 0
def wm_mr (i : Nat) : Room := { frames := wd_mf i, cells := wm_mc i, slots := wm_ms i, locals := wd_ml i }
def wm_cp (i : Nat) : Nat × Nat × Nat × Nat := match i with
  | 0 => (49, 29, 48, 0)
  | 1 => (208, 29, 206, 207)
  | 2 => (329, 29, 327, 328)
  | 3 => (362, 29, 360, 361)
  | 4 => (439, 29, 437, 438)
  | 5 => (455, 29, 453, 454)
  | 6 => (474, 29, 472, 473)
  | 7 => (488, 29, 486, 487)
  | 8 => (148, 29, 146, 147)
  | 9 => (500, 29, 498, 499)
  | 10 => (592, 29, 590, 591)
  | 11 => (603, 29, 601, 602)
  | 12 => (615, 29, 613, 614)
  | 13 => (627, 29, 625, 626)
  | 14 => (635, 29, 633, 634)
  | 15 => (679, 29, 677, 678)
  | 16 => (686, 29, 684, 685)
  | 17 => (694, 29, 692, 693)
  | 18 => (701, 29, 699, 700)
  | 19 => (156, 29, 154, 155)
  | 20 => (164, 29, 162, 163)
  | 21 => (168, 29, 166, 167)
  | 22 => (172, 29, 170, 171)
  | 23 => (708, 29, 706, 707)
  | 24 => (719, 29, 717, 718)
  | 25 => (366, 29, 365, 2)
  | 26 => (386, 29, 385, 3)
  | 27 => (442, 29, 441, 0)
  | 28 => (505, 29, 504, 6)
  | 29 => (509, 29, 508, 7)
  | 30 => (532, 29, 531, 8)
  | 31 => (639, 29, 638, 11)
  | 32 => (176, 29, 175, 0)
  | 33 => (190, 29, 189, 0)
  | 34 => (644, 29, 643, 12)
  | 35 => (664, 29, 663, 13)
  | 36 => (399, 42, 398, 0)
  | 37 => (406, 43, 405, 0)
  | 38 => (712, 43, 710, 711)
  | 39 => (186, 43, 184, 185)
  | 40 => (656, 43, 654, 655)
  | 41 => (652, 43, 650, 651)
  | 42 => (540, 43, 538, 539)
  | 43 => (536, 43, 534, 535)
  | 44 => (557, 43, 555, 556)
  | 45 => (562, 43, 560, 561)
  | 46 => (544, 43, 543, 9)
  | 47 => (552, 43, 551, 10)
  | 48 => (297, 39, 296, 0)
  | 49 => (447, 39, 445, 446)
  | 50 => (392, 39, 390, 391)
  | 51 => (459, 39, 457, 458)
  | 52 => (181, 39, 179, 180)
  | 53 => (648, 39, 646, 647)
  | 54 => (660, 39, 658, 659)
  | 55 => (463, 39, 462, 4)
  | 56 => (467, 39, 466, 5)
  | 57 => (95, 32, 94, 0)
  | 58 => (596, 32, 594, 595)
  | 59 => (160, 32, 158, 159)
  | 60 => (672, 32, 670, 671)
  | 61 => (608, 32, 606, 607)
  | 62 => (152, 32, 150, 151)
  | 63 => (61, 30, 60, 0)
  | 64 => (566, 30, 564, 565)
  | 65 => (548, 30, 546, 547)
  | 66 => (334, 40, 333, 0)
  | 67 => (619, 40, 617, 618)
  | 68 => (195, 40, 193, 194)
  | 69 => (668, 40, 666, 667)
  | 70 => (571, 44, 570, 0)
  | 71 => (75, 31, 74, 0)
  | 72 => (481, 31, 479, 480)
  | 73 => (493, 31, 491, 492)
  | 74 => (525, 31, 523, 524)
  | 75 => (517, 31, 515, 516)
  | 76 => (513, 31, 511, 512)
  | 77 => (521, 31, 519, 520)
  | 78 => (726, 33, 725, 0)
  | 79 => (836, 33, 834, 835)
  | 80 => (853, 33, 852, 14)
  | 81 => (857, 33, 856, 15)
  | 82 => (873, 33, 872, 18)
  | 83 => (840, 33, 838, 839)
  | 84 => (844, 33, 842, 843)
  | 85 => (861, 33, 860, 16)
  | 86 => (865, 33, 864, 17)
  | 87 => (849, 33, 847, 848)
  | 88 => (877, 33, 876, 19)
  | 89 => (869, 33, 867, 868)
  | 90 => (881, 33, 879, 880)
  | 91 => (888, 33, 887, 0)
  | 92 => (885, 33, 884, 20)
  | 93 => (892, 33, 890, 891)
  | 94 => (897, 33, 895, 896)
  | 95 => (901, 33, 899, 900)
  | 96 => (909, 33, 908, 21)
  | 97 => (905, 33, 903, 904)
  | 98 => (913, 33, 912, 22)
  | 99 => (917, 33, 916, 23)
  | 100 => (921, 33, 919, 920)
  | 101 => (925, 33, 923, 924)
  | 102 => (929, 33, 927, 928)
  | 103 => (933, 33, 931, 932)
  | 104 => (937, 33, 935, 936)
  | 105 => (945, 33, 944, 24)
  | 106 => (941, 33, 939, 940)
  | 107 => (950, 33, 949, 25)
  | 108 => (954, 33, 953, 26)
  | 109 => (958, 33, 957, 27)
  | 110 => (962, 33, 960, 961)
  | 111 => (966, 33, 964, 965)
  | 112 => (970, 33, 968, 969)
  | 113 => (974, 33, 972, 973)
  | 114 => (978, 33, 976, 977)
  | 115 => (982, 33, 980, 981)
  | 116 => (986, 33, 984, 985)
  | 117 => (990, 33, 988, 989)
  | 118 => (994, 33, 992, 993)
  | 119 => (199, 28, 198, 0)
  | 120 => (202, 28, 201, 0)
  | 121 => (325, 28, 324, 0)
  | 122 => (357, 28, 356, 0)
  | 123 => (435, 28, 434, 0)
  | 124 => (451, 28, 450, 0)
  | 125 => (470, 28, 469, 0)
  | 126 => (484, 28, 483, 0)
  | 127 => (496, 28, 495, 0)
  | 128 => (588, 28, 587, 0)
  | 129 => (599, 28, 598, 0)
  | 130 => (611, 28, 610, 0)
  | 131 => (623, 28, 622, 0)
  | 132 => (631, 28, 630, 0)
  | 133 => (675, 28, 674, 0)
  | 134 => (682, 28, 681, 0)
  | 135 => (690, 28, 689, 0)
  | 136 => (697, 28, 696, 0)
  | 137 => (704, 28, 703, 0)
  | 138 => (715, 28, 714, 0)
  | _ => (0, 0, 0, 0)
def wm_kp (i : Nat) : Nat × Nat := match i with
  | 0 => (46, 29)
  | 1 => (396, 42)
  | 2 => (403, 43)
  | 3 => (294, 39)
  | 4 => (92, 32)
  | 5 => (58, 30)
  | 6 => (331, 40)
  | 7 => (568, 44)
  | 8 => (72, 31)
  | 9 => (723, 33)
  | _ => (0, 0)
def wm_xp (a : Nat) : Nat := match a with
  | 1 => 37
  | 2 => 38
  | _ => 41
def wm_ap (t : ArrayType) : Nat := match t with
  | .int => 90
  | .long => 89
  | .boolean => 832
  | _ => 0
def wm_op (a : Nat) : Nat := match a with
  | 20 => 54
  | 21 => 56
  | 22 => 402
  | _ => 0
def wm_o1 : Nat := 51
def wm_o2 : Nat := 52
end
section
/-! THE ABSTRACT MACHINE, 1: values, heaps by tag, place and address; what a heap of the machine is to such a one -/
abbrev wm_V : Type := Int32 ⊕ (Int64 ⊕ Option Nat)
def wm_tv (v : wm_V) : Value := match v with
  | .inl x => .int x
  | .inr (.inl x) => .long x
  | .inr (.inr r) => va_rf r
def wm_cat (v : wm_V) : Nat := match v with
  | .inr (.inl _) => 2
  | _ => 1
/-- 0: an int; 1: a long; 2: a reference -/
def wm_vk (v : wm_V) : Nat := match v with
  | .inl _ => 0
  | .inr (.inl _) => 1
  | .inr (.inr _) => 2
theorem wm_cat_tv (v : wm_V) : (wm_tv v).category = wm_cat v := by
  rcases v with x | x | (_ | r) <;> rfl
theorem wm_cats (st : List wm_V) : ((st.map wm_tv).map fun v => v.category).sum = (st.map wm_cat).sum := by
  rw [List.map_map]
  congr 1
  exact List.map_congr_left fun v _ => wm_cat_tv v
abbrev wm_F (α : Type) : Type := Nat → Nat → Nat → α
def wm_up {α : Type} (f : wm_F α) (t k q : Nat) (v : α) : wm_F α := fun t' k' q' => if t' = t ∧ k' = k ∧ q' = q then v else f t' k' q'
theorem wm_up_self {α : Type} {f : wm_F α} {t k q : Nat} {v : α} : wm_up f t k q v t k q = v := by simp [wm_up]
theorem wm_up_t {α : Type} {f : wm_F α} {t t' k q : Nat} {v : α} (h : t' ≠ t) : wm_up f t k q v t' = f t' := by
  funext k' q'; simp [wm_up, h]
theorem wm_up_k {α : Type} {f : wm_F α} {t t' k k' q : Nat} {v : α} (h : k' ≠ k) : wm_up f t k q v t' k' = f t' k' := by
  funext q'; simp [wm_up, h]
theorem wm_up_q {α : Type} {f : wm_F α} {t t' k k' q q' : Nat} {v : α} (h : q' ≠ q) : wm_up f t k q v t' k' q' = f t' k' q' := by
  simp [wm_up, h]
/-- tags, lengths, ints, longs, references, how many cells -/
abbrev wm_H : Type := (Nat → Nat) × (Nat → Nat) × wm_F Int32 × wm_F Int64 × wm_F (Option Nat) × Nat
def wm_ck (t : FieldType) : Nat := match t with
  | .long => 1
  | .object _ => 2
  | .array _ => 2
  | .float => 3
  | .double => 3
  | _ => 0
/-- the word of the kind c -/
def wm_wv (h : wm_H) (c t k q : Nat) : wm_V := match c with
  | 1 => .inr (.inl (h.2.2.2.1 t k q))
  | 2 => .inr (.inr (h.2.2.2.2.1 t k q))
  | _ => .inl (h.2.2.1 t k q)
def wm_rd (h : wm_H) (ty : FieldType) (t k q : Nat) : wm_V := wm_wv h (wm_ck ty) t k q
def wm_wr (h : wm_H) (t k q : Nat) (v : wm_V) : wm_H := match v with
  | .inl x => (h.1, h.2.1, wm_up h.2.2.1 t k q x, h.2.2.2.1, h.2.2.2.2.1, h.2.2.2.2.2)
  | .inr (.inl x) => (h.1, h.2.1, h.2.2.1, wm_up h.2.2.2.1 t k q x, h.2.2.2.2.1, h.2.2.2.2.2)
  | .inr (.inr x) => (h.1, h.2.1, h.2.2.1, h.2.2.2.1, wm_up h.2.2.2.2.1 t k q x, h.2.2.2.2.2)
theorem wm_wr_1 (h : wm_H) (t k q : Nat) (v : wm_V) : (wm_wr h t k q v).1 = h.1 := by
  rcases v with x | x | x <;> rfl
theorem wm_wr_2 (h : wm_H) (t k q : Nat) (v : wm_V) : (wm_wr h t k q v).2.1 = h.2.1 := by
  rcases v with x | x | x <;> rfl
theorem wm_wr_n (h : wm_H) (t k q : Nat) (v : wm_V) : (wm_wr h t k q v).2.2.2.2.2 = h.2.2.2.2.2 := by
  rcases v with x | x | x <;> rfl
theorem wm_rd_q {h : wm_H} {t k q : Nat} {v : wm_V} {ty : FieldType} {t' k' q' : Nat} (n : q' ≠ q) : wm_rd (wm_wr h t k q v) ty t' k' q' = wm_rd h ty t' k' q' := by
  unfold wm_rd wm_wv
  rcases v with x | x | x <;> split <;> simp [wm_wr, wm_up_q n]
theorem wm_rd_k {h : wm_H} {t k q : Nat} {v : wm_V} {ty : FieldType} {t' k' q' : Nat} (n : k' ≠ k) : wm_rd (wm_wr h t k q v) ty t' k' q' = wm_rd h ty t' k' q' := by
  unfold wm_rd wm_wv
  rcases v with x | x | x <;> split <;> simp [wm_wr, wm_up_k n]
theorem wm_rd_self {h : wm_H} {t k q : Nat} {v : wm_V} {ty : FieldType} (e : wm_vk v = wm_ck ty) : wm_rd (wm_wr h t k q v) ty t k q = v := by
  unfold wm_rd wm_wv
  rcases v with x | x | x <;> rw [← e] <;> simp [wm_vk, wm_wr, wm_up_self]
/-- arrays' classes; the script: its cell, its length, its ints -/
abbrev wm_Y : Type := (FieldType → ClassId) × Nat × Nat × (Nat → Int32)
/-- the cell q, as its tag says -/
def wm_at (D : va_G) (aC : wm_Y) (h : wm_H) (H : Heap) (q : Nat) : Prop := h.1 q ≠ 1 → match wm_tags (h.1 q) with
  | none => True
  | some (.inl ci) => ∃ r : vw_C, wm_cls[ci]? = some r ∧ t_OB q (D.1 ci) r.2.2 (D.2 ci) H (fun k => wm_tv (wm_rd h (wm_ty ci k) (h.1 q) k q))
  | some (.inr ty) => H[q]? = some (arrV (aC.1 ty) (h.2.1 q) (fun k => wm_tv (wm_rd h ty (h.1 q) k q)))
def wm_ok (D : va_G) (aC : wm_Y) (b0 : Nat) (h : wm_H) (H : Heap) : Prop :=
  H.size = h.2.2.2.2.2 ∧ b0 ≤ H.size ∧ (∀ q, h.1 q ≠ 0 → (h.1 q ≠ 1 → b0 ≤ q) ∧ q < H.size) ∧ (∀ q, wm_at D aC h H q) ∧ ∀ q, h.1 q = 1 → q = aC.2.1 ∧ h.2.1 q = aC.2.2.1 ∧ ∀ k, h.2.2.1 1 k q = aC.2.2.2 k
theorem wm_at_o {D : va_G} {aC : wm_Y} {h : wm_H} {H : Heap} {q ci : Nat} {r : vw_C} (a : wm_at D aC h H q) (ht : wm_tags (h.1 q) = some (.inl ci)) (hc : wm_cls[ci]? = some r) : t_OB q (D.1 ci) r.2.2 (D.2 ci) H (fun k => wm_tv (wm_rd h (wm_ty ci k) (h.1 q) k q)) := by
  have h1 : h.1 q ≠ 1 := fun z => by rw [z] at ht; cases ht
  have a := a h1
  rw [ht] at a
  obtain ⟨r', h1, h2⟩ := a
  cases Option.some.inj (h1.symm.trans hc)
  exact h2
theorem wm_at_a {D : va_G} {aC : wm_Y} {h : wm_H} {H : Heap} {q : Nat} {ty : FieldType} (a : wm_at D aC h H q) (h1 : h.1 q ≠ 1) (ht : wm_tags (h.1 q) = some (.inr ty)) : H[q]? = some (arrV (aC.1 ty) (h.2.1 q) (fun k => wm_tv (wm_rd h ty (h.1 q) k q))) := by
  have a := a h1
  rw [ht] at a
  exact a
theorem wm_at_kept {D : va_G} {aC : wm_Y} {h h' : wm_H} {H H' : Heap} {q : Nat} (a : wm_at D aC h H q) (hq : H'[q]? = H[q]?) (h1 : h'.1 q = h.1 q) (h2 : h'.2.1 q = h.2.1 q) (h3 : ∀ ty t k, wm_rd h' ty t k q = wm_rd h ty t k q) : wm_at D aC h' H' q := by
  unfold wm_at at a ⊢
  rw [h1]
  intro h9
  have a := a h9
  split at a
  · trivial
  · obtain ⟨r, e1, e2⟩ := a
    refine ⟨r, e1, (e2.kept hq).to fun k _ => ?_⟩
    rw [h3]
  · rw [hq, a, h2]
    congr 2
    funext k
    rw [h3]
theorem wm_up_1 {f : wm_F Int32} {t k q : Nat} {v : Int32} (h : t ≠ 1) : wm_up f t k q v 1 = f 1 := wm_up_t (Ne.symm h)
theorem wm_wr_s {h : wm_H} {t k q : Nat} {v : wm_V} (n : t ≠ 1) : (wm_wr h t k q v).2.2.1 1 = h.2.2.1 1 := by
  rcases v with x | x | x
  · exact wm_up_1 n
  · rfl
  · rfl
/-- behind a write of a field -/
theorem wm_ok_put {D : va_G} {aC : wm_Y} {b0 : Nat} {h : wm_H} {H H' : Heap} {q t ci k : Nat} {r : vw_C} {v : wm_V} {cell : Cell} (O : wm_ok D aC b0 h H) (ht : h.1 q = t) (hg : wm_tags t = some (.inl ci)) (hc : wm_cls[ci]? = some r) (hk : k < r.2.2)
    (hap : ∀ a b, a < r.2.2 → b < r.2.2 → a ≠ b → D.2 ci a ≠ D.2 ci b) (hv : wm_vk v = wm_ck (wm_ty ci k)) (hcell : H[q]? = some cell) (e1 : H'[q]? = some (cell.setSlot (D.2 ci k) (wm_tv v))) (z : H'.size = H.size) (oq : ∀ a, a ≠ q → H'[a]? = H[a]?) : wm_ok D aC b0 (wm_wr h t k q v) H' := by
  obtain ⟨o1, o2, o3, o4, o5⟩ := O
  have n1 : t ≠ 1 := fun z => by rw [z] at hg; cases hg
  refine ⟨by rw [z, wm_wr_n]; exact o1, by rw [z]; exact o2, fun a ha => by rw [wm_wr_1] at ha ⊢; rw [z]; exact o3 a ha, fun a => ?_, fun a ha => ?_⟩
  · by_cases ha : a = q
    · subst ha
      subst ht
      have ob := wm_at_o (o4 a) hg hc
      obtain ⟨cell', c1, c2, c3, c4⟩ := ob
      cases Option.some.inj (hcell.symm.trans c1)
      unfold wm_at
      rw [wm_wr_1, hg]
      intro _
      refine ⟨r, hc, _, e1, c2, c3, fun j hj => ?_⟩
      rw [t_set c4 hap hk (wm_tv v) j hj]
      by_cases e : j = k
      · subst e
        simp [updV, wm_rd_self hv]
      · simp [updV, e, wm_rd_k e]
    · exact wm_at_kept (o4 a) (oq a ha) (by rw [wm_wr_1]) (by rw [wm_wr_2]) fun ty t k => wm_rd_q ha
  · rw [wm_wr_1] at ha
    rw [wm_wr_2, wm_wr_s n1]
    exact o5 a ha
/-- behind a write of an array's element -/
theorem wm_ok_ast {D : va_G} {aC : wm_Y} {b0 : Nat} {h : wm_H} {H H' : Heap} {q t k : Nat} {ty : FieldType} {v : wm_V} (O : wm_ok D aC b0 h H) (ht : h.1 q = t) (n1 : t ≠ 1) (hg : wm_tags t = some (.inr ty)) (hv : wm_vk v = wm_ck ty)
    (e1 : H'[q]? = some ((arrV (aC.1 ty) (h.2.1 q) (fun k => wm_tv (wm_rd h ty (h.1 q) k q))).setSlot k (wm_tv v))) (z : H'.size = H.size) (oq : ∀ a, a ≠ q → H'[a]? = H[a]?) : wm_ok D aC b0 (wm_wr h t k q v) H' := by
  obtain ⟨o1, o2, o3, o4, o5⟩ := O
  refine ⟨by rw [z, wm_wr_n]; exact o1, by rw [z]; exact o2, fun a ha => by rw [wm_wr_1] at ha ⊢; rw [z]; exact o3 a ha, fun a => ?_, fun a ha => ?_⟩
  · by_cases ha : a = q
    · subst ha
      subst ht
      unfold wm_at
      rw [wm_wr_1, hg]
      intro _
      show H'[a]? = _
      rw [e1, arrV_store, wm_wr_2]
      congr 2
      funext j
      by_cases e : j = k
      · subst e
        simp [updV, wm_rd_self hv]
      · simp [updV, e, wm_rd_k e]
    · exact wm_at_kept (o4 a) (oq a ha) (by rw [wm_wr_1]) (by rw [wm_wr_2]) fun ty t k => wm_rd_q ha
  · rw [wm_wr_1] at ha
    rw [wm_wr_2, wm_wr_s n1]
    exact o5 a ha
/-- a new cell at the heap's end: its tag, its length, all 0 or null -/
def wm_nw (h : wm_H) (t n : Nat) : wm_H := (fun q => if q = h.2.2.2.2.2 then t else h.1 q, fun q => if q = h.2.2.2.2.2 then n else h.2.1 q,
  fun t' k' q' => if t' = t ∧ q' = h.2.2.2.2.2 then 0 else h.2.2.1 t' k' q', fun t' k' q' => if t' = t ∧ q' = h.2.2.2.2.2 then 0 else h.2.2.2.1 t' k' q', fun t' k' q' => if t' = t ∧ q' = h.2.2.2.2.2 then none else h.2.2.2.2.1 t' k' q', h.2.2.2.2.2 + 1)
theorem wm_nw_rd {h : wm_H} {t n q : Nat} {ty : FieldType} {t' k' : Nat} (e : q ≠ h.2.2.2.2.2) : wm_rd (wm_nw h t n) ty t' k' q = wm_rd h ty t' k' q := by
  unfold wm_rd wm_wv
  split <;> simp [wm_nw, e]
/-- what a field or an array of the type takes -/
theorem wm_fits {ty : FieldType} {v : wm_V} (h1 : wm_vk v = wm_ck ty) (h2 : ty ≠ .byte ∧ ty ≠ .char ∧ ty ≠ .short) (h3 : wm_ck ty ≠ 3) (h4 : ty = .boolean → v = .inl 0 ∨ v = .inl 1) : fits ty (wm_tv v) = true ∧ narrow ty (wm_tv v) = wm_tv v := by
  cases ty with
  | byte => exact absurd rfl h2.1
  | char => exact absurd rfl h2.2.1
  | short => exact absurd rfl h2.2.2
  | float => exact absurd rfl h3
  | double => exact absurd rfl h3
  | boolean => rcases h4 rfl with rfl | rfl <;> exact ⟨rfl, rfl⟩
  | int => rcases v with x | x | x <;> first | exact ⟨rfl, rfl⟩ | exact absurd h1 (by simp [wm_vk, wm_ck])
  | long => rcases v with x | x | x <;> first | exact ⟨rfl, rfl⟩ | exact absurd h1 (by simp [wm_vk, wm_ck])
  | object C => rcases v with x | x | (_ | x) <;> first | exact ⟨rfl, rfl⟩ | exact absurd h1 (by simp [wm_vk, wm_ck])
  | array C => rcases v with x | x | (_ | x) <;> first | exact ⟨rfl, rfl⟩ | exact absurd h1 (by simp [wm_vk, wm_ck])
def wm_df (ty : FieldType) : wm_V := match wm_ck ty with
  | 1 => .inr (.inl 0)
  | 2 => .inr (.inr none)
  | _ => .inl 0
theorem wm_nw_df {h : wm_H} {t n : Nat} {ty : FieldType} {k' : Nat} : wm_rd (wm_nw h t n) ty t k' h.2.2.2.2.2 = wm_df ty := by
  unfold wm_rd wm_wv wm_df
  split <;> simp [wm_nw]
theorem wm_df_tv {ty : FieldType} (h : wm_ck ty ≠ 3) : wm_tv (wm_df ty) = defaultValue ty := by
  cases ty <;> first | rfl | exact absurd rfl h
theorem wm_ok_new {D : va_G} {aC : wm_Y} {b0 : Nat} {h : wm_H} {H H' : Heap} {t n : Nat} (O : wm_ok D aC b0 h H) (n1 : t ≠ 1) (z : H'.size = H.size + 1) (oq : ∀ a, a < H.size → H'[a]? = H[a]?)
    (hn : wm_at D aC (wm_nw h t n) H' h.2.2.2.2.2) : wm_ok D aC b0 (wm_nw h t n) H' := by
  obtain ⟨o1, o2, o3, o4, o5⟩ := O
  refine ⟨by rw [z, o1]; rfl, by omega, fun a ha => ?_, fun a => ?_, fun a ha => ?_⟩
  · by_cases e : a = h.2.2.2.2.2
    · exact ⟨fun _ => by omega, by omega⟩
    · have h1 : (wm_nw h t n).1 a = h.1 a := by simp [wm_nw, e]
      rw [h1] at ha ⊢
      have := o3 a ha
      exact ⟨this.1, by omega⟩
  · by_cases e : a = h.2.2.2.2.2
    · rw [e]; exact hn
    · by_cases l : a < H.size
      · exact wm_at_kept (o4 a) (oq a l) (by simp [wm_nw, e]) (by simp [wm_nw, e]) fun ty t k => wm_nw_rd e
      · have h0 : h.1 a = 0 := by
          rcases Nat.eq_zero_or_pos (h.1 a) with q | q
          · exact q
          · exact absurd (o3 a (by omega)).2 l
        have h1 : (wm_nw h t n).1 a = 0 := by simp [wm_nw, e, h0]
        unfold wm_at
        rw [h1, wm_tags_0]
        intro _
        trivial
  · have e : a ≠ h.2.2.2.2.2 := by
      intro e
      have : (wm_nw h t n).1 a = t := by simp [wm_nw, e]
      exact n1 (this.symm.trans ha)
    have h1 : (wm_nw h t n).1 a = h.1 a := by simp [wm_nw, e]
    rw [h1] at ha
    have := o5 a ha
    refine ⟨this.1, by simpa [wm_nw, e] using this.2.1, fun k => ?_⟩
    rw [← this.2.2 k]
    simp [wm_nw, e]
/-- more cells that nobody knows -/
def wm_sz (h : wm_H) (n : Nat) : wm_H := (h.1, h.2.1, h.2.2.1, h.2.2.2.1, h.2.2.2.2.1, n)
theorem wm_ok_sz {D : va_G} {aC : wm_Y} {b0 : Nat} {h : wm_H} {H H' : Heap} (O : wm_ok D aC b0 h H) (z : H.size ≤ H'.size) (oq : ∀ a, a < H.size → H'[a]? = H[a]?) : wm_ok D aC b0 (wm_sz h H'.size) H' := by
  obtain ⟨o1, o2, o3, o4, o5⟩ := O
  refine ⟨rfl, by omega, fun a ha => ⟨(o3 a ha).1, by have := (o3 a ha).2; omega⟩, fun a => ?_, o5⟩
  by_cases l : a < H.size
  · exact wm_at_kept (o4 a) (oq a l) rfl rfl fun ty t k => rfl
  · have h0 : h.1 a = 0 := by
      rcases Nat.eq_zero_or_pos (h.1 a) with q | q
      · exact q
      · exact absurd (o3 a (by omega)).2 l
    have h1 : (wm_sz h H'.size).1 a = 0 := h0
    unfold wm_at
    rw [h1, wm_tags_0]
    intro _
    trivial
end
section
/-! THE ABSTRACT MACHINE, 2: locals by their places -/
abbrev wm_L : Type := List (Option wm_V)
def wm_lk : wm_L → Nat → Option wm_V
  | [], _ => none
  | x :: _, 0 => x
  | _ :: r, k + 1 => wm_lk r k
def wm_nl (x : Option wm_V) : Option wm_V := match x with
  | some (.inr (.inl _)) => none
  | y => y
def wm_s1 : wm_L → Nat → wm_V → wm_L
  | [], _, _ => []
  | _ :: r, 0, v => some v :: r
  | x :: r, 1, v => wm_nl x :: wm_s1 r 0 v
  | x :: r, k + 2, v => x :: wm_s1 r (k + 1) v
def wm_s2 : wm_L → Nat → wm_V → wm_L
  | [], _, _ => []
  | _ :: [], 0, _ => [none]
  | _ :: _ :: r, 0, v => some v :: none :: r
  | x :: r, 1, v => wm_nl x :: wm_s2 r 0 v
  | x :: r, k + 2, v => x :: wm_s2 r (k + 1) v
def wm_lo (ls : Array Slot) (nL : Nat) (lv : wm_L) : Prop := lv.length = nL ∧ ls.size = nL ∧ lv_wf ls ∧ ∀ k v, wm_lk lv k = some v → ls[k]? = some (.val (wm_tv v))
theorem wm_lk_lt : ∀ (lv : wm_L) (k : Nat) (v : wm_V), wm_lk lv k = some v → k < lv.length
  | [], k, v, h => by simp [wm_lk] at h
  | x :: r, 0, v, h => by simp
  | x :: r, k + 1, v, h => by
    have := wm_lk_lt r k v h
    simp only [List.length_cons]
    omega
theorem wm_nl_e {x : Option wm_V} {v : wm_V} (h : wm_nl x = some v) : x = some v ∧ wm_cat v = 1 := by
  rcases x with _ | (x | x | x) <;> simp [wm_nl] at h <;> subst h <;> simp [wm_cat]
theorem wm_s1_len : ∀ (lv : wm_L) (i : Nat) (v : wm_V), (wm_s1 lv i v).length = lv.length
  | [], i, v => by simp [wm_s1]
  | x :: r, 0, v => by simp [wm_s1]
  | x :: r, 1, v => by simp [wm_s1, wm_s1_len r 0 v]
  | x :: r, k + 2, v => by simp [wm_s1, wm_s1_len r (k + 1) v]
theorem wm_s2_len : ∀ (lv : wm_L) (i : Nat) (v : wm_V), (wm_s2 lv i v).length = lv.length
  | [], i, v => by simp [wm_s2]
  | _ :: [], 0, v => by simp [wm_s2]
  | _ :: _ :: r, 0, v => by simp [wm_s2]
  | x :: r, 1, v => by simp [wm_s2, wm_s2_len r 0 v]
  | x :: r, k + 2, v => by simp [wm_s2, wm_s2_len r (k + 1) v]
theorem wm_s1_get : ∀ (lv : wm_L) (i : Nat) (v : wm_V) (k : Nat) (w : wm_V), wm_lk (wm_s1 lv i v) k = some w → (k = i ∧ w = v) ∨ (k ≠ i ∧ wm_lk lv k = some w ∧ ¬ (k + 1 = i ∧ wm_cat w = 2))
  | [], i, v, k, w, h => by simp [wm_s1, wm_lk] at h
  | x :: r, 0, v, 0, w, h => by simp [wm_s1, wm_lk] at h; exact Or.inl ⟨rfl, h.symm⟩
  | x :: r, 0, v, k + 1, w, h => by simp only [wm_s1, wm_lk] at h; exact Or.inr ⟨by omega, h, by omega⟩
  | x :: r, 1, v, 0, w, h => by
    simp only [wm_s1, wm_lk] at h
    obtain ⟨h1, h2⟩ := wm_nl_e h
    exact Or.inr ⟨by omega, h1, by omega⟩
  | x :: r, 1, v, k + 1, w, h => by
    simp only [wm_s1, wm_lk] at h
    rcases wm_s1_get r 0 v k w h with ⟨h1, h2⟩ | ⟨h1, h2, h3⟩
    · exact Or.inl ⟨by omega, h2⟩
    · exact Or.inr ⟨by omega, h2, by omega⟩
  | x :: r, i + 2, v, 0, w, h => by
    simp only [wm_s1, wm_lk] at h
    exact Or.inr ⟨by omega, h, by omega⟩
  | x :: r, i + 2, v, k + 1, w, h => by
    simp only [wm_s1, wm_lk] at h
    rcases wm_s1_get r (i + 1) v k w h with ⟨h1, h2⟩ | ⟨h1, h2, h3⟩
    · exact Or.inl ⟨by omega, h2⟩
    · exact Or.inr ⟨by omega, h2, by omega⟩
theorem wm_s2_get : ∀ (lv : wm_L) (i : Nat) (v : wm_V) (k : Nat) (w : wm_V), wm_lk (wm_s2 lv i v) k = some w → (k = i ∧ w = v) ∨ (k ≠ i ∧ k ≠ i + 1 ∧ wm_lk lv k = some w ∧ ¬ (k + 1 = i ∧ wm_cat w = 2))
  | [], i, v, k, w, h => by simp [wm_s2, wm_lk] at h
  | x :: [], 0, v, 0, w, h => by simp [wm_s2, wm_lk] at h
  | x :: [], 0, v, k + 1, w, h => by simp [wm_s2, wm_lk] at h
  | x :: y :: r, 0, v, 0, w, h => by simp [wm_s2, wm_lk] at h; exact Or.inl ⟨rfl, h.symm⟩
  | x :: y :: r, 0, v, 1, w, h => by simp [wm_s2, wm_lk] at h
  | x :: y :: r, 0, v, k + 2, w, h => by simp only [wm_s2, wm_lk] at h; exact Or.inr ⟨by omega, by omega, h, by omega⟩
  | x :: r, 1, v, 0, w, h => by
    simp only [wm_s2, wm_lk] at h
    obtain ⟨h1, h2⟩ := wm_nl_e h
    exact Or.inr ⟨by omega, by omega, h1, by omega⟩
  | x :: r, 1, v, k + 1, w, h => by
    simp only [wm_s2, wm_lk] at h
    rcases wm_s2_get r 0 v k w h with ⟨h1, h2⟩ | ⟨h1, h1', h2, h3⟩
    · exact Or.inl ⟨by omega, h2⟩
    · exact Or.inr ⟨by omega, by omega, h2, by omega⟩
  | x :: r, i + 2, v, 0, w, h => by
    simp only [wm_s2, wm_lk] at h
    exact Or.inr ⟨by omega, by omega, h, by omega⟩
  | x :: r, i + 2, v, k + 1, w, h => by
    simp only [wm_s2, wm_lk] at h
    rcases wm_s2_get r (i + 1) v k w h with ⟨h1, h2⟩ | ⟨h1, h1', h2, h3⟩
    · exact Or.inl ⟨by omega, h2⟩
    · exact Or.inr ⟨by omega, by omega, h2, by omega⟩
/-- the held places, as a list -/
def wm_pl (lv : wm_L) : List (Nat × Value) := (List.range lv.length).filterMap fun k => (wm_lk lv k).map fun v => (k, wm_tv v)
theorem wm_pl_in {lv : wm_L} {k : Nat} {v : wm_V} (h : wm_lk lv k = some v) : (k, wm_tv v) ∈ wm_pl lv := by
  refine List.mem_filterMap.mpr ⟨k, List.mem_range.mpr (wm_lk_lt lv k v h), ?_⟩
  rw [h]; rfl
theorem wm_pl_of {lv : wm_L} {q : Nat × Value} (h : q ∈ wm_pl lv) : ∃ v, wm_lk lv q.1 = some v ∧ q.2 = wm_tv v := by
  obtain ⟨k, -, h2⟩ := List.mem_filterMap.mp h
  cases e : wm_lk lv k with
  | none => rw [e] at h2; cases h2
  | some v =>
    rw [e] at h2
    cases h2
    exact ⟨v, e, rfl⟩
theorem wm_lo_has {ls : Array Slot} {nL : Nat} {lv : wm_L} (h : wm_lo ls nL lv) : lv_has ls nL (wm_pl lv) := by
  refine ⟨h.2.1, h.2.2.1, fun q hq => ?_⟩
  obtain ⟨v, h1, h2⟩ := wm_pl_of hq
  rw [h2]
  exact h.2.2.2 _ _ h1
theorem wm_lo_s1 {ls ls' : Array Slot} {nL i : Nat} {lv : wm_L} {v : wm_V} (h : wm_lo ls nL lv) (h' : lv_has ls' nL ((i, wm_tv v) :: (wm_pl lv).filter (fun q => !(q.1 == i) && !(q.1 + 1 == i && q.2.category == 2)))) : wm_lo ls' nL (wm_s1 lv i v) := by
  refine ⟨by rw [wm_s1_len]; exact h.1, h'.1, h'.2.1, fun k w hk => ?_⟩
  rcases wm_s1_get lv i v k w hk with ⟨e1, e2⟩ | ⟨e1, e2, e3⟩
  · subst e1; subst e2
    exact h'.2.2 (k, wm_tv w) List.mem_cons_self
  · refine h'.2.2 (k, wm_tv w) (List.mem_cons_of_mem _ (List.mem_filter.mpr ⟨wm_pl_in e2, ?_⟩))
    simp only [wm_cat_tv]
    simp only [Bool.and_eq_true, Bool.not_eq_true', beq_eq_false_iff_ne, Bool.and_eq_false_iff]
    refine ⟨e1, ?_⟩
    by_cases a : k + 1 = i
    · exact Or.inr fun z => e3 ⟨a, z⟩
    · exact Or.inl a
theorem wm_lo_s2 {ls ls' : Array Slot} {nL i : Nat} {lv : wm_L} {v : wm_V} (h : wm_lo ls nL lv) (h' : lv_has ls' nL ((i, wm_tv v) :: (wm_pl lv).filter (fun q => !(q.1 == i) && (!(q.1 == i + 1) && !(q.1 + 1 == i && q.2.category == 2))))) : wm_lo ls' nL (wm_s2 lv i v) := by
  refine ⟨by rw [wm_s2_len]; exact h.1, h'.1, h'.2.1, fun k w hk => ?_⟩
  rcases wm_s2_get lv i v k w hk with ⟨e1, e2⟩ | ⟨e1, e1', e2, e3⟩
  · subst e1; subst e2
    exact h'.2.2 (k, wm_tv w) List.mem_cons_self
  · refine h'.2.2 (k, wm_tv w) (List.mem_cons_of_mem _ (List.mem_filter.mpr ⟨wm_pl_in e2, ?_⟩))
    simp only [wm_cat_tv]
    simp only [Bool.and_eq_true, Bool.not_eq_true', beq_eq_false_iff_ne, Bool.and_eq_false_iff]
    refine ⟨e1, e1', ?_⟩
    by_cases a : k + 1 = i
    · exact Or.inr fun z => e3 ⟨a, z⟩
    · exact Or.inl a
/-- the locals with which a method begins -/
def wm_en : List wm_V → Nat → wm_L
  | [], n => List.replicate n none
  | v :: r, n => if wm_cat v = 2 then some v :: none :: wm_en r (n - 2) else some v :: wm_en r (n - 1)
def wm_ws (vs : List wm_V) : Nat := (vs.map wm_cat).sum
theorem wm_lk_rep (n k : Nat) : wm_lk (List.replicate n none) k = none := by
  induction n generalizing k with
  | zero => simp [wm_lk]
  | succ n ih => cases k with
    | zero => simp [List.replicate_succ, wm_lk]
    | succ k => simp [List.replicate_succ, wm_lk, ih]
theorem wm_en_len : ∀ (vs : List wm_V) (n : Nat), wm_ws vs ≤ n → (wm_en vs n).length = n
  | [], n, h => by simp [wm_en]
  | v :: r, n, h => by
    have hs : wm_ws (v :: r) = wm_cat v + wm_ws r := by simp [wm_ws]
    by_cases c : wm_cat v = 2
    · have := wm_en_len r (n - 2) (by omega)
      simp [wm_en, c, this]
      omega
    · have c1 : wm_cat v = 1 := by rcases v with x | x | x <;> simp [wm_cat] at c ⊢
      have := wm_en_len r (n - 1) (by omega)
      simp [wm_en, c, this]
      omega
theorem wm_en_in : ∀ (vs : List wm_V) (n i k : Nat) (v : wm_V), wm_lk (wm_en vs n) k = some v → (i + k, wm_tv v) ∈ lv_args i (vs.map wm_tv)
  | [], n, i, k, v, h => by simp [wm_en, wm_lk_rep] at h
  | w :: r, n, i, k, v, h => by
    simp only [List.map_cons, lv_args, wm_cat_tv]
    by_cases c : wm_cat w = 2
    · simp only [wm_en, c, if_true] at h ⊢
      match k, h with
      | 0, h => simp only [wm_lk, Option.some.injEq] at h; subst h; exact List.mem_cons_self
      | 1, h => simp [wm_lk] at h
      | k + 2, h =>
        simp only [wm_lk] at h
        have := wm_en_in r (n - 2) (i + 2) k v h
        rw [show i + (k + 2) = i + 2 + k by omega]
        exact List.mem_cons_of_mem _ this
    · simp only [wm_en, c, if_false] at h ⊢
      match k, h with
      | 0, h => simp only [wm_lk, Option.some.injEq] at h; subst h; exact List.mem_cons_self
      | k + 1, h =>
        simp only [wm_lk] at h
        have := wm_en_in r (n - 1) (i + 1) k v h
        rw [show i + (k + 1) = i + 1 + k by omega]
        exact List.mem_cons_of_mem _ this
theorem wm_sl_len (vs : List wm_V) : (lg_sl (vs.map wm_tv)).length = wm_ws vs := by
  induction vs with
  | nil => rfl
  | cons v r ih =>
    have hs : wm_ws (v :: r) = wm_cat v + wm_ws r := by simp [wm_ws]
    simp only [List.map_cons, lg_sl, List.flatMap_cons, List.length_append] at ih ⊢
    rw [ih, hs, wm_cat_tv]
    rcases v with x | x | x <;> simp [wm_cat]
theorem wm_lo_en {vs : List wm_V} {n : Nat} (h : wm_ws vs ≤ n) : wm_lo ((lg_sl (vs.map wm_tv) ++ List.replicate (n - (lg_sl (vs.map wm_tv)).length) Slot.unset).toArray) n (wm_en vs n) := by
  have hl := lv_entry (vs.map wm_tv) (n := n) (by rw [wm_sl_len]; exact h)
  refine ⟨wm_en_len vs n h, hl.1, hl.2.1, fun k v hk => ?_⟩
  have := wm_en_in vs n 0 k v hk
  rw [Nat.zero_add] at this
  exact hl.2.2 _ this
end
section
/-! THE ABSTRACT MACHINE, 3: contracts whose method may return or throw; a call under such a contract -/
def wm_FE (first t : State) (L : List Loc) (k n : Nat) : Prop := first.WarmedH t.vm ∧ first.sameButNew ({ t with vm := first.vm } : State) L k n
def wm_MQ (below : List Frame) (Qc : Array Value → State → Outcome → State → Prop) (a : Array Value) (s : State) (mc ms : Nat) (free : Addr → Prop) : State → Prop := fun t =>
  ∃ o, t.status = .running ∧ Ended t below o ∧ Qc a s o t ∧ ∃ L, wm_FE s t L mc ms ∧ ∀ q ∈ L, free q.base
def wm_Met (l : Launch) (y : MethodName) (ws : List Cond) (rm : Room) (Pc : Array Value → State → Prop) (Qc : Array Value → State → Outcome → State → Prop) (mc ms : Nat) (free : Addr → Prop) : Prop :=
  MetFree l y (headSpec ws rm) Pc (fun _ _ _ _ _ => True) (fun a st o t => Qc a st o t ∧ ∃ L, wm_FE st t L mc ms ∧ ∀ q ∈ L, free q.base)
theorem wm_mono {p : Program} {l : Launch} {e : Env} {R : Room} {s : State} {m : MethodId} {args : Array Value} {below : List Frame} {meth : Method} {c : Code} {H : Heap} {locs : List Loc} {cells slots : Nat} {Q Q' : State → Prop} {g : JFrame} (h : ∀ t, Q t → Q' t) (w : W p l e R s m args below meth c H locs cells slots Q g) : W p l e R s m args below meth c H locs cells slots Q' g := by
  intro T hT X
  obtain ⟨t, a, b⟩ := w T hT X
  exact ⟨t, a, h t b⟩
theorem wm_MQ_of {below : List Frame} {Qc : Array Value → State → Outcome → State → Prop} {a : Array Value} {s : State} {mc ms : Nat} {free : Addr → Prop} : ∀ t, MQ below Qc a s mc ms free t → wm_MQ below Qc a s mc ms free t := by
  rintro t ⟨o, h1, h2, h3, L, ⟨-, h4, h5⟩, h6⟩
  exact ⟨o, h1, h2, h3, L, ⟨h4, h5⟩, h6⟩
theorem wm_ofW {l : Launch} {y : MethodName} {ws ws' : List Cond} {rm : Room} {Pc : Array Value → State → Prop} {Qc : Array Value → State → Outcome → State → Prop} {mc ms : Nat} {free : Addr → Prop} {cc : ByteArray} {maxL : Nat} {ret : Option FieldType}
    (hy : plainName y.cls = true) (hw : ws = Cond.code y cc maxL ret :: ws')
    (body : ∀ p e s m args below meth c s₁, BodyLoose p l y (headSpec ws rm) cc maxL ret e s m args below meth c s₁ → c.maxLocals = maxL → Pc args s →
      W p l e (headSpec ws rm).room s m args below meth c s.heap [] 0 0 (wm_MQ below Qc args s mc ms free) (entryFrame m args maxL)) : wm_Met l y ws rm Pc Qc mc ms free := by
  refine MetFree.of_bodyS (code := cc) (maxLocals := maxL) (ret := ret) hy ?_ ?_
  · intro args s m h hn
    obtain ⟨meth, c, h1, h2, h3, h4, h5, h6, -, -⟩ := Cond.code_spec hn (atoms_spec (ws := ws) h _ (by rw [hw]; exact List.mem_cons_self))
    exact ⟨meth, c, h1, h2, h3, h4, h5, h6⟩
  · intro p e s m args below meth c s₁ B hml hP _
    have hh0 : s₁.heap = s.heap := by rw [B.state]; rfl
    obtain ⟨t, a1, o, b1, b2, b3⟩ := body p e s m args below meth c s₁ B hml hP s₁ hh0 (Stand.of_body B)
    exact ⟨t, o, a1, b1, b2, ⟨b3.1, b3.2⟩⟩
theorem wm_top_heap (T : State) (g : JFrame) : (T.setTop g).heap = T.heap := by
  simp [State.setTop, State.modifyTopJava, State.setFrames]
theorem wm_top_vm (T : State) (g : JFrame) : (T.setTop g).vm = T.vm := by
  simp [State.setTop, State.modifyTopJava, State.setFrames]
section WMB
variable {p : Program} {l : Launch} {e : Env} {R : Room} {s : State} {m : MethodId} {args : Array Value} {below : List Frame} {meth : Method} {c : Code} {locs : List Loc} {cells slots : Nat}
/-- the method is entered: it comes back, or it throws -/
theorem wm_into {T : State} (X : Stand p l e R s m args below meth c T locs cells slots) {y : MethodName} {ws : List Cond} {rm : Room} {Pc : Array Value → State → Prop} {Qc : Array Value → State → Outcome → State → Prop} {mc ms : Nat} {free : Addr → Prop} {maxL : Nat} {mk : MethodId}
    (hM : wm_Met l y ws rm Pc Qc mc ms free) (hblind : FrameBlind Pc) (hrc : rm.cells = mc) (hrs : rm.slots = ms) (hframes : rm.frames + 1 ≤ R.frames) (hlocals : 8 + (maxL + 11) + rm.locals ≤ R.locals)
    (hws : ∀ w ∈ ws, ∀ a' U, s.WarmedH U.vm → w.before a' U = true) (hcode : ∃ methY cY, T.vm.method? mk = some methY ∧ methY.code = some cY ∧ cY.maxLocals = maxL) (hinit : (Cond.initialized y.cls).before args s = true)
    {g : JFrame} (hg : g.method = m) (hsize : g.locals.size = c.maxLocals) {ig : Instr} {len : Nat} (hdg : decode c.code g.pc = .ok (ig, len)) (hW : 2 * g.monitorRoom + (g.stack.map fun v => v.category).sum ≤ 8)
    (hn : s.methodNamed? y = some mk) {a : Array Value} (hcells : cells + mc ≤ R.cells) (hslots : slots + ms ≤ R.slots) (hp : Pc a T) :
    (∃ (v : Option Value) (st t T' : State) (L : List Loc), st.heap = T.heap ∧ st.vm = T.vm ∧ T'.heap = t.heap ∧ T'.vm = t.vm ∧ Qc a st (.returned v) t ∧ (∀ q ∈ L, free q.base) ∧ Stand p l e R s m args below meth c T' (locs ++ L) (cells + mc) (slots + ms) ∧
        Steps p.tables e below (doInvoke e (T.setTop g) [] mk a).1 (T'.setTop { g with pc := g.pc + len, stack := v.toList ++ g.stack })) ∨
    (∃ (x : Addr) (st t T' : State) (L : List Loc), st.heap = T.heap ∧ st.vm = T.vm ∧ T'.heap = t.heap ∧ T'.vm = t.vm ∧ Qc a st (.threw x) t ∧ (∀ q ∈ L, free q.base) ∧ Stand p l e R s m args below meth c T' (locs ++ L) (cells + mc) (slots + ms) ∧
        Steps p.tables e below (doInvoke e (T.setTop g) [] mk a).1 ((T'.setTop g).pushFrame (.throwing x))) := by
  have hn' : T.methodNamed? y = some mk := X.named hn
  have h1 : (headSpec ws rm).pre.before a T = true := atoms_intro fun w hw => hws w hw _ _ X.warmed
  have h3 : (Cond.initialized y.cls).before a T = true := word_at X.warmed (Or.inl (by first | rfl | simp [Cond.onTables, Cond.keeps, Cond.steady])) hinit
  obtain ⟨methY, cY, hmY, hcY, hlY⟩ := hcode
  obtain ⟨kY, hkY, -⟩ := className_of_methodNamed hn'
  have hinitY : kY.init = .initialized := Cond.initialized_spec (findClass_of_methodNamed hn') hkY h3
  have h : At T g.method c below := by rw [hg]; exact X.here
  have happ : (headSpec ws rm).appliesLoose y e.platform (T.calling g mk a) = true :=
    Spec.appliesLoose_calling (g := g) h hdg hn' hkY hinitY
      (X.room_calling (g := g) (R' := rm) hsize hmY hcY hframes (by rw [hlY]; omega) (by rw [hrc]; exact hcells) (by rw [hrs]; exact hslots)) h1
  obtain ⟨mid, hmid⟩ := h.above
  have hfr : (T.setTop g).frames = (.java g :: mid) ++ below := by rw [State.frames_setTop' g h.top, hmid]; rfl
  obtain ⟨o, s₂, hsteps, -, hend, hq, L, ⟨hW₂, hsame⟩, hL⟩ := Steps.callFree hM p X.admits X.cas X.clock (acts := []) hfr happ (hblind a T g mk hp) trivial
  have hend' : Ended s₂ (.java g :: below) o := by rw [State.frames_setTop' g h.top, X.tail] at hend; exact hend
  cases o with
  | returned v =>
    obtain ⟨T', X', hW', hB, ht⟩ := X.outOf hg hdg hend' hW₂ hsame
    refine Or.inl ⟨v, T.calling g mk a, s₂, T', L, rfl, rfl, ?_, ?_, hq, hL, X', by rw [← ht]; exact hsteps⟩
    · rw [ht, wm_top_heap]
    · rw [ht, wm_top_vm]
  | threw x =>
    obtain ⟨T', X', hW', hB, ht⟩ := X.outOfThrown hg hend' hW₂ hsame
    refine Or.inr ⟨x, T.calling g mk a, s₂, T', L, rfl, rfl, ?_, ?_, hq, hL, X', by rw [← ht]; exact hsteps⟩
    · rw [ht, Stand.throwing_heap]
    · rw [ht, Stand.throwing_vm]
/-- the invoking instruction, up to the method's entry -/
def wm_Inv (p : Program) (l : Launch) (e : Env) (R : Room) (s : State) (m : MethodId) (args : Array Value) (below : List Frame) (meth : Method) (c : Code) (locs : List Loc) (cells slots : Nat) (T : State) (g : JFrame) (rest : List Value) (y : MethodName) (a : Array Value) : Prop :=
  ∃ (vm₁ : Vm) (mk : MethodId), Stand p l e R s m args below meth c (T.setVm vm₁) locs cells slots ∧ s.methodNamed? y = some mk ∧
    ∀ target, (∀ acts, Steps p.tables e below (doInvoke e ((T.setVm vm₁).setTop { g with stack := rest }) acts mk a).1 target) → Steps p.tables e below (T.setTop g) target
theorem wm_invV {T : State} (X : Stand p l e R s m args below meth c T locs cells slots) (hexec : p.tables.exec = Jvm.exec) {own C : String} {index : Nat} {y : MethodName} {bytes : ByteArray} {maxL : Nat} {ret : Option FieldType}
    (hown : s.vm.findClass own = some m.cls) (hlink : (Cond.methodLink own index y).before args s = true) (hinst : (Cond.instanceMethod y).before args s = true) (hsel : (Cond.selects C y y).before args s = true)
    (hcode : (Cond.code y bytes maxL ret).before args s = true) (hy : y.cls ≠ "java/lang/invoke/MethodHandle" ∧ y.cls ≠ "java/lang/invoke/VarHandle")
    {b : Addr} {cellB : Cell} (hcell : T.heap[b]? = some cellB) (hobj : cellB.vm.isStatics = false) (hcls : s.vm.findClass C = some cellB.cls)
    {g : JFrame} (hg : g.method = m) {argsL rest : List Value} (hlen : ∀ sig, parseMethodDescriptor y.desc = some sig → argsL.length = sig.parameters.length)
    (hstack : g.stack = argsL.reverse ++ .ref b :: rest) (hdg : decode c.code g.pc = .ok (.invokevirtual index, 3)) : wm_Inv p l e R s m args below meth c locs cells slots T g rest y (Value.ref b :: argsL).toArray := by
  obtain ⟨mk, methM, hnamed, hmethM, hstM, habM⟩ := Cond.instanceMethod_spec hinst
  obtain ⟨methM', cM, hmethM', -, -, -, -, -, -, hsigM⟩ := Cond.code_spec hnamed hcode
  cases hmethM.symm.trans hmethM'
  obtain ⟨c2, r2, m2, q1, q2, q3, q4, kP, hkP, hkPi⟩ := Cond.selects_spec hsel
  cases hcls.symm.trans q1
  cases (State.methodFound?_of_named hnamed hy).symm.trans q2
  cases hnamed.symm.trans q3
  have hselP : selectMethod e.platform s.vm cellB.cls mk = .method mk := by rw [Launch.admits_selectMethod X.admits]; exact q4
  obtain ⟨vm₁, X₁, hstep₁⟩ := X.invokevirtual hexec hown hlink hnamed hmethM hstM hkP hkPi hy (a := b) (cell := cellB) hcell
    (fun z h => by rw [h] at hobj; cases hobj) hselP hmethM habM hkP hkPi (g := g) hg (argsL := argsL) (rest := rest) (hlen _ hsigM) hstack hdg
  exact ⟨vm₁, mk, X₁, hnamed, hstep₁⟩
theorem wm_invVN {T : State} (X : Stand p l e R s m args below meth c T locs cells slots) (hexec : p.tables.exec = Jvm.exec) {own C host : String} {index : Nat} {y : MethodName} {bytes : ByteArray} {maxL : Nat} {ret : Option FieldType}
    (hown : s.vm.findClass own = some m.cls) (hlink : (Cond.methodLinkNest own index y host).before args s = true) (hinst : (Cond.instanceMethod y).before args s = true) (hsel : (Cond.selects C y y).before args s = true)
    (hcode : (Cond.code y bytes maxL ret).before args s = true) (hy : y.cls ≠ "java/lang/invoke/MethodHandle" ∧ y.cls ≠ "java/lang/invoke/VarHandle")
    {b : Addr} {cellB : Cell} (hcell : T.heap[b]? = some cellB) (hobj : cellB.vm.isStatics = false) (hcls : s.vm.findClass C = some cellB.cls)
    {g : JFrame} (hg : g.method = m) {argsL rest : List Value} (hlen : ∀ sig, parseMethodDescriptor y.desc = some sig → argsL.length = sig.parameters.length)
    (hstack : g.stack = argsL.reverse ++ .ref b :: rest) (hdg : decode c.code g.pc = .ok (.invokevirtual index, 3)) : wm_Inv p l e R s m args below meth c locs cells slots T g rest y (Value.ref b :: argsL).toArray := by
  obtain ⟨mk, methM, hnamed, hmethM, hstM, habM⟩ := Cond.instanceMethod_spec hinst
  obtain ⟨methM', cM, hmethM', -, -, -, -, -, -, hsigM⟩ := Cond.code_spec hnamed hcode
  cases hmethM.symm.trans hmethM'
  obtain ⟨c2, r2, m2, q1, q2, q3, q4, kP, hkP, hkPi⟩ := Cond.selects_spec hsel
  cases hcls.symm.trans q1
  cases (State.methodFound?_of_named hnamed hy).symm.trans q2
  cases hnamed.symm.trans q3
  have hselP : selectMethod e.platform s.vm cellB.cls mk = .method mk := by rw [Launch.admits_selectMethod X.admits]; exact q4
  obtain ⟨vm₁, X₁, hstep₁⟩ := X.invokevirtualNest hexec hown hlink hnamed hmethM hstM hkP hkPi hy (a := b) (cell := cellB) hcell
    (fun z h => by rw [h] at hobj; cases hobj) hselP hmethM habM hkP hkPi (g := g) hg (argsL := argsL) (rest := rest) (hlen _ hsigM) hstack hdg
  exact ⟨vm₁, mk, X₁, hnamed, hstep₁⟩
theorem wm_invS {T : State} (X : Stand p l e R s m args below meth c T locs cells slots) (hexec : p.tables.exec = Jvm.exec) {own : String} {index : Nat} {y : MethodName} {bytes : ByteArray} {maxL : Nat} {ret : Option FieldType}
    (hown : s.vm.findClass own = some m.cls) (hlink : (Cond.methodLink own index y).before args s = true) (hstat : (Cond.static y).before args s = true) (hinit : (Cond.initialized y.cls).before args s = true)
    (hcode : (Cond.code y bytes maxL ret).before args s = true) (hy : y.cls ≠ "java/lang/invoke/MethodHandle" ∧ y.cls ≠ "java/lang/invoke/VarHandle")
    {g : JFrame} (hg : g.method = m) {argsL rest : List Value} (hlen : ∀ sig, parseMethodDescriptor y.desc = some sig → argsL.length = sig.parameters.length)
    (hstack : g.stack = argsL.reverse ++ rest) (hdg : decode c.code g.pc = .ok (.invokestatic index, 3)) : wm_Inv p l e R s m args below meth c locs cells slots T g rest y argsL.toArray := by
  obtain ⟨mk, hnamed⟩ := Cond.code_named hcode
  obtain ⟨methM, cM, hmethM, -, -, -, -, -, -, hsigM⟩ := Cond.code_spec hnamed hcode
  have hstatic : methM.isStatic = true := Cond.static_spec hnamed hmethM hstat
  obtain ⟨kP, hkP, -⟩ := className_of_methodNamed hnamed
  have hinitP : kP.init = .initialized := Cond.initialized_spec (findClass_of_methodNamed hnamed) hkP hinit
  obtain ⟨vm₁, X₁, hstep₁⟩ := X.invokestatic hexec hown hlink hnamed hmethM hstatic hkP hinitP hy (g := g) hg (argsL := argsL) (rest := rest) (hlen _ hsigM) hstack hdg
  exact ⟨vm₁, mk, X₁, hnamed, hstep₁⟩
theorem wm_invSN {T : State} (X : Stand p l e R s m args below meth c T locs cells slots) (hexec : p.tables.exec = Jvm.exec) {own host : String} {index : Nat} {y : MethodName} {bytes : ByteArray} {maxL : Nat} {ret : Option FieldType}
    (hown : s.vm.findClass own = some m.cls) (hlink : (Cond.methodLinkNest own index y host).before args s = true) (hstat : (Cond.static y).before args s = true) (hinit : (Cond.initialized y.cls).before args s = true)
    (hcode : (Cond.code y bytes maxL ret).before args s = true) (hy : y.cls ≠ "java/lang/invoke/MethodHandle" ∧ y.cls ≠ "java/lang/invoke/VarHandle")
    {g : JFrame} (hg : g.method = m) {argsL rest : List Value} (hlen : ∀ sig, parseMethodDescriptor y.desc = some sig → argsL.length = sig.parameters.length)
    (hstack : g.stack = argsL.reverse ++ rest) (hdg : decode c.code g.pc = .ok (.invokestatic index, 3)) : wm_Inv p l e R s m args below meth c locs cells slots T g rest y argsL.toArray := by
  obtain ⟨mk, hnamed⟩ := Cond.code_named hcode
  obtain ⟨methM, cM, hmethM, -, -, -, -, -, -, hsigM⟩ := Cond.code_spec hnamed hcode
  have hstatic : methM.isStatic = true := Cond.static_spec hnamed hmethM hstat
  obtain ⟨kP, hkP, -⟩ := className_of_methodNamed hnamed
  have hinitP : kP.init = .initialized := Cond.initialized_spec (findClass_of_methodNamed hnamed) hkP hinit
  obtain ⟨vm₁, X₁, hstep₁⟩ := X.invokestaticNest hexec hown hlink hnamed hmethM hstatic hkP hinitP hy (g := g) hg (argsL := argsL) (rest := rest) (hlen _ hsigM) hstack hdg
  exact ⟨vm₁, mk, X₁, hnamed, hstep₁⟩
theorem wm_invI {T : State} (X : Stand p l e R s m args below meth c T locs cells slots) (hexec : p.tables.exec = Jvm.exec) {own : String} {index : Nat} {y : MethodName} {bytes : ByteArray} {maxL : Nat}
    (hown : s.vm.findClass own = some m.cls) (hy1 : y.name = "<init>") (hlink : (Cond.methodLink own index y).before args s = true) (hinst : (Cond.instanceMethod y).before args s = true)
    (hcode : (Cond.code y bytes maxL none).before args s = true) (hy : y.cls ≠ "java/lang/invoke/MethodHandle" ∧ y.cls ≠ "java/lang/invoke/VarHandle")
    {g : JFrame} (hg : g.method = m) {a : Addr} {argsL rest : List Value} (hlen : ∀ sig, parseMethodDescriptor y.desc = some sig → argsL.length = sig.parameters.length)
    (hstack : g.stack = argsL.reverse ++ .ref a :: rest) (hdg : decode c.code g.pc = .ok (.invokespecial index, 3)) : wm_Inv p l e R s m args below meth c locs cells slots T g rest y (Value.ref a :: argsL).toArray := by
  subst hg
  have hpl : e.platform.magicAccessors = ({} : Platform).magicAccessors := by rw [X.admits.platform]
  obtain ⟨mk, methM, cM, kP, vm₁, hnamed, hmethM, hcodeM, -, hlocalsM, -, hkP, -, hW₁, hstep₁⟩ := Steps.initColdArgs (e := e) X.here hexec X.warmed hpl hown hy1 hy hlink hinst hcode (f := g) rfl hlen hstack hdg
  exact ⟨vm₁, mk, X.noted hW₁, hnamed, hstep₁⟩
theorem wm_invIN {T : State} (X : Stand p l e R s m args below meth c T locs cells slots) (hexec : p.tables.exec = Jvm.exec) {own host : String} {index : Nat} {y : MethodName} {bytes : ByteArray} {maxL : Nat}
    (hown : s.vm.findClass own = some m.cls) (hy1 : y.name = "<init>") (hlink : (Cond.methodLinkNest own index y host).before args s = true) (hinst : (Cond.instanceMethod y).before args s = true)
    (hcode : (Cond.code y bytes maxL none).before args s = true) (hy : y.cls ≠ "java/lang/invoke/MethodHandle" ∧ y.cls ≠ "java/lang/invoke/VarHandle")
    {g : JFrame} (hg : g.method = m) {a : Addr} {argsL rest : List Value} (hlen : ∀ sig, parseMethodDescriptor y.desc = some sig → argsL.length = sig.parameters.length)
    (hstack : g.stack = argsL.reverse ++ .ref a :: rest) (hdg : decode c.code g.pc = .ok (.invokespecial index, 3)) : wm_Inv p l e R s m args below meth c locs cells slots T g rest y (Value.ref a :: argsL).toArray := by
  subst hg
  have hpl : e.platform.magicAccessors = ({} : Platform).magicAccessors := by rw [X.admits.platform]
  obtain ⟨mk, methM, cM, kP, vm₁, hnamed, hmethM, hcodeM, -, hlocalsM, -, hkP, -, hW₁, hstep₁⟩ := Steps.initColdArgsNest (e := e) X.here hexec X.warmed hpl hown hy1 hy hlink hinst hcode (f := g) rfl hlen hstack hdg
  exact ⟨vm₁, mk, X.noted hW₁, hnamed, hstep₁⟩
end WMB
end
section
/-! THE ABSTRACT MACHINE, 4: what an instruction asks, backwards -/
abbrev wm_S : Type := wm_L × List wm_V × wm_H × Nat × Nat
abbrev wm_N : Type := wm_L → List wm_V → wm_H → Nat → Nat → Prop
abbrev wm_Q1 : Type := Option wm_V → wm_H → Prop
abbrev wm_Q2 : Type := Nat → wm_H → Prop
abbrev wm_X : Type := Nat → List wm_V → wm_H → wm_Q1 → wm_Q2 → Prop
def wm_pi (st : List wm_V) (f : Int32 → List wm_V → Prop) : Prop := match st with
  | .inl x :: r => f x r
  | _ => False
def wm_pj (st : List wm_V) (f : Int64 → List wm_V → Prop) : Prop := match st with
  | .inr (.inl x) :: r => f x r
  | _ => False
def wm_pr (st : List wm_V) (f : Option Nat → List wm_V → Prop) : Prop := match st with
  | .inr (.inr x) :: r => f x r
  | _ => False
/-- a value of one word -/
def wm_p1 (st : List wm_V) (f : wm_V → List wm_V → Prop) : Prop := match st with
  | .inl x :: r => f (.inl x) r
  | .inr (.inr x) :: r => f (.inr (.inr x)) r
  | _ => False
theorem wm_pi_e {st : List wm_V} {f : Int32 → List wm_V → Prop} (h : wm_pi st f) : ∃ x r, st = .inl x :: r ∧ f x r := by
  unfold wm_pi at h
  split at h
  · exact ⟨_, _, rfl, h⟩
  · exact h.elim
theorem wm_pj_e {st : List wm_V} {f : Int64 → List wm_V → Prop} (h : wm_pj st f) : ∃ x r, st = .inr (.inl x) :: r ∧ f x r := by
  unfold wm_pj at h
  split at h
  · exact ⟨_, _, rfl, h⟩
  · exact h.elim
theorem wm_pr_e {st : List wm_V} {f : Option Nat → List wm_V → Prop} (h : wm_pr st f) : ∃ x r, st = .inr (.inr x) :: r ∧ f x r := by
  unfold wm_pr at h
  split at h
  · exact ⟨_, _, rfl, h⟩
  · exact h.elim
theorem wm_p1_e {st : List wm_V} {f : wm_V → List wm_V → Prop} (h : wm_p1 st f) : ∃ v r, st = v :: r ∧ (wm_tv v).category = 1 ∧ f v r := by
  unfold wm_p1 at h
  split at h
  · exact ⟨_, _, rfl, rfl, h⟩
  · exact ⟨_, _, rfl, wm_cat_tv _, h⟩
  · exact h.elim
def wm_gi (o : Option wm_V) (f : Int32 → Prop) : Prop := match o with
  | some (.inl x) => f x
  | _ => False
def wm_gj (o : Option wm_V) (f : Int64 → Prop) : Prop := match o with
  | some (.inr (.inl x)) => f x
  | _ => False
def wm_gr (o : Option wm_V) (f : Option Nat → Prop) : Prop := match o with
  | some (.inr (.inr x)) => f x
  | _ => False
theorem wm_gi_e {o : Option wm_V} {f : Int32 → Prop} (h : wm_gi o f) : ∃ x, o = some (.inl x) ∧ f x := by
  unfold wm_gi at h
  split at h
  · exact ⟨_, rfl, h⟩
  · exact h.elim
theorem wm_gj_e {o : Option wm_V} {f : Int64 → Prop} (h : wm_gj o f) : ∃ x, o = some (.inr (.inl x)) ∧ f x := by
  unfold wm_gj at h
  split at h
  · exact ⟨_, rfl, h⟩
  · exact h.elim
theorem wm_gr_e {o : Option wm_V} {f : Option Nat → Prop} (h : wm_gr o f) : ∃ x, o = some (.inr (.inr x)) ∧ f x := by
  unfold wm_gr at h
  split at h
  · exact ⟨_, rfl, h⟩
  · exact h.elim
def wm_br (P A B : Prop) : Prop := (P → A) ∧ (¬ P → B)
def wm_ic (c : ClassFile.Cond) (x y : Int32) : Prop := match c with
  | .eq => x = y
  | .ne => ¬ x = y
  | .lt => x < y
  | .ge => y ≤ x
  | .gt => y < x
  | .le => x ≤ y
/-- the arguments, in their order, and what lies below them -/
def wm_pp (n : Nat) (st : List wm_V) (f : List wm_V → List wm_V → Prop) : Prop := n ≤ st.length ∧ f (st.take n).reverse (st.drop n)
def wm_ix (j : Int32) (n : Nat) (f : Nat → Prop) : Prop := 0 ≤ j.toInt ∧ j.toInt < n ∧ f j.toNatClampNeg
/-- one instruction; a, b, c: what the table says of it -/
def wm_1 (RC RS mc ms : Nat) (cx : wm_X) (qr : wm_Q1) (qt : wm_Q2) (nx : wm_N) (jp : Nat → wm_N) (i : Instr) (a b c : Nat) (lv : wm_L) (st : List wm_V) (h : wm_H) (cu su : Nat) : Prop := match i with
  | .iconst n => nx lv (.inl (Int32.ofInt n) :: st) h cu su
  | .bipush n => nx lv (.inl ((Int8.ofInt n).toInt32) :: st) h cu su
  | .sipush n => nx lv (.inl ((Int16.ofInt n).toInt32) :: st) h cu su
  | .ldc _ => nx lv (.inl (nI a) :: st) h cu su
  | .lconst n => nx lv (.inr (.inl (Int64.ofNat (n : Nat))) :: st) h cu su
  | .ldc2_w _ => nx lv (.inr (.inl (lN a)) :: st) h cu su
  | .aconst_null => nx lv (.inr (.inr none) :: st) h cu su
  | .iload k => wm_gi (wm_lk lv k) fun x => nx lv (.inl x :: st) h cu su
  | .iload_n k => wm_gi (wm_lk lv k) fun x => nx lv (.inl x :: st) h cu su
  | .lload k => wm_gj (wm_lk lv k) fun x => nx lv (.inr (.inl x) :: st) h cu su
  | .lload_n k => wm_gj (wm_lk lv k) fun x => nx lv (.inr (.inl x) :: st) h cu su
  | .aload k => wm_gr (wm_lk lv k) fun x => nx lv (.inr (.inr x) :: st) h cu su
  | .aload_n k => wm_gr (wm_lk lv k) fun x => nx lv (.inr (.inr x) :: st) h cu su
  | .istore k => wm_pi st fun x r => k < lv.length ∧ nx (wm_s1 lv k (.inl x)) r h cu su
  | .istore_n k => wm_pi st fun x r => (k : Nat) < lv.length ∧ nx (wm_s1 lv k (.inl x)) r h cu su
  | .lstore k => wm_pj st fun x r => k + 1 < lv.length ∧ nx (wm_s2 lv k (.inr (.inl x))) r h cu su
  | .lstore_n k => wm_pj st fun x r => (k : Nat) + 1 < lv.length ∧ nx (wm_s2 lv k (.inr (.inl x))) r h cu su
  | .astore k => wm_pr st fun x r => k < lv.length ∧ nx (wm_s1 lv k (.inr (.inr x))) r h cu su
  | .astore_n k => wm_pr st fun x r => (k : Nat) < lv.length ∧ nx (wm_s1 lv k (.inr (.inr x))) r h cu su
  | .iinc k n => wm_gi (wm_lk lv k) fun x => nx (wm_s1 lv k (.inl (x + Int32.ofInt n))) st h cu su
  | .iadd => wm_pi st fun y r => wm_pi r fun x r => nx lv (.inl (x + y) :: r) h cu su
  | .isub => wm_pi st fun y r => wm_pi r fun x r => nx lv (.inl (x - y) :: r) h cu su
  | .imul => wm_pi st fun y r => wm_pi r fun x r => nx lv (.inl (x * y) :: r) h cu su
  | .idiv => wm_pi st fun y r => wm_pi r fun x r => ¬ y = 0 ∧ nx lv (.inl (x / y) :: r) h cu su
  | .irem => wm_pi st fun y r => wm_pi r fun x r => ¬ y = 0 ∧ nx lv (.inl (x - x / y * y) :: r) h cu su
  | .iand => wm_pi st fun y r => wm_pi r fun x r => nx lv (.inl (x &&& y) :: r) h cu su
  | .ior => wm_pi st fun y r => wm_pi r fun x r => nx lv (.inl (x ||| y) :: r) h cu su
  | .ixor => wm_pi st fun y r => wm_pi r fun x r => nx lv (.inl (x ^^^ y) :: r) h cu su
  | .ishl => wm_pi st fun y r => wm_pi r fun x r => nx lv (.inl (x <<< (y &&& 31)) :: r) h cu su
  | .ishr => wm_pi st fun y r => wm_pi r fun x r => nx lv (.inl (x >>> (y &&& 31)) :: r) h cu su
  | .iushr => wm_pi st fun y r => wm_pi r fun x r => nx lv (.inl ((x.toUInt32 >>> (y.toUInt32 &&& Int32.toUInt32 31)).toInt32) :: r) h cu su
  | .ineg => wm_pi st fun x r => nx lv (.inl (-x) :: r) h cu su
  | .ladd => wm_pj st fun y r => wm_pj r fun x r => nx lv (.inr (.inl (x + y)) :: r) h cu su
  | .lsub => wm_pj st fun y r => wm_pj r fun x r => nx lv (.inr (.inl (x - y)) :: r) h cu su
  | .lmul => wm_pj st fun y r => wm_pj r fun x r => nx lv (.inr (.inl (x * y)) :: r) h cu su
  | .ldiv => wm_pj st fun y r => wm_pj r fun x r => ¬ y = 0 ∧ nx lv (.inr (.inl (x / y)) :: r) h cu su
  | .lrem => wm_pj st fun y r => wm_pj r fun x r => ¬ y = 0 ∧ nx lv (.inr (.inl (x - x / y * y)) :: r) h cu su
  | .land => wm_pj st fun y r => wm_pj r fun x r => nx lv (.inr (.inl (x &&& y)) :: r) h cu su
  | .lor => wm_pj st fun y r => wm_pj r fun x r => nx lv (.inr (.inl (x ||| y)) :: r) h cu su
  | .lxor => wm_pj st fun y r => wm_pj r fun x r => nx lv (.inr (.inl (x ^^^ y)) :: r) h cu su
  | .lshl => wm_pi st fun y r => wm_pj r fun x r => nx lv (.inr (.inl (x <<< (y.toInt64 &&& 63))) :: r) h cu su
  | .lshr => wm_pi st fun y r => wm_pj r fun x r => nx lv (.inr (.inl (x >>> (y.toInt64 &&& 63))) :: r) h cu su
  | .lushr => wm_pi st fun y r => wm_pj r fun x r => nx lv (.inr (.inl ((x.toUInt64 >>> (y.toInt64.toUInt64 &&& Int64.toUInt64 63)).toInt64)) :: r) h cu su
  | .lneg => wm_pj st fun x r => nx lv (.inr (.inl (-x)) :: r) h cu su
  | .i2l => wm_pi st fun x r => nx lv (.inr (.inl x.toInt64) :: r) h cu su
  | .l2i => wm_pj st fun x r => nx lv (.inl x.toInt32 :: r) h cu su
  | .lcmp => wm_pj st fun y r => wm_pj r fun x r => nx lv (.inl (lg_cmp x y) :: r) h cu su
  | .dup => wm_p1 st fun v r => nx lv (v :: v :: r) h cu su
  | .pop => wm_p1 st fun _ r => nx lv r h cu su
  | .dup_x1 => wm_p1 st fun v r => wm_p1 r fun w r => nx lv (v :: w :: v :: r) h cu su
  | .dup_x2 => wm_p1 st fun v r => wm_p1 r fun w r => wm_p1 r fun u r => nx lv (v :: w :: u :: v :: r) h cu su
  | .dup2 => if a = 2 then wm_pj st fun x r => nx lv (.inr (.inl x) :: .inr (.inl x) :: r) h cu su else wm_p1 st fun v r => wm_p1 r fun w r => nx lv (v :: w :: v :: w :: r) h cu su
  | .pop2 => wm_pj st fun _ r => nx lv r h cu su
  | .dup2_x1 => wm_pj st fun x r => wm_p1 r fun w r => nx lv (.inr (.inl x) :: w :: .inr (.inl x) :: r) h cu su
  | .dup2_x2 => wm_pj st fun x r => wm_p1 r fun w r => wm_p1 r fun u r => nx lv (.inr (.inl x) :: w :: u :: .inr (.inl x) :: r) h cu su
  | .ifCond k _ => wm_pi st fun x r => wm_br (wm_ic k x 0) (jp a lv r h cu su) (nx lv r h cu su)
  | .if_icmp k _ => wm_pi st fun y r => wm_pi r fun x r => wm_br (wm_ic k x y) (jp a lv r h cu su) (nx lv r h cu su)
  | .if_acmp .eq _ => wm_pr st fun y r => wm_pr r fun x r => wm_br (x = y) (jp a lv r h cu su) (nx lv r h cu su)
  | .if_acmp .ne _ => wm_pr st fun y r => wm_pr r fun x r => wm_br (x = y) (nx lv r h cu su) (jp a lv r h cu su)
  | .ifnull _ => wm_pr st fun x r => wm_br (x = none) (jp a lv r h cu su) (nx lv r h cu su)
  | .ifnonnull _ => wm_pr st fun x r => wm_br (x = none) (nx lv r h cu su) (jp a lv r h cu su)
  | .goto _ => jp a lv st h cu su
  | .getfield _ => wm_pr st fun o r => ∃ q, o = some q ∧ h.1 q = a ∧ nx lv (wm_wv h c a b q :: r) h cu su
  | .putfield _ => match st with
    | v :: .inr (.inr o) :: r => ∃ q, o = some q ∧ h.1 q = a ∧ wm_vk v = c ∧ (∀ ci, wm_tags a = some (.inl ci) → wm_ty ci b = .boolean → v = .inl 0 ∨ v = .inl 1) ∧ nx lv r (wm_wr h a b q v) cu su
    | _ => False
  | .arraylength => wm_pr st fun o r => ∃ q, o = some q ∧ h.1 q = a ∧ nx lv (.inl (nI (h.2.1 q)) :: r) h cu su
  | .iaload => wm_pi st fun j r => wm_pr r fun o r => ∃ q, o = some q ∧ h.1 q = a ∧ wm_ix j (h.2.1 q) fun k => nx lv (.inl (h.2.2.1 a k q) :: r) h cu su
  | .baload => wm_pi st fun j r => wm_pr r fun o r => ∃ q, o = some q ∧ h.1 q = a ∧ wm_ix j (h.2.1 q) fun k => nx lv (.inl (h.2.2.1 a k q) :: r) h cu su
  | .laload => wm_pi st fun j r => wm_pr r fun o r => ∃ q, o = some q ∧ h.1 q = a ∧ wm_ix j (h.2.1 q) fun k => nx lv (.inr (.inl (h.2.2.2.1 a k q)) :: r) h cu su
  | .aaload => wm_pi st fun j r => wm_pr r fun o r => ∃ q, o = some q ∧ h.1 q = a ∧ wm_ix j (h.2.1 q) fun k => nx lv (.inr (.inr (h.2.2.2.2.1 a k q)) :: r) h cu su
  | .iastore => wm_pi st fun x r => wm_pi r fun j r => wm_pr r fun o r => ∃ q, o = some q ∧ h.1 q = a ∧ wm_ix j (h.2.1 q) fun k => nx lv r (wm_wr h a k q (.inl x)) cu su
  | .bastore => wm_pi st fun x r => wm_pi r fun j r => wm_pr r fun o r => ∃ q, o = some q ∧ h.1 q = a ∧ (x = 0 ∨ x = 1) ∧ wm_ix j (h.2.1 q) fun k => nx lv r (wm_wr h a k q (.inl x)) cu su
  | .lastore => wm_pj st fun x r => wm_pi r fun j r => wm_pr r fun o r => ∃ q, o = some q ∧ h.1 q = a ∧ wm_ix j (h.2.1 q) fun k => nx lv r (wm_wr h a k q (.inr (.inl x))) cu su
  | .aastore => wm_pr st fun x r => wm_pi r fun j r => wm_pr r fun o r => ∃ q, o = some q ∧ h.1 q = a ∧ (∀ v, x = some v → wm_tags (h.1 v) = some (.inl b)) ∧ wm_ix j (h.2.1 q) fun k => nx lv r (wm_wr h a k q (.inr (.inr x))) cu su
  | .newarray _ => wm_pi st fun x r => 0 ≤ x.toInt ∧ x.toInt < 1048576 ∧ cu + 1 ≤ RC ∧ su + x.toNatClampNeg ≤ RS ∧ nx lv (.inr (.inr (some h.2.2.2.2.2)) :: r) (wm_nw h a x.toNatClampNeg) (cu + 1) (su + x.toNatClampNeg)
  | .anewarray _ => wm_pi st fun x r => 0 ≤ x.toInt ∧ x.toInt < 1048576 ∧ cu + 1 ≤ RC ∧ su + x.toNatClampNeg ≤ RS ∧ nx lv (.inr (.inr (some h.2.2.2.2.2)) :: r) (wm_nw h a x.toNatClampNeg) (cu + 1) (su + x.toNatClampNeg)
  | .new _ => cu + 1 ≤ RC ∧ su + b ≤ RS ∧ (if c = 9 then cu + 1 ≤ mc ∧ su + b ≤ ms ∧ (st.map wm_cat).sum ≤ 8 ∧ ∀ n, h.2.2.2.2.2 ≤ n → qt a (wm_sz h n) else nx lv (.inr (.inr (some h.2.2.2.2.2)) :: st) (wm_nw h a 0) (cu + 1) (su + b))
  | .invokespecial _ => if c = 9 then wm_pr st fun o r => (∃ q, o = some q) ∧ (r.map wm_cat).sum ≤ 8 ∧ nx lv r h cu su else
      cu + wm_mc a ≤ RC ∧ su + wm_ms a ≤ RS ∧ wm_pp (wm_mn a) st fun as r => (r.map wm_cat).sum ≤ 8 ∧ (∃ q z, as = .inr (.inr (some q)) :: z) ∧ cx a as h (fun v h' => nx lv (v.toList ++ r) h' (cu + wm_mc a) (su + wm_ms a)) (fun t h' => cu + wm_mc a ≤ mc ∧ su + wm_ms a ≤ ms ∧ qt t h')
  | .invokevirtual _ => cu + wm_mc a ≤ RC ∧ su + wm_ms a ≤ RS ∧ wm_pp (wm_mn a) st fun as r => (r.map wm_cat).sum ≤ 8 ∧ (∃ q z, as = .inr (.inr (some q)) :: z ∧ wm_tags (h.1 q) = some (.inl b)) ∧ cx a as h (fun v h' => nx lv (v.toList ++ r) h' (cu + wm_mc a) (su + wm_ms a)) (fun t h' => cu + wm_mc a ≤ mc ∧ su + wm_ms a ≤ ms ∧ qt t h')
  | .invokestatic _ => cu + wm_mc a ≤ RC ∧ su + wm_ms a ≤ RS ∧ wm_pp (wm_mn a) st fun as r => (r.map wm_cat).sum ≤ 8 ∧ cx a as h (fun v h' => nx lv (v.toList ++ r) h' (cu + wm_mc a) (su + wm_ms a)) (fun t h' => cu + wm_mc a ≤ mc ∧ su + wm_ms a ≤ ms ∧ qt t h')
  | .ireturn => wm_pi st fun x r => r = [] ∧ cu ≤ mc ∧ su ≤ ms ∧ (a = 1 → x = 0 ∨ x = 1) ∧ qr (some (.inl x)) h
  | .lreturn => wm_pj st fun x r => r = [] ∧ cu ≤ mc ∧ su ≤ ms ∧ qr (some (.inr (.inl x))) h
  | .areturn => wm_pr st fun x r => r = [] ∧ cu ≤ mc ∧ su ≤ ms ∧ qr (some (.inr (.inr x))) h
  | .return_ => st = [] ∧ cu ≤ mc ∧ su ≤ ms ∧ qr none h
  | _ => False
end
section
/-! THE ABSTRACT MACHINE, 5: the demand of an instruction is enough -/
/-- what is known of the tables, and of cells that were there before -/
def wm_K (D : va_G) (aC : wm_Y) (b0 : Nat) (U : State) : Prop :=
  (∀ (ci : Nat) (r : vw_C), wm_cls[ci]? = some r → u_Kn U r.1 r.2.1 r.2.2 (D.1 ci) (D.2 ci)) ∧ (∀ ty ∈ wm_ats, ArrOfT U (aC.1 ty) ty ∧ va_RA U (aC.1 ty) ty ∧ ∀ C, ty = .object C → va_AO C U) ∧ (∀ w ∈ wm_NW, va_Nw w U) ∧
  (va_X aC.2.1 aC.2.2.1 aC.2.2.2 U U.heap ∧ aC.2.1 < b0) ∧ vx_Zq Bundle.tN "UNASSIGNED_STACK" Bundle.steD (fun q => b0 ≤ q) U U.heap ∧ vx_Zq Bundle.tN "SUPPRESSED_SENTINEL" Bundle.listD (fun q => b0 ≤ q) U U.heap ∧ ∀ x ∈ wm_sr, ∃ a, vk_R x.1 x.2.1 x.2.2 a U
theorem wm_K_to {D : va_G} {aC : wm_Y} {b0 : Nat} {s U : State} (hW : s.WarmedH U.vm) (hh : ∀ q, q < b0 → U.heap[q]? = s.heap[q]?) (h : wm_K D aC b0 s) : wm_K D aC b0 U := by
  obtain ⟨h1, h2, h3, ⟨h4, h5⟩, h6, h7, h8⟩ := h
  refine ⟨fun ci r hr => u_Kn_moved hW.alike (h1 ci r hr), fun ty ht => ⟨arrOfT_moved hW.alike (h2 ty ht).1, (h2 ty ht).2.1.moved hW.alike, fun C hC => ((h2 ty ht).2.2 C hC).moved hW.alike⟩, fun w hw => ?_, ⟨(h4.kept (hh _ h5)).moved hW.alike, h5⟩,
    (h6.kept (fun a _ ha => hh a (Nat.not_le.mp ha))).moved hW.alike, (h7.kept (fun a _ ha => hh a (Nat.not_le.mp ha))).moved hW.alike, fun x hx => ?_⟩
  · rcases wm_NW_ok w hw with ⟨a, i, x, g, rfl⟩ | ⟨x, rfl⟩ | ⟨a, b, rfl⟩
    · exact va_Nw.warmM hW (h3 _ hw)
    · exact va_Nw.warmD hW (h3 _ hw)
    · exact va_Nw.warmC hW (h3 _ hw)
  · obtain ⟨a, ha⟩ := h8 x hx
    exact ⟨a, vk_R.warm hW ha⟩
def wm_Pc (D : va_G) (aC : wm_Y) (b0 : Nat) (as : List wm_V) (h : wm_H) : Array Value → State → Prop := fun a U => a = (as.map wm_tv).toArray ∧ wm_ok D aC b0 h U.heap ∧ wm_K D aC b0 U
theorem wm_blind (D : va_G) (aC : wm_Y) (b0 : Nat) (as : List wm_V) (h : wm_H) : FrameBlind (wm_Pc D aC b0 as h) := by
  intro a U g mk q
  exact ⟨q.1, q.2.1, wm_K_to (s := U) (U := U.calling g mk a) (State.WarmedH.refl U) (fun _ _ => rfl) q.2.2⟩
def wm_Qc (D : va_G) (aC : wm_Y) (b0 : Nat) (qr : wm_Q1) (qt : wm_Q2) : Array Value → State → Outcome → State → Prop := fun _ st o t =>
  ((∃ v h, o = .returned (v.map wm_tv) ∧ wm_ok D aC b0 h t.heap ∧ qr v h) ∨ (∃ x h k ce, o = .threw x ∧ wm_ok D aC b0 h t.heap ∧ t.heap[x]? = some ce ∧ ce.vm = .none ∧ st.vm.findClass (wm_xn k) = some ce.cls ∧ (k = 1 ∨ k = 2 ∨ k = 3) ∧ qt k h)) ∧ st.heap.size ≤ t.heap.size ∧ ∀ q, q < b0 → t.heap[q]? = st.heap[q]?
def wm_C (p : Program) (s : State) (m : MethodId) (args : Array Value) (meth : Method) (c : Code) (own : String) (cc : ByteArray) (nL b0 : Nat) (D : va_G) (aC : wm_Y) : Prop :=
  p.tables.exec = Jvm.exec ∧ c.code = cc ∧ c.maxLocals = nL ∧ meth.locks = false ∧ s.vm.findClass own = some m.cls ∧ (∀ w ∈ wm_WG, w.before args s = true) ∧ wm_K D aC b0 s
def wm_J (p : Program) (l : Launch) (e : Env) (R : Room) (s : State) (m : MethodId) (args : Array Value) (below : List Frame) (meth : Method) (c : Code) (nL b0 : Nat) (D : va_G) (aC : wm_Y) (Q : State → Prop) (pc : Nat) (σ : wm_S) : Prop :=
  ∀ (H : Heap) (locs : List Loc) (ls : Array Slot), wm_ok D aC b0 σ.2.2.1 H → va_S (fun q => b0 ≤ q) s.heap H locs → wm_lo ls nL σ.1 → W p l e R s m args below meth c H locs σ.2.2.2.1 σ.2.2.2.2 Q (F0 m pc ls (σ.2.1.map wm_tv))
def wm_len : Instr → Nat
  | .bipush _ => 2
  | .sipush _ => 3
  | .ldc _ => 2
  | .ldc2_w _ => 3
  | .iload _ => 2
  | .lload _ => 2
  | .aload _ => 2
  | .istore _ => 2
  | .lstore _ => 2
  | .astore _ => 2
  | .iinc _ _ => 3
  | .ifCond _ _ => 3
  | .if_icmp _ _ => 3
  | .if_acmp _ _ => 3
  | .ifnull _ => 3
  | .ifnonnull _ => 3
  | .goto _ => 3
  | .getfield _ => 3
  | .putfield _ => 3
  | .getstatic _ => 3
  | .new _ => 3
  | .newarray _ => 2
  | .anewarray _ => 3
  | .invokespecial _ => 3
  | .invokevirtual _ => 3
  | .invokestatic _ => 3
  | _ => 1
/-- a field's link; a method's, or a nest mate's -/
def wm_fl (own : String) (idx : Nat) (f : String × String × String × Bool) : Prop := Cond.fieldLink own idx f.1 f.2.1 f.2.2.1 ∈ wm_WG
def wm_ml (own : String) (idx : Nat) (y : MethodName) : Prop := Cond.methodLink own idx y ∈ wm_WG ∨ ∃ host, Cond.methodLinkNest own idx y host ∈ wm_NW
/-- what the tables must say of an instruction -/
def wm_st (R : Room) (own mn : String) (rt : Option FieldType) (ids : List Nat) (cc : ByteArray) (pc : Nat) (i : Instr) (a b c : Nat) : Prop := match i with
  | .ldc k => Cond.constant own k (nI a) ∈ wm_WG
  | .ldc2_w k => Cond.constantLong own k (lN a) ∈ wm_WG
  | .ifCond _ o => (pc : Int) + o = (a : Int)
  | .if_icmp _ o => (pc : Int) + o = (a : Int)
  | .if_acmp _ o => (pc : Int) + o = (a : Int)
  | .ifnull o => (pc : Int) + o = (a : Int)
  | .ifnonnull o => (pc : Int) + o = (a : Int)
  | .goto o => (pc : Int) + o = (a : Int)
  | .getfield k => ∃ ci r, wm_tags a = some (.inl ci) ∧ wm_cls[ci]? = some r ∧ b < r.2.2 ∧ wm_ck (wm_ty ci b) = c ∧ wm_fl own k (r.2.1 b)
  | .putfield k => ∃ ci r, wm_tags a = some (.inl ci) ∧ wm_cls[ci]? = some r ∧ b < r.2.2 ∧ wm_ck (wm_ty ci b) = c ∧ c ≠ 3 ∧ (wm_ty ci b ≠ .byte ∧ wm_ty ci b ≠ .char ∧ wm_ty ci b ≠ .short) ∧ (((r.2.1 b).2.2.2 = false ∧ wm_fl own k (r.2.1 b)) ∨ ((r.2.1 b).2.2.2 = true ∧ mn = "<init>" ∧ (r.2.1 b).1 = own ∧ Cond.fieldLink own k (r.2.1 b).1 (r.2.1 b).2.1 (r.2.1 b).2.2.1 ∈ wm_WG))
  | .arraylength => ∃ ty, wm_tags a = some (.inr ty) ∧ ty ∈ wm_ats
  | .iaload => wm_tags a = some (.inr .int) ∧ FieldType.int ∈ wm_ats
  | .iastore => a ≠ 1 ∧ wm_tags a = some (.inr .int) ∧ FieldType.int ∈ wm_ats
  | .baload => wm_tags a = some (.inr .boolean) ∧ FieldType.boolean ∈ wm_ats
  | .bastore => wm_tags a = some (.inr .boolean) ∧ FieldType.boolean ∈ wm_ats
  | .laload => wm_tags a = some (.inr .long) ∧ FieldType.long ∈ wm_ats
  | .lastore => wm_tags a = some (.inr .long) ∧ FieldType.long ∈ wm_ats
  | .aaload => ∃ C, wm_tags a = some (.inr (.object C)) ∧ FieldType.object C ∈ wm_ats
  | .aastore => ∃ r, wm_cls[b]? = some r ∧ wm_tags a = some (.inr (.object r.1)) ∧ FieldType.object r.1 ∈ wm_ats
  | .newarray t => a ≠ 1 ∧ wm_tags a = some (.inr (newarray.typeOf t)) ∧ newarray.typeOf t ∈ wm_ats ∧ wm_ck (newarray.typeOf t) ≠ 3 ∧ Cond.arrayClass (newarray.typeOf t) ∈ wm_WG
  | .anewarray k => ∃ C, wm_tags a = some (.inr (.object C)) ∧ FieldType.object C ∈ wm_ats ∧ Cond.classLink own k C ∈ wm_WG
  | .new k => (c ≠ 9 ∧ ∃ ci r, wm_tags a = some (.inl ci) ∧ wm_cls[ci]? = some r ∧ b = r.2.2 ∧ (∀ k, k < r.2.2 → wm_ck (wm_ty ci k) ≠ 3) ∧ Cond.classLink own k r.1 ∈ wm_WG ∧ Cond.instantiable r.1 r.2.2 ∈ wm_WG ∧ Cond.initialized r.1 ∈ wm_WG) ∨
      (c = 9 ∧ b = 6 ∧ (6 ≤ R.frames ∧ 90 ≤ R.locals) ∧ (a = 1 ∨ a = 2 ∨ a = 3) ∧ own = "CycleKernel" ∧ Cond.classLink own k (wm_xn a) ∈ wm_WG ∧ Cond.initialized (wm_xn a) ∈ wm_WG ∧ decode cc (pc + 3) = .ok (.dup, 1) ∧ ∃ j tx, (own, j, tx) ∈ wm_sr ∧
        ((decode cc (pc + 4) = .ok (.ldc j, 2) ∧ decode cc (pc + 6) = .ok (.invokespecial (wm_xi a), 3) ∧ decode cc (pc + 9) = .ok (.athrow, 1)) ∨ (decode cc (pc + 4) = .ok (.ldc_w j, 3) ∧ decode cc (pc + 7) = .ok (.invokespecial (wm_xi a), 3) ∧ decode cc (pc + 10) = .ok (.athrow, 1))))
  | .invokespecial k => (c = 9 ∧ (1 ≤ R.frames ∧ 20 ≤ R.locals) ∧ Cond.methodLink own k objectInit ∈ wm_WG ∧ Cond.instanceMethod objectInit ∈ wm_WG ∧ Cond.code objectInit ⟨#[0xb1]⟩ 1 none ∈ wm_WG) ∨ (c ≠ 9 ∧ a ∈ ids ∧ (wm_my a).name = "<init>" ∧ wm_mrt a = none ∧ wm_ml own k (wm_my a) ∧ Cond.instanceMethod (wm_my a) ∈ wm_WG ∧ (parseMethodDescriptor (wm_my a).desc).map (fun d => d.parameters.length + 1) = some (wm_mn a))
  | .invokevirtual k => a ∈ ids ∧ (∃ r, wm_cls[b]? = some r ∧ r.1 = (wm_my a).cls) ∧ wm_ml own k (wm_my a) ∧ Cond.instanceMethod (wm_my a) ∈ wm_WG ∧ Cond.selects (wm_my a).cls (wm_my a) (wm_my a) ∈ wm_WG ∧ (parseMethodDescriptor (wm_my a).desc).map (fun d => d.parameters.length + 1) = some (wm_mn a)
  | .invokestatic k => a ∈ ids ∧ wm_ml own k (wm_my a) ∧ Cond.static (wm_my a) ∈ wm_WG ∧ (parseMethodDescriptor (wm_my a).desc).map (fun d => d.parameters.length) = some (wm_mn a)
  | .ireturn => (a = 1 ∧ rt = some .boolean) ∨ (a ≠ 1 ∧ rt = some .int)
  | .lreturn => rt = some .long
  | .areturn => ∃ ty, rt = some ty ∧ wm_ck ty = 2
  | .return_ => rt = none
  | _ => True
end
section
section WMS
variable {p : Program} {l : Launch} {e : Env} {R : Room} {s : State} {m : MethodId} {args : Array Value} {below : List Frame} {meth : Method} {c : Code} {own : String} {cc : ByteArray} {nL b0 : Nat} {D : va_G} {aC : wm_Y} {Q : State → Prop}
variable {pc cu su : Nat} {lv : wm_L} {st : List wm_V} {h : wm_H}
theorem wm_o_get (C : wm_C p s m args meth c own cc nL b0 D aC) {k t b cd q ci : Nat} {r : vw_C} (hg : wm_tags t = some (.inl ci)) (hc : wm_cls[ci]? = some r) (hb : b < r.2.2) (hcd : wm_ck (wm_ty ci b) = cd) (hl : wm_fl own k (r.2.1 b)) (hd : decode cc pc = .ok (.getfield k, 3)) (ht : h.1 q = t)
    (kk : wm_J p l e R s m args below meth c nL b0 D aC Q (pc + 3) (lv, wm_wv h cd t b q :: st, h, cu, su)) : wm_J p l e R s m args below meth c nL b0 D aC Q pc (lv, .inr (.inr (some q)) :: st, h, cu, su) := by
  intro H locs ls hO hS hL
  obtain ⟨hx, hbc, hml, hlk, hown, hts, hK⟩ := C
  subst ht
  subst hcd
  obtain ⟨cell, q1, q2, q3, q4⟩ := wm_at_o (hO.2.2.2.1 q) hg hc
  obtain ⟨hS1, hfc, kC, hkC, hkind⟩ := hK.1 ci _ hc
  obtain ⟨cf, kf, fi, f, hi, hsl⟩ := hS1 b hb
  have hst := (u_facts hfc hkC (u_lays hts (wm_cls_in ci r hc) hb) hi).1
  have hv : cell.slots[f.slot]? = some (wm_tv (wm_wv h (wm_ck (wm_ty ci b)) (h.1 q) b q)) := by
    rw [hsl, q4 b hb]; rfl
  exact W.getf hx hbc hown (hts _ hl) hi hst q1 (by rw [q3]; exact fun z => by cases z) hv rfl rfl hd (kk H locs ls hO hS hL)
theorem wm_o_put (C : wm_C p s m args meth c own cc nL b0 D aC) {k t b q ci : Nat} {r : vw_C} {v : wm_V} (hg : wm_tags t = some (.inl ci)) (hc : wm_cls[ci]? = some r) (hb : b < r.2.2) (hcd : wm_vk v = wm_ck (wm_ty ci b)) (h3 : wm_ck (wm_ty ci b) ≠ 3) (h2 : wm_ty ci b ≠ .byte ∧ wm_ty ci b ≠ .char ∧ wm_ty ci b ≠ .short) (h4 : wm_ty ci b = .boolean → v = .inl 0 ∨ v = .inl 1)
    (hl : ((r.2.1 b).2.2.2 = false ∧ wm_fl own k (r.2.1 b)) ∨ ((r.2.1 b).2.2.2 = true ∧ meth.name = "<init>" ∧ (r.2.1 b).1 = own ∧ Cond.fieldLink own k (r.2.1 b).1 (r.2.1 b).2.1 (r.2.1 b).2.2.1 ∈ wm_WG)) (hd : decode cc pc = .ok (.putfield k, 3)) (ht : h.1 q = t)
    (kk : wm_J p l e R s m args below meth c nL b0 D aC Q (pc + 3) (lv, st, wm_wr h t b q v, cu, su)) : wm_J p l e R s m args below meth c nL b0 D aC Q pc (lv, v :: .inr (.inr (some q)) :: st, h, cu, su) := by
  intro H locs ls hO hS hL
  obtain ⟨hx, hbc, hml, hlk, hown, hts, hK⟩ := C
  have n1 : t ≠ 1 := fun z => by rw [z] at hg; cases hg
  have hq0 : b0 ≤ q := (hO.2.2.1 q (fun z => by rw [ht] at z; rw [z, wm_tags_0] at hg; cases hg)).1 (by rw [ht]; exact n1)
  have hK0 : va_K D wm_cls [] s := ⟨hK.1, fun k q h => by simp at h⟩
  have hin := wm_cls_in ci r hc
  have hap := va_apart (own := own) hts hin (wm_ty ci) (wm_cls_ty ci r hc) (wm_cls_nm ci r hc) hK0 hc
  have hO1 := hO.2.2.2.1 q
  obtain ⟨cell, q1, q2, q3, q4⟩ := wm_at_o (by exact hO1) (by rw [ht]; exact hg) hc
  obtain ⟨hS1, hfc, kC, hkC, hkind⟩ := hK.1 ci _ hc
  obtain ⟨cf, kf, fi, f, hi, hsl⟩ := hS1 b hb
  have hst := (u_facts hfc hkC (u_lays hts hin hb) hi).1
  obtain ⟨hfit, hn⟩ := wm_fits hcd h2 h3 h4
  have hlay := hts _ (hin _ (u_in_lay hb))
  unfold u_lay at hlay
  rcases hl with ⟨hfin, hl⟩ | ⟨hfin, hin2, hdecl, hl⟩
  · rw [if_neg (by rw [hfin]; decide)] at hlay
    have h6 := u_store hfc hkC hkind hlay hi (wm_cls_ty ci r hc b hb) hn hfit
    refine W.putK (v := wm_tv v) hx hbc (f := f) ⟨hown, hts _ hl, ⟨_, _, _, hi⟩, hst⟩ (by rw [q2]; exact h6) q1 q3 (by rw [hsl]; exact k2_hasslot (q4 b hb)) rfl rfl hd fun H' e1 e2 e3 => ?_
    rw [hsl] at e1 ⊢
    exact kk H' _ ls (wm_ok_put hO ht hg hc hb hap hcd q1 e1 e2 e3) (hS.put e2 e3 hq0) hL
  · rw [if_pos hfin] at hlay
    have hcf : m.cls = cf := by
      obtain ⟨_, _, c', _, _, _, -, -, hf', -, -, -, hown2, -⟩ := Cond.laysFinal_spec hlay
      have e1 : c' = cf := by have := hi.symm.trans hf'; simp at this; exact this.1.symm
      rw [hdecl] at hown2
      rw [← e1]; exact Option.some.inj (hown.symm.trans hown2)
    have h6 := u_fits hfc hkC hkind (Or.inr hlay) hi (wm_cls_ty ci r hc b hb) hn hfit
    refine W.putFinK (v := wm_tv v) hx hbc hown (hts _ hl) hi hst hcf hin2 (by rw [q2]; exact h6) q1 q3 (by rw [hsl]; exact k2_hasslot (q4 b hb)) rfl rfl hd fun H' e1 e2 e3 => ?_
    rw [hsl] at e1 ⊢
    exact kk H' _ ls (wm_ok_put hO ht hg hc hb hap hcd q1 e1 e2 e3) (hS.put e2 e3 hq0) hL
theorem wm_ix_in {j : Int32} {n : Nat} (h1 : 0 ≤ j.toInt) (h2 : j.toInt < n) : vp_in j n := vp_in_iff.mpr ⟨h1, h2⟩
theorem wm_o_ald (C : wm_C p s m args meth c own cc nL b0 D aC) {t q : Nat} {ty : FieldType} {i : Instr} {j : Int32} (hg : wm_tags t = some (.inr ty)) (hty : ty ∈ wm_ats) (ht : h.1 q = t) (h1 : 0 ≤ j.toInt) (h2 : j.toInt < h.2.1 q)
    (hi : (i = .iaload ∧ ty = .int) ∨ (i = .laload ∧ ty = .long) ∨ (i = .baload ∧ ty = .boolean) ∨ (i = .aaload ∧ ty.isReference = true)) (hd : decode cc pc = .ok (i, 1))
    (kk : wm_J p l e R s m args below meth c nL b0 D aC Q (pc + 1) (lv, wm_wv h (wm_ck ty) t j.toNatClampNeg q :: st, h, cu, su)) : wm_J p l e R s m args below meth c nL b0 D aC Q pc (lv, .inl j :: .inr (.inr (some q)) :: st, h, cu, su) := by
  intro H locs ls hO hS hL
  obtain ⟨hx, hbc, hml, hlk, hown, hts, hK⟩ := C
  subst ht
  by_cases n1 : h.1 q = 1
  · obtain ⟨rfl, e2, e3⟩ := hO.2.2.2.2 q n1
    rw [n1] at hg kk
    cases hg
    rcases hi with ⟨rfl, -⟩ | ⟨-, z⟩ | ⟨-, z⟩ | ⟨-, z⟩
    · have hX := hK.2.2.2.1
      rw [e2] at h2
      have k9 := kk H locs ls hO hS hL
      have e9 : wm_tv (wm_wv h (wm_ck .int) 1 j.toNatClampNeg aC.2.1) = .int (aC.2.2.2 j.toNatClampNeg) := by rw [← e3]; rfl
      simp only [List.map_cons, e9] at k9
      exact va_sld hx hbc hX.1 (by obtain ⟨scr, z1, -⟩ := hX.1; exact (Array.getElem?_eq_some_iff.mp z1).1) (by have := hX.2; omega) hS (wm_ix_in h1 h2) hd k9
    · cases z
    · cases z
    · cases z
  have hc := wm_at_a (hO.2.2.2.1 q) n1 hg
  have hin := wm_ix_in h1 h2
  have hlt : j.toNatClampNeg < h.2.1 q := Nat.not_le.mp fun z => hin (Or.inr z)
  have ha := (hK.2.1 ty hty).1 (h.2.1 q) (fun k => wm_tv (wm_rd h ty (h.1 q) k q))
  have hin' : ¬ (j < 0 ∨ (arrV (aC.1 ty) (h.2.1 q) (fun k => wm_tv (wm_rd h ty (h.1 q) k q))).slots.size ≤ j.toNatClampNeg) := by rw [arrV_size]; exact hin
  have hv := arrV_read (aC.1 ty) (fun k => wm_tv (wm_rd h ty (h.1 q) k q)) hlt
  rcases hi with ⟨rfl, rfl⟩ | ⟨rfl, rfl⟩ | ⟨rfl, rfl⟩ | ⟨rfl, hr⟩
  · exact W.iald hx hbc hc ha (fun z => by cases z) hin' hv rfl rfl hd (kk H locs ls hO hS hL)
  · exact W.lald hx hbc hc ha (fun z => by cases z) hin' hv rfl rfl hd (kk H locs ls hO hS hL)
  · exact W.zald hx hbc hc ha (fun z => by cases z) hin' hv rfl rfl hd (kk H locs ls hO hS hL)
  · exact W.aald hx hbc hc ha hr (fun z => by cases z) hin' hv rfl rfl hd (kk H locs ls hO hS hL)
theorem wm_o_len (C : wm_C p s m args meth c own cc nL b0 D aC) {t q : Nat} {ty : FieldType} (hg : wm_tags t = some (.inr ty)) (hty : ty ∈ wm_ats) (ht : h.1 q = t) (hd : decode cc pc = .ok (.arraylength, 1))
    (kk : wm_J p l e R s m args below meth c nL b0 D aC Q (pc + 1) (lv, .inl (nI (h.2.1 q)) :: st, h, cu, su)) : wm_J p l e R s m args below meth c nL b0 D aC Q pc (lv, .inr (.inr (some q)) :: st, h, cu, su) := by
  intro H locs ls hO hS hL
  obtain ⟨hx, hbc, hml, hlk, hown, hts, hK⟩ := C
  subst ht
  by_cases n1 : h.1 q = 1
  · obtain ⟨rfl, e2, e3⟩ := hO.2.2.2.2 q n1
    have hX := hK.2.2.2.1
    have k9 := kk H locs ls hO hS hL
    rw [e2] at k9
    exact va_slen hx hbc hX.1 (by obtain ⟨scr, z1, -⟩ := hX.1; exact (Array.getElem?_eq_some_iff.mp z1).1) (by have := hX.2; omega) hS hd k9
  have hc := wm_at_a (hO.2.2.2.1 q) n1 hg
  have ha := (hK.2.1 ty hty).1 (h.2.1 q) (fun k => wm_tv (wm_rd h ty (h.1 q) k q))
  exact W.alen (n := nI (h.2.1 q)) hx hbc hc ha (by rw [arrV_size]; rfl) rfl rfl hd (kk H locs ls hO hS hL)
theorem wm_o_ast (C : wm_C p s m args meth c own cc nL b0 D aC) {t q : Nat} {ty : FieldType} {i : Instr} {j : Int32} {v : wm_V} (hg : wm_tags t = some (.inr ty)) (hty : ty ∈ wm_ats) (ht : h.1 q = t) (n1 : t ≠ 1) (h1 : 0 ≤ j.toInt) (h2 : j.toInt < h.2.1 q)
    (hi : (i = .iastore ∧ ty = .int ∧ ∃ x, v = .inl x) ∨ (i = .lastore ∧ ty = .long ∧ ∃ x, v = .inr (.inl x)) ∨ (i = .bastore ∧ ty = .boolean ∧ (v = .inl 0 ∨ v = .inl 1))) (hd : decode cc pc = .ok (i, 1))
    (kk : wm_J p l e R s m args below meth c nL b0 D aC Q (pc + 1) (lv, st, wm_wr h t j.toNatClampNeg q v, cu, su)) : wm_J p l e R s m args below meth c nL b0 D aC Q pc (lv, v :: .inl j :: .inr (.inr (some q)) :: st, h, cu, su) := by
  intro H locs ls hO hS hL
  obtain ⟨hx, hbc, hml, hlk, hown, hts, hK⟩ := C
  have hq0 : b0 ≤ q := (hO.2.2.1 q (fun z => by rw [ht] at z; rw [z, wm_tags_0] at hg; cases hg)).1 (by rw [ht]; exact n1)
  have hc := wm_at_a (hO.2.2.2.1 q) (by rw [ht]; exact n1) (by rw [ht]; exact hg)
  have hin := wm_ix_in h1 h2
  have ha := (hK.2.1 ty hty).1 (h.2.1 q) (fun k => wm_tv (wm_rd h ty (h.1 q) k q))
  have hin' : ¬ (j < 0 ∨ (arrV (aC.1 ty) (h.2.1 q) (fun k => wm_tv (wm_rd h ty (h.1 q) k q))).slots.size ≤ j.toNatClampNeg) := by rw [arrV_size]; exact hin
  rcases hi with ⟨rfl, rfl, x, rfl⟩ | ⟨rfl, rfl, x, rfl⟩ | ⟨rfl, rfl, hv⟩
  · exact W.iast hx hbc hc ha (fun z => by cases z) hin' rfl rfl hd fun H' e1 e2 e3 => kk H' _ ls (wm_ok_ast hO ht n1 hg rfl e1 e2 e3) (hS.put e2 e3 hq0) hL
  · exact W.last hx hbc hc ha (fun z => by cases z) hin' rfl rfl hd fun H' e1 e2 e3 => kk H' _ ls (wm_ok_ast hO ht n1 hg rfl e1 e2 e3) (hS.put e2 e3 hq0) hL
  · rcases hv with rfl | rfl
    · exact W.zast hx hbc hc ha (fun z => by cases z) hin' rfl rfl hd fun H' e1 e2 e3 => kk H' _ ls (wm_ok_ast hO ht n1 hg rfl e1 e2 e3) (hS.put e2 e3 hq0) hL
    · exact W.zast hx hbc hc ha (fun z => by cases z) hin' rfl rfl hd fun H' e1 e2 e3 => kk H' _ ls (wm_ok_ast hO ht n1 hg rfl e1 e2 e3) (hS.put e2 e3 hq0) hL
theorem wm_o_aast (C : wm_C p s m args meth c own cc nL b0 D aC) {t q b : Nat} {r : vw_C} {j : Int32} {x : Option Nat} (hr : wm_cls[b]? = some r) (hg : wm_tags t = some (.inr (.object r.1))) (hty : FieldType.object r.1 ∈ wm_ats) (ht : h.1 q = t) (n1 : t ≠ 1) (h1 : 0 ≤ j.toInt) (h2 : j.toInt < h.2.1 q)
    (hv : ∀ v, x = some v → wm_tags (h.1 v) = some (.inl b)) (hd : decode cc pc = .ok (.aastore, 1))
    (kk : wm_J p l e R s m args below meth c nL b0 D aC Q (pc + 1) (lv, st, wm_wr h t j.toNatClampNeg q (.inr (.inr x)), cu, su)) : wm_J p l e R s m args below meth c nL b0 D aC Q pc (lv, .inr (.inr x) :: .inl j :: .inr (.inr (some q)) :: st, h, cu, su) := by
  intro H locs ls hO hS hL
  obtain ⟨hx, hbc, hml, hlk, hown, hts, hK⟩ := C
  have hq0 : b0 ≤ q := (hO.2.2.1 q (fun z => by rw [ht] at z; rw [z, wm_tags_0] at hg; cases hg)).1 (by rw [ht]; exact n1)
  have hc := wm_at_a (hO.2.2.2.1 q) (by rw [ht]; exact n1) (by rw [ht]; exact hg)
  have hin := wm_ix_in h1 h2
  have hlt : j.toNatClampNeg < h.2.1 q := Nat.not_le.mp fun z => hin (Or.inr z)
  have h0 : ¬ j < 0 := fun z => hin (Or.inl z)
  obtain ⟨ha, hra, -⟩ := hK.2.1 _ hty
  have ha := ha (h.2.1 q) (fun k => wm_tv (wm_rd h (.object r.1) (h.1 q) k q))
  have hin' : ¬ (j < 0 ∨ (arrV (aC.1 (.object r.1)) (h.2.1 q) (fun k => wm_tv (wm_rd h (.object r.1) (h.1 q) k q))).slots.size ≤ j.toNatClampNeg) := by rw [arrV_size]; exact hin
  cases x with
  | none => exact va_WaastN hx hbc hc ha (fun z => by cases z) hin' rfl rfl hd fun H' e1 e2 e3 => kk H' _ ls (wm_ok_ast hO ht n1 hg rfl e1 e2 e3) (hS.put e2 e3 hq0) hL
  | some v =>
    obtain ⟨cellV, g1, g2, g3, -⟩ := wm_at_o (hO.2.2.2.1 v) (hv v rfl) hr
    have hcls := (hK.1 b r hr).2
    obtain ⟨kA, comp, k1, k2, k3, -⟩ := hra
    have hcomp : comp = D.1 b := Option.some.inj (k3.symm.trans hcls.1)
    subst hcomp
    obtain ⟨kC, hkC, -⟩ := hcls.2
    exact W.aast hx hbc hc (fun z y => by cases y) (fun z => by cases z) k1 k2 rfl hkC ⟨h0, by show _ < (arrV _ _ _).slots.size; rw [arrV_size]; exact hlt⟩ g1 (fun z y => by rw [g3] at y; cases y) (by rw [g2]; exact hkC) (by rw [g2]; exact va_assign hcls) rfl rfl hd fun H' e1 e2 e3 => kk H' _ ls (wm_ok_ast hO ht n1 hg rfl e1 e2 e3) (hS.put e2 e3 hq0) hL
theorem wm_S_new {b0 : Nat} {H0 H H' : Heap} {locs : List Loc} (hS : va_S (fun q => b0 ≤ q) H0 H locs) (z : H'.size = H.size + 1) (o : ∀ a, a < H.size → H'[a]? = H[a]?) : va_S (fun q => b0 ≤ q) H0 H' locs :=
  ⟨Nat.le_trans hS.1 (by omega), fun x h1 h2 => (o x (Nat.lt_of_lt_of_le h1 hS.1)).trans (hS.2.1 x h1 h2), hS.2.2⟩
theorem wm_o_new (C : wm_C p s m args meth c own cc nL b0 D aC) {k t b ci : Nat} {r : vw_C} (n1 : t ≠ 1) (hg : wm_tags t = some (.inl ci)) (hc : wm_cls[ci]? = some r) (hb : b = r.2.2) (h3 : ∀ k, k < r.2.2 → wm_ck (wm_ty ci k) ≠ 3) (w1 : Cond.classLink own k r.1 ∈ wm_WG) (w2 : Cond.instantiable r.1 r.2.2 ∈ wm_WG) (w3 : Cond.initialized r.1 ∈ wm_WG)
    (hd : decode cc pc = .ok (.new k, 3)) (e1 : cu + 1 ≤ R.cells) (e2 : su + b ≤ R.slots)
    (kk : wm_J p l e R s m args below meth c nL b0 D aC Q (pc + 3) (lv, .inr (.inr (some h.2.2.2.2.2)) :: st, wm_nw h t 0, cu + 1, su + b)) : wm_J p l e R s m args below meth c nL b0 D aC Q pc (lv, st, h, cu, su) := by
  intro H locs ls hO hS hL
  obtain ⟨hx, hbc, hml, hlk, hown, hts, hK⟩ := C
  subst hb
  have hKn := hK.1 ci _ hc
  refine W.newcK hx hbc hown (hts _ w1) (hts _ w2) (hts _ w3) rfl hd e1 e2 hKn.2.1 hO.1 fun H1 kC hkC c1 z1 o1 => ?_
  have z1' : H1.size = H.size + 1 := by rw [z1, hO.1]
  have o1' : ∀ a, a < H.size → H1[a]? = H[a]? := fun a ha => o1 a (by rw [← hO.1]; exact ha)
  refine kk H1 locs ls (wm_ok_new hO n1 z1' o1' ?_) (wm_S_new hS z1' o1') hL
  have ht : (wm_nw h t 0).1 h.2.2.2.2.2 = t := by simp [wm_nw]
  unfold wm_at
  rw [ht, hg]
  intro _
  refine ⟨r, hc, (u_born (wm_ty ci) hts (wm_cls_in ci r hc) hKn hkC c1 (wm_cls_ty ci r hc)).to fun j hj => ?_⟩
  rw [wm_nw_df, wm_df_tv (h3 j hj)]
theorem wm_o_newa (C : wm_C p s m args meth c own cc nL b0 D aC) {t : Nat} {at' : ArrayType} {x : Int32} (n1 : t ≠ 1) (hg : wm_tags t = some (.inr (newarray.typeOf at'))) (hty : newarray.typeOf at' ∈ wm_ats) (h3 : wm_ck (newarray.typeOf at') ≠ 3) (w1 : Cond.arrayClass (newarray.typeOf at') ∈ wm_WG)
    (hd : decode cc pc = .ok (.newarray at', 2)) (h1 : 0 ≤ x.toInt) (h2 : x.toInt < 1048576) (e1 : cu + 1 ≤ R.cells) (e2 : su + x.toNatClampNeg ≤ R.slots)
    (kk : wm_J p l e R s m args below meth c nL b0 D aC Q (pc + 2) (lv, .inr (.inr (some h.2.2.2.2.2)) :: st, wm_nw h t x.toNatClampNeg, cu + 1, su + x.toNatClampNeg)) : wm_J p l e R s m args below meth c nL b0 D aC Q pc (lv, .inl x :: st, h, cu, su) := by
  intro H locs ls hO hS hL
  obtain ⟨hx, hbc, hml, hlk, hown, hts, hK⟩ := C
  obtain ⟨-, hra, -⟩ := hK.2.1 _ hty
  have hx0 : ¬ x < 0 := by
    intro z
    have := Int32.lt_iff_toInt_lt.mp z
    have e0 : (0 : Int32).toInt = 0 := rfl
    omega
  have hxn : x.toNatClampNeg < 1048576 := by
    have : (x.toNatClampNeg : Int) = x.toInt := by rw [Int32.toNatClampNeg]; omega
    omega
  have hcb : componentBytes (newarray.typeOf at') ≤ 8 := by cases at' <;> decide
  refine va_newaK hx hbc (hts _ w1) rfl hd rfl hx0 rfl (by
    have := Nat.mul_le_mul (Nat.le_of_lt hxn) hcb
    omega) e1 e2 hO.1 fun H1 cA c1 z1 o1 hAr hNm => ?_
  have z1' : H1.size = H.size + 1 := by rw [z1, hO.1]
  have o1' : ∀ a, a < H.size → H1[a]? = H[a]? := fun a ha => o1 a (by rw [← hO.1]; exact ha)
  refine kk H1 locs ls (wm_ok_new hO n1 z1' o1' ?_) (wm_S_new hS z1' o1') hL
  have ht : (wm_nw h t x.toNatClampNeg).1 h.2.2.2.2.2 = t := by simp [wm_nw]
  have hln : (wm_nw h t x.toNatClampNeg).2.1 h.2.2.2.2.2 = x.toNatClampNeg := by simp [wm_nw]
  have hcA : cA = aC.1 (newarray.typeOf at') := by
    have h9 : s.vm.findClass ("[" ++ (newarray.typeOf at').toString) = some (aC.1 (newarray.typeOf at')) := by
      cases at' <;> exact hra
    exact Option.some.inj (hNm.symm.trans h9)
  unfold wm_at
  rw [ht, hg]
  intro _
  show H1[_]? = _
  rw [c1, hln, hcA]
  congr 2
  funext j
  rw [wm_nw_df, wm_df_tv h3]
theorem wm_o_anew (C : wm_C p s m args meth c own cc nL b0 D aC) {k t : Nat} {Cn : String} {x : Int32} (n1 : t ≠ 1) (hg : wm_tags t = some (.inr (.object Cn))) (hty : FieldType.object Cn ∈ wm_ats) (w1 : Cond.classLink own k Cn ∈ wm_WG)
    (hd : decode cc pc = .ok (.anewarray k, 3)) (h1 : 0 ≤ x.toInt) (h2 : x.toInt < 1048576) (e1 : cu + 1 ≤ R.cells) (e2 : su + x.toNatClampNeg ≤ R.slots)
    (kk : wm_J p l e R s m args below meth c nL b0 D aC Q (pc + 3) (lv, .inr (.inr (some h.2.2.2.2.2)) :: st, wm_nw h t x.toNatClampNeg, cu + 1, su + x.toNatClampNeg)) : wm_J p l e R s m args below meth c nL b0 D aC Q pc (lv, .inl x :: st, h, cu, su) := by
  intro H locs ls hO hS hL
  obtain ⟨hx, hbc, hml, hlk, hown, hts, hK⟩ := C
  obtain ⟨-, hra, hao⟩ := hK.2.1 _ hty
  have hx0 : ¬ x < 0 := by
    intro z
    have := Int32.lt_iff_toInt_lt.mp z
    have e0 : (0 : Int32).toInt = 0 := rfl
    omega
  have hxn : x.toNatClampNeg < 1048576 := by
    have : (x.toNatClampNeg : Int) = x.toInt := by rw [Int32.toNatClampNeg]; omega
    omega
  refine W.anew hx hbc hown (hts _ w1) (va_AO.use (hao Cn rfl)) rfl hd rfl hx0 (by omega) e1 e2 fun cA kA comp f1 f2 f3 f4 => ?_
  generalize hH1 : H.push ({ cls := cA, slots := Array.replicate x.toNatClampNeg .null, vm := .none } : Cell) = H1
  have z1 : H1.size = H.size + 1 := by rw [← hH1, Array.size_push]
  have c1 : H1[H.size]? = some (arrV cA x.toNatClampNeg (fun _ => .null)) := by rw [← hH1, Array.getElem?_push_size, ← arrV_new]
  have o1 : ∀ q : Nat, q < H.size → H1[q]? = H[q]? := fun q hq => by rw [← hH1, Array.getElem?_push, if_neg (Nat.ne_of_lt hq)]
  have hsz := hO.1
  have k9 := kk H1 locs ls (wm_ok_new hO n1 z1 o1 ?_) (wm_S_new hS z1 o1) hL
  · rw [hsz]; exact k9
  have ht : (wm_nw h t x.toNatClampNeg).1 h.2.2.2.2.2 = t := by simp [wm_nw]
  have hln : (wm_nw h t x.toNatClampNeg).2.1 h.2.2.2.2.2 = x.toNatClampNeg := by simp [wm_nw]
  obtain ⟨kA', comp', g1, g2, g3, g4⟩ := hra
  have hcA : cA = aC.1 (.object Cn) := Option.some.inj (f1.symm.trans g4)
  unfold wm_at
  rw [ht, hg]
  intro _
  show H1[_]? = _
  rw [← hsz, c1, hsz, hln, hcA]
  congr 2
  funext j
  rw [wm_nw_df]
  rfl
end WMS
end
section
section WMR
variable {p : Program} {l : Launch} {e : Env} {R : Room} {s : State} {m : MethodId} {args : Array Value} {below : List Frame} {meth : Method} {c : Code} {own : String} {cc : ByteArray} {nL b0 : Nat} {D : va_G} {aC : wm_Y}
variable {pc cu su mc ms : Nat} {lv : wm_L} {st : List wm_V} {h : wm_H} {qr : wm_Q1} {qt : wm_Q2}
theorem wm_qr_of {H : Heap} {locs : List Loc} {v : Option wm_V} (hO : wm_ok D aC b0 h H) (hS : va_S (fun q => b0 ≤ q) s.heap H locs) (hb : b0 ≤ s.heap.size) (hq : qr v h) : ∀ t : State, t.heap = H → s.WarmedH t.vm → wm_Qc D aC b0 qr qt args s (.returned (v.map wm_tv)) t := by
  intro t ht _
  refine ⟨Or.inl ⟨v, h, rfl, by rw [ht]; exact hO, hq⟩, by rw [ht]; exact hS.1, fun q hq' => ?_⟩
  rw [ht]
  exact hS.2.1 q (by omega) (by omega)
theorem wm_o_iret (C : wm_C p s m args meth c own cc nL b0 D aC) (hb : b0 ≤ s.heap.size) {x : Int32} {ty : FieldType} (hr : meth.sig.returnType = some ty) (hn : narrow ty (.int x) = .int x) (hd : decode cc pc = .ok (.ireturn, 1)) (e1 : cu ≤ mc) (e2 : su ≤ ms) (hq : qr (some (.inl x)) h) :
    wm_J p l e R s m args below meth c nL b0 D aC (wm_MQ below (wm_Qc D aC b0 qr qt) args s mc ms (fun q => b0 ≤ q)) pc (lv, [.inl x], h, cu, su) := by
  intro H locs ls hO hS hL
  obtain ⟨hx, hbc, hml, hlocks, hown, hts, hK⟩ := C
  exact W.widen e1 e2 (wm_mono wm_MQ_of (W.zret (v := x) hx hbc hr hn (wm_qr_of hO hS hb hq) hS.2.2 hd hlocks))
theorem wm_o_lret (C : wm_C p s m args meth c own cc nL b0 D aC) (hb : b0 ≤ s.heap.size) {x : Int64} (hr : meth.sig.returnType = some .long) (hd : decode cc pc = .ok (.lreturn, 1)) (e1 : cu ≤ mc) (e2 : su ≤ ms) (hq : qr (some (.inr (.inl x))) h) :
    wm_J p l e R s m args below meth c nL b0 D aC (wm_MQ below (wm_Qc D aC b0 qr qt) args s mc ms (fun q => b0 ≤ q)) pc (lv, [.inr (.inl x)], h, cu, su) := by
  intro H locs ls hO hS hL
  obtain ⟨hx, hbc, hml, hlocks, hown, hts, hK⟩ := C
  exact W.widen e1 e2 (wm_mono wm_MQ_of (W.lret (v := x) hx hbc hr (wm_qr_of hO hS hb hq) hS.2.2 hd hlocks))
theorem wm_o_aret (C : wm_C p s m args meth c own cc nL b0 D aC) (hb : b0 ≤ s.heap.size) {x : Option Nat} {ty : FieldType} (hr : meth.sig.returnType = some ty) (hrt : wm_ck ty = 2) (hd : decode cc pc = .ok (.areturn, 1)) (e1 : cu ≤ mc) (e2 : su ≤ ms) (hq : qr (some (.inr (.inr x))) h) :
    wm_J p l e R s m args below meth c nL b0 D aC (wm_MQ below (wm_Qc D aC b0 qr qt) args s mc ms (fun q => b0 ≤ q)) pc (lv, [.inr (.inr x)], h, cu, su) := by
  intro H locs ls hO hS hL
  obtain ⟨hx, hbc, hml, hlocks, hown, hts, hK⟩ := C
  have hrt' : (∃ n, ty = .object n) ∨ ∃ t, ty = .array t := by
    cases ty <;> first | exact Or.inl ⟨_, rfl⟩ | exact Or.inr ⟨_, rfl⟩ | exact absurd hrt (by decide)
  have hv : wm_tv (.inr (.inr x)) = .null ∨ ∃ a, wm_tv (.inr (.inr x)) = .ref a := by
    cases x with
    | none => exact Or.inl rfl
    | some a => exact Or.inr ⟨a, rfl⟩
  exact W.widen e1 e2 (wm_mono wm_MQ_of (W.aret (v := wm_tv (.inr (.inr x))) hx hbc hr hrt' hv (wm_qr_of hO hS hb hq) hS.2.2 hd hlocks))
theorem wm_o_vret (C : wm_C p s m args meth c own cc nL b0 D aC) (hb : b0 ≤ s.heap.size) (hr : meth.sig.returnType = none) (hd : decode cc pc = .ok (.return_, 1)) (e1 : cu ≤ mc) (e2 : su ≤ ms) (hq : qr none h) :
    wm_J p l e R s m args below meth c nL b0 D aC (wm_MQ below (wm_Qc D aC b0 qr qt) args s mc ms (fun q => b0 ≤ q)) pc (lv, [], h, cu, su) := by
  intro H locs ls hO hS hL
  obtain ⟨hx, hbc, hml, hlocks, hown, hts, hK⟩ := C
  exact W.widen e1 e2 (wm_mono wm_MQ_of (W.vret hx hbc hr (wm_qr_of hO hS hb hq) hS.2.2 hd hlocks))
theorem wm_o_obj {Q : State → Prop} (C : wm_C p s m args meth c own cc nL b0 D aC) (hr : 1 ≤ R.frames ∧ 20 ≤ R.locals) {k q : Nat} {r : List wm_V} (hst : (r.map wm_cat).sum ≤ 8) (w1 : Cond.methodLink own k objectInit ∈ wm_WG) (w2 : Cond.instanceMethod objectInit ∈ wm_WG) (w3 : Cond.code objectInit ⟨#[0xb1]⟩ 1 none ∈ wm_WG) (hd : decode cc pc = .ok (.invokespecial k, 3))
    (kk : wm_J p l e R s m args below meth c nL b0 D aC Q (pc + 3) (lv, r, h, cu, su)) : wm_J p l e R s m args below meth c nL b0 D aC Q pc (lv, .inr (.inr (some q)) :: r, h, cu, su) := by
  intro H locs ls hO hS hL
  obtain ⟨hx, hbc, hml, hlocks, hown, hts, hK⟩ := C
  exact W.objInit hx hbc hown (hts _ w1) (hts _ w2) (hts _ w3) rfl (by rw [hml]; exact hL.2.1) rfl hd hr.1 (by show 2 * 0 + _ + 12 ≤ _; rw [wm_cats]; omega) (kk H locs ls hO hS hL)
/-- what lies at x is thrown here, and nothing catches it: the method throws it -/
def wm_out (c : Code) (pc : Nat) : Prop := ∀ y ∈ c.exceptionTable.toList, covers y pc = false
theorem wm_leave (C : wm_C p s m args meth c own cc nL b0 D aC) (hb : b0 ≤ s.heap.size) {T : State} {locs : List Loc} (X : Stand p l e R s m args below meth c T locs cu su) {g : JFrame} (hg : g.method = m) (hg2 : g.locked = none) (hg3 : g.entered = []) (hout : wm_out c g.pc) {x : Addr} {k : Nat} {ce : Cell} (hO : wm_ok D aC b0 h T.heap) (hS : va_S (fun q => b0 ≤ q) s.heap T.heap locs)
    (h1 : T.heap[x]? = some ce) (h2 : ce.vm = .none) (h3 : s.vm.findClass (wm_xn k) = some ce.cls) (h4 : k = 1 ∨ k = 2 ∨ k = 3) (e1 : cu ≤ mc) (e2 : su ≤ ms) (hq : qt k h) :
    ∃ t, Steps p.tables e below ((T.setTop g).pushFrame (.throwing x)) t ∧ wm_MQ below (wm_Qc D aC b0 qr qt) args s mc ms (fun q => b0 ≤ q) t := by
  obtain ⟨hx, hbc, hml, hlocks, hown, hts, hK⟩ := C
  obtain ⟨y1, y2, y3, y4, y5⟩ := (stand_widen X e1 e2).leaveThrown x hg hg2 hg3 hout hlocks
  refine ⟨_, y1, .threw x, y2, y3, ⟨Or.inr ⟨x, h, k, ce, rfl, hO, h1, h2, h3, h4, hq⟩, hS.1, fun q hq' => hS.2.1 q (by omega) (by omega)⟩, locs, ⟨y4, y5⟩, hS.2.2⟩
/-- where x is thrown over the frame: the walk goes on, or ends -/
def wm_JT (p : Program) (l : Launch) (e : Env) (R : Room) (s : State) (m : MethodId) (args : Array Value) (below : List Frame) (meth : Method) (c : Code) (nL b0 : Nat) (D : va_G) (aC : wm_Y) (Q : State → Prop) (pc : Nat) (lv : wm_L) (r : List wm_V) (k : Nat) (h : wm_H) (cu su : Nat) : Prop :=
  ∀ (H : Heap) (locs : List Loc) (ls : Array Slot) (x : Addr) (ce : Cell), wm_ok D aC b0 h H → va_S (fun q => b0 ≤ q) s.heap H locs → wm_lo ls nL lv → H[x]? = some ce → ce.vm = .none → s.vm.findClass (wm_xn k) = some ce.cls → (k = 1 ∨ k = 2 ∨ k = 3) →
    vx_W p l e R s m args below meth c H locs cu su Q (F0 m pc ls (r.map wm_tv)) x
theorem wm_JT_out (C : wm_C p s m args meth c own cc nL b0 D aC) (hb : b0 ≤ s.heap.size) (hout : wm_out c pc) {r : List wm_V} {k : Nat} (e1 : cu ≤ mc) (e2 : su ≤ ms) (hq : qt k h) :
    wm_JT p l e R s m args below meth c nL b0 D aC (wm_MQ below (wm_Qc D aC b0 qr qt) args s mc ms (fun q => b0 ≤ q)) pc lv r k h cu su := by
  intro H locs ls x ce hO hS hL h1 h2 h3 h4 T hT X
  subst hT
  exact wm_leave C hb X rfl rfl rfl hout hO hS h1 h2 h3 h4 e1 e2 hq
theorem wm_out_of {c : Code} (h : c.exceptionTable.isEmpty = true) : ∀ q, wm_out c q := by
  intro q y hy
  have : c.exceptionTable = #[] := by simpa using h
  rw [this] at hy
  simp at hy
theorem wm_vx {below : List Frame} {args : Array Value} {s : State} {H : Heap} {k : Nat} (hb : b0 ≤ s.heap.size) (hO : wm_ok D aC b0 h H) (hS1 : s.heap.size ≤ H.size) (hS2 : ∀ q, q < b0 → H[q]? = s.heap[q]?) (h4 : k = 1 ∨ k = 2 ∨ k = 3) (hq : ∀ n, h.2.2.2.2.2 ≤ n → qt k (wm_sz h n)) (t : State)
    (z : vx_MQ below (fun _ _ _ _ => False) (fun E _ t => E = wm_xn k ∧ H.size ≤ t.heap.size ∧ ∀ q, q < H.size → t.heap[q]? = H[q]?) args s mc ms (fun q => b0 ≤ q) t) : wm_MQ below (wm_Qc D aC b0 qr qt) args s mc ms (fun q => b0 ≤ q) t := by
  obtain ⟨o, z1, z2, z3⟩ := z
  rcases z3 with ⟨z3, -⟩ | ⟨q, rfl, E, ce, L, ⟨rfl, y1, y2⟩, y3, y4, y5, y6, y7, y8⟩
  · exact z3.elim
  · refine ⟨_, z1, z2, ⟨Or.inr ⟨q, wm_sz h t.heap.size, k, ce, rfl, wm_ok_sz hO y1 y2, y3, y4, y5, h4, hq _ (by rw [← hO.1]; exact y1)⟩, by omega, fun q' hq' => ?_⟩, L, ⟨y6, y7⟩, y8⟩
    rw [y2 q' (by omega)]
    exact hS2 q' hq'
theorem wm_o_throw (C : wm_C p s m args meth c own cc nL b0 D aC) (hb : b0 ≤ s.heap.size) (hl0 : l.stackTraces = false) (hout : ∀ q, wm_out c q) {k a j : Nat} {tx : String} (r1 : 6 ≤ R.frames) (r2 : 90 ≤ R.locals) (h4 : a = 1 ∨ a = 2 ∨ a = 3) (ho : own = "CycleKernel") (w1 : Cond.classLink own k (wm_xn a) ∈ wm_WG) (w2 : Cond.initialized (wm_xn a) ∈ wm_WG)
    (hd : decode cc pc = .ok (.new k, 3)) (d3 : decode cc (pc + 3) = .ok (.dup, 1)) (hsr : (own, j, tx) ∈ wm_sr)
    (d4 : (decode cc (pc + 4) = .ok (.ldc j, 2) ∧ decode cc (pc + 6) = .ok (.invokespecial (wm_xi a), 3) ∧ decode cc (pc + 9) = .ok (.athrow, 1)) ∨ (decode cc (pc + 4) = .ok (.ldc_w j, 3) ∧ decode cc (pc + 7) = .ok (.invokespecial (wm_xi a), 3) ∧ decode cc (pc + 10) = .ok (.athrow, 1)))
    (i1 : cu + 1 ≤ R.cells) (i2 : su + 6 ≤ R.slots) (y1 : cu + 1 ≤ mc) (y2 : su + 6 ≤ ms) (y3 : (st.map wm_cat).sum ≤ 8) (y4 : ∀ n, h.2.2.2.2.2 ≤ n → qt a (wm_sz h n)) :
    wm_J p l e R s m args below meth c nL b0 D aC (wm_MQ below (wm_Qc D aC b0 qr qt) args s mc ms (fun q => b0 ≤ q)) pc (lv, st, h, cu, su) := by
  intro H locs ls hO hS hL
  obtain ⟨hx, hbc, hml, hlocks, hown, hts, hK⟩ := C
  subst ho
  have hxk := wm_xk_ok h4
  have hw : ∀ w, (w ∈ wm_WG ∨ w ∈ wm_NW) → vx_ot w = true → w.before args s = true := by
    intro w hw ho
    rcases hw with hw | hw
    · exact hts w hw
    · have hon : w.onTables = true := by
        rcases wm_NW_ok w hw with ⟨a, i, x, g, rfl⟩ | ⟨x, rfl⟩ | ⟨a, b, rfl⟩ <;> rfl
      exact va_Nw.use hon (hK.2.2.1 w hw)
  have hat : ∀ w ∈ vx_atS "CycleKernel" (wm_xi a) (wm_xn a) wm_xc, w.before args s = true := fun w hw' => hw w (hxk w hw').2 (hxk w hw').1
  have hgood : ∀ w ∈ Cond.classLink "CycleKernel" k (wm_xn a) :: Cond.initialized (wm_xn a) :: vx_atS "CycleKernel" (wm_xi a) (wm_xn a) wm_xc, vx_ot w = true := by
    intro w hw'
    rcases List.mem_cons.mp hw' with rfl | hw'
    · rfl
    · rcases List.mem_cons.mp hw' with rfl | hw'
      · rfl
      · exact (hxk w hw').1
  obtain ⟨sa, hstr⟩ := hK.2.2.2.2.2.2 _ hsr
  have hcls : Bundle.fit (wm_xn a) = true := by rcases h4 with rfl | rfl | rfl <;> decide +kernel
  have hnm : ∀ n ∈ wm_xc, Bundle.fit n = true := by decide +kernel
  have hS2 : ∀ q, q < b0 → H[q]? = s.heap[q]? := fun q hq => hS.2.1 q (by omega) (by omega)
  have hloc : ((st.map wm_tv).map fun v => v.category).sum + (13 * (wm_xc.length + 1) + 43) ≤ R.locals := by
    rw [wm_cats]
    have : wm_xc.length = 2 := rfl
    omega
  refine wm_mono (wm_vx (mc := mc) (ms := ms) hb hO hS.1 hS2 h4 y4) ?_
  rcases d4 with ⟨d4, d6, d9⟩ | ⟨d4, d7, d10⟩
  · exact vx_throwS hx hbc hl0 hown hcls hnm (hts _ w1) (hts _ w2) hstr hat hgood hK.2.2.2.2.1 hK.2.2.2.2.2.1 hS (by rw [hml]; exact hL.2.1) hd d3 d4 d6 d9 (hout _) (by show 2 + 3 < _; omega) hloc i1 i2 hlocks (fun t _ z1 z2 => ⟨rfl, z1, z2⟩) hS.2.2 y1 y2
  · exact vx_throwSW hx hbc hl0 hown hcls hnm (hts _ w1) (hts _ w2) hstr hat hgood hK.2.2.2.2.1 hK.2.2.2.2.2.1 hS (by rw [hml]; exact hL.2.1) hd d3 d4 d7 d10 (hout _) (by show 2 + 3 < _; omega) hloc i1 i2 hlocks (fun t _ z1 z2 => ⟨rfl, z1, z2⟩) hS.2.2 y1 y2
theorem wm_o_call {Q : State → Prop} (C : wm_C p s m args meth c own cc nL b0 D aC) {id : Nat} {as r : List wm_V} {q1 : wm_Q1} {q2 : wm_Q2} {i : Instr} {w0 : Cond}
    (hM : wm_Met l (wm_my id) (w0 :: wm_WG) (wm_mr id) (wm_Pc D aC b0 as h) (wm_Qc D aC b0 q1 q2) (wm_mc id) (wm_ms id) (fun q => b0 ≤ q))
    (hrc : (wm_mr id).cells = wm_mc id) (hrs : (wm_mr id).slots = wm_ms id) (hR1 : (wm_mr id).frames + 1 ≤ R.frames) (hR2 : 8 + (wm_mL id + 11) + (wm_mr id).locals ≤ R.locals) (w1 : w0 ∈ wm_WG) (w2 : Cond.initialized (wm_my id).cls ∈ wm_WG)
    (hcd : ∀ (T : State) (mk : MethodId), s.WarmedH T.vm → T.methodNamed? (wm_my id) = some mk → ∃ methY cY, T.vm.method? mk = some methY ∧ methY.code = some cY ∧ cY.maxLocals = wm_mL id)
    (hd : decode cc pc = .ok (i, 3)) (hst : (r.map wm_cat).sum ≤ 8) (e1 : cu + wm_mc id ≤ R.cells) (e2 : su + wm_ms id ≤ R.slots)
    (inv : ∀ (T : State) (locs : List Loc) (ls : Array Slot), wm_ok D aC b0 h T.heap → Stand p l e R s m args below meth c T locs cu su → wm_Inv p l e R s m args below meth c locs cu su T (F0 m pc ls (st.map wm_tv)) (r.map wm_tv) (wm_my id) (as.map wm_tv).toArray)
    (hb : b0 ≤ s.heap.size)
    (kr : ∀ v h', q1 v h' → wm_J p l e R s m args below meth c nL b0 D aC Q (pc + 3) (lv, v.toList ++ r, h', cu + wm_mc id, su + wm_ms id))
    (kt : ∀ k h', q2 k h' → wm_JT p l e R s m args below meth c nL b0 D aC Q pc lv r k h' (cu + wm_mc id) (su + wm_ms id)) :
    wm_J p l e R s m args below meth c nL b0 D aC Q pc (lv, st, h, cu, su) := by
  intro H locs ls hO hS hL T hT X
  subst hT
  obtain ⟨vm₁, mk, X₁, hn, hstep⟩ := inv T locs ls hO X
  have C9 := C
  obtain ⟨hx, hbc, hml, hlocks, hown, hts, hK⟩ := C9
  have hws : ∀ w ∈ (w0 :: wm_WG), ∀ a' U, s.WarmedH U.vm → w.before a' U = true := by
    intro w hw a' U hW
    have hw' : w ∈ wm_WG := by
      rcases List.mem_cons.mp hw with rfl | hw
      · exact w1
      · exact hw
    exact word_at hW (good_of_word (wm_WG_good w hw')) (hts w hw')
  have hsz : (F0 m pc ls (r.map wm_tv)).locals.size = c.maxLocals := by rw [hml]; exact hL.2.1
  have hPc : wm_Pc D aC b0 as h (as.map wm_tv).toArray (T.setVm vm₁) := ⟨rfl, hO, wm_K_to X₁.warmed (fun q hq => hS.2.1 q (by omega) (by omega)) hK⟩
  have hfr : ∀ {st' t' : State} {L : List Loc}, st'.heap = T.heap → st'.heap.size ≤ t'.heap.size → (∀ q, q < b0 → t'.heap[q]? = st'.heap[q]?) → (∀ q ∈ L, b0 ≤ q.base) → va_S (fun q => b0 ≤ q) s.heap t'.heap (locs ++ L) := by
    intro st' t' L g1 g2 g3 g4
    refine ⟨Nat.le_trans hS.1 (by rw [← g1]; exact g2), fun q a1 a2 => ?_, fun q hq => ?_⟩
    · rw [g3 q (by omega), g1]
      exact hS.2.1 q a1 a2
    · rcases List.mem_append.mp hq with z | z
      · exact hS.2.2 q z
      · exact g4 q z
  rcases wm_into X₁ hM (wm_blind D aC b0 as h) hrc hrs hR1 hR2 hws (hcd _ mk X₁.warmed (X₁.named hn)) (hts _ w2) (g := F0 m pc ls (r.map wm_tv)) rfl hsz (by rw [hbc]; exact hd) (by show 2 * 0 + _ ≤ 8; rw [wm_cats]; omega) hn e1 e2 hPc with
    ⟨v, st', t, T', L, g1, g4, g2, g3, ⟨gq, g5, g6⟩, g7, X', hs⟩ | ⟨x, st', t, T', L, g1, g4, g2, g3, ⟨gq, g5, g6⟩, g7, X', hs⟩
  · rcases gq with ⟨v', h', ev, hO', hq'⟩ | ⟨x, h', k, ce, ev, -⟩
    · cases ev
      have S' := hfr g1 g5 g6 g7
      rw [← g2] at S' hO'
      obtain ⟨t2, a1, b1⟩ := kr v' h' hq' T'.heap (locs ++ L) ls hO' S' hL T' rfl X'
      refine ⟨t2, hstep _ fun acts => ?_, b1⟩
      rw [doInvoke_state]
      refine hs.trans ?_
      have hst9 : (v'.map wm_tv).toList ++ r.map wm_tv = (v'.toList ++ r).map wm_tv := by cases v' <;> rfl
      show Steps p.tables e below (T'.setTop (F0 m (pc + 3) ls ((v'.map wm_tv).toList ++ r.map wm_tv))) t2
      rw [hst9]
      exact a1
    · cases ev
  · rcases gq with ⟨v', h', ev, -⟩ | ⟨x', h', k, ce, ev, hO', j1, j2, j3, j4, hq'⟩
    · cases ev
    · cases ev
      have S' := hfr g1 g5 g6 g7
      rw [← g2] at S' hO' j1
      have j3' : s.vm.findClass (wm_xn k) = some ce.cls := by
        have z : st'.vm.findClass (wm_xn k) = some ce.cls := j3
        rw [g4] at z
        exact vx_cls X₁.warmed z
      obtain ⟨t2, a1, b1⟩ := kt k h' hq' T'.heap (locs ++ L) ls x ce hO' S' hL j1 j2 j3' j4 T' rfl X'
      refine ⟨t2, hstep _ fun acts => ?_, b1⟩
      rw [doInvoke_state]
      exact hs.trans a1
end WMR
end
section
/-- what a callee's tables must say -/
def wm_oi (R : Room) (id : Nat) : Prop := (wm_mr id).cells = wm_mc id ∧ (wm_mr id).slots = wm_ms id ∧ (wm_mr id).frames + 1 ≤ R.frames ∧ 8 + (wm_mL id + 11) + (wm_mr id).locals ≤ R.locals ∧ Cond.code (wm_my id) (wm_mb id) (wm_mL id) (wm_mrt id) ∈ wm_WG ∧ Cond.initialized (wm_my id).cls ∈ wm_WG ∧ ((wm_my id).cls ≠ "java/lang/invoke/MethodHandle" ∧ (wm_my id).cls ≠ "java/lang/invoke/VarHandle")
/-- a method's own word: its code, with a table of handlers or without -/
def wm_cw (id : Nat) : Cond := Cond.code (wm_my id) (wm_mb id) (wm_mL id) (wm_mrt id)
def wm_cxok (l : Launch) (R : Room) (D : va_G) (aC : wm_Y) (b0 : Nat) (cx : wm_X) (ids : List Nat) : Prop := ∀ id ∈ ids, wm_oi R id ∧ ∀ as h q1 q2, cx id as h q1 q2 → wm_Met l (wm_my id) (wm_cw id :: wm_WG) (wm_mr id) (wm_Pc D aC b0 as h) (wm_Qc D aC b0 q1 q2) (wm_mc id) (wm_ms id) (fun q => b0 ≤ q)
theorem wm_cd {args : Array Value} {s : State} {id : Nat} (h : (wm_cw id).before args s = true) (T : State) (mk : MethodId) (hW : s.WarmedH T.vm) (hn : T.methodNamed? (wm_my id) = some mk) : ∃ methY cY, T.vm.method? mk = some methY ∧ methY.code = some cY ∧ cY.maxLocals = wm_mL id := by
  have h2 : (wm_cw id).before args T = true := word_at hW (Or.inl (by rfl)) h
  obtain ⟨methY, cY, hmY, hcY, -, hlY, -, -, -, -⟩ := Cond.code_spec hn h2
  exact ⟨methY, cY, hmY, hcY, hlY⟩
theorem wm_pp_e {n : Nat} {st : List wm_V} {f : List wm_V → List wm_V → Prop} (h : wm_pp n st f) : ∃ as r, st = as.reverse ++ r ∧ as.length = n ∧ f as r := by
  refine ⟨(st.take n).reverse, st.drop n, by rw [List.reverse_reverse, List.take_append_drop], by rw [List.length_reverse, List.length_take]; exact Nat.min_eq_left h.1, h.2⟩
section WMT
variable {p : Program} {l : Launch} {e : Env} {R : Room} {s : State} {m : MethodId} {args : Array Value} {below : List Frame} {meth : Method} {c : Code} {own mn : String} {rt : Option FieldType} {cc : ByteArray} {nL b0 : Nat} {D : va_G} {aC : wm_Y}
variable {pc cu su mc ms : Nat} {lv : wm_L} {st : List wm_V} {h : wm_H} {qr : wm_Q1} {qt : wm_Q2}
set_option maxHeartbeats 4000000 in
theorem wm_sound (C : wm_C p s m args meth c own cc nL b0 D aC) (hb0 : b0 ≤ s.heap.size) (hl0 : l.stackTraces = false) (hex : c.exceptionTable.isEmpty = true) (hmn : meth.name = mn) (hrt : meth.sig.returnType = rt) {cx : wm_X} {ids : List Nat} (hcx : wm_cxok l R D aC b0 cx ids)
    {nx : wm_N} {jp : Nat → wm_N} {i : Instr} {a b k : Nat} (hd : decode cc pc = .ok (i, wm_len i)) (hs : wm_st R own mn rt ids cc pc i a b k)
    (hn : ∀ lv st h cu su, nx lv st h cu su → wm_J p l e R s m args below meth c nL b0 D aC (wm_MQ below (wm_Qc D aC b0 qr qt) args s mc ms (fun q => b0 ≤ q)) (pc + wm_len i) (lv, st, h, cu, su)) (hj : ∀ t lv st h cu su, jp t lv st h cu su → wm_J p l e R s m args below meth c nL b0 D aC (wm_MQ below (wm_Qc D aC b0 qr qt) args s mc ms (fun q => b0 ≤ q)) t (lv, st, h, cu, su))
    (h1 : wm_1 R.cells R.slots mc ms cx qr qt nx jp i a b k lv st h cu su) : wm_J p l e R s m args below meth c nL b0 D aC (wm_MQ below (wm_Qc D aC b0 qr qt) args s mc ms (fun q => b0 ≤ q)) pc (lv, st, h, cu, su) := by
  have C9 := C
  obtain ⟨hx, hbc, hml, hlk, hown, hts, hK⟩ := C9
  have hout : ∀ q, wm_out c q := wm_out_of hex
  cases i
  case iconst n =>
    dsimp only [wm_1] at h1
    exact fun H locs ls hO hS hl => lv_iconst hx hbc hd rfl (hn _ _ _ _ _ h1 H locs ls hO hS hl)
  case bipush n =>
    dsimp only [wm_1] at h1
    exact fun H locs ls hO hS hl => lv_bipush hx hbc hd rfl (hn _ _ _ _ _ h1 H locs ls hO hS hl)
  case sipush n =>
    dsimp only [wm_1] at h1
    exact fun H locs ls hO hS hl => lv_sipush hx hbc hd rfl (hn _ _ _ _ _ h1 H locs ls hO hS hl)
  case lconst n =>
    dsimp only [wm_1] at h1
    exact fun H locs ls hO hS hl => lv_lconst hx hbc hd rfl (hn _ _ _ _ _ h1 H locs ls hO hS hl)
  case ldc n =>
    dsimp only [wm_1] at h1
    exact fun H locs ls hO hS hl => lv_ldc hx hbc hown (hts _ hs) hd (hn _ _ _ _ _ h1 H locs ls hO hS hl)
  case ldc2_w n =>
    dsimp only [wm_1] at h1
    exact fun H locs ls hO hS hl => lv_ldc2 hx hbc hown (hts _ hs) hd (hn _ _ _ _ _ h1 H locs ls hO hS hl)
  case aconst_null =>
    dsimp only [wm_1] at h1
    exact fun H locs ls hO hS hl => lv_null hx hbc hd (hn _ _ _ _ _ h1 H locs ls hO hS hl)
  case iload j =>
    dsimp only [wm_1] at h1
    obtain ⟨x, ex, h1x⟩ := wm_gi_e h1
    exact fun H locs ls hO hS hl => lv_iload hx hbc hd (hl.2.2.2 _ _ ex) (hn _ _ _ _ _ h1x H locs ls hO hS hl)
  case lload j =>
    dsimp only [wm_1] at h1
    obtain ⟨x, ex, h1x⟩ := wm_gj_e h1
    exact fun H locs ls hO hS hl => lv_lload hx hbc hd (hl.2.2.2 _ _ ex) (hn _ _ _ _ _ h1x H locs ls hO hS hl)
  case iload_n j =>
    dsimp only [wm_1] at h1
    obtain ⟨x, ex, h1x⟩ := wm_gi_e h1
    exact fun H locs ls hO hS hl => lv_iload_n hx hbc hd rfl (hl.2.2.2 _ _ ex) (hn _ _ _ _ _ h1x H locs ls hO hS hl)
  case lload_n j =>
    dsimp only [wm_1] at h1
    obtain ⟨x, ex, h1x⟩ := wm_gj_e h1
    exact fun H locs ls hO hS hl => lv_lload_n hx hbc hd rfl (hl.2.2.2 _ _ ex) (hn _ _ _ _ _ h1x H locs ls hO hS hl)
  case aload j =>
    dsimp only [wm_1] at h1
    obtain ⟨x, ex, h1x⟩ := wm_gr_e h1
    cases x with
    | none => exact fun H locs ls hO hS hl => lv_aloadN hx hbc hd (hl.2.2.2 _ _ ex) (hn _ _ _ _ _ h1x H locs ls hO hS hl)
    | some x => exact fun H locs ls hO hS hl => lv_aload hx hbc hd (hl.2.2.2 _ _ ex) (hn _ _ _ _ _ h1x H locs ls hO hS hl)
  case aload_n j =>
    dsimp only [wm_1] at h1
    obtain ⟨x, ex, h1x⟩ := wm_gr_e h1
    cases x with
    | none => exact fun H locs ls hO hS hl => lv_aload_nN hx hbc hd rfl (hl.2.2.2 _ _ ex) (hn _ _ _ _ _ h1x H locs ls hO hS hl)
    | some x => exact fun H locs ls hO hS hl => lv_aload_n hx hbc hd rfl (hl.2.2.2 _ _ ex) (hn _ _ _ _ _ h1x H locs ls hO hS hl)
  case istore j =>
    dsimp only [wm_1] at h1
    obtain ⟨x, r, rfl, hlt, h1x⟩ := wm_pi_e h1
    exact fun H locs ls hO hS hl => lv_istore hx hbc hd (wm_lo_has hl) (by have : lv.length = nL := hl.1; omega) rfl (fun ls' h' => hn _ _ _ _ _ h1x H locs ls' hO hS (wm_lo_s1 hl h'))
  case istore_n j =>
    dsimp only [wm_1] at h1
    obtain ⟨x, r, rfl, hlt, h1x⟩ := wm_pi_e h1
    exact fun H locs ls hO hS hl => lv_istore_n hx hbc hd rfl (wm_lo_has hl) (by have : lv.length = nL := hl.1; omega) rfl (fun ls' h' => hn _ _ _ _ _ h1x H locs ls' hO hS (wm_lo_s1 hl h'))
  case lstore j =>
    dsimp only [wm_1] at h1
    obtain ⟨x, r, rfl, hlt, h1x⟩ := wm_pj_e h1
    exact fun H locs ls hO hS hl => lv_lstore hx hbc hd (wm_lo_has hl) (by have : lv.length = nL := hl.1; omega) rfl (fun ls' h' => hn _ _ _ _ _ h1x H locs ls' hO hS (wm_lo_s2 hl h'))
  case lstore_n j =>
    dsimp only [wm_1] at h1
    obtain ⟨x, r, rfl, hlt, h1x⟩ := wm_pj_e h1
    exact fun H locs ls hO hS hl => lv_lstore_n hx hbc hd rfl (wm_lo_has hl) (by have : lv.length = nL := hl.1; omega) rfl (fun ls' h' => hn _ _ _ _ _ h1x H locs ls' hO hS (wm_lo_s2 hl h'))
  case astore j =>
    dsimp only [wm_1] at h1
    obtain ⟨x, r, rfl, hlt, h1x⟩ := wm_pr_e h1
    cases x with
    | none => exact fun H locs ls hO hS hl => lv_astoreN hx hbc hd (wm_lo_has hl) (by have : lv.length = nL := hl.1; omega) rfl (fun ls' h' => hn _ _ _ _ _ h1x H locs ls' hO hS (wm_lo_s1 hl h'))
    | some x => exact fun H locs ls hO hS hl => lv_astore hx hbc hd (wm_lo_has hl) (by have : lv.length = nL := hl.1; omega) rfl (fun ls' h' => hn _ _ _ _ _ h1x H locs ls' hO hS (wm_lo_s1 hl h'))
  case astore_n j =>
    dsimp only [wm_1] at h1
    obtain ⟨x, r, rfl, hlt, h1x⟩ := wm_pr_e h1
    cases x with
    | none => exact fun H locs ls hO hS hl => lv_astore_nN hx hbc hd rfl (wm_lo_has hl) (by have : lv.length = nL := hl.1; omega) rfl (fun ls' h' => hn _ _ _ _ _ h1x H locs ls' hO hS (wm_lo_s1 hl h'))
    | some x => exact fun H locs ls hO hS hl => lv_astore_n hx hbc hd rfl (wm_lo_has hl) (by have : lv.length = nL := hl.1; omega) rfl (fun ls' h' => hn _ _ _ _ _ h1x H locs ls' hO hS (wm_lo_s1 hl h'))
  case iinc j n =>
    dsimp only [wm_1] at h1
    obtain ⟨x, ex, h1x⟩ := wm_gi_e h1
    refine fun H locs ls hO hS hl => ?_
    obtain ⟨ki, hki⟩ := List.getElem?_of_mem (wm_pl_in ex)
    exact lv_iinc hx hbc hd (wm_lo_has hl) hki rfl (by have := wm_lk_lt _ _ _ ex; have : lv.length = nL := hl.1; omega) rfl (fun ls' h' => hn _ _ _ _ _ h1x H locs ls' hO hS (wm_lo_s1 hl h'))
  case iadd =>
    dsimp only [wm_1] at h1
    obtain ⟨y, r, rfl, h1x⟩ := wm_pi_e h1
    obtain ⟨x, r, rfl, h1y⟩ := wm_pi_e h1x
    exact fun H locs ls hO hS hl => lv_iadd hx hbc hd (hn _ _ _ _ _ h1y H locs ls hO hS hl)
  case isub =>
    dsimp only [wm_1] at h1
    obtain ⟨y, r, rfl, h1x⟩ := wm_pi_e h1
    obtain ⟨x, r, rfl, h1y⟩ := wm_pi_e h1x
    exact fun H locs ls hO hS hl => lv_isub hx hbc hd (hn _ _ _ _ _ h1y H locs ls hO hS hl)
  case imul =>
    dsimp only [wm_1] at h1
    obtain ⟨y, r, rfl, h1x⟩ := wm_pi_e h1
    obtain ⟨x, r, rfl, h1y⟩ := wm_pi_e h1x
    exact fun H locs ls hO hS hl => lv_imul hx hbc hd (hn _ _ _ _ _ h1y H locs ls hO hS hl)
  case iand =>
    dsimp only [wm_1] at h1
    obtain ⟨y, r, rfl, h1x⟩ := wm_pi_e h1
    obtain ⟨x, r, rfl, h1y⟩ := wm_pi_e h1x
    exact fun H locs ls hO hS hl => lv_iand hx hbc hd (hn _ _ _ _ _ h1y H locs ls hO hS hl)
  case ior =>
    dsimp only [wm_1] at h1
    obtain ⟨y, r, rfl, h1x⟩ := wm_pi_e h1
    obtain ⟨x, r, rfl, h1y⟩ := wm_pi_e h1x
    exact fun H locs ls hO hS hl => lv_ior hx hbc hd (hn _ _ _ _ _ h1y H locs ls hO hS hl)
  case ixor =>
    dsimp only [wm_1] at h1
    obtain ⟨y, r, rfl, h1x⟩ := wm_pi_e h1
    obtain ⟨x, r, rfl, h1y⟩ := wm_pi_e h1x
    exact fun H locs ls hO hS hl => lv_ixor hx hbc hd (hn _ _ _ _ _ h1y H locs ls hO hS hl)
  case ishl =>
    dsimp only [wm_1] at h1
    obtain ⟨y, r, rfl, h1x⟩ := wm_pi_e h1
    obtain ⟨x, r, rfl, h1y⟩ := wm_pi_e h1x
    exact fun H locs ls hO hS hl => lv_ishl hx hbc hd (hn _ _ _ _ _ h1y H locs ls hO hS hl)
  case ishr =>
    dsimp only [wm_1] at h1
    obtain ⟨y, r, rfl, h1x⟩ := wm_pi_e h1
    obtain ⟨x, r, rfl, h1y⟩ := wm_pi_e h1x
    exact fun H locs ls hO hS hl => lv_ishr hx hbc hd (hn _ _ _ _ _ h1y H locs ls hO hS hl)
  case iushr =>
    dsimp only [wm_1] at h1
    obtain ⟨y, r, rfl, h1x⟩ := wm_pi_e h1
    obtain ⟨x, r, rfl, h1y⟩ := wm_pi_e h1x
    exact fun H locs ls hO hS hl => lv_iushr hx hbc hd rfl (hn _ _ _ _ _ h1y H locs ls hO hS hl)
  case idiv =>
    dsimp only [wm_1] at h1
    obtain ⟨y, r, rfl, h1x⟩ := wm_pi_e h1
    obtain ⟨x, r, rfl, hne, h1y⟩ := wm_pi_e h1x
    exact fun H locs ls hO hS hl => lv_idiv hx hbc hd hne (hn _ _ _ _ _ h1y H locs ls hO hS hl)
  case irem =>
    dsimp only [wm_1] at h1
    obtain ⟨y, r, rfl, h1x⟩ := wm_pi_e h1
    obtain ⟨x, r, rfl, hne, h1y⟩ := wm_pi_e h1x
    exact fun H locs ls hO hS hl => lv_irem hx hbc hd hne (hn _ _ _ _ _ h1y H locs ls hO hS hl)
  case ineg =>
    dsimp only [wm_1] at h1
    obtain ⟨x, r, rfl, h1x⟩ := wm_pi_e h1
    exact fun H locs ls hO hS hl => lv_ineg hx hbc hd (hn _ _ _ _ _ h1x H locs ls hO hS hl)
  case ladd =>
    dsimp only [wm_1] at h1
    obtain ⟨y, r, rfl, h1x⟩ := wm_pj_e h1
    obtain ⟨x, r, rfl, h1y⟩ := wm_pj_e h1x
    exact fun H locs ls hO hS hl => lv_ladd hx hbc hd (hn _ _ _ _ _ h1y H locs ls hO hS hl)
  case lsub =>
    dsimp only [wm_1] at h1
    obtain ⟨y, r, rfl, h1x⟩ := wm_pj_e h1
    obtain ⟨x, r, rfl, h1y⟩ := wm_pj_e h1x
    exact fun H locs ls hO hS hl => lv_lsub hx hbc hd (hn _ _ _ _ _ h1y H locs ls hO hS hl)
  case lmul =>
    dsimp only [wm_1] at h1
    obtain ⟨y, r, rfl, h1x⟩ := wm_pj_e h1
    obtain ⟨x, r, rfl, h1y⟩ := wm_pj_e h1x
    exact fun H locs ls hO hS hl => lv_lmul hx hbc hd (hn _ _ _ _ _ h1y H locs ls hO hS hl)
  case land =>
    dsimp only [wm_1] at h1
    obtain ⟨y, r, rfl, h1x⟩ := wm_pj_e h1
    obtain ⟨x, r, rfl, h1y⟩ := wm_pj_e h1x
    exact fun H locs ls hO hS hl => lv_land hx hbc hd (hn _ _ _ _ _ h1y H locs ls hO hS hl)
  case lor =>
    dsimp only [wm_1] at h1
    obtain ⟨y, r, rfl, h1x⟩ := wm_pj_e h1
    obtain ⟨x, r, rfl, h1y⟩ := wm_pj_e h1x
    exact fun H locs ls hO hS hl => lv_lor hx hbc hd (hn _ _ _ _ _ h1y H locs ls hO hS hl)
  case lxor =>
    dsimp only [wm_1] at h1
    obtain ⟨y, r, rfl, h1x⟩ := wm_pj_e h1
    obtain ⟨x, r, rfl, h1y⟩ := wm_pj_e h1x
    exact fun H locs ls hO hS hl => lv_lxor hx hbc hd (hn _ _ _ _ _ h1y H locs ls hO hS hl)
  case ldiv =>
    dsimp only [wm_1] at h1
    obtain ⟨y, r, rfl, h1x⟩ := wm_pj_e h1
    obtain ⟨x, r, rfl, hne, h1y⟩ := wm_pj_e h1x
    exact fun H locs ls hO hS hl => lv_ldiv hx hbc hd hne (hn _ _ _ _ _ h1y H locs ls hO hS hl)
  case lrem =>
    dsimp only [wm_1] at h1
    obtain ⟨y, r, rfl, h1x⟩ := wm_pj_e h1
    obtain ⟨x, r, rfl, hne, h1y⟩ := wm_pj_e h1x
    exact fun H locs ls hO hS hl => lv_lrem hx hbc hd hne (hn _ _ _ _ _ h1y H locs ls hO hS hl)
  case lshl =>
    dsimp only [wm_1] at h1
    obtain ⟨y, r, rfl, h1x⟩ := wm_pi_e h1
    obtain ⟨x, r, rfl, h1y⟩ := wm_pj_e h1x
    exact fun H locs ls hO hS hl => lv_lshl hx hbc hd rfl (hn _ _ _ _ _ h1y H locs ls hO hS hl)
  case lshr =>
    dsimp only [wm_1] at h1
    obtain ⟨y, r, rfl, h1x⟩ := wm_pi_e h1
    obtain ⟨x, r, rfl, h1y⟩ := wm_pj_e h1x
    exact fun H locs ls hO hS hl => lv_lshr hx hbc hd rfl (hn _ _ _ _ _ h1y H locs ls hO hS hl)
  case lushr =>
    dsimp only [wm_1] at h1
    obtain ⟨y, r, rfl, h1x⟩ := wm_pi_e h1
    obtain ⟨x, r, rfl, h1y⟩ := wm_pj_e h1x
    exact fun H locs ls hO hS hl => lv_lushr hx hbc hd rfl (hn _ _ _ _ _ h1y H locs ls hO hS hl)
  case lneg =>
    dsimp only [wm_1] at h1
    obtain ⟨x, r, rfl, h1x⟩ := wm_pj_e h1
    exact fun H locs ls hO hS hl => lv_lneg hx hbc hd (hn _ _ _ _ _ h1x H locs ls hO hS hl)
  case i2l =>
    dsimp only [wm_1] at h1
    obtain ⟨x, r, rfl, h1x⟩ := wm_pi_e h1
    exact fun H locs ls hO hS hl => lv_i2l hx hbc hd rfl (hn _ _ _ _ _ h1x H locs ls hO hS hl)
  case l2i =>
    dsimp only [wm_1] at h1
    obtain ⟨x, r, rfl, h1x⟩ := wm_pj_e h1
    exact fun H locs ls hO hS hl => lv_l2i hx hbc hd rfl (hn _ _ _ _ _ h1x H locs ls hO hS hl)
  case lcmp =>
    dsimp only [wm_1] at h1
    obtain ⟨y, r, rfl, h1x⟩ := wm_pj_e h1
    obtain ⟨x, r, rfl, h1y⟩ := wm_pj_e h1x
    exact fun H locs ls hO hS hl => W.lcmp hx hbc hd (hn _ _ _ _ _ h1y H locs ls hO hS hl)
  case dup =>
    dsimp only [wm_1] at h1
    obtain ⟨v, r, rfl, hc, h1x⟩ := wm_p1_e h1
    exact fun H locs ls hO hS hl => lv_dup hx hbc hd hc (hn _ _ _ _ _ h1x H locs ls hO hS hl)
  case pop =>
    dsimp only [wm_1] at h1
    obtain ⟨v, r, rfl, hc, h1x⟩ := wm_p1_e h1
    exact fun H locs ls hO hS hl => lv_pop hx hbc hd hc (hn _ _ _ _ _ h1x H locs ls hO hS hl)
  case dup_x1 =>
    dsimp only [wm_1] at h1
    obtain ⟨v, r, rfl, hc, h1x⟩ := wm_p1_e h1
    obtain ⟨v2, r, rfl, hc2, h1y⟩ := wm_p1_e h1x
    exact fun H locs ls hO hS hl => lv_dup_x1 hx hbc hd hc hc2 (hn _ _ _ _ _ h1y H locs ls hO hS hl)
  case dup_x2 =>
    dsimp only [wm_1] at h1
    obtain ⟨v, r, rfl, hc, h1x⟩ := wm_p1_e h1
    obtain ⟨v2, r, rfl, hc2, h1y⟩ := wm_p1_e h1x
    obtain ⟨v3, r, rfl, hc3, h1z⟩ := wm_p1_e h1y
    exact fun H locs ls hO hS hl => lv_dup_x2 hx hbc hd hc hc2 hc3 (hn _ _ _ _ _ h1z H locs ls hO hS hl)
  case dup2 =>
    dsimp only [wm_1] at h1
    split at h1
    · obtain ⟨x, r, rfl, h1x⟩ := wm_pj_e h1
      exact fun H locs ls hO hS hl => lv_dup2_2 hx hbc hd rfl (hn _ _ _ _ _ h1x H locs ls hO hS hl)
    · obtain ⟨v, r, rfl, hc, h1y⟩ := wm_p1_e h1
      obtain ⟨v2, r, rfl, hc2, h1z⟩ := wm_p1_e h1y
      exact fun H locs ls hO hS hl => lv_dup2_11 hx hbc hd hc hc2 (hn _ _ _ _ _ h1z H locs ls hO hS hl)
  case pop2 =>
    dsimp only [wm_1] at h1
    obtain ⟨x, r, rfl, h1x⟩ := wm_pj_e h1
    exact fun H locs ls hO hS hl => lv_pop2_2 hx hbc hd rfl (hn _ _ _ _ _ h1x H locs ls hO hS hl)
  case dup2_x1 =>
    dsimp only [wm_1] at h1
    obtain ⟨x, r, rfl, h1x⟩ := wm_pj_e h1
    obtain ⟨v2, r, rfl, hc2, h1y⟩ := wm_p1_e h1x
    exact fun H locs ls hO hS hl => lv_dup2_x1_2 hx hbc hd rfl hc2 (hn _ _ _ _ _ h1y H locs ls hO hS hl)
  case dup2_x2 =>
    dsimp only [wm_1] at h1
    obtain ⟨x, r, rfl, h1x⟩ := wm_pj_e h1
    obtain ⟨v2, r, rfl, hc2, h1y⟩ := wm_p1_e h1x
    obtain ⟨v3, r, rfl, hc3, h1z⟩ := wm_p1_e h1y
    exact fun H locs ls hO hS hl => lv_dup2_x2_2 hx hbc hd rfl hc2 hc3 (hn _ _ _ _ _ h1z H locs ls hO hS hl)
  case ifCond k2 o =>
    dsimp only [wm_1] at h1
    obtain ⟨x, r, rfl, h1x⟩ := wm_pi_e h1
    cases k2 with
    | eq => exact fun H locs ls hO hS hl => lv_if_eq hx hbc hd hs (fun z => hj _ _ _ _ _ _ (h1x.1 z) H locs ls hO hS hl) (fun z => hn _ _ _ _ _ (h1x.2 z) H locs ls hO hS hl)
    | ne => exact fun H locs ls hO hS hl => lv_if_ne hx hbc hd hs (fun z => hj _ _ _ _ _ _ (h1x.1 z) H locs ls hO hS hl) (fun z => hn _ _ _ _ _ (h1x.2 (fun y => y z)) H locs ls hO hS hl)
    | lt => exact fun H locs ls hO hS hl => lv_if_lt hx hbc hd hs (fun z => hj _ _ _ _ _ _ (h1x.1 z) H locs ls hO hS hl) (fun z => hn _ _ _ _ _ (h1x.2 z) H locs ls hO hS hl)
    | ge => exact fun H locs ls hO hS hl => lv_if_ge hx hbc hd hs (fun z => hj _ _ _ _ _ _ (h1x.1 z) H locs ls hO hS hl) (fun z => hn _ _ _ _ _ (h1x.2 z) H locs ls hO hS hl)
    | gt => exact fun H locs ls hO hS hl => lv_if_gt hx hbc hd hs (fun z => hj _ _ _ _ _ _ (h1x.1 z) H locs ls hO hS hl) (fun z => hn _ _ _ _ _ (h1x.2 z) H locs ls hO hS hl)
    | le => exact fun H locs ls hO hS hl => lv_if_le hx hbc hd hs (fun z => hj _ _ _ _ _ _ (h1x.1 z) H locs ls hO hS hl) (fun z => hn _ _ _ _ _ (h1x.2 z) H locs ls hO hS hl)
  case if_icmp k2 o =>
    dsimp only [wm_1] at h1
    obtain ⟨y, r, rfl, h1x⟩ := wm_pi_e h1
    obtain ⟨x, r, rfl, h1y⟩ := wm_pi_e h1x
    cases k2 with
    | eq => exact fun H locs ls hO hS hl => lv_icmp_eq hx hbc hd hs (fun z => hj _ _ _ _ _ _ (h1y.1 z) H locs ls hO hS hl) (fun z => hn _ _ _ _ _ (h1y.2 z) H locs ls hO hS hl)
    | ne => exact fun H locs ls hO hS hl => lv_icmp_ne hx hbc hd hs (fun z => hj _ _ _ _ _ _ (h1y.1 z) H locs ls hO hS hl) (fun z => hn _ _ _ _ _ (h1y.2 (fun y => y z)) H locs ls hO hS hl)
    | lt => exact fun H locs ls hO hS hl => lv_icmp_lt hx hbc hd hs (fun z => hj _ _ _ _ _ _ (h1y.1 z) H locs ls hO hS hl) (fun z => hn _ _ _ _ _ (h1y.2 z) H locs ls hO hS hl)
    | ge => exact fun H locs ls hO hS hl => lv_icmp_ge hx hbc hd hs (fun z => hj _ _ _ _ _ _ (h1y.1 z) H locs ls hO hS hl) (fun z => hn _ _ _ _ _ (h1y.2 z) H locs ls hO hS hl)
    | gt => exact fun H locs ls hO hS hl => lv_icmp_gt hx hbc hd hs (fun z => hj _ _ _ _ _ _ (h1y.1 z) H locs ls hO hS hl) (fun z => hn _ _ _ _ _ (h1y.2 z) H locs ls hO hS hl)
    | le => exact fun H locs ls hO hS hl => lv_icmp_le hx hbc hd hs (fun z => hj _ _ _ _ _ _ (h1y.1 z) H locs ls hO hS hl) (fun z => hn _ _ _ _ _ (h1y.2 z) H locs ls hO hS hl)
  case if_acmp k2 o =>
    cases k2 with
    | eq =>
      dsimp only [wm_1] at h1
      obtain ⟨y, r, rfl, h1x⟩ := wm_pr_e h1
      obtain ⟨x, r, rfl, h1y⟩ := wm_pr_e h1x
      exact fun H locs ls hO hS hl => lv_acmp_eq hx hbc hd hs (fun z => hj _ _ _ _ _ _ (h1y.1 z) H locs ls hO hS hl) (fun z => hn _ _ _ _ _ (h1y.2 z) H locs ls hO hS hl)
    | ne =>
      dsimp only [wm_1] at h1
      obtain ⟨y, r, rfl, h1z⟩ := wm_pr_e h1
      obtain ⟨x, r, rfl, h1u⟩ := wm_pr_e h1z
      exact fun H locs ls hO hS hl => lv_acmp_ne hx hbc hd hs (fun z => hj _ _ _ _ _ _ (h1u.2 z) H locs ls hO hS hl) (fun z => hn _ _ _ _ _ (h1u.1 z) H locs ls hO hS hl)
  case ifnull o =>
    dsimp only [wm_1] at h1
    obtain ⟨x, r, rfl, h1x⟩ := wm_pr_e h1
    cases x with
    | none => exact fun H locs ls hO hS hl => lv_ifnullN hx hbc hd hs (hj _ _ _ _ _ _ (h1x.1 rfl) H locs ls hO hS hl)
    | some x => exact fun H locs ls hO hS hl => lv_ifnull hx hbc hd (hn _ _ _ _ _ (h1x.2 (fun z => by cases z)) H locs ls hO hS hl)
  case ifnonnull o =>
    dsimp only [wm_1] at h1
    obtain ⟨x, r, rfl, h1x⟩ := wm_pr_e h1
    cases x with
    | none => exact fun H locs ls hO hS hl => lv_ifnonnullN hx hbc hd (hn _ _ _ _ _ (h1x.1 rfl) H locs ls hO hS hl)
    | some x => exact fun H locs ls hO hS hl => lv_ifnonnull hx hbc hd hs (hj _ _ _ _ _ _ (h1x.2 (fun z => by cases z)) H locs ls hO hS hl)
  case goto o =>
    dsimp only [wm_1] at h1
    exact fun H locs ls hO hS hl => lv_goto hx hbc hd hs (hj _ _ _ _ _ _ h1 H locs ls hO hS hl)
  case getfield j =>
    dsimp only [wm_1] at h1
    obtain ⟨o, r, rfl, q, rfl, ht, h1x⟩ := wm_pr_e h1
    obtain ⟨ci, rr, s1, s2, s3, s4, s5⟩ := hs
    exact wm_o_get C s1 s2 s3 s4 s5 hd ht (hn _ _ _ _ _ h1x)
  case putfield j =>
    dsimp only [wm_1] at h1
    split at h1
    · next v o r =>
      obtain ⟨q, rfl, ht, hv, hz, h1x⟩ := h1
      obtain ⟨ci, rr, s1, s2, s3, s4, s5, s6, s7⟩ := hs
      subst s4
      refine wm_o_put C s1 s2 s3 hv s5 s6 (hz ci s1) ?_ hd ht (hn _ _ _ _ _ h1x)
      rcases s7 with s7 | ⟨a1, a2, a3, a4⟩
      · exact Or.inl s7
      · exact Or.inr ⟨a1, hmn.trans a2, a3, a4⟩
    · exact h1.elim
  case arraylength =>
    dsimp only [wm_1] at h1
    obtain ⟨o, r, rfl, q, rfl, ht, h1x⟩ := wm_pr_e h1
    obtain ⟨ty, s1, s2⟩ := hs
    exact wm_o_len C s1 s2 ht hd (hn _ _ _ _ _ h1x)
  case iaload =>
    dsimp only [wm_1] at h1
    obtain ⟨j, r, rfl, h1x⟩ := wm_pi_e h1
    obtain ⟨o, r, rfl, q, rfl, ht, i1, i2, h1y⟩ := wm_pr_e h1x
    exact wm_o_ald C hs.1 hs.2 ht i1 i2 (Or.inl ⟨rfl, rfl⟩) hd (hn _ _ _ _ _ h1y)
  case laload =>
    dsimp only [wm_1] at h1
    obtain ⟨j, r, rfl, h1x⟩ := wm_pi_e h1
    obtain ⟨o, r, rfl, q, rfl, ht, i1, i2, h1y⟩ := wm_pr_e h1x
    exact wm_o_ald C hs.1 hs.2 ht i1 i2 (Or.inr (Or.inl ⟨rfl, rfl⟩)) hd (hn _ _ _ _ _ h1y)
  case baload =>
    dsimp only [wm_1] at h1
    obtain ⟨j, r, rfl, h1x⟩ := wm_pi_e h1
    obtain ⟨o, r, rfl, q, rfl, ht, i1, i2, h1y⟩ := wm_pr_e h1x
    exact wm_o_ald C hs.1 hs.2 ht i1 i2 (Or.inr (Or.inr (Or.inl ⟨rfl, rfl⟩))) hd (hn _ _ _ _ _ h1y)
  case aaload =>
    dsimp only [wm_1] at h1
    obtain ⟨j, r, rfl, h1x⟩ := wm_pi_e h1
    obtain ⟨o, r, rfl, q, rfl, ht, i1, i2, h1y⟩ := wm_pr_e h1x
    obtain ⟨Cn, s1, s2⟩ := hs
    exact wm_o_ald C s1 s2 ht i1 i2 (Or.inr (Or.inr (Or.inr ⟨rfl, rfl⟩))) hd (hn _ _ _ _ _ h1y)
  case iastore =>
    dsimp only [wm_1] at h1
    obtain ⟨x, r, rfl, h1x⟩ := wm_pi_e h1
    obtain ⟨j, r, rfl, h1y⟩ := wm_pi_e h1x
    obtain ⟨o, r, rfl, q, rfl, ht, i1, i2, h1z⟩ := wm_pr_e h1y
    exact wm_o_ast C hs.2.1 hs.2.2 ht hs.1 i1 i2 (Or.inl ⟨rfl, rfl, x, rfl⟩) hd (hn _ _ _ _ _ h1z)
  case lastore =>
    dsimp only [wm_1] at h1
    obtain ⟨x, r, rfl, h1x⟩ := wm_pj_e h1
    obtain ⟨j, r, rfl, h1y⟩ := wm_pi_e h1x
    obtain ⟨o, r, rfl, q, rfl, ht, i1, i2, h1z⟩ := wm_pr_e h1y
    exact wm_o_ast C hs.1 hs.2 ht (fun z => by rw [z] at hs; cases hs.1) i1 i2 (Or.inr (Or.inl ⟨rfl, rfl, x, rfl⟩)) hd (hn _ _ _ _ _ h1z)
  case bastore =>
    dsimp only [wm_1] at h1
    obtain ⟨x, r, rfl, h1x⟩ := wm_pi_e h1
    obtain ⟨j, r, rfl, h1y⟩ := wm_pi_e h1x
    obtain ⟨o, r, rfl, q, rfl, ht, hz, i1, i2, h1z⟩ := wm_pr_e h1y
    exact wm_o_ast C hs.1 hs.2 ht (fun z => by rw [z] at hs; cases hs.1) i1 i2 (Or.inr (Or.inr ⟨rfl, rfl, by rcases hz with rfl | rfl <;> simp⟩)) hd (hn _ _ _ _ _ h1z)
  case aastore =>
    dsimp only [wm_1] at h1
    obtain ⟨x, r, rfl, h1x⟩ := wm_pr_e h1
    obtain ⟨j, r, rfl, h1y⟩ := wm_pi_e h1x
    obtain ⟨o, r, rfl, q, rfl, ht, hz, i1, i2, h1z⟩ := wm_pr_e h1y
    obtain ⟨rr, s1, s2, s3⟩ := hs
    exact wm_o_aast C s1 s2 s3 ht (fun z => by rw [z] at s2; cases s2) i1 i2 hz hd (hn _ _ _ _ _ h1z)
  case newarray j =>
    dsimp only [wm_1] at h1
    obtain ⟨x, r, rfl, i1, i2, i3, i4, h1x⟩ := wm_pi_e h1
    exact wm_o_newa C hs.1 hs.2.1 hs.2.2.1 hs.2.2.2.1 hs.2.2.2.2 hd i1 i2 i3 i4 (hn _ _ _ _ _ h1x)
  case anewarray j =>
    dsimp only [wm_1] at h1
    obtain ⟨x, r, rfl, i1, i2, i3, i4, h1x⟩ := wm_pi_e h1
    obtain ⟨Cn, s1, s2, s3⟩ := hs
    exact wm_o_anew C (fun z => by rw [z] at s1; cases s1) s1 s2 s3 hd i1 i2 i3 i4 (hn _ _ _ _ _ h1x)
  case new j =>
    dsimp only [wm_1] at h1
    obtain ⟨i1, i2, h1x⟩ := h1
    rcases hs with ⟨hk, ci, rr, s1, s2, s3, s4, s5, s6, s7⟩ | ⟨hk, hb6, ⟨s1, s2⟩, s3, s4, s5, s6, s7, jj, tx, s8, s9⟩
    · rw [if_neg hk] at h1x
      exact wm_o_new C (fun z => by rw [z] at s1; cases s1) s1 s2 s3 s4 s5 s6 s7 hd i1 i2 (hn _ _ _ _ _ h1x)
    · rw [if_pos hk] at h1x
      subst hb6
      obtain ⟨y1, y2, y3, y4⟩ := h1x
      exact wm_o_throw C hb0 hl0 hout s1 s2 s3 s4 s5 s6 hd s7 s8 s9 i1 i2 y1 y2 y3 y4
  case invokespecial j =>
    dsimp only [wm_1] at h1
    split at h1
    · next hk =>
      obtain ⟨o, r, rfl, ⟨q, rfl⟩, hst, h2⟩ := wm_pr_e h1
      rcases hs with ⟨-, s9, s1, s2, s3⟩ | ⟨s0, -⟩
      · exact wm_o_obj C s9 hst s1 s2 s3 hd (hn _ _ _ _ _ h2)
      · exact absurd hk s0
    · next hk =>
      obtain ⟨i1, i2, h2⟩ := h1
      obtain ⟨as, r, rfl, hlen, hst, ⟨q, z, rfl⟩, h3⟩ := wm_pp_e h2
      rcases hs with ⟨s0, -⟩ | ⟨-, s1, s2, s3, s4, s5, s6⟩
      · exact absurd s0 hk
      · obtain ⟨⟨o1, o2, o3, o4, o5, o6, o7⟩, hM⟩ := hcx a s1
        refine wm_o_call C (hM _ _ _ _ h3) o1 o2 o3 o4 o5 o6 (wm_cd (hts _ o5)) hd hst i1 i2 (fun T locs ls hO X => ?_) hb0 (fun v h' z => hn _ _ _ _ _ z) (fun k h' z => wm_JT_out C hb0 (hout pc) z.1 z.2.1 z.2.2)
        have hcode := hts _ o5
        rw [s3] at hcode
        have hl9 : ∀ sig, parseMethodDescriptor (wm_my a).desc = some sig → (z.map wm_tv).length = sig.parameters.length := by
          intro sig hsig
          rw [hsig] at s6
          have s6 : sig.parameters.length + 1 = wm_mn a := Option.some.inj s6
          simp only [List.length_map, List.length_cons] at hlen ⊢
          omega
        have hstk : (F0 m pc ls (((Sum.inr (Sum.inr (some q)) :: z).reverse ++ r).map wm_tv)).stack = (z.map wm_tv).reverse ++ .ref q :: r.map wm_tv := by simp [wm_tv, va_rf]
        rcases s4 with s4 | ⟨host, s4⟩
        · exact wm_invI X hx hown s2 (hts _ s4) (hts _ s5) hcode o7 rfl hl9 hstk (by rw [hbc]; exact hd)
        · exact wm_invIN X hx hown s2 (va_Nw.use rfl (hK.2.2.1 _ s4)) (hts _ s5) hcode o7 rfl hl9 hstk (by rw [hbc]; exact hd)
  case invokevirtual j =>
    dsimp only [wm_1] at h1
    obtain ⟨i1, i2, h2⟩ := h1
    obtain ⟨as, r, rfl, hlen, hst, ⟨q, z, rfl, hq⟩, h3⟩ := wm_pp_e h2
    obtain ⟨s1, ⟨rr, s2, s3⟩, s4, s5, s6, s7⟩ := hs
    obtain ⟨⟨o1, o2, o3, o4, o5, o6, o7⟩, hM⟩ := hcx a s1
    refine wm_o_call C (hM _ _ _ _ h3) o1 o2 o3 o4 o5 o6 (wm_cd (hts _ o5)) hd hst i1 i2 (fun T locs ls hO X => ?_) hb0 (fun v h' z => hn _ _ _ _ _ z) (fun k h' z => wm_JT_out C hb0 (hout pc) z.1 z.2.1 z.2.2)
    have hl9 : ∀ sig, parseMethodDescriptor (wm_my a).desc = some sig → (z.map wm_tv).length = sig.parameters.length := by
      intro sig hsig
      rw [hsig] at s7
      have s7 : sig.parameters.length + 1 = wm_mn a := Option.some.inj s7
      simp only [List.length_map, List.length_cons] at hlen ⊢
      omega
    have hstk : (F0 m pc ls (((Sum.inr (Sum.inr (some q)) :: z).reverse ++ r).map wm_tv)).stack = (z.map wm_tv).reverse ++ .ref q :: r.map wm_tv := by simp [wm_tv, va_rf]
    obtain ⟨cell, g1, g2, g3, -⟩ := wm_at_o (hO.2.2.2.1 q) hq s2
    have g4 : s.vm.findClass (wm_my a).cls = some cell.cls := by rw [g2, ← s3]; exact (hK.1 b rr s2).2.1
    rcases s4 with s4 | ⟨host, s4⟩
    · exact wm_invV X hx hown (hts _ s4) (hts _ s5) (hts _ s6) (hts _ o5) o7 g1 (by rw [g3]; rfl) g4 rfl hl9 hstk (by rw [hbc]; exact hd)
    · exact wm_invVN X hx hown (va_Nw.use rfl (hK.2.2.1 _ s4)) (hts _ s5) (hts _ s6) (hts _ o5) o7 g1 (by rw [g3]; rfl) g4 rfl hl9 hstk (by rw [hbc]; exact hd)
  case invokestatic j =>
    dsimp only [wm_1] at h1
    obtain ⟨i1, i2, h2⟩ := h1
    obtain ⟨as, r, rfl, hlen, hst, h3⟩ := wm_pp_e h2
    obtain ⟨s1, s4, s5, s7⟩ := hs
    obtain ⟨⟨o1, o2, o3, o4, o5, o6, o7⟩, hM⟩ := hcx a s1
    refine wm_o_call C (hM _ _ _ _ h3) o1 o2 o3 o4 o5 o6 (wm_cd (hts _ o5)) hd hst i1 i2 (fun T locs ls hO X => ?_) hb0 (fun v h' z => hn _ _ _ _ _ z) (fun k h' z => wm_JT_out C hb0 (hout pc) z.1 z.2.1 z.2.2)
    have hl9 : ∀ sig, parseMethodDescriptor (wm_my a).desc = some sig → (as.map wm_tv).length = sig.parameters.length := by
      intro sig hsig
      rw [hsig] at s7
      have s7 : sig.parameters.length = wm_mn a := Option.some.inj s7
      simp only [List.length_map] at hlen ⊢
      omega
    have hstk : (F0 m pc ls ((as.reverse ++ r).map wm_tv)).stack = (as.map wm_tv).reverse ++ r.map wm_tv := by simp
    rcases s4 with s4 | ⟨host, s4⟩
    · exact wm_invS X hx hown (hts _ s4) (hts _ s5) (hts _ o6) (hts _ o5) o7 rfl hl9 hstk (by rw [hbc]; exact hd)
    · exact wm_invSN X hx hown (va_Nw.use rfl (hK.2.2.1 _ s4)) (hts _ s5) (hts _ o6) (hts _ o5) o7 rfl hl9 hstk (by rw [hbc]; exact hd)
  case ireturn =>
    dsimp only [wm_1] at h1
    obtain ⟨x, r, rfl, rfl, e1, e2, hz, h1x⟩ := wm_pi_e h1
    rcases hs with ⟨s1, s2⟩ | ⟨s1, s2⟩
    · exact wm_o_iret C hb0 (hrt.trans s2) (by rcases hz s1 with rfl | rfl <;> rfl) hd e1 e2 h1x
    · exact wm_o_iret C hb0 (hrt.trans s2) rfl hd e1 e2 h1x
  case lreturn =>
    dsimp only [wm_1] at h1
    obtain ⟨x, r, rfl, rfl, e1, e2, h1x⟩ := wm_pj_e h1
    exact wm_o_lret C hb0 (hrt.trans hs) hd e1 e2 h1x
  case areturn =>
    dsimp only [wm_1] at h1
    obtain ⟨x, r, rfl, rfl, e1, e2, h1x⟩ := wm_pr_e h1
    obtain ⟨ty, s1, s2⟩ := hs
    exact wm_o_aret C hb0 (hrt.trans s1) s2 hd e1 e2 h1x
  case return_ =>
    dsimp only [wm_1] at h1
    obtain ⟨rfl, e1, e2, h1x⟩ := h1
    exact wm_o_vret C hb0 (hrt.trans hs) hd e1 e2 h1x
  all_goals exact False.elim h1
end WMT
end
section
/-! THE ABSTRACT MACHINE, 6: a method by its table: from cut to cut -/
/-- the table of a method: at a pc, the instruction and what the tables say of it -/
abbrev wm_T : Type := List (Nat × Instr × Nat × Nat × Nat × Nat)
def wm_dp : wm_T → Nat → wm_T
  | [], _ => []
  | x :: r, pc => if x.1 = pc then x :: r else wm_dp r pc
def wm_ct (hs : List Nat) (I : Nat → wm_S → Prop) (pc : Nat) (A : Prop) (lv : wm_L) (st : List wm_V) (h : wm_H) (cu su : Nat) : Prop := if hs.contains pc then I pc (lv, st, h, cu, su) else A
/-- behind an instruction: nothing behind a throw -/
def wm_nt (i : Instr) (c : Nat) (r : wm_T) : wm_T := match i with
  | .new _ => if c = 9 then [] else r
  | _ => r
theorem wm_nt_e (i : Instr) (c : Nat) (r x : wm_T) : wm_nt i c r = [] ∨ (wm_nt i c r = r ∧ wm_nt i c x = x) := by
  unfold wm_nt
  split
  · split
    · exact Or.inl rfl
    · exact Or.inr ⟨rfl, rfl⟩
  · exact Or.inr ⟨rfl, rfl⟩
/-- from a place of the table on, n instructions at most, up to a cut -/
def wm_w (RC RS mc ms : Nat) (cx : wm_X) (qr : wm_Q1) (qt : wm_Q2) (tb : wm_T) (hs : List Nat) (I : Nat → wm_S → Prop) : Nat → wm_T → wm_N
  | 0, _ => fun _ _ _ _ _ => False
  | _ + 1, [] => fun _ _ _ _ _ => False
  | n + 1, (pc, i, a, b, c, _) :: r => wm_1 RC RS mc ms cx qr qt (fun lv st h cu su => wm_ct hs I (pc + wm_len i) (wm_w RC RS mc ms cx qr qt tb hs I n (wm_nt i c r) lv st h cu su) lv st h cu su) (fun t lv st h cu su => wm_ct hs I t (wm_w RC RS mc ms cx qr qt tb hs I n (wm_dp tb t) lv st h cu su) lv st h cu su) i a b c
/-- each instruction behind the one before it -/
def wm_sq : wm_T → Bool
  | [] => true
  | [_] => true
  | x :: y :: r => (decide (wm_nt x.2.1 x.2.2.2.2.1 [x] ≠ [x]) || decide (y.1 = x.1 + wm_len x.2.1)) && wm_sq (y :: r)
theorem wm_dp_e : ∀ (tb : wm_T) (t : Nat), ∃ u, tb = u ++ wm_dp tb t
  | [], t => ⟨[], rfl⟩
  | x :: r, t => by
    simp only [wm_dp]
    split
    · exact ⟨[], rfl⟩
    · obtain ⟨u, hu⟩ := wm_dp_e r t
      exact ⟨x :: u, by rw [List.cons_append, ← hu]⟩
theorem wm_dp_h : ∀ (tb : wm_T) (t : Nat) (x : Nat × Instr × Nat × Nat × Nat × Nat) (r : wm_T), wm_dp tb t = x :: r → x.1 = t
  | [], t, x, r, h => by simp [wm_dp] at h
  | y :: z, t, x, r, h => by
    simp only [wm_dp] at h
    split at h
    · next e => cases h; exact e
    · exact wm_dp_h z t x r h
theorem wm_sq_e : ∀ (u : wm_T) (x y : Nat × Instr × Nat × Nat × Nat × Nat) (r : wm_T), wm_sq (u ++ x :: y :: r) = true → wm_nt x.2.1 x.2.2.2.2.1 [x] = [x] → y.1 = x.1 + wm_len x.2.1
  | [], x, y, r, h, h0 => by
    simp only [List.nil_append, wm_sq, Bool.and_eq_true, Bool.or_eq_true, decide_eq_true_eq] at h
    exact h.1.resolve_left (fun z => z h0)
  | [z], x, y, r, h, h0 => by
    simp only [List.cons_append, List.nil_append, wm_sq, Bool.and_eq_true, Bool.or_eq_true, decide_eq_true_eq] at h
    exact h.2.1.resolve_left (fun z => z h0)
  | z :: z' :: u, x, y, r, h, h0 => by
    simp only [List.cons_append, wm_sq, Bool.and_eq_true] at h
    exact wm_sq_e (z' :: u) x y r h.2 h0
section WMU
variable {p : Program} {l : Launch} {e : Env} {R : Room} {s : State} {m : MethodId} {args : Array Value} {below : List Frame} {meth : Method} {c : Code} {own mn : String} {rt : Option FieldType} {cc : ByteArray} {nL b0 : Nat} {D : va_G} {aC : wm_Y}
variable {mc ms : Nat} {qr : wm_Q1} {qt : wm_Q2}
def wm_tok (R : Room) (own mn : String) (rt : Option FieldType) (ids : List Nat) (cc : ByteArray) (tb : wm_T) : Prop := wm_sq tb = true ∧ ∀ x ∈ tb, decode cc x.1 = .ok (x.2.1, wm_len x.2.1) ∧ wm_st R own mn rt ids cc x.1 x.2.1 x.2.2.1 x.2.2.2.1 x.2.2.2.2.1
theorem wm_w_ok (C : wm_C p s m args meth c own cc nL b0 D aC) (hb0 : b0 ≤ s.heap.size) (hl0 : l.stackTraces = false) (hex : c.exceptionTable.isEmpty = true) (hmn : meth.name = mn) (hrt : meth.sig.returnType = rt) {cx : wm_X} {ids : List Nat} (hcx : wm_cxok l R D aC b0 cx ids) {tb : wm_T} (ht : wm_tok R own mn rt ids cc tb) {hs : List Nat} {I : Nat → wm_S → Prop}
    (hc : ∀ pc σ, hs.contains pc = true → I pc σ → wm_J p l e R s m args below meth c nL b0 D aC (wm_MQ below (wm_Qc D aC b0 qr qt) args s mc ms (fun q => b0 ≤ q)) pc σ) :
    ∀ n u x r lv st h cu su, tb = u ++ x :: r → wm_w R.cells R.slots mc ms cx qr qt tb hs I n (x :: r) lv st h cu su → wm_J p l e R s m args below meth c nL b0 D aC (wm_MQ below (wm_Qc D aC b0 qr qt) args s mc ms (fun q => b0 ≤ q)) x.1 (lv, st, h, cu, su) := by
  intro n
  induction n with
  | zero => intro u x r lv st hh cu su _ h; exact h.elim
  | succ n ih =>
    intro u x r lv st hh cu su hu h
    obtain ⟨pc, i, a, b, k, d⟩ := x
    obtain ⟨hd, hs9⟩ := ht.2 (pc, i, a, b, k, d) (by rw [hu]; simp)
    refine wm_sound C hb0 hl0 hex hmn hrt hcx hd hs9 (fun lv st hh cu su z => ?_) (fun t lv st hh cu su z => ?_) h
    · unfold wm_ct at z
      split at z
      · next e8 => exact hc _ _ e8 z
      · rcases wm_nt_e i k r [(pc, i, a, b, k, d)] with e9 | ⟨e9, e8⟩
        · rw [e9] at z; cases n <;> exact z.elim
        · rw [e9] at z
          cases r with
          | nil => cases n <;> exact z.elim
          | cons y r =>
            have hy := wm_sq_e u (pc, i, a, b, k, d) y r (by rw [← hu]; exact ht.1) e8
            have z9 := ih (u ++ [(pc, i, a, b, k, d)]) y r lv st hh cu su (by rw [hu]; simp) z
            rw [hy] at z9
            exact z9
    · unfold wm_ct at z
      split at z
      · next e8 => exact hc _ _ e8 z
      · obtain ⟨v, hv⟩ := wm_dp_e tb t
        cases hdp : wm_dp tb t with
        | nil => rw [hdp] at z; cases n <;> exact z.elim
        | cons y r9 =>
          rw [hdp] at z hv
          have hy := wm_dp_h tb t y r9 hdp
          rw [← hy]
          exact ih v y r9 lv st hh cu su hv z
theorem wm_floyd (C : wm_C p s m args meth c own cc nL b0 D aC) (hb0 : b0 ≤ s.heap.size) (hl0 : l.stackTraces = false) (hex : c.exceptionTable.isEmpty = true) (hmn : meth.name = mn) (hrt : meth.sig.returnType = rt) {cx : wm_X} {ids : List Nat} (hcx : wm_cxok l R D aC b0 cx ids) {tb : wm_T} (ht : wm_tok R own mn rt ids cc tb)
    (hs : List Nat) (I : Nat → Nat → wm_S → Prop) (f : Nat) (hI : ∀ pc, hs.contains pc = true → ∀ n σ, I n pc σ → wm_w R.cells R.slots mc ms cx qr qt tb hs (fun pc' σ' => ∃ n', n' < n ∧ I n' pc' σ') f (wm_dp tb pc) σ.1 σ.2.1 σ.2.2.1 σ.2.2.2.1 σ.2.2.2.2) :
    ∀ n, ∀ pc, hs.contains pc = true → ∀ σ, I n pc σ → wm_J p l e R s m args below meth c nL b0 D aC (wm_MQ below (wm_Qc D aC b0 qr qt) args s mc ms (fun q => b0 ≤ q)) pc σ := by
  intro n
  induction n using Nat.strongRecOn with
  | ind n ih =>
    intro pc hpc σ h
    have z := hI pc hpc n σ h
    obtain ⟨v, hv⟩ := wm_dp_e tb pc
    cases hdp : wm_dp tb pc with
    | nil => rw [hdp] at z; cases f <;> exact z.elim
    | cons y r9 =>
      rw [hdp] at z hv
      have hy := wm_dp_h tb pc y r9 hdp
      rw [← hy]
      refine wm_w_ok C hb0 hl0 hex hmn hrt hcx ht (fun pc' σ' e8 z => ?_) f v y r9 _ _ _ _ _ hv z
      obtain ⟨n', hn', hz⟩ := z
      exact ih n' hn' pc' e8 σ' hz
theorem wm_entry (C : wm_C p s m args meth c own cc nL b0 D aC) (hb0 : b0 ≤ s.heap.size) (hl0 : l.stackTraces = false) (hex : c.exceptionTable.isEmpty = true) (hmn : meth.name = mn) (hrt : meth.sig.returnType = rt) {cx : wm_X} {ids : List Nat} (hcx : wm_cxok l R D aC b0 cx ids) {tb : wm_T} (ht : wm_tok R own mn rt ids cc tb)
    (hs : List Nat) (I : Nat → Nat → wm_S → Prop) (f : Nat) (hI : ∀ pc, hs.contains pc = true → ∀ n σ, I n pc σ → wm_w R.cells R.slots mc ms cx qr qt tb hs (fun pc' σ' => ∃ n', n' < n ∧ I n' pc' σ') f (wm_dp tb pc) σ.1 σ.2.1 σ.2.2.1 σ.2.2.2.1 σ.2.2.2.2)
    {σ : wm_S} (h0 : wm_w R.cells R.slots mc ms cx qr qt tb hs (fun pc' σ' => ∃ n', I n' pc' σ') f (wm_dp tb 0) σ.1 σ.2.1 σ.2.2.1 σ.2.2.2.1 σ.2.2.2.2) : wm_J p l e R s m args below meth c nL b0 D aC (wm_MQ below (wm_Qc D aC b0 qr qt) args s mc ms (fun q => b0 ≤ q)) 0 σ := by
  obtain ⟨v, hv⟩ := wm_dp_e tb 0
  cases hdp : wm_dp tb 0 with
  | nil => rw [hdp] at h0; cases f <;> exact h0.elim
  | cons y r9 =>
    rw [hdp] at h0 hv
    have hy := wm_dp_h tb 0 y r9 hdp
    rw [← hy]
    refine wm_w_ok C hb0 hl0 hex hmn hrt hcx ht (fun pc' σ' e8 z => ?_) f v y r9 _ _ _ _ _ hv h0
    obtain ⟨n', hz⟩ := z
    exact wm_floyd C hb0 hl0 hex hmn hrt hcx ht hs I f hI n' pc' e8 σ' hz
end WMU
/-- A METHOD's CONTRACT out of its table: the demand at its entry, and at each of its cuts -/
theorem wm_method {l : Launch} {D : va_G} {aC : wm_Y} {b0 : Nat} (id : Nat) {as : List wm_V} {h : wm_H} {qr : wm_Q1} {qt : wm_Q2} {cx : wm_X} {ids : List Nat} {tb : wm_T}
    (hy : plainName (wm_my id).cls = true) (hw : wm_ws as ≤ wm_mL id) (hl0 : l.stackTraces = false)
    (hcx : wm_cxok l (wm_mr id) D aC b0 cx ids) (ht : wm_tok (wm_mr id) (wm_my id).cls (wm_my id).name (wm_mrt id) ids (wm_mb id) tb)
    (hs : List Nat) (I : Nat → Nat → wm_S → Prop) (f : Nat) (hI : ∀ pc, hs.contains pc = true → ∀ n σ, I n pc σ → wm_w (wm_mr id).cells (wm_mr id).slots (wm_mc id) (wm_ms id) cx qr qt tb hs (fun pc' σ' => ∃ n', n' < n ∧ I n' pc' σ') f (wm_dp tb pc) σ.1 σ.2.1 σ.2.2.1 σ.2.2.2.1 σ.2.2.2.2)
    (h0 : (∀ q, h.1 q ≠ 0 → q < h.2.2.2.2.2) → wm_w (wm_mr id).cells (wm_mr id).slots (wm_mc id) (wm_ms id) cx qr qt tb hs (fun pc' σ' => ∃ n', I n' pc' σ') f (wm_dp tb 0) (wm_en as (wm_mL id)) [] h 0 0) :
    wm_Met l (wm_my id) (wm_cw id :: wm_WG) (wm_mr id) (wm_Pc D aC b0 as h) (wm_Qc D aC b0 qr qt) (wm_mc id) (wm_ms id) (fun q => b0 ≤ q) := by
  refine wm_ofW (cc := wm_mb id) (maxL := wm_mL id) (ret := wm_mrt id) hy rfl ?_
  intro p e s m args below meth c s₁ B hml hv
  obtain ⟨rfl, hO, hK⟩ := hv
  have hts := atoms_spec (ws := wm_cw id :: wm_WG) B.pre
  have hown : s.vm.findClass (wm_my id).cls = some m.cls := findClass_of_methodNamed B.named
  have hnm : meth.name = (wm_my id).name := (name_of_methodNamed B.named B.method).1
  have hC : wm_C p s m (as.map wm_tv).toArray meth c (wm_my id).cls (wm_mb id) (wm_mL id) b0 D aC :=
    ⟨B.exec, B.bytes, hml, B.notSynchronized, hown, fun w hw => hts w (List.mem_cons_of_mem _ hw), hK⟩
  have hb0 : b0 ≤ s.heap.size := hO.2.1
  have h9 := wm_entry (p := p) (e := e) (below := below) hC hb0 hl0 (B.noHandlers (hts _ List.mem_cons_self)) hnm B.returns hcx ht hs I f hI (σ := (wm_en as (wm_mL id), [], h, 0, 0)) (h0 (fun q hq => by rw [← hO.1]; exact (hO.2.2.1 q hq).2))
  rw [lg_entry_eq]
  exact h9 s.heap [] _ hO va_S.rf (wm_lo_en hw)
end
section
/-! THE ABSTRACT MACHINE, 7: what the tables must say, decided -/
def wm_wb (own : String) (d k : Nat) (y : MethodName) : Bool := wm_ib d (Cond.methodLink own k y) || wm_NW.any (fun w => match w with
  | .methodLinkNest o j z _ => decide (o = own ∧ j = k ∧ z = y)
  | _ => false)
theorem wm_wb_ok {own : String} {d k : Nat} {y : MethodName} (h : wm_wb own d k y = true) : wm_ml own k y := by
  simp only [wm_wb, Bool.or_eq_true] at h
  rcases h with h | h
  · exact Or.inl (wm_ib_in h)
  · obtain ⟨w, hw, hz⟩ := List.any_eq_true.mp h
    split at hz
    · next o j z g =>
      simp only [decide_eq_true_eq] at hz
      obtain ⟨rfl, rfl, rfl⟩ := hz
      exact Or.inr ⟨_, hw⟩
    · cases hz
/-- a callee's words by their places: code, initialized, instanceMethod or static, selects -/
def wm_cb (id : Nat) (p : Nat × Nat × Nat × Nat) (st : Bool) : Bool := wm_ib p.1 (wm_cw id) && wm_ib p.2.1 (Cond.initialized (wm_my id).cls) && (if st then wm_ib p.2.2.1 (Cond.static (wm_my id)) else wm_ib p.2.2.1 (Cond.instanceMethod (wm_my id))) && decide ((wm_my id).cls ≠ "java/lang/invoke/MethodHandle" ∧ (wm_my id).cls ≠ "java/lang/invoke/VarHandle") && plainName (wm_my id).cls
def wm_fb (own : String) (d k : Nat) (f : String × String × String × Bool) : Bool := wm_ib d (Cond.fieldLink own k f.1 f.2.1 f.2.2.1)
def wm_ex (own : String) (j : Nat) : Bool := wm_sr.any fun x => decide (x.1 = own ∧ x.2.1 = j)
def wm_is (x : Except DecodeError (Instr × Nat)) (i : Instr) (n : Nat) : Bool := match x with
  | .ok y => decide (y = (i, n))
  | _ => false
theorem wm_is_ok {x : Except DecodeError (Instr × Nat)} {i : Instr} {n : Nat} (h : wm_is x i n = true) : x = .ok (i, n) := by
  unfold wm_is at h
  split at h
  · rw [of_decide_eq_true h]
  · cases h
theorem wm_ex_ok {own : String} {j : Nat} (h : wm_ex own j = true) : ∃ tx, (own, j, tx) ∈ wm_sr := by
  obtain ⟨x, hx, hz⟩ := List.any_eq_true.mp h
  obtain ⟨rfl, rfl⟩ := of_decide_eq_true hz
  exact ⟨x.2.2, hx⟩
/-- which string a throw loads -/
def wm_ld (cc : ByteArray) (pc : Nat) : Option (Nat × Bool) := match decode cc (pc + 4) with
  | .ok (.ldc j, 2) => some (j, true)
  | .ok (.ldc_w j, 3) => some (j, false)
  | _ => none
theorem wm_ld_ok {cc : ByteArray} {pc j : Nat} {b : Bool} (h : wm_ld cc pc = some (j, b)) : (b = true ∧ decode cc (pc + 4) = .ok (.ldc j, 2)) ∨ (b = false ∧ decode cc (pc + 4) = .ok (.ldc_w j, 3)) := by
  unfold wm_ld at h
  split at h
  · next e => cases h; exact Or.inl ⟨rfl, e⟩
  · next e => cases h; exact Or.inr ⟨rfl, e⟩
  · cases h
def wm_nb (R : Room) (own : String) (cc : ByteArray) (pc k a b c d : Nat) : Bool :=
  if c = 9 then decide (b = 6) && decide (6 ≤ R.frames ∧ 90 ≤ R.locals) && decide (a = 1 ∨ a = 2 ∨ a = 3) && decide (own = "CycleKernel") && wm_ib d (Cond.classLink own k (wm_xn a)) && wm_ib (wm_xp a) (Cond.initialized (wm_xn a)) && wm_is (decode cc (pc + 3)) .dup 1 &&
    (match wm_ld cc pc with
      | some (j, true) => wm_ex own j && wm_is (decode cc (pc + 6)) (.invokespecial (wm_xi a)) 3 && wm_is (decode cc (pc + 9)) .athrow 1
      | some (j, false) => wm_ex own j && wm_is (decode cc (pc + 7)) (.invokespecial (wm_xi a)) 3 && wm_is (decode cc (pc + 10)) .athrow 1
      | none => false)
  else match wm_tags a with
    | some (.inl ci) => match wm_cls[ci]? with
      | some r => decide (b = r.2.2) && (List.range r.2.2).all (fun k => decide (wm_ck (wm_ty ci k) ≠ 3)) && wm_ib d (Cond.classLink own k r.1) && wm_ib (wm_kp ci).1 (Cond.instantiable r.1 r.2.2) && wm_ib (wm_kp ci).2 (Cond.initialized r.1)
      | none => false
    | _ => false
def wm_sb (R : Room) (own mn : String) (rt : Option FieldType) (ids : List Nat) (cc : ByteArray) (pc : Nat) (i : Instr) (a b c d : Nat) : Bool := match i with
  | .ldc k => wm_ib d (Cond.constant own k (nI a))
  | .ldc2_w k => wm_ib d (Cond.constantLong own k (lN a))
  | .ifCond _ o => decide ((pc : Int) + o = (a : Int))
  | .if_icmp _ o => decide ((pc : Int) + o = (a : Int))
  | .if_acmp _ o => decide ((pc : Int) + o = (a : Int))
  | .ifnull o => decide ((pc : Int) + o = (a : Int))
  | .ifnonnull o => decide ((pc : Int) + o = (a : Int))
  | .goto o => decide ((pc : Int) + o = (a : Int))
  | .getfield k => match wm_tags a with
    | some (.inl ci) => match wm_cls[ci]? with
      | some r => decide (b < r.2.2 ∧ wm_ck (wm_ty ci b) = c) && wm_fb own d k (r.2.1 b)
      | none => false
    | _ => false
  | .putfield k => match wm_tags a with
    | some (.inl ci) => match wm_cls[ci]? with
      | some r => decide (b < r.2.2 ∧ wm_ck (wm_ty ci b) = c ∧ c ≠ 3 ∧ (wm_ty ci b ≠ .byte ∧ wm_ty ci b ≠ .char ∧ wm_ty ci b ≠ .short)) && wm_fb own d k (r.2.1 b) && (decide ((r.2.1 b).2.2.2 = false) || decide ((r.2.1 b).2.2.2 = true ∧ mn = "<init>" ∧ (r.2.1 b).1 = own))
      | none => false
    | _ => false
  | .arraylength => match wm_tags a with
    | some (.inr ty) => decide (ty ∈ wm_ats)
    | _ => false
  | .iaload => decide (wm_tags a = some (.inr .int) ∧ FieldType.int ∈ wm_ats)
  | .iastore => decide (a ≠ 1 ∧ wm_tags a = some (.inr .int) ∧ FieldType.int ∈ wm_ats)
  | .baload => decide (wm_tags a = some (.inr .boolean) ∧ FieldType.boolean ∈ wm_ats)
  | .bastore => decide (wm_tags a = some (.inr .boolean) ∧ FieldType.boolean ∈ wm_ats)
  | .laload => decide (wm_tags a = some (.inr .long) ∧ FieldType.long ∈ wm_ats)
  | .lastore => decide (wm_tags a = some (.inr .long) ∧ FieldType.long ∈ wm_ats)
  | .aaload => match wm_tags a with
    | some (.inr (.object C)) => decide (FieldType.object C ∈ wm_ats)
    | _ => false
  | .aastore => match wm_cls[b]? with
    | some r => decide (wm_tags a = some (.inr (.object r.1)) ∧ FieldType.object r.1 ∈ wm_ats)
    | none => false
  | .newarray t => decide (a ≠ 1 ∧ wm_tags a = some (.inr (newarray.typeOf t)) ∧ newarray.typeOf t ∈ wm_ats ∧ wm_ck (newarray.typeOf t) ≠ 3) && wm_ib (wm_ap t) (Cond.arrayClass (newarray.typeOf t))
  | .anewarray k => match wm_tags a with
    | some (.inr (.object C)) => decide (FieldType.object C ∈ wm_ats) && wm_ib d (Cond.classLink own k C)
    | _ => false
  | .new k => wm_nb R own cc pc k a b c d
  | .invokespecial k => if c = 9 then decide (1 ≤ R.frames ∧ 20 ≤ R.locals) && wm_ib d (Cond.methodLink own k objectInit) && wm_ib wm_o1 (Cond.instanceMethod objectInit) && wm_ib wm_o2 (Cond.code objectInit ⟨#[0xb1]⟩ 1 none) else
      decide (a ∈ ids ∧ (wm_my a).name = "<init>" ∧ wm_mrt a = none) && wm_wb own d k (wm_my a) && wm_ib (wm_cp a).2.2.1 (Cond.instanceMethod (wm_my a)) && decide ((parseMethodDescriptor (wm_my a).desc).map (fun d => d.parameters.length + 1) = some (wm_mn a))
  | .invokevirtual k => decide (a ∈ ids) && (match wm_cls[b]? with
      | some r => decide (r.1 = (wm_my a).cls)
      | none => false) && wm_wb own d k (wm_my a) && wm_ib (wm_cp a).2.2.1 (Cond.instanceMethod (wm_my a)) && wm_ib (wm_cp a).2.2.2 (Cond.selects (wm_my a).cls (wm_my a) (wm_my a)) && decide ((parseMethodDescriptor (wm_my a).desc).map (fun d => d.parameters.length + 1) = some (wm_mn a))
  | .invokestatic k => decide (a ∈ ids) && wm_wb own d k (wm_my a) && wm_ib (wm_cp a).2.2.1 (Cond.static (wm_my a)) && decide ((parseMethodDescriptor (wm_my a).desc).map (fun d => d.parameters.length) = some (wm_mn a))
  | .ireturn => decide ((a = 1 ∧ rt = some .boolean) ∨ (a ≠ 1 ∧ rt = some .int))
  | .lreturn => decide (rt = some .long)
  | .areturn => match rt with
    | some ty => decide (wm_ck ty = 2)
    | none => false
  | .return_ => decide (rt = none)
  | _ => true
set_option maxHeartbeats 4000000 in
theorem wm_sb_ok {R : Room} {own mn : String} {rt : Option FieldType} {ids : List Nat} {cc : ByteArray} {pc : Nat} {i : Instr} {a b c d : Nat} (h : wm_sb R own mn rt ids cc pc i a b c d = true) : wm_st R own mn rt ids cc pc i a b c := by
  cases i
  case getfield k =>
    simp only [wm_sb] at h
    split at h
    · next ci e1 =>
      split at h
      · next r e2 =>
        simp only [Bool.and_eq_true, decide_eq_true_eq] at h
        exact ⟨ci, r, e1, e2, h.1.1, h.1.2, wm_ib_in h.2⟩
      · cases h
    · cases h
  case putfield k =>
    simp only [wm_sb] at h
    split at h
    · next ci e1 =>
      split at h
      · next r e2 =>
        simp only [Bool.and_eq_true, Bool.or_eq_true, decide_eq_true_eq] at h
        refine ⟨ci, r, e1, e2, h.1.1.1, h.1.1.2.1, h.1.1.2.2.1, h.1.1.2.2.2, ?_⟩
        rcases h.2 with z | z
        · exact Or.inl ⟨z, wm_ib_in h.1.2⟩
        · exact Or.inr ⟨z.1, z.2.1, z.2.2, wm_ib_in h.1.2⟩
      · cases h
    · cases h
  case arraylength =>
    simp only [wm_sb] at h
    split at h
    · next ty e1 => exact ⟨ty, e1, of_decide_eq_true h⟩
    · cases h
  case aaload =>
    simp only [wm_sb] at h
    split at h
    · next ty e1 => exact ⟨_, e1, of_decide_eq_true h⟩
    · cases h
  case aastore =>
    simp only [wm_sb] at h
    split at h
    · next r e1 => exact ⟨r, e1, (of_decide_eq_true h).1, (of_decide_eq_true h).2⟩
    · cases h
  case newarray t =>
    simp only [wm_sb, Bool.and_eq_true, decide_eq_true_eq] at h
    exact ⟨h.1.1, h.1.2.1, h.1.2.2.1, h.1.2.2.2, wm_ib_in h.2⟩
  case anewarray k =>
    simp only [wm_sb] at h
    split at h
    · next ty e1 =>
      simp only [Bool.and_eq_true, decide_eq_true_eq] at h
      exact ⟨_, e1, h.1, wm_ib_in h.2⟩
    · cases h
  case new k =>
    simp only [wm_sb, wm_nb] at h
    split at h
    · next h9 =>
      simp only [Bool.and_eq_true, decide_eq_true_eq] at h
      obtain ⟨⟨⟨⟨⟨⟨⟨y1, y2⟩, y3⟩, y4⟩, y5⟩, y6⟩, y7⟩, y8⟩ := h
      refine Or.inr ⟨h9, y1, y2, y3, y4, wm_ib_in y5, wm_ib_in y6, wm_is_ok y7, ?_⟩
      split at y8
      · next j e1 =>
        simp only [Bool.and_eq_true] at y8
        obtain ⟨tx, htx⟩ := wm_ex_ok y8.1.1
        rcases wm_ld_ok e1 with ⟨-, z⟩ | ⟨z, -⟩
        · exact ⟨j, tx, htx, Or.inl ⟨z, wm_is_ok y8.1.2, wm_is_ok y8.2⟩⟩
        · cases z
      · next j e1 =>
        simp only [Bool.and_eq_true] at y8
        obtain ⟨tx, htx⟩ := wm_ex_ok y8.1.1
        rcases wm_ld_ok e1 with ⟨z, -⟩ | ⟨-, z⟩
        · cases z
        · exact ⟨j, tx, htx, Or.inr ⟨z, wm_is_ok y8.1.2, wm_is_ok y8.2⟩⟩
      · cases y8
    · next h9 =>
      refine Or.inl ⟨h9, ?_⟩
      split at h
      · next ci e1 =>
        split at h
        · next r e2 =>
          simp only [Bool.and_eq_true, decide_eq_true_eq] at h
          obtain ⟨⟨⟨⟨y1, y2⟩, y3⟩, y4⟩, y5⟩ := h
          exact ⟨ci, r, e1, e2, y1, fun k hk => of_decide_eq_true (wd_all y2 hk), wm_ib_in y3, wm_ib_in y4, wm_ib_in y5⟩
        · cases h
      · cases h
  case invokespecial k =>
    simp only [wm_sb] at h
    split at h
    · next h9 =>
      simp only [Bool.and_eq_true, decide_eq_true_eq] at h
      exact Or.inl ⟨h9, h.1.1.1, wm_ib_in h.1.1.2, wm_ib_in h.1.2, wm_ib_in h.2⟩
    · next h9 =>
      simp only [Bool.and_eq_true, decide_eq_true_eq] at h
      obtain ⟨⟨⟨y1, y2⟩, y3⟩, y4⟩ := h
      exact Or.inr ⟨h9, y1.1, y1.2.1, y1.2.2, wm_wb_ok y2, wm_ib_in y3, y4⟩
  case invokevirtual k =>
    simp only [wm_sb, Bool.and_eq_true, decide_eq_true_eq] at h
    obtain ⟨⟨⟨⟨⟨y1, y2⟩, y3⟩, y4⟩, y5⟩, y6⟩ := h
    refine ⟨y1, ?_, wm_wb_ok y3, wm_ib_in y4, wm_ib_in y5, y6⟩
    split at y2
    · next r e1 => exact ⟨r, e1, of_decide_eq_true y2⟩
    · cases y2
  case invokestatic k =>
    simp only [wm_sb, Bool.and_eq_true, decide_eq_true_eq] at h
    exact ⟨h.1.1.1, wm_wb_ok h.1.1.2, wm_ib_in h.1.2, h.2⟩
  case areturn =>
    simp only [wm_sb] at h
    split at h
    · next ty => exact ⟨ty, rfl, of_decide_eq_true h⟩
    · cases h
  case ldc k => exact wm_ib_in h
  case ldc2_w k => exact wm_ib_in h
  all_goals first | trivial | (simp only [wm_sb, decide_eq_true_eq] at h; exact h)
def wm_tb (R : Room) (own mn : String) (rt : Option FieldType) (ids : List Nat) (cc : ByteArray) (tb : wm_T) : Bool := wm_sq tb && tb.all fun x => wm_is (decode cc x.1) x.2.1 (wm_len x.2.1) && wm_sb R own mn rt ids cc x.1 x.2.1 x.2.2.1 x.2.2.2.1 x.2.2.2.2.1 x.2.2.2.2.2
theorem wm_tb_ok {R : Room} {own mn : String} {rt : Option FieldType} {ids : List Nat} {cc : ByteArray} {tb : wm_T} (h : wm_tb R own mn rt ids cc tb = true) : wm_tok R own mn rt ids cc tb := by
  simp only [wm_tb, Bool.and_eq_true] at h
  refine ⟨h.1, fun x hx => ?_⟩
  have := List.all_eq_true.mp h.2 x hx
  simp only [Bool.and_eq_true] at this
  exact ⟨wm_is_ok this.1, wm_sb_ok this.2⟩
/-- a callee's tables -/
def wm_oib (R : Room) (id : Nat) : Bool := decide ((wm_mr id).frames + 1 ≤ R.frames ∧ 8 + (wm_mL id + 11) + (wm_mr id).locals ≤ R.locals) && wm_ib (wm_cp id).1 (wm_cw id) && wm_ib (wm_cp id).2.1 (Cond.initialized (wm_my id).cls) && decide ((wm_my id).cls ≠ "java/lang/invoke/MethodHandle" ∧ (wm_my id).cls ≠ "java/lang/invoke/VarHandle")
theorem wm_oib_ok {R : Room} {id : Nat} (h : wm_oib R id = true) : wm_oi R id := by
  simp only [wm_oib, Bool.and_eq_true, decide_eq_true_eq] at h
  exact ⟨rfl, rfl, h.1.1.1.1, h.1.1.1.2, wm_ib_in h.1.1.2, wm_ib_in h.1.2, h.2⟩
end
section
/-! by program (wip/whole/gen_tabs.py): the methods of inner, instruction by instruction -/
/-- CycleKernel$Driver.<init>(IILCycleKernel$Store;LCycleKernel$Driver;)V -/
def tb_36 : wm_T := [(0, .aload_n 0, 0, 0, 0, 0), (1, .invokespecial 1, 0, 0, 9, 400), (4, .aload_n 0, 0, 0, 0, 0), (5, .iload_n 1, 0, 0, 0, 0), (6, .putfield 7, 3, 0, 0, 419), (9, .aload_n 0, 0, 0, 0, 0), (10, .aload 4, 0, 0, 0, 0), (12, .putfield 13, 3, 2, 2, 424), (15, .aload_n 0, 0, 0, 0, 0), (16, .iload_n 2, 0, 0, 0, 0), (17, .anewarray 17, 22, 0, 0, 401), (20, .putfield 19, 3, 1, 2, 421), (23, .iconst 0, 0, 0, 0, 0), (24, .istore 5, 0, 0, 0, 0), (26, .iload 5, 0, 0, 0, 0), (28, .iload_n 2, 0, 0, 0, 0), (29, .if_icmp .ge (24), 53, 0, 0, 0), (32, .aload_n 0, 0, 0, 0, 0), (33, .getfield 19, 3, 1, 2, 421), (36, .iload 5, 0, 0, 0, 0), (38, .new 17, 4, 3, 0, 401), (41, .dup, 0, 0, 0, 0), (42, .aload_n 3, 0, 0, 0, 0), (43, .invokespecial 23, 37, 2, 0, 404), (46, .aastore, 22, 2, 0, 0), (47, .iinc 5 1, 0, 0, 0, 0), (50, .goto (-24), 26, 0, 0, 0), (53, .return_, 0, 0, 0, 0)]
abbrev ci_36 : List Nat := [37]
theorem tk_36 : wm_tb (wm_mr 36) (wm_my 36).cls (wm_my 36).name (wm_mrt 36) ci_36 (wm_mb 36) tb_36 = true := by decide +kernel
theorem oi_36 : ci_36.all (wm_oib (wm_mr 36)) = true := by decide +kernel
/-- CycleKernel$Row.<init>(LCycleKernel$Store;)V -/
def tb_37 : wm_T := [(0, .aload_n 0, 0, 0, 0, 0), (1, .invokespecial 3, 0, 0, 9, 407), (4, .aload_n 0, 0, 0, 0, 0), (5, .aload_n 1, 0, 0, 0, 0), (6, .putfield 9, 4, 0, 2, 408), (9, .return_, 0, 0, 0, 0)]
abbrev ci_37 : List Nat := []
theorem tk_37 : wm_tb (wm_mr 37) (wm_my 37).cls (wm_my 37).name (wm_mrt 37) ci_37 (wm_mb 37) tb_37 = true := by decide +kernel
theorem oi_37 : ci_37.all (wm_oib (wm_mr 37)) = true := by decide +kernel
/-- CycleKernel$Row.length()I -/
def tb_38 : wm_T := [(0, .iconst 0, 0, 0, 0, 0), (1, .istore_n 1, 0, 0, 0, 0), (2, .aload_n 0, 0, 0, 0, 0), (3, .getfield 15, 4, 1, 2, 409), (6, .astore_n 2, 0, 0, 0, 0), (7, .aload_n 2, 0, 0, 0, 0), (8, .ifnull (14), 22, 0, 0, 0), (11, .iinc 1 1, 0, 0, 0, 0), (14, .aload_n 2, 0, 0, 0, 0), (15, .getfield 19, 9, 2, 2, 577), (18, .astore_n 2, 0, 0, 0, 0), (19, .goto (-12), 7, 0, 0, 0), (22, .iload_n 1, 0, 0, 0, 0), (23, .ireturn, 0, 0, 0, 0)]
abbrev ci_38 : List Nat := []
theorem tk_38 : wm_tb (wm_mr 38) (wm_my 38).cls (wm_my 38).name (wm_mrt 38) ci_38 (wm_mb 38) tb_38 = true := by decide +kernel
theorem oi_38 : ci_38.all (wm_oib (wm_mr 38)) = true := by decide +kernel
/-- CycleKernel$Row.soonest()J -/
def tb_39 : wm_T := [(0, .aload_n 0, 0, 0, 0, 0), (1, .getfield 15, 4, 1, 2, 409), (4, .ifnonnull (9), 13, 0, 0, 0), (7, .ldc2_w 24, 18446744073709551615, 0, 0, 187), (10, .goto (10), 20, 0, 0, 0), (13, .aload_n 0, 0, 0, 0, 0), (14, .getfield 15, 4, 1, 2, 409), (17, .getfield 26, 9, 0, 1, 574), (20, .lreturn, 0, 0, 0, 0)]
abbrev ci_39 : List Nat := []
theorem tk_39 : wm_tb (wm_mr 39) (wm_my 39).cls (wm_my 39).name (wm_mrt 39) ci_39 (wm_mb 39) tb_39 = true := by decide +kernel
theorem oi_39 : ci_39.all (wm_oib (wm_mr 39)) = true := by decide +kernel
/-- CycleKernel$Row.valueAt(J)I -/
def tb_40 : wm_T := [(0, .aload_n 0, 0, 0, 0, 0), (1, .getfield 30, 4, 2, 0, 410), (4, .istore_n 3, 0, 0, 0, 0), (5, .aload_n 0, 0, 0, 0, 0), (6, .getfield 15, 4, 1, 2, 409), (9, .astore 4, 0, 0, 0, 0), (11, .aload 4, 0, 0, 0, 0), (13, .ifnull (29), 42, 0, 0, 0), (16, .aload 4, 0, 0, 0, 0), (18, .getfield 26, 9, 0, 1, 574), (21, .lload_n 1, 0, 0, 0, 0), (22, .lcmp, 0, 0, 0, 0), (23, .ifCond .gt (19), 42, 0, 0, 0), (26, .aload 4, 0, 0, 0, 0), (28, .getfield 34, 9, 1, 0, 576), (31, .istore_n 3, 0, 0, 0, 0), (32, .aload 4, 0, 0, 0, 0), (34, .getfield 19, 9, 2, 2, 577), (37, .astore 4, 0, 0, 0, 0), (39, .goto (-28), 11, 0, 0, 0), (42, .iload_n 3, 0, 0, 0, 0), (43, .ireturn, 0, 0, 0, 0)]
abbrev ci_40 : List Nat := []
theorem tk_40 : wm_tb (wm_mr 40) (wm_my 40).cls (wm_my 40).name (wm_mrt 40) ci_40 (wm_mb 40) tb_40 = true := by decide +kernel
theorem oi_40 : ci_40.all (wm_oib (wm_mr 40)) = true := by decide +kernel
/-- CycleKernel$Row.takeDue(J)Z -/
def tb_41 : wm_T := [(0, .aload_n 0, 0, 0, 0, 0), (1, .aload_n 0, 0, 0, 0, 0), (2, .lload_n 1, 0, 0, 0, 0), (3, .invokevirtual 35, 40, 2, 0, 653), (6, .putfield 30, 4, 2, 0, 410), (9, .aload_n 0, 0, 0, 0, 0), (10, .getfield 15, 4, 1, 2, 409), (13, .astore_n 3, 0, 0, 0, 0), (14, .aload_n 3, 0, 0, 0, 0), (15, .ifnull (20), 35, 0, 0, 0), (18, .aload_n 3, 0, 0, 0, 0), (19, .getfield 26, 9, 0, 1, 574), (22, .lload_n 1, 0, 0, 0, 0), (23, .lcmp, 0, 0, 0, 0), (24, .ifCond .gt (11), 35, 0, 0, 0), (27, .aload_n 3, 0, 0, 0, 0), (28, .getfield 19, 9, 2, 2, 577), (31, .astore_n 3, 0, 0, 0, 0), (32, .goto (-18), 14, 0, 0, 0), (35, .aload_n 0, 0, 0, 0, 0), (36, .aconst_null, 0, 0, 0, 0), (37, .aload_n 3, 0, 0, 0, 0), (38, .invokevirtual 39, 46, 2, 0, 541), (41, .ifCond .le (7), 48, 0, 0, 0), (44, .iconst 1, 0, 0, 0, 0), (45, .goto (4), 49, 0, 0, 0), (48, .iconst 0, 0, 0, 0, 0), (49, .ireturn, 1, 0, 0, 0)]
abbrev ci_41 : List Nat := [40, 46]
theorem tk_41 : wm_tb (wm_mr 41) (wm_my 41).cls (wm_my 41).name (wm_mrt 41) ci_41 (wm_mb 41) tb_41 = true := by decide +kernel
theorem oi_41 : ci_41.all (wm_oib (wm_mr 41)) = true := by decide +kernel
/-- CycleKernel$Row.lastBefore(J)LCycleKernel$Transaction; -/
def tb_42 : wm_T := [(0, .aconst_null, 0, 0, 0, 0), (1, .astore_n 3, 0, 0, 0, 0), (2, .aload_n 0, 0, 0, 0, 0), (3, .getfield 15, 4, 1, 2, 409), (6, .astore 4, 0, 0, 0, 0), (8, .aload 4, 0, 0, 0, 0), (10, .ifnull (26), 36, 0, 0, 0), (13, .aload 4, 0, 0, 0, 0), (15, .getfield 26, 9, 0, 1, 574), (18, .lload_n 1, 0, 0, 0, 0), (19, .lcmp, 0, 0, 0, 0), (20, .ifCond .ge (16), 36, 0, 0, 0), (23, .aload 4, 0, 0, 0, 0), (25, .astore_n 3, 0, 0, 0, 0), (26, .aload 4, 0, 0, 0, 0), (28, .getfield 19, 9, 2, 2, 577), (31, .astore 4, 0, 0, 0, 0), (33, .goto (-25), 8, 0, 0, 0), (36, .aload_n 3, 0, 0, 0, 0), (37, .areturn, 0, 0, 0, 0)]
abbrev ci_42 : List Nat := []
theorem tk_42 : wm_tb (wm_mr 42) (wm_my 42).cls (wm_my 42).name (wm_mrt 42) ci_42 (wm_mb 42) tb_42 = true := by decide +kernel
theorem oi_42 : ci_42.all (wm_oib (wm_mr 42)) = true := by decide +kernel
/-- CycleKernel$Row.deleteFrom(J)I -/
def tb_43 : wm_T := [(0, .aload_n 0, 0, 0, 0, 0), (1, .aload_n 0, 0, 0, 0, 0), (2, .lload_n 1, 0, 0, 0, 0), (3, .invokevirtual 43, 42, 2, 0, 537), (6, .aconst_null, 0, 0, 0, 0), (7, .invokevirtual 39, 46, 2, 0, 541), (10, .ireturn, 0, 0, 0, 0)]
abbrev ci_43 : List Nat := [42, 46]
theorem tk_43 : wm_tb (wm_mr 43) (wm_my 43).cls (wm_my 43).name (wm_mrt 43) ci_43 (wm_mb 43) tb_43 = true := by decide +kernel
theorem oi_43 : ci_43.all (wm_oib (wm_mr 43)) = true := by decide +kernel
/-- CycleKernel$Row.deleteOthers(JI)I -/
def tb_44 : wm_T := [(0, .aload_n 0, 0, 0, 0, 0), (1, .lload_n 1, 0, 0, 0, 0), (2, .invokevirtual 43, 42, 2, 0, 537), (5, .astore 4, 0, 0, 0, 0), (7, .aload 4, 0, 0, 0, 0), (9, .ifnonnull (10), 19, 0, 0, 0), (12, .aload_n 0, 0, 0, 0, 0), (13, .getfield 15, 4, 1, 2, 409), (16, .goto (8), 24, 0, 0, 0), (19, .aload 4, 0, 0, 0, 0), (21, .getfield 19, 9, 2, 2, 577), (24, .astore 5, 0, 0, 0, 0), (26, .aload 5, 0, 0, 0, 0), (28, .astore 6, 0, 0, 0, 0), (30, .aload 6, 0, 0, 0, 0), (32, .ifnull (29), 61, 0, 0, 0), (35, .aload 6, 0, 0, 0, 0), (37, .getfield 34, 9, 1, 0, 576), (40, .iload_n 3, 0, 0, 0, 0), (41, .if_icmp .eq (10), 51, 0, 0, 0), (44, .aload 6, 0, 0, 0, 0), (46, .getfield 19, 9, 2, 2, 577), (49, .astore 5, 0, 0, 0, 0), (51, .aload 6, 0, 0, 0, 0), (53, .getfield 19, 9, 2, 2, 577), (56, .astore 6, 0, 0, 0, 0), (58, .goto (-28), 30, 0, 0, 0), (61, .aload_n 0, 0, 0, 0, 0), (62, .aload 4, 0, 0, 0, 0), (64, .aload 5, 0, 0, 0, 0), (66, .invokevirtual 39, 46, 2, 0, 541), (69, .ireturn, 0, 0, 0, 0)]
abbrev ci_44 : List Nat := [42, 46]
theorem tk_44 : wm_tb (wm_mr 44) (wm_my 44).cls (wm_my 44).name (wm_mrt 44) ci_44 (wm_mb 44) tb_44 = true := by decide +kernel
theorem oi_44 : ci_44.all (wm_oib (wm_mr 44)) = true := by decide +kernel
/-- CycleKernel$Row.addBehind(LCycleKernel$Transaction;JI)LCycleKernel$Transaction; -/
def tb_45 : wm_T := [(0, .aload_n 0, 0, 0, 0, 0), (1, .getfield 9, 4, 0, 2, 408), (4, .lload_n 2, 0, 0, 0, 0), (5, .iload 4, 0, 0, 0, 0), (7, .invokevirtual 47, 64, 5, 0, 563), (10, .astore 5, 0, 0, 0, 0), (12, .aload_n 0, 0, 0, 0, 0), (13, .aload_n 1, 0, 0, 0, 0), (14, .aload 5, 0, 0, 0, 0), (16, .invokevirtual 53, 47, 2, 0, 549), (19, .aload 5, 0, 0, 0, 0), (21, .areturn, 0, 0, 0, 0)]
abbrev ci_45 : List Nat := [47, 64]
theorem tk_45 : wm_tb (wm_mr 45) (wm_my 45).cls (wm_my 45).name (wm_mrt 45) ci_45 (wm_mb 45) tb_45 = true := by decide +kernel
theorem oi_45 : ci_45.all (wm_oib (wm_mr 45)) = true := by decide +kernel
/-- CycleKernel$Row.deleteBetween(LCycleKernel$Transaction;LCycleKernel$Transaction;)I -/
def tb_46 : wm_T := [(0, .iconst 0, 0, 0, 0, 0), (1, .istore_n 3, 0, 0, 0, 0), (2, .aload_n 1, 0, 0, 0, 0), (3, .ifnonnull (10), 13, 0, 0, 0), (6, .aload_n 0, 0, 0, 0, 0), (7, .getfield 15, 4, 1, 2, 409), (10, .goto (7), 17, 0, 0, 0), (13, .aload_n 1, 0, 0, 0, 0), (14, .getfield 19, 9, 2, 2, 577), (17, .astore 4, 0, 0, 0, 0), (19, .aload 4, 0, 0, 0, 0), (21, .ifnull (35), 56, 0, 0, 0), (24, .aload 4, 0, 0, 0, 0), (26, .aload_n 2, 0, 0, 0, 0), (27, .if_acmp .eq (29), 56, 0, 0, 0), (30, .aload 4, 0, 0, 0, 0), (32, .getfield 19, 9, 2, 2, 577), (35, .astore 5, 0, 0, 0, 0), (37, .aload_n 0, 0, 0, 0, 0), (38, .getfield 9, 4, 0, 2, 408), (41, .aload 4, 0, 0, 0, 0), (43, .invokevirtual 57, 65, 5, 0, 545), (46, .aload 5, 0, 0, 0, 0), (48, .astore 4, 0, 0, 0, 0), (50, .iinc 3 1, 0, 0, 0, 0), (53, .goto (-34), 19, 0, 0, 0), (56, .aload_n 0, 0, 0, 0, 0), (57, .aload_n 1, 0, 0, 0, 0), (58, .aload 4, 0, 0, 0, 0), (60, .invokevirtual 53, 47, 2, 0, 549), (63, .iload_n 3, 0, 0, 0, 0), (64, .ireturn, 0, 0, 0, 0)]
abbrev ci_46 : List Nat := [47, 65]
theorem tk_46 : wm_tb (wm_mr 46) (wm_my 46).cls (wm_my 46).name (wm_mrt 46) ci_46 (wm_mb 46) tb_46 = true := by decide +kernel
theorem oi_46 : ci_46.all (wm_oib (wm_mr 46)) = true := by decide +kernel
/-- CycleKernel$Row.join(LCycleKernel$Transaction;LCycleKernel$Transaction;)V -/
def tb_47 : wm_T := [(0, .aload_n 1, 0, 0, 0, 0), (1, .ifnonnull (11), 12, 0, 0, 0), (4, .aload_n 0, 0, 0, 0, 0), (5, .aload_n 2, 0, 0, 0, 0), (6, .putfield 15, 4, 1, 2, 409), (9, .goto (8), 17, 0, 0, 0), (12, .aload_n 1, 0, 0, 0, 0), (13, .aload_n 2, 0, 0, 0, 0), (14, .putfield 19, 9, 2, 2, 577), (17, .return_, 0, 0, 0, 0)]
abbrev ci_47 : List Nat := []
theorem tk_47 : wm_tb (wm_mr 47) (wm_my 47).cls (wm_my 47).name (wm_mrt 47) ci_47 (wm_mb 47) tb_47 = true := by decide +kernel
theorem oi_47 : ci_47.all (wm_oib (wm_mr 47)) = true := by decide +kernel
/-- CycleKernel$Signal.<init>(II)V -/
def tb_48 : wm_T := [(0, .aload_n 0, 0, 0, 0, 0), (1, .invokespecial 3, 0, 0, 9, 298), (4, .aload_n 0, 0, 0, 0, 0), (5, .iload_n 1, 0, 0, 0, 0), (6, .putfield 9, 5, 0, 0, 299), (9, .aload_n 0, 0, 0, 0, 0), (10, .iload_n 2, 0, 0, 0, 0), (11, .putfield 15, 5, 1, 0, 301), (14, .aload_n 0, 0, 0, 0, 0), (15, .iload_n 2, 0, 0, 0, 0), (16, .newarray .int, 26, 0, 0, 0), (18, .putfield 18, 5, 2, 2, 303), (21, .aload_n 0, 0, 0, 0, 0), (22, .iload_n 2, 0, 0, 0, 0), (23, .newarray .int, 27, 0, 0, 0), (25, .putfield 22, 5, 3, 2, 305), (28, .return_, 0, 0, 0, 0)]
abbrev ci_48 : List Nat := []
theorem tk_48 : wm_tb (wm_mr 48) (wm_my 48).cls (wm_my 48).name (wm_mrt 48) ci_48 (wm_mb 48) tb_48 = true := by decide +kernel
theorem oi_48 : ci_48.all (wm_oib (wm_mr 48)) = true := by decide +kernel
/-- CycleKernel$Signal.canHave(I)Z -/
def tb_49 : wm_T := [(0, .aload_n 0, 0, 0, 0, 0), (1, .getfield 9, 5, 0, 0, 299), (4, .iconst 2, 0, 0, 0, 0), (5, .if_icmp .eq (13), 18, 0, 0, 0), (8, .iload_n 1, 0, 0, 0, 0), (9, .ifCond .lt (13), 22, 0, 0, 0), (12, .iload_n 1, 0, 0, 0, 0), (13, .bipush 8, 0, 0, 0, 0), (15, .if_icmp .gt (7), 22, 0, 0, 0), (18, .iconst 1, 0, 0, 0, 0), (19, .goto (4), 23, 0, 0, 0), (22, .iconst 0, 0, 0, 0, 0), (23, .ireturn, 1, 0, 0, 0)]
abbrev ci_49 : List Nat := []
theorem tk_49 : wm_tb (wm_mr 49) (wm_my 49).cls (wm_my 49).name (wm_mrt 49) ci_49 (wm_mb 49) tb_49 = true := by decide +kernel
theorem oi_49 : ci_49.all (wm_oib (wm_mr 49)) = true := by decide +kernel
/-- CycleKernel$Signal.driverOf(I)LCycleKernel$Driver; -/
def tb_50 : wm_T := [(0, .aload_n 0, 0, 0, 0, 0), (1, .getfield 25, 5, 4, 2, 307), (4, .astore_n 2, 0, 0, 0, 0), (5, .aload_n 2, 0, 0, 0, 0), (6, .ifnull (21), 27, 0, 0, 0), (9, .aload_n 2, 0, 0, 0, 0), (10, .getfield 29, 3, 0, 0, 420), (13, .iload_n 1, 0, 0, 0, 0), (14, .if_icmp .ne (5), 19, 0, 0, 0), (17, .aload_n 2, 0, 0, 0, 0), (18, .areturn, 0, 0, 0, 0), (19, .aload_n 2, 0, 0, 0, 0), (20, .getfield 34, 3, 2, 2, 425), (23, .astore_n 2, 0, 0, 0, 0), (24, .goto (-19), 5, 0, 0, 0), (27, .aconst_null, 0, 0, 0, 0), (28, .areturn, 0, 0, 0, 0)]
abbrev ci_50 : List Nat := []
theorem tk_50 : wm_tb (wm_mr 50) (wm_my 50).cls (wm_my 50).name (wm_mrt 50) ci_50 (wm_mb 50) tb_50 = true := by decide +kernel
theorem oi_50 : ci_50.all (wm_oib (wm_mr 50)) = true := by decide +kernel
/-- CycleKernel$Signal.begin()V -/
def tb_51 : wm_T := [(0, .iconst 0, 0, 0, 0, 0), (1, .istore_n 1, 0, 0, 0, 0), (2, .iload_n 1, 0, 0, 0, 0), (3, .aload_n 0, 0, 0, 0, 0), (4, .getfield 15, 5, 1, 0, 301), (7, .if_icmp .ge (64), 71, 0, 0, 0), (10, .aload_n 0, 0, 0, 0, 0), (11, .getfield 25, 5, 4, 2, 307), (14, .astore_n 2, 0, 0, 0, 0), (15, .aload_n 2, 0, 0, 0, 0), (16, .ifnull (26), 42, 0, 0, 0), (19, .aload_n 2, 0, 0, 0, 0), (20, .getfield 37, 3, 1, 2, 422), (23, .iload_n 1, 0, 0, 0, 0), (24, .aaload, 22, 0, 0, 0), (25, .aload_n 0, 0, 0, 0, 0), (26, .getfield 18, 5, 2, 2, 303), (29, .iload_n 1, 0, 0, 0, 0), (30, .iaload, 26, 0, 0, 0), (31, .putfield 41, 4, 2, 0, 411), (34, .aload_n 2, 0, 0, 0, 0), (35, .getfield 34, 3, 2, 2, 425), (38, .astore_n 2, 0, 0, 0, 0), (39, .goto (-24), 15, 0, 0, 0), (42, .aload_n 0, 0, 0, 0, 0), (43, .getfield 18, 5, 2, 2, 303), (46, .iload_n 1, 0, 0, 0, 0), (47, .aload_n 0, 0, 0, 0, 0), (48, .iload_n 1, 0, 0, 0, 0), (49, .invokevirtual 46, 55, 3, 0, 460), (52, .iastore, 26, 0, 0, 0), (53, .aload_n 0, 0, 0, 0, 0), (54, .getfield 22, 5, 3, 2, 305), (57, .iload_n 1, 0, 0, 0, 0), (58, .aload_n 0, 0, 0, 0, 0), (59, .getfield 18, 5, 2, 2, 303), (62, .iload_n 1, 0, 0, 0, 0), (63, .iaload, 26, 0, 0, 0), (64, .iastore, 27, 0, 0, 0), (65, .iinc 1 1, 0, 0, 0, 0), (68, .goto (-66), 2, 0, 0, 0), (71, .return_, 0, 0, 0, 0)]
abbrev ci_51 : List Nat := [55]
theorem tk_51 : wm_tb (wm_mr 51) (wm_my 51).cls (wm_my 51).name (wm_mrt 51) ci_51 (wm_mb 51) tb_51 = true := by decide +kernel
theorem oi_51 : ci_51.all (wm_oib (wm_mr 51)) = true := by decide +kernel
/-- CycleKernel$Signal.soonest()J -/
def tb_52 : wm_T := [(0, .ldc2_w 50, 18446744073709551615, 0, 0, 182), (3, .lstore_n 1, 0, 0, 0, 0), (4, .aload_n 0, 0, 0, 0, 0), (5, .getfield 25, 5, 4, 2, 307), (8, .astore_n 3, 0, 0, 0, 0), (9, .aload_n 3, 0, 0, 0, 0), (10, .ifnull (44), 54, 0, 0, 0), (13, .iconst 0, 0, 0, 0, 0), (14, .istore 4, 0, 0, 0, 0), (16, .iload 4, 0, 0, 0, 0), (18, .aload_n 0, 0, 0, 0, 0), (19, .getfield 15, 5, 1, 0, 301), (22, .if_icmp .ge (24), 46, 0, 0, 0), (25, .lload_n 1, 0, 0, 0, 0), (26, .aload_n 3, 0, 0, 0, 0), (27, .getfield 37, 3, 1, 2, 422), (30, .iload 4, 0, 0, 0, 0), (32, .aaload, 22, 0, 0, 0), (33, .invokevirtual 52, 39, 2, 0, 183), (36, .invokestatic 56, 33, 0, 0, 9999), (39, .lstore_n 1, 0, 0, 0, 0), (40, .iinc 4 1, 0, 0, 0, 0), (43, .goto (-27), 16, 0, 0, 0), (46, .aload_n 3, 0, 0, 0, 0), (47, .getfield 34, 3, 2, 2, 425), (50, .astore_n 3, 0, 0, 0, 0), (51, .goto (-42), 9, 0, 0, 0), (54, .lload_n 1, 0, 0, 0, 0), (55, .lreturn, 0, 0, 0, 0)]
abbrev ci_52 : List Nat := [33, 39]
theorem tk_52 : wm_tb (wm_mr 52) (wm_my 52).cls (wm_my 52).name (wm_mrt 52) ci_52 (wm_mb 52) tb_52 = true := by decide +kernel
theorem oi_52 : ci_52.all (wm_oib (wm_mr 52)) = true := by decide +kernel
/-- CycleKernel$Signal.takeDue(J)Z -/
def tb_53 : wm_T := [(0, .iconst 0, 0, 0, 0, 0), (1, .istore_n 3, 0, 0, 0, 0), (2, .aload_n 0, 0, 0, 0, 0), (3, .getfield 25, 5, 4, 2, 307), (6, .astore 4, 0, 0, 0, 0), (8, .aload 4, 0, 0, 0, 0), (10, .ifnull (48), 58, 0, 0, 0), (13, .iconst 0, 0, 0, 0, 0), (14, .istore 5, 0, 0, 0, 0), (16, .iload 5, 0, 0, 0, 0), (18, .aload_n 0, 0, 0, 0, 0), (19, .getfield 15, 5, 1, 0, 301), (22, .if_icmp .ge (26), 48, 0, 0, 0), (25, .aload 4, 0, 0, 0, 0), (27, .getfield 37, 3, 1, 2, 422), (30, .iload 5, 0, 0, 0, 0), (32, .aaload, 22, 0, 0, 0), (33, .lload_n 1, 0, 0, 0, 0), (34, .invokevirtual 60, 41, 2, 0, 649), (37, .ifCond .eq (5), 42, 0, 0, 0), (40, .iconst 1, 0, 0, 0, 0), (41, .istore_n 3, 0, 0, 0, 0), (42, .iinc 5 1, 0, 0, 0, 0), (45, .goto (-29), 16, 0, 0, 0), (48, .aload 4, 0, 0, 0, 0), (50, .getfield 34, 3, 2, 2, 425), (53, .astore 4, 0, 0, 0, 0), (55, .goto (-47), 8, 0, 0, 0), (58, .iload_n 3, 0, 0, 0, 0), (59, .ireturn, 1, 0, 0, 0)]
abbrev ci_53 : List Nat := [41]
theorem tk_53 : wm_tb (wm_mr 53) (wm_my 53).cls (wm_my 53).name (wm_mrt 53) ci_53 (wm_mb 53) tb_53 = true := by decide +kernel
theorem oi_53 : ci_53.all (wm_oib (wm_mr 53)) = true := by decide +kernel
/-- CycleKernel$Signal.update()Z -/
def tb_54 : wm_T := [(0, .iconst 0, 0, 0, 0, 0), (1, .istore_n 1, 0, 0, 0, 0), (2, .iconst 0, 0, 0, 0, 0), (3, .istore_n 2, 0, 0, 0, 0), (4, .iload_n 2, 0, 0, 0, 0), (5, .aload_n 0, 0, 0, 0, 0), (6, .getfield 15, 5, 1, 0, 301), (9, .if_icmp .ge (25), 34, 0, 0, 0), (12, .aload_n 0, 0, 0, 0, 0), (13, .iload_n 2, 0, 0, 0, 0), (14, .invokevirtual 46, 55, 3, 0, 460), (17, .aload_n 0, 0, 0, 0, 0), (18, .getfield 18, 5, 2, 2, 303), (21, .iload_n 2, 0, 0, 0, 0), (22, .iaload, 26, 0, 0, 0), (23, .if_icmp .eq (5), 28, 0, 0, 0), (26, .iconst 1, 0, 0, 0, 0), (27, .istore_n 1, 0, 0, 0, 0), (28, .iinc 2 1, 0, 0, 0, 0), (31, .goto (-27), 4, 0, 0, 0), (34, .iload_n 1, 0, 0, 0, 0), (35, .ifCond .eq (42), 77, 0, 0, 0), (38, .iconst 0, 0, 0, 0, 0), (39, .istore_n 2, 0, 0, 0, 0), (40, .iload_n 2, 0, 0, 0, 0), (41, .aload_n 0, 0, 0, 0, 0), (42, .getfield 15, 5, 1, 0, 301), (45, .if_icmp .ge (32), 77, 0, 0, 0), (48, .aload_n 0, 0, 0, 0, 0), (49, .getfield 22, 5, 3, 2, 305), (52, .iload_n 2, 0, 0, 0, 0), (53, .aload_n 0, 0, 0, 0, 0), (54, .getfield 18, 5, 2, 2, 303), (57, .iload_n 2, 0, 0, 0, 0), (58, .iaload, 26, 0, 0, 0), (59, .iastore, 27, 0, 0, 0), (60, .aload_n 0, 0, 0, 0, 0), (61, .getfield 18, 5, 2, 2, 303), (64, .iload_n 2, 0, 0, 0, 0), (65, .aload_n 0, 0, 0, 0, 0), (66, .iload_n 2, 0, 0, 0, 0), (67, .invokevirtual 46, 55, 3, 0, 460), (70, .iastore, 26, 0, 0, 0), (71, .iinc 2 1, 0, 0, 0, 0), (74, .goto (-34), 40, 0, 0, 0), (77, .iload_n 1, 0, 0, 0, 0), (78, .ireturn, 1, 0, 0, 0)]
abbrev ci_54 : List Nat := [55]
theorem tk_54 : wm_tb (wm_mr 54) (wm_my 54).cls (wm_my 54).name (wm_mrt 54) ci_54 (wm_mb 54) tb_54 = true := by decide +kernel
theorem oi_54 : ci_54.all (wm_oib (wm_mr 54)) = true := by decide +kernel
/-- CycleKernel$Signal.together(I)I -/
def tb_55 : wm_T := [(0, .aload_n 0, 0, 0, 0, 0), (1, .getfield 25, 5, 4, 2, 307), (4, .ifnonnull (10), 14, 0, 0, 0), (7, .aload_n 0, 0, 0, 0, 0), (8, .getfield 18, 5, 2, 2, 303), (11, .iload_n 1, 0, 0, 0, 0), (12, .iaload, 26, 0, 0, 0), (13, .ireturn, 0, 0, 0, 0), (14, .aload_n 0, 0, 0, 0, 0), (15, .getfield 9, 5, 0, 0, 299), (18, .iconst 2, 0, 0, 0, 0), (19, .if_icmp .ne (18), 37, 0, 0, 0), (22, .aload_n 0, 0, 0, 0, 0), (23, .getfield 25, 5, 4, 2, 307), (26, .getfield 37, 3, 1, 2, 422), (29, .iload_n 1, 0, 0, 0, 0), (30, .aaload, 22, 0, 0, 0), (31, .getfield 41, 4, 2, 0, 411), (34, .goto (8), 42, 0, 0, 0), (37, .aload_n 0, 0, 0, 0, 0), (38, .iload_n 1, 0, 0, 0, 0), (39, .invokevirtual 64, 56, 3, 0, 464), (42, .ireturn, 0, 0, 0, 0)]
abbrev ci_55 : List Nat := [56]
theorem tk_55 : wm_tb (wm_mr 55) (wm_my 55).cls (wm_my 55).name (wm_mrt 55) ci_55 (wm_mb 55) tb_55 = true := by decide +kernel
theorem oi_55 : ci_55.all (wm_oib (wm_mr 55)) = true := by decide +kernel
/-- CycleKernel$Signal.logicTogether(I)I -/
def tb_56 : wm_T := [(0, .iconst 0, 0, 0, 0, 0), (1, .istore_n 2, 0, 0, 0, 0), (2, .iconst 0, 0, 0, 0, 0), (3, .istore_n 3, 0, 0, 0, 0), (4, .iconst 0, 0, 0, 0, 0), (5, .istore 4, 0, 0, 0, 0), (7, .iconst 0, 0, 0, 0, 0), (8, .istore 5, 0, 0, 0, 0), (10, .iconst 4, 0, 0, 0, 0), (11, .istore 6, 0, 0, 0, 0), (13, .aload_n 0, 0, 0, 0, 0), (14, .getfield 25, 5, 4, 2, 307), (17, .astore 7, 0, 0, 0, 0), (19, .aload 7, 0, 0, 0, 0), (21, .ifnull (126), 147, 0, 0, 0), (24, .aload 7, 0, 0, 0, 0), (26, .getfield 37, 3, 1, 2, 422), (29, .iload_n 1, 0, 0, 0, 0), (30, .aaload, 22, 0, 0, 0), (31, .getfield 41, 4, 2, 0, 411), (34, .istore 8, 0, 0, 0, 0), (36, .iload_n 2, 0, 0, 0, 0), (37, .ifCond .ne (8), 45, 0, 0, 0), (40, .iload 8, 0, 0, 0, 0), (42, .ifCond .ne (7), 49, 0, 0, 0), (45, .iconst 1, 0, 0, 0, 0), (46, .goto (4), 50, 0, 0, 0), (49, .iconst 0, 0, 0, 0, 0), (50, .istore_n 2, 0, 0, 0, 0), (51, .iload_n 3, 0, 0, 0, 0), (52, .ifCond .ne (16), 68, 0, 0, 0), (55, .iload 8, 0, 0, 0, 0), (57, .iconst 1, 0, 0, 0, 0), (58, .if_icmp .eq (10), 68, 0, 0, 0), (61, .iload 8, 0, 0, 0, 0), (63, .bipush 8, 0, 0, 0, 0), (65, .if_icmp .ne (7), 72, 0, 0, 0), (68, .iconst 1, 0, 0, 0, 0), (69, .goto (4), 73, 0, 0, 0), (72, .iconst 0, 0, 0, 0, 0), (73, .istore_n 3, 0, 0, 0, 0), (74, .iload 4, 0, 0, 0, 0), (76, .ifCond .ne (9), 85, 0, 0, 0), (79, .iload 8, 0, 0, 0, 0), (81, .iconst 2, 0, 0, 0, 0), (82, .if_icmp .ne (7), 89, 0, 0, 0), (85, .iconst 1, 0, 0, 0, 0), (86, .goto (4), 90, 0, 0, 0), (89, .iconst 0, 0, 0, 0, 0), (90, .istore 4, 0, 0, 0, 0), (92, .iload 5, 0, 0, 0, 0), (94, .ifCond .ne (9), 103, 0, 0, 0), (97, .iload 8, 0, 0, 0, 0), (99, .iconst 3, 0, 0, 0, 0), (100, .if_icmp .ne (7), 107, 0, 0, 0), (103, .iconst 1, 0, 0, 0, 0), (104, .goto (4), 108, 0, 0, 0), (107, .iconst 0, 0, 0, 0, 0), (108, .istore 5, 0, 0, 0, 0), (110, .iload 8, 0, 0, 0, 0), (112, .iconst 4, 0, 0, 0, 0), (113, .if_icmp .eq (24), 137, 0, 0, 0), (116, .iload 6, 0, 0, 0, 0), (118, .iconst 4, 0, 0, 0, 0), (119, .if_icmp .eq (10), 129, 0, 0, 0), (122, .iload 6, 0, 0, 0, 0), (124, .iload 8, 0, 0, 0, 0), (126, .if_icmp .ne (8), 134, 0, 0, 0), (129, .iload 8, 0, 0, 0, 0), (131, .goto (4), 135, 0, 0, 0), (134, .iconst 5, 0, 0, 0, 0), (135, .istore 6, 0, 0, 0, 0), (137, .aload 7, 0, 0, 0, 0), (139, .getfield 34, 3, 2, 2, 425), (142, .astore 7, 0, 0, 0, 0), (144, .goto (-125), 19, 0, 0, 0), (147, .iload_n 2, 0, 0, 0, 0), (148, .ifCond .eq (5), 153, 0, 0, 0), (151, .iconst 0, 0, 0, 0, 0), (152, .ireturn, 0, 0, 0, 0), (153, .iload_n 3, 0, 0, 0, 0), (154, .ifCond .ne (13), 167, 0, 0, 0), (157, .iload 4, 0, 0, 0, 0), (159, .ifCond .eq (10), 169, 0, 0, 0), (162, .iload 5, 0, 0, 0, 0), (164, .ifCond .eq (5), 169, 0, 0, 0), (167, .iconst 1, 0, 0, 0, 0), (168, .ireturn, 0, 0, 0, 0), (169, .iload 4, 0, 0, 0, 0), (171, .ifCond .eq (5), 176, 0, 0, 0), (174, .iconst 2, 0, 0, 0, 0), (175, .ireturn, 0, 0, 0, 0), (176, .iload 5, 0, 0, 0, 0), (178, .ifCond .eq (7), 185, 0, 0, 0), (181, .iconst 3, 0, 0, 0, 0), (182, .goto (5), 187, 0, 0, 0), (185, .iload 6, 0, 0, 0, 0), (187, .ireturn, 0, 0, 0, 0)]
abbrev ci_56 : List Nat := []
theorem tk_56 : wm_tb (wm_mr 56) (wm_my 56).cls (wm_my 56).name (wm_mrt 56) ci_56 (wm_mb 56) tb_56 = true := by decide +kernel
theorem oi_56 : ci_56.all (wm_oib (wm_mr 56)) = true := by decide +kernel
/-- CycleKernel$SignalSet.<init>()V -/
def tb_57 : wm_T := [(0, .aload_n 0, 0, 0, 0, 0), (1, .invokespecial 3, 0, 0, 9, 96), (4, .aload_n 0, 0, 0, 0, 0), (5, .iconst 4, 0, 0, 0, 0), (6, .newarray .long, 25, 0, 0, 0), (8, .putfield 9, 6, 0, 2, 97), (11, .return_, 0, 0, 0, 0)]
abbrev ci_57 : List Nat := []
theorem tk_57 : wm_tb (wm_mr 57) (wm_my 57).cls (wm_my 57).name (wm_mrt 57) ci_57 (wm_mb 57) tb_57 = true := by decide +kernel
theorem oi_57 : ci_57.all (wm_oib (wm_mr 57)) = true := by decide +kernel
/-- CycleKernel$SignalSet.add(I)V -/
def tb_58 : wm_T := [(0, .aload_n 0, 0, 0, 0, 0), (1, .getfield 9, 6, 0, 2, 97), (4, .iload_n 1, 0, 0, 0, 0), (5, .bipush 6, 0, 0, 0, 0), (7, .ishr, 0, 0, 0, 0), (8, .dup2, 0, 0, 0, 0), (9, .laload, 25, 0, 0, 0), (10, .lconst 1, 0, 0, 0, 0), (11, .iload_n 1, 0, 0, 0, 0), (12, .bipush 63, 0, 0, 0, 0), (14, .iand, 0, 0, 0, 0), (15, .lshl, 0, 0, 0, 0), (16, .lor, 0, 0, 0, 0), (17, .lastore, 25, 0, 0, 0), (18, .return_, 0, 0, 0, 0)]
abbrev ci_58 : List Nat := []
theorem tk_58 : wm_tb (wm_mr 58) (wm_my 58).cls (wm_my 58).name (wm_mrt 58) ci_58 (wm_mb 58) tb_58 = true := by decide +kernel
theorem oi_58 : ci_58.all (wm_oib (wm_mr 58)) = true := by decide +kernel
/-- CycleKernel$SignalSet.has(I)Z -/
def tb_59 : wm_T := [(0, .aload_n 0, 0, 0, 0, 0), (1, .getfield 9, 6, 0, 2, 97), (4, .iload_n 1, 0, 0, 0, 0), (5, .bipush 6, 0, 0, 0, 0), (7, .ishr, 0, 0, 0, 0), (8, .laload, 25, 0, 0, 0), (9, .iload_n 1, 0, 0, 0, 0), (10, .bipush 63, 0, 0, 0, 0), (12, .iand, 0, 0, 0, 0), (13, .lshr, 0, 0, 0, 0), (14, .lconst 1, 0, 0, 0, 0), (15, .land, 0, 0, 0, 0), (16, .lconst 0, 0, 0, 0, 0), (17, .lcmp, 0, 0, 0, 0), (18, .ifCond .eq (7), 25, 0, 0, 0), (21, .iconst 1, 0, 0, 0, 0), (22, .goto (4), 26, 0, 0, 0), (25, .iconst 0, 0, 0, 0, 0), (26, .ireturn, 1, 0, 0, 0)]
abbrev ci_59 : List Nat := []
theorem tk_59 : wm_tb (wm_mr 59) (wm_my 59).cls (wm_my 59).name (wm_mrt 59) ci_59 (wm_mb 59) tb_59 = true := by decide +kernel
theorem oi_59 : ci_59.all (wm_oib (wm_mr 59)) = true := by decide +kernel
/-- CycleKernel$SignalSet.meets(LCycleKernel$SignalSet;)Z -/
def tb_60 : wm_T := [(0, .iconst 0, 0, 0, 0, 0), (1, .istore_n 2, 0, 0, 0, 0), (2, .iload_n 2, 0, 0, 0, 0), (3, .aload_n 0, 0, 0, 0, 0), (4, .getfield 9, 6, 0, 2, 97), (7, .arraylength, 25, 0, 0, 0), (8, .if_icmp .ge (29), 37, 0, 0, 0), (11, .aload_n 0, 0, 0, 0, 0), (12, .getfield 9, 6, 0, 2, 97), (15, .iload_n 2, 0, 0, 0, 0), (16, .laload, 25, 0, 0, 0), (17, .aload_n 1, 0, 0, 0, 0), (18, .getfield 9, 6, 0, 2, 97), (21, .iload_n 2, 0, 0, 0, 0), (22, .laload, 25, 0, 0, 0), (23, .land, 0, 0, 0, 0), (24, .lconst 0, 0, 0, 0, 0), (25, .lcmp, 0, 0, 0, 0), (26, .ifCond .eq (5), 31, 0, 0, 0), (29, .iconst 1, 0, 0, 0, 0), (30, .ireturn, 1, 0, 0, 0), (31, .iinc 2 1, 0, 0, 0, 0), (34, .goto (-32), 2, 0, 0, 0), (37, .iconst 0, 0, 0, 0, 0), (38, .ireturn, 1, 0, 0, 0)]
abbrev ci_60 : List Nat := []
theorem tk_60 : wm_tb (wm_mr 60) (wm_my 60).cls (wm_my 60).name (wm_mrt 60) ci_60 (wm_mb 60) tb_60 = true := by decide +kernel
theorem oi_60 : ci_60.all (wm_oib (wm_mr 60)) = true := by decide +kernel
/-- CycleKernel$SignalSet.copy(LCycleKernel$SignalSet;)V -/
def tb_61 : wm_T := [(0, .iconst 0, 0, 0, 0, 0), (1, .istore_n 2, 0, 0, 0, 0), (2, .iload_n 2, 0, 0, 0, 0), (3, .aload_n 0, 0, 0, 0, 0), (4, .getfield 9, 6, 0, 2, 97), (7, .arraylength, 25, 0, 0, 0), (8, .if_icmp .ge (21), 29, 0, 0, 0), (11, .aload_n 0, 0, 0, 0, 0), (12, .getfield 9, 6, 0, 2, 97), (15, .iload_n 2, 0, 0, 0, 0), (16, .aload_n 1, 0, 0, 0, 0), (17, .getfield 9, 6, 0, 2, 97), (20, .iload_n 2, 0, 0, 0, 0), (21, .laload, 25, 0, 0, 0), (22, .lastore, 25, 0, 0, 0), (23, .iinc 2 1, 0, 0, 0, 0), (26, .goto (-24), 2, 0, 0, 0), (29, .return_, 0, 0, 0, 0)]
abbrev ci_61 : List Nat := []
theorem tk_61 : wm_tb (wm_mr 61) (wm_my 61).cls (wm_my 61).name (wm_mrt 61) ci_61 (wm_mb 61) tb_61 = true := by decide +kernel
theorem oi_61 : ci_61.all (wm_oib (wm_mr 61)) = true := by decide +kernel
/-- CycleKernel$SignalSet.clear()V -/
def tb_62 : wm_T := [(0, .iconst 0, 0, 0, 0, 0), (1, .istore_n 1, 0, 0, 0, 0), (2, .iload_n 1, 0, 0, 0, 0), (3, .aload_n 0, 0, 0, 0, 0), (4, .getfield 9, 6, 0, 2, 97), (7, .arraylength, 25, 0, 0, 0), (8, .if_icmp .ge (16), 24, 0, 0, 0), (11, .aload_n 0, 0, 0, 0, 0), (12, .getfield 9, 6, 0, 2, 97), (15, .iload_n 1, 0, 0, 0, 0), (16, .lconst 0, 0, 0, 0, 0), (17, .lastore, 25, 0, 0, 0), (18, .iinc 1 1, 0, 0, 0, 0), (21, .goto (-19), 2, 0, 0, 0), (24, .return_, 0, 0, 0, 0)]
abbrev ci_62 : List Nat := []
theorem tk_62 : wm_tb (wm_mr 62) (wm_my 62).cls (wm_my 62).name (wm_mrt 62) ci_62 (wm_mb 62) tb_62 = true := by decide +kernel
theorem oi_62 : ci_62.all (wm_oib (wm_mr 62)) = true := by decide +kernel
/-- CycleKernel$Store.<init>()V -/
def tb_63 : wm_T := [(0, .aload_n 0, 0, 0, 0, 0), (1, .invokespecial 1, 0, 0, 9, 62), (4, .return_, 0, 0, 0, 0)]
abbrev ci_63 : List Nat := []
theorem tk_63 : wm_tb (wm_mr 63) (wm_my 63).cls (wm_my 63).name (wm_mrt 63) ci_63 (wm_mb 63) tb_63 = true := by decide +kernel
theorem oi_63 : ci_63.all (wm_oib (wm_mr 63)) = true := by decide +kernel
/-- CycleKernel$Store.take(JI)LCycleKernel$Transaction; -/
def tb_64 : wm_T := [(0, .aload_n 0, 0, 0, 0, 0), (1, .getfield 7, 7, 1, 2, 65), (4, .astore 4, 0, 0, 0, 0), (6, .aload 4, 0, 0, 0, 0), (8, .ifnonnull (15), 23, 0, 0, 0), (11, .new 13, 9, 3, 0, 567), (14, .dup, 0, 0, 0, 0), (15, .invokespecial 15, 70, 7, 0, 9999), (18, .astore 4, 0, 0, 0, 0), (20, .goto (12), 32, 0, 0, 0), (23, .aload_n 0, 0, 0, 0, 0), (24, .aload 4, 0, 0, 0, 0), (26, .getfield 16, 9, 2, 2, 578), (29, .putfield 7, 7, 1, 2, 65), (32, .aload 4, 0, 0, 0, 0), (34, .lload_n 1, 0, 0, 0, 0), (35, .putfield 19, 9, 0, 1, 573), (38, .aload 4, 0, 0, 0, 0), (40, .iload_n 3, 0, 0, 0, 0), (41, .putfield 23, 9, 1, 0, 575), (44, .aload 4, 0, 0, 0, 0), (46, .aconst_null, 0, 0, 0, 0), (47, .putfield 16, 9, 2, 2, 578), (50, .aload_n 0, 0, 0, 0, 0), (51, .dup, 0, 0, 0, 0), (52, .getfield 27, 7, 0, 0, 63), (55, .iconst 1, 0, 0, 0, 0), (56, .iadd, 0, 0, 0, 0), (57, .putfield 27, 7, 0, 0, 63), (60, .aload 4, 0, 0, 0, 0), (62, .areturn, 0, 0, 0, 0)]
abbrev ci_64 : List Nat := [70]
theorem tk_64 : wm_tb (wm_mr 64) (wm_my 64).cls (wm_my 64).name (wm_mrt 64) ci_64 (wm_mb 64) tb_64 = true := by decide +kernel
theorem oi_64 : ci_64.all (wm_oib (wm_mr 64)) = true := by decide +kernel
/-- CycleKernel$Store.giveBack(LCycleKernel$Transaction;)V -/
def tb_65 : wm_T := [(0, .aload_n 1, 0, 0, 0, 0), (1, .aload_n 0, 0, 0, 0, 0), (2, .getfield 7, 7, 1, 2, 65), (5, .putfield 16, 9, 2, 2, 578), (8, .aload_n 0, 0, 0, 0, 0), (9, .aload_n 1, 0, 0, 0, 0), (10, .putfield 7, 7, 1, 2, 65), (13, .aload_n 0, 0, 0, 0, 0), (14, .dup, 0, 0, 0, 0), (15, .getfield 27, 7, 0, 0, 63), (18, .iconst 1, 0, 0, 0, 0), (19, .isub, 0, 0, 0, 0), (20, .putfield 27, 7, 0, 0, 63), (23, .return_, 0, 0, 0, 0)]
abbrev ci_65 : List Nat := []
theorem tk_65 : wm_tb (wm_mr 65) (wm_my 65).cls (wm_my 65).name (wm_mrt 65) ci_65 (wm_mb 65) tb_65 = true := by decide +kernel
theorem oi_65 : ci_65.all (wm_oib (wm_mr 65)) = true := by decide +kernel
/-- CycleKernel$Task.<init>()V -/
def tb_66 : wm_T := [(0, .aload_n 0, 0, 0, 0, 0), (1, .invokespecial 3, 0, 0, 9, 335), (4, .aload_n 0, 0, 0, 0, 0), (5, .new 9, 6, 1, 0, 336), (8, .dup, 0, 0, 0, 0), (9, .invokespecial 11, 57, 4, 0, 9999), (12, .putfield 12, 8, 0, 2, 338), (15, .aload_n 0, 0, 0, 0, 0), (16, .iconst 1, 0, 0, 0, 0), (17, .putfield 18, 8, 1, 0, 340), (20, .aload_n 0, 0, 0, 0, 0), (21, .ldc2_w 22, 18446744073709551615, 0, 0, 196), (24, .putfield 24, 8, 3, 1, 344), (27, .return_, 0, 0, 0, 0)]
abbrev ci_66 : List Nat := [57]
theorem tk_66 : wm_tb (wm_mr 66) (wm_my 66).cls (wm_my 66).name (wm_mrt 66) ci_66 (wm_mb 66) tb_66 = true := by decide +kernel
theorem oi_66 : ci_66.all (wm_oib (wm_mr 66)) = true := by decide +kernel
/-- CycleKernel$Task.isBusy()Z -/
def tb_67 : wm_T := [(0, .aload_n 0, 0, 0, 0, 0), (1, .getfield 18, 8, 1, 0, 340), (4, .ifCond .eq (11), 15, 0, 0, 0), (7, .aload_n 0, 0, 0, 0, 0), (8, .getfield 18, 8, 1, 0, 340), (11, .iconst 2, 0, 0, 0, 0), (12, .if_icmp .ne (7), 19, 0, 0, 0), (15, .iconst 1, 0, 0, 0, 0), (16, .goto (4), 20, 0, 0, 0), (19, .iconst 0, 0, 0, 0, 0), (20, .ireturn, 1, 0, 0, 0)]
abbrev ci_67 : List Nat := []
theorem tk_67 : wm_tb (wm_mr 67) (wm_my 67).cls (wm_my 67).name (wm_mrt 67) ci_67 (wm_mb 67) tb_67 = true := by decide +kernel
theorem oi_67 : ci_67.all (wm_oib (wm_mr 67)) = true := by decide +kernel
/-- CycleKernel$Task.waitsUntil()J -/
def tb_68 : wm_T := [(0, .aload_n 0, 0, 0, 0, 0), (1, .getfield 18, 8, 1, 0, 340), (4, .iconst 1, 0, 0, 0, 0), (5, .if_icmp .eq (11), 16, 0, 0, 0), (8, .aload_n 0, 0, 0, 0, 0), (9, .getfield 18, 8, 1, 0, 340), (12, .iconst 2, 0, 0, 0, 0), (13, .if_icmp .ne (10), 23, 0, 0, 0), (16, .aload_n 0, 0, 0, 0, 0), (17, .getfield 24, 8, 3, 1, 344), (20, .goto (6), 26, 0, 0, 0), (23, .ldc2_w 22, 18446744073709551615, 0, 0, 196), (26, .lreturn, 0, 0, 0, 0)]
abbrev ci_68 : List Nat := []
theorem tk_68 : wm_tb (wm_mr 68) (wm_my 68).cls (wm_my 68).name (wm_mrt 68) ci_68 (wm_mb 68) tb_68 = true := by decide +kernel
theorem oi_68 : ci_68.all (wm_oib (wm_mr 68)) = true := by decide +kernel
/-- CycleKernel$Task.wake(JLCycleKernel$SignalSet;)V -/
def tb_69 : wm_T := [(0, .aload_n 0, 0, 0, 0, 0), (1, .getfield 24, 8, 3, 1, 344), (4, .lload_n 1, 0, 0, 0, 0), (5, .lcmp, 0, 0, 0, 0), (6, .ifCond .ne (11), 17, 0, 0, 0), (9, .aload_n 0, 0, 0, 0, 0), (10, .iconst 0, 0, 0, 0, 0), (11, .putfield 18, 8, 1, 0, 340), (14, .goto (30), 44, 0, 0, 0), (17, .aload_n 0, 0, 0, 0, 0), (18, .getfield 12, 8, 0, 2, 338), (21, .aload_n 3, 0, 0, 0, 0), (22, .invokevirtual 28, 60, 4, 0, 669), (25, .ifCond .eq (19), 44, 0, 0, 0), (28, .aload_n 0, 0, 0, 0, 0), (29, .aload_n 0, 0, 0, 0, 0), (30, .getfield 32, 8, 2, 0, 342), (33, .ifCond .eq (7), 40, 0, 0, 0), (36, .iconst 2, 0, 0, 0, 0), (37, .goto (4), 41, 0, 0, 0), (40, .iconst 0, 0, 0, 0, 0), (41, .putfield 18, 8, 1, 0, 340), (44, .return_, 0, 0, 0, 0)]
abbrev ci_69 : List Nat := [60]
theorem tk_69 : wm_tb (wm_mr 69) (wm_my 69).cls (wm_my 69).name (wm_mrt 69) ci_69 (wm_mb 69) tb_69 = true := by decide +kernel
theorem oi_69 : ci_69.all (wm_oib (wm_mr 69)) = true := by decide +kernel
/-- CycleKernel$Transaction.<init>()V -/
def tb_70 : wm_T := [(0, .aload_n 0, 0, 0, 0, 0), (1, .invokespecial 1, 0, 0, 9, 572), (4, .return_, 0, 0, 0, 0)]
abbrev ci_70 : List Nat := []
theorem tk_70 : wm_tb (wm_mr 70) (wm_my 70).cls (wm_my 70).name (wm_mrt 70) ci_70 (wm_mb 70) tb_70 = true := by decide +kernel
theorem oi_70 : ci_70.all (wm_oib (wm_mr 70)) = true := by decide +kernel
/-- CycleKernel$Waves.<init>()V -/
def tb_71 : wm_T := [(0, .aload_n 0, 0, 0, 0, 0), (1, .invokespecial 3, 0, 0, 9, 76), (4, .aload_n 0, 0, 0, 0, 0), (5, .bipush 16, 0, 0, 0, 0), (7, .newarray .long, 23, 0, 0, 0), (9, .putfield 9, 10, 0, 2, 77), (12, .aload_n 0, 0, 0, 0, 0), (13, .sipush 1024, 0, 0, 0, 0), (16, .newarray .int, 24, 0, 0, 0), (18, .putfield 15, 10, 1, 2, 79), (21, .return_, 0, 0, 0, 0)]
abbrev ci_71 : List Nat := []
theorem tk_71 : wm_tb (wm_mr 71) (wm_my 71).cls (wm_my 71).name (wm_mrt 71) ci_71 (wm_mb 71) tb_71 = true := by decide +kernel
theorem oi_71 : ci_71.all (wm_oib (wm_mr 71)) = true := by decide +kernel
/-- CycleKernel$Waves.add(J)V -/
def tb_72 : wm_T := [(0, .aload_n 0, 0, 0, 0, 0), (1, .getfield 9, 10, 0, 2, 77), (4, .aload_n 0, 0, 0, 0, 0), (5, .getfield 19, 10, 2, 0, 80), (8, .lload_n 1, 0, 0, 0, 0), (9, .lastore, 23, 0, 0, 0), (10, .aload_n 0, 0, 0, 0, 0), (11, .getfield 19, 10, 2, 0, 80), (14, .bipush 64, 0, 0, 0, 0), (16, .imul, 0, 0, 0, 0), (17, .istore_n 3, 0, 0, 0, 0), (18, .iconst 0, 0, 0, 0, 0), (19, .istore 4, 0, 0, 0, 0), (21, .iload 4, 0, 0, 0, 0), (23, .bipush 64, 0, 0, 0, 0), (25, .if_icmp .ge (19), 44, 0, 0, 0), (28, .aload_n 0, 0, 0, 0, 0), (29, .getfield 15, 10, 1, 2, 79), (32, .iload_n 3, 0, 0, 0, 0), (33, .iload 4, 0, 0, 0, 0), (35, .iadd, 0, 0, 0, 0), (36, .iconst 0, 0, 0, 0, 0), (37, .iastore, 24, 0, 0, 0), (38, .iinc 4 1, 0, 0, 0, 0), (41, .goto (-20), 21, 0, 0, 0), (44, .aload_n 0, 0, 0, 0, 0), (45, .dup, 0, 0, 0, 0), (46, .getfield 19, 10, 2, 0, 80), (49, .iconst 1, 0, 0, 0, 0), (50, .iadd, 0, 0, 0, 0), (51, .putfield 19, 10, 2, 0, 80), (54, .return_, 0, 0, 0, 0)]
abbrev ci_72 : List Nat := []
theorem tk_72 : wm_tb (wm_mr 72) (wm_my 72).cls (wm_my 72).name (wm_mrt 72) ci_72 (wm_mb 72) tb_72 = true := by decide +kernel
theorem oi_72 : ci_72.all (wm_oib (wm_mr 72)) = true := by decide +kernel
/-- CycleKernel$Waves.setLatest(II)V -/
def tb_73 : wm_T := [(0, .aload_n 0, 0, 0, 0, 0), (1, .getfield 15, 10, 1, 2, 79), (4, .aload_n 0, 0, 0, 0, 0), (5, .getfield 19, 10, 2, 0, 80), (8, .iconst 1, 0, 0, 0, 0), (9, .isub, 0, 0, 0, 0), (10, .bipush 64, 0, 0, 0, 0), (12, .imul, 0, 0, 0, 0), (13, .iload_n 1, 0, 0, 0, 0), (14, .iadd, 0, 0, 0, 0), (15, .iload_n 2, 0, 0, 0, 0), (16, .iastore, 24, 0, 0, 0), (17, .return_, 0, 0, 0, 0)]
abbrev ci_73 : List Nat := []
theorem tk_73 : wm_tb (wm_mr 73) (wm_my 73).cls (wm_my 73).name (wm_mrt 73) ci_73 (wm_mb 73) tb_73 = true := by decide +kernel
theorem oi_73 : ci_73.all (wm_oib (wm_mr 73)) = true := by decide +kernel
/-- CycleKernel$Waves.elementOf(II)I -/
def tb_74 : wm_T := [(0, .aload_n 0, 0, 0, 0, 0), (1, .getfield 15, 10, 1, 2, 79), (4, .iload_n 1, 0, 0, 0, 0), (5, .bipush 64, 0, 0, 0, 0), (7, .imul, 0, 0, 0, 0), (8, .iload_n 2, 0, 0, 0, 0), (9, .iadd, 0, 0, 0, 0), (10, .iaload, 24, 0, 0, 0), (11, .ireturn, 0, 0, 0, 0)]
abbrev ci_74 : List Nat := []
theorem tk_74 : wm_tb (wm_mr 74) (wm_my 74).cls (wm_my 74).name (wm_mrt 74) ci_74 (wm_mb 74) tb_74 = true := by decide +kernel
theorem oi_74 : ci_74.all (wm_oib (wm_mr 74)) = true := by decide +kernel
/-- CycleKernel$Waves.latestDelay()J -/
def tb_75 : wm_T := [(0, .aload_n 0, 0, 0, 0, 0), (1, .getfield 9, 10, 0, 2, 77), (4, .aload_n 0, 0, 0, 0, 0), (5, .getfield 19, 10, 2, 0, 80), (8, .iconst 1, 0, 0, 0, 0), (9, .isub, 0, 0, 0, 0), (10, .laload, 23, 0, 0, 0), (11, .lreturn, 0, 0, 0, 0)]
abbrev ci_75 : List Nat := []
theorem tk_75 : wm_tb (wm_mr 75) (wm_my 75).cls (wm_my 75).name (wm_mrt 75) ci_75 (wm_mb 75) tb_75 = true := by decide +kernel
theorem oi_75 : ci_75.all (wm_oib (wm_mr 75)) = true := by decide +kernel
/-- CycleKernel$Waves.rise()Z -/
def tb_76 : wm_T := [(0, .iconst 1, 0, 0, 0, 0), (1, .istore_n 1, 0, 0, 0, 0), (2, .iload_n 1, 0, 0, 0, 0), (3, .aload_n 0, 0, 0, 0, 0), (4, .getfield 19, 10, 2, 0, 80), (7, .if_icmp .ge (29), 36, 0, 0, 0), (10, .aload_n 0, 0, 0, 0, 0), (11, .getfield 9, 10, 0, 2, 77), (14, .iload_n 1, 0, 0, 0, 0), (15, .laload, 23, 0, 0, 0), (16, .aload_n 0, 0, 0, 0, 0), (17, .getfield 9, 10, 0, 2, 77), (20, .iload_n 1, 0, 0, 0, 0), (21, .iconst 1, 0, 0, 0, 0), (22, .isub, 0, 0, 0, 0), (23, .laload, 23, 0, 0, 0), (24, .lcmp, 0, 0, 0, 0), (25, .ifCond .gt (5), 30, 0, 0, 0), (28, .iconst 0, 0, 0, 0, 0), (29, .ireturn, 1, 0, 0, 0), (30, .iinc 1 1, 0, 0, 0, 0), (33, .goto (-31), 2, 0, 0, 0), (36, .iconst 1, 0, 0, 0, 0), (37, .ireturn, 1, 0, 0, 0)]
abbrev ci_76 : List Nat := []
theorem tk_76 : wm_tb (wm_mr 76) (wm_my 76).cls (wm_my 76).name (wm_mrt 76) ci_76 (wm_mb 76) tb_76 = true := by decide +kernel
theorem oi_76 : ci_76.all (wm_oib (wm_mr 76)) = true := by decide +kernel
/-- CycleKernel$Waves.fit(LCycleKernel$Signal;I)Z -/
def tb_77 : wm_T := [(0, .iconst 0, 0, 0, 0, 0), (1, .istore_n 3, 0, 0, 0, 0), (2, .iload_n 3, 0, 0, 0, 0), (3, .aload_n 0, 0, 0, 0, 0), (4, .getfield 19, 10, 2, 0, 80), (7, .if_icmp .ge (40), 47, 0, 0, 0), (10, .iconst 0, 0, 0, 0, 0), (11, .istore 4, 0, 0, 0, 0), (13, .iload 4, 0, 0, 0, 0), (15, .iload_n 2, 0, 0, 0, 0), (16, .if_icmp .ge (25), 41, 0, 0, 0), (19, .aload_n 1, 0, 0, 0, 0), (20, .aload_n 0, 0, 0, 0, 0), (21, .iload_n 3, 0, 0, 0, 0), (22, .iload 4, 0, 0, 0, 0), (24, .invokevirtual 23, 74, 8, 0, 522), (27, .invokevirtual 27, 49, 3, 0, 526), (30, .ifCond .ne (5), 35, 0, 0, 0), (33, .iconst 0, 0, 0, 0, 0), (34, .ireturn, 1, 0, 0, 0), (35, .iinc 4 1, 0, 0, 0, 0), (38, .goto (-25), 13, 0, 0, 0), (41, .iinc 3 1, 0, 0, 0, 0), (44, .goto (-42), 2, 0, 0, 0), (47, .iconst 1, 0, 0, 0, 0), (48, .ireturn, 1, 0, 0, 0)]
abbrev ci_77 : List Nat := [49, 74]
theorem tk_77 : wm_tb (wm_mr 77) (wm_my 77).cls (wm_my 77).name (wm_mrt 77) ci_77 (wm_mb 77) tb_77 = true := by decide +kernel
theorem oi_77 : ci_77.all (wm_oib (wm_mr 77)) = true := by decide +kernel
end
section
/-! by program (wip/whole/gen_tabs.py): the methods of model, instruction by instruction -/
/-- CycleKernelModel.<init>(I)V -/
def tb_78 : wm_T := [(0, .aload_n 0, 0, 0, 0, 0), (1, .invokespecial 1, 0, 0, 9, 727), (4, .aload_n 0, 0, 0, 0, 0), (5, .sipush 200, 0, 0, 0, 0), (8, .newarray .int, 30, 0, 0, 0), (10, .putfield 7, 11, 4, 2, 733), (13, .aload_n 0, 0, 0, 0, 0), (14, .sipush 200, 0, 0, 0, 0), (17, .newarray .int, 31, 0, 0, 0), (19, .putfield 13, 11, 5, 2, 734), (22, .aload_n 0, 0, 0, 0, 0), (23, .sipush 200, 0, 0, 0, 0), (26, .newarray .int, 32, 0, 0, 0), (28, .putfield 16, 11, 6, 2, 735), (31, .aload_n 0, 0, 0, 0, 0), (32, .sipush 200, 0, 0, 0, 0), (35, .newarray .boolean, 33, 0, 0, 0), (37, .putfield 19, 11, 7, 2, 736), (40, .aload_n 0, 0, 0, 0, 0), (41, .sipush 200, 0, 0, 0, 0), (44, .newarray .boolean, 34, 0, 0, 0), (46, .putfield 23, 11, 8, 2, 737), (49, .aload_n 0, 0, 0, 0, 0), (50, .sipush 512, 0, 0, 0, 0), (53, .newarray .int, 35, 0, 0, 0), (55, .putfield 26, 11, 10, 2, 739), (58, .aload_n 0, 0, 0, 0, 0), (59, .sipush 512, 0, 0, 0, 0), (62, .newarray .int, 36, 0, 0, 0), (64, .putfield 29, 11, 11, 2, 740), (67, .aload_n 0, 0, 0, 0, 0), (68, .sipush 512, 0, 0, 0, 0), (71, .newarray .int, 37, 0, 0, 0), (73, .putfield 32, 11, 13, 2, 742), (76, .aload_n 0, 0, 0, 0, 0), (77, .sipush 512, 0, 0, 0, 0), (80, .newarray .int, 38, 0, 0, 0), (82, .putfield 35, 11, 14, 2, 743), (85, .aload_n 0, 0, 0, 0, 0), (86, .sipush 512, 0, 0, 0, 0), (89, .newarray .int, 39, 0, 0, 0), (91, .putfield 38, 11, 15, 2, 744), (94, .aload_n 0, 0, 0, 0, 0), (95, .sipush 8192, 0, 0, 0, 0), (98, .newarray .int, 40, 0, 0, 0), (100, .putfield 41, 11, 17, 2, 746), (103, .aload_n 0, 0, 0, 0, 0), (104, .sipush 8192, 0, 0, 0, 0), (107, .newarray .long, 41, 0, 0, 0), (109, .putfield 44, 11, 18, 2, 747), (112, .aload_n 0, 0, 0, 0, 0), (113, .sipush 8192, 0, 0, 0, 0), (116, .newarray .int, 42, 0, 0, 0), (118, .putfield 48, 11, 19, 2, 748), (121, .aload_n 0, 0, 0, 0, 0), (122, .sipush 8208, 0, 0, 0, 0), (125, .newarray .long, 43, 0, 0, 0), (127, .putfield 51, 11, 20, 2, 749), (130, .aload_n 0, 0, 0, 0, 0), (131, .sipush 8208, 0, 0, 0, 0), (134, .newarray .int, 44, 0, 0, 0), (136, .putfield 54, 11, 21, 2, 750), (139, .aload_n 0, 0, 0, 0, 0), (140, .sipush 8208, 0, 0, 0, 0), (143, .newarray .boolean, 45, 0, 0, 0), (145, .putfield 57, 11, 22, 2, 751), (148, .aload_n 0, 0, 0, 0, 0), (149, .bipush 64, 0, 0, 0, 0), (151, .newarray .int, 46, 0, 0, 0), (153, .putfield 60, 11, 24, 2, 753), (156, .aload_n 0, 0, 0, 0, 0), (157, .bipush 64, 0, 0, 0, 0), (159, .newarray .boolean, 47, 0, 0, 0), (161, .putfield 63, 11, 25, 2, 754), (164, .aload_n 0, 0, 0, 0, 0), (165, .bipush 64, 0, 0, 0, 0), (167, .newarray .long, 48, 0, 0, 0), (169, .putfield 66, 11, 26, 2, 755), (172, .aload_n 0, 0, 0, 0, 0), (173, .sipush 12800, 0, 0, 0, 0), (176, .newarray .boolean, 49, 0, 0, 0), (178, .putfield 69, 11, 27, 2, 756), (181, .aload_n 0, 0, 0, 0, 0), (182, .sipush 200, 0, 0, 0, 0), (185, .newarray .boolean, 50, 0, 0, 0), (187, .putfield 72, 11, 28, 2, 757), (190, .aload_n 0, 0, 0, 0, 0), (191, .sipush 1024, 0, 0, 0, 0), (194, .newarray .int, 51, 0, 0, 0), (196, .putfield 75, 11, 29, 2, 758), (199, .aload_n 0, 0, 0, 0, 0), (200, .bipush 16, 0, 0, 0, 0), (202, .newarray .long, 52, 0, 0, 0), (204, .putfield 78, 11, 30, 2, 759), (207, .aload_n 0, 0, 0, 0, 0), (208, .iload_n 1, 0, 0, 0, 0), (209, .iconst 1, 0, 0, 0, 0), (210, .if_icmp .lt (13), 223, 0, 0, 0), (213, .iload_n 1, 0, 0, 0, 0), (214, .ldc 81, 100000, 0, 0, 728), (216, .if_icmp .gt (7), 223, 0, 0, 0), (219, .iload_n 1, 0, 0, 0, 0), (220, .goto (6), 226, 0, 0, 0), (223, .sipush 1000, 0, 0, 0, 0), (226, .putfield 82, 11, 1, 0, 730), (229, .return_, 0, 0, 0, 0)]
abbrev ci_78 : List Nat := []
theorem tk_78 : wm_tb (wm_mr 78) (wm_my 78).cls (wm_my 78).name (wm_mrt 78) ci_78 (wm_mb 78) tb_78 = true := by decide +kernel
theorem oi_78 : ci_78.all (wm_oib (wm_mr 78)) = true := by decide +kernel
/-- CycleKernelModel.thrown()I -/
def tb_79 : wm_T := [(0, .aload_n 0, 0, 0, 0, 0), (1, .getfield 86, 11, 0, 0, 729), (4, .ireturn, 0, 0, 0, 0)]
abbrev ci_79 : List Nat := []
theorem tk_79 : wm_tb (wm_mr 79) (wm_my 79).cls (wm_my 79).name (wm_mrt 79) ci_79 (wm_mb 79) tb_79 = true := by decide +kernel
theorem oi_79 : ci_79.all (wm_oib (wm_mr 79)) = true := by decide +kernel
/-- CycleKernelModel.noProcess(I)Z -/
def tb_80 : wm_T := [(0, .iload_n 1, 0, 0, 0, 0), (1, .ifCond .lt (11), 12, 0, 0, 0), (4, .iload_n 1, 0, 0, 0, 0), (5, .aload_n 0, 0, 0, 0, 0), (6, .getfield 89, 11, 23, 0, 752), (9, .if_icmp .lt (7), 16, 0, 0, 0), (12, .iconst 1, 0, 0, 0, 0), (13, .goto (4), 17, 0, 0, 0), (16, .iconst 0, 0, 0, 0, 0), (17, .ireturn, 1, 0, 0, 0)]
abbrev ci_80 : List Nat := []
theorem tk_80 : wm_tb (wm_mr 80) (wm_my 80).cls (wm_my 80).name (wm_mrt 80) ci_80 (wm_mb 80) tb_80 = true := by decide +kernel
theorem oi_80 : ci_80.all (wm_oib (wm_mr 80)) = true := by decide +kernel
/-- CycleKernelModel.noSignal(I)Z -/
def tb_81 : wm_T := [(0, .iload_n 1, 0, 0, 0, 0), (1, .ifCond .lt (11), 12, 0, 0, 0), (4, .iload_n 1, 0, 0, 0, 0), (5, .aload_n 0, 0, 0, 0, 0), (6, .getfield 92, 11, 3, 0, 732), (9, .if_icmp .lt (7), 16, 0, 0, 0), (12, .iconst 1, 0, 0, 0, 0), (13, .goto (4), 17, 0, 0, 0), (16, .iconst 0, 0, 0, 0, 0), (17, .ireturn, 1, 0, 0, 0)]
abbrev ci_81 : List Nat := []
theorem tk_81 : wm_tb (wm_mr 81) (wm_my 81).cls (wm_my 81).name (wm_mrt 81) ci_81 (wm_mb 81) tb_81 = true := by decide +kernel
theorem oi_81 : ci_81.all (wm_oib (wm_mr 81)) = true := by decide +kernel
/-- CycleKernelModel.noElement(II)Z -/
def tb_82 : wm_T := [(0, .aload_n 0, 0, 0, 0, 0), (1, .iload_n 1, 0, 0, 0, 0), (2, .invokevirtual 95, 81, 9, 0, 854), (5, .ifCond .ne (17), 22, 0, 0, 0), (8, .iload_n 2, 0, 0, 0, 0), (9, .ifCond .lt (13), 22, 0, 0, 0), (12, .iload_n 2, 0, 0, 0, 0), (13, .aload_n 0, 0, 0, 0, 0), (14, .getfield 13, 11, 5, 2, 734), (17, .iload_n 1, 0, 0, 0, 0), (18, .iaload, 31, 0, 0, 0), (19, .if_icmp .lt (7), 26, 0, 0, 0), (22, .iconst 1, 0, 0, 0, 0), (23, .goto (4), 27, 0, 0, 0), (26, .iconst 0, 0, 0, 0, 0), (27, .ireturn, 1, 0, 0, 0)]
abbrev ci_82 : List Nat := [81]
theorem tk_82 : wm_tb (wm_mr 82) (wm_my 82).cls (wm_my 82).name (wm_mrt 82) ci_82 (wm_mb 82) tb_82 = true := by decide +kernel
theorem oi_82 : ci_82.all (wm_oib (wm_mr 82)) = true := by decide +kernel
/-- CycleKernelModel.signal(II)I -/
def tb_83 : wm_T := [(0, .aload_n 0, 0, 0, 0, 0), (1, .iload_n 1, 0, 0, 0, 0), (2, .ifCond .lt (28), 30, 0, 0, 0), (5, .iload_n 1, 0, 0, 0, 0), (6, .iconst 2, 0, 0, 0, 0), (7, .if_icmp .gt (23), 30, 0, 0, 0), (10, .iload_n 2, 0, 0, 0, 0), (11, .iconst 1, 0, 0, 0, 0), (12, .if_icmp .lt (18), 30, 0, 0, 0), (15, .iload_n 2, 0, 0, 0, 0), (16, .iload_n 1, 0, 0, 0, 0), (17, .iconst 1, 0, 0, 0, 0), (18, .if_icmp .ne (8), 26, 0, 0, 0), (21, .bipush 64, 0, 0, 0, 0), (23, .goto (4), 27, 0, 0, 0), (26, .iconst 1, 0, 0, 0, 0), (27, .if_icmp .le (7), 34, 0, 0, 0), (30, .iconst 1, 0, 0, 0, 0), (31, .goto (37), 68, 0, 0, 0), (34, .aload_n 0, 0, 0, 0, 0), (35, .getfield 99, 11, 2, 0, 731), (38, .ifCond .ne (25), 63, 0, 0, 0), (41, .aload_n 0, 0, 0, 0, 0), (42, .getfield 92, 11, 3, 0, 732), (45, .sipush 200, 0, 0, 0, 0), (48, .if_icmp .eq (15), 63, 0, 0, 0), (51, .aload_n 0, 0, 0, 0, 0), (52, .getfield 103, 11, 9, 0, 738), (55, .iload_n 2, 0, 0, 0, 0), (56, .iadd, 0, 0, 0, 0), (57, .sipush 512, 0, 0, 0, 0), (60, .if_icmp .le (7), 67, 0, 0, 0), (63, .iconst 2, 0, 0, 0, 0), (64, .goto (4), 68, 0, 0, 0), (67, .iconst 0, 0, 0, 0, 0), (68, .putfield 86, 11, 0, 0, 729), (71, .aload_n 0, 0, 0, 0, 0), (72, .getfield 86, 11, 0, 0, 729), (75, .ifCond .le (5), 80, 0, 0, 0), (78, .iconst 0, 0, 0, 0, 0), (79, .ireturn, 0, 0, 0, 0), (80, .aload_n 0, 0, 0, 0, 0), (81, .getfield 7, 11, 4, 2, 733), (84, .aload_n 0, 0, 0, 0, 0), (85, .getfield 92, 11, 3, 0, 732), (88, .iload_n 1, 0, 0, 0, 0), (89, .iastore, 30, 0, 0, 0), (90, .aload_n 0, 0, 0, 0, 0), (91, .getfield 13, 11, 5, 2, 734), (94, .aload_n 0, 0, 0, 0, 0), (95, .getfield 92, 11, 3, 0, 732), (98, .iload_n 2, 0, 0, 0, 0), (99, .iastore, 31, 0, 0, 0), (100, .aload_n 0, 0, 0, 0, 0), (101, .getfield 16, 11, 6, 2, 735), (104, .aload_n 0, 0, 0, 0, 0), (105, .getfield 92, 11, 3, 0, 732), (108, .aload_n 0, 0, 0, 0, 0), (109, .getfield 103, 11, 9, 0, 738), (112, .iastore, 32, 0, 0, 0), (113, .aload_n 0, 0, 0, 0, 0), (114, .aload_n 0, 0, 0, 0, 0), (115, .getfield 103, 11, 9, 0, 738), (118, .iload_n 2, 0, 0, 0, 0), (119, .iadd, 0, 0, 0, 0), (120, .putfield 103, 11, 9, 0, 738), (123, .aload_n 0, 0, 0, 0, 0), (124, .dup, 0, 0, 0, 0), (125, .getfield 92, 11, 3, 0, 732), (128, .iconst 1, 0, 0, 0, 0), (129, .iadd, 0, 0, 0, 0), (130, .putfield 92, 11, 3, 0, 732), (133, .aload_n 0, 0, 0, 0, 0), (134, .getfield 92, 11, 3, 0, 732), (137, .iconst 1, 0, 0, 0, 0), (138, .isub, 0, 0, 0, 0), (139, .ireturn, 0, 0, 0, 0)]
abbrev ci_83 : List Nat := []
theorem tk_83 : wm_tb (wm_mr 83) (wm_my 83).cls (wm_my 83).name (wm_mrt 83) ci_83 (wm_mb 83) tb_83 = true := by decide +kernel
theorem oi_83 : ci_83.all (wm_oib (wm_mr 83)) = true := by decide +kernel
/-- CycleKernelModel.process()I -/
def tb_84 : wm_T := [(0, .aload_n 0, 0, 0, 0, 0), (1, .aload_n 0, 0, 0, 0, 0), (2, .getfield 99, 11, 2, 0, 731), (5, .ifCond .ne (12), 17, 0, 0, 0), (8, .aload_n 0, 0, 0, 0, 0), (9, .getfield 89, 11, 23, 0, 752), (12, .bipush 64, 0, 0, 0, 0), (14, .if_icmp .ne (7), 21, 0, 0, 0), (17, .iconst 1, 0, 0, 0, 0), (18, .goto (4), 22, 0, 0, 0), (21, .iconst 0, 0, 0, 0, 0), (22, .putfield 86, 11, 0, 0, 729), (25, .aload_n 0, 0, 0, 0, 0), (26, .getfield 86, 11, 0, 0, 729), (29, .ifCond .le (5), 34, 0, 0, 0), (32, .iconst 0, 0, 0, 0, 0), (33, .ireturn, 0, 0, 0, 0), (34, .aload_n 0, 0, 0, 0, 0), (35, .getfield 60, 11, 24, 2, 753), (38, .aload_n 0, 0, 0, 0, 0), (39, .getfield 89, 11, 23, 0, 752), (42, .iconst 1, 0, 0, 0, 0), (43, .iastore, 46, 0, 0, 0), (44, .aload_n 0, 0, 0, 0, 0), (45, .getfield 66, 11, 26, 2, 755), (48, .aload_n 0, 0, 0, 0, 0), (49, .getfield 89, 11, 23, 0, 752), (52, .ldc2_w 106, 18446744073709551615, 0, 0, 845), (55, .lastore, 48, 0, 0, 0), (56, .aload_n 0, 0, 0, 0, 0), (57, .dup, 0, 0, 0, 0), (58, .getfield 89, 11, 23, 0, 752), (61, .iconst 1, 0, 0, 0, 0), (62, .iadd, 0, 0, 0, 0), (63, .putfield 89, 11, 23, 0, 752), (66, .aload_n 0, 0, 0, 0, 0), (67, .getfield 89, 11, 23, 0, 752), (70, .iconst 1, 0, 0, 0, 0), (71, .isub, 0, 0, 0, 0), (72, .ireturn, 0, 0, 0, 0)]
abbrev ci_84 : List Nat := []
theorem tk_84 : wm_tb (wm_mr 84) (wm_my 84).cls (wm_my 84).name (wm_mrt 84) ci_84 (wm_mb 84) tb_84 = true := by decide +kernel
theorem oi_84 : ci_84.all (wm_oib (wm_mr 84)) = true := by decide +kernel
/-- CycleKernelModel.driverOf(II)I -/
def tb_85 : wm_T := [(0, .iconst 0, 0, 0, 0, 0), (1, .istore_n 3, 0, 0, 0, 0), (2, .iload_n 3, 0, 0, 0, 0), (3, .aload_n 0, 0, 0, 0, 0), (4, .getfield 108, 11, 12, 0, 741), (7, .if_icmp .ge (31), 38, 0, 0, 0), (10, .aload_n 0, 0, 0, 0, 0), (11, .getfield 32, 11, 13, 2, 742), (14, .iload_n 3, 0, 0, 0, 0), (15, .iaload, 37, 0, 0, 0), (16, .iload_n 1, 0, 0, 0, 0), (17, .if_icmp .ne (15), 32, 0, 0, 0), (20, .aload_n 0, 0, 0, 0, 0), (21, .getfield 35, 11, 14, 2, 743), (24, .iload_n 3, 0, 0, 0, 0), (25, .iaload, 38, 0, 0, 0), (26, .iload_n 2, 0, 0, 0, 0), (27, .if_icmp .ne (5), 32, 0, 0, 0), (30, .iload_n 3, 0, 0, 0, 0), (31, .ireturn, 0, 0, 0, 0), (32, .iinc 3 1, 0, 0, 0, 0), (35, .goto (-33), 2, 0, 0, 0), (38, .iconst (-1), 0, 0, 0, 0), (39, .ireturn, 0, 0, 0, 0)]
abbrev ci_85 : List Nat := []
theorem tk_85 : wm_tb (wm_mr 85) (wm_my 85).cls (wm_my 85).name (wm_mrt 85) ci_85 (wm_mb 85) tb_85 = true := by decide +kernel
theorem oi_85 : ci_85.all (wm_oib (wm_mr 85)) = true := by decide +kernel
/-- CycleKernelModel.isDriven(I)Z -/
def tb_86 : wm_T := [(0, .iconst 0, 0, 0, 0, 0), (1, .istore_n 2, 0, 0, 0, 0), (2, .iconst 0, 0, 0, 0, 0), (3, .istore_n 3, 0, 0, 0, 0), (4, .iload_n 3, 0, 0, 0, 0), (5, .aload_n 0, 0, 0, 0, 0), (6, .getfield 108, 11, 12, 0, 741), (9, .if_icmp .ge (29), 38, 0, 0, 0), (12, .iload_n 2, 0, 0, 0, 0), (13, .ifCond .ne (13), 26, 0, 0, 0), (16, .aload_n 0, 0, 0, 0, 0), (17, .getfield 35, 11, 14, 2, 743), (20, .iload_n 3, 0, 0, 0, 0), (21, .iaload, 38, 0, 0, 0), (22, .iload_n 1, 0, 0, 0, 0), (23, .if_icmp .ne (7), 30, 0, 0, 0), (26, .iconst 1, 0, 0, 0, 0), (27, .goto (4), 31, 0, 0, 0), (30, .iconst 0, 0, 0, 0, 0), (31, .istore_n 2, 0, 0, 0, 0), (32, .iinc 3 1, 0, 0, 0, 0), (35, .goto (-31), 4, 0, 0, 0), (38, .iload_n 2, 0, 0, 0, 0), (39, .ireturn, 1, 0, 0, 0)]
abbrev ci_86 : List Nat := []
theorem tk_86 : wm_tb (wm_mr 86) (wm_my 86).cls (wm_my 86).name (wm_mrt 86) ci_86 (wm_mb 86) tb_86 = true := by decide +kernel
theorem oi_86 : ci_86.all (wm_oib (wm_mr 86)) = true := by decide +kernel
/-- CycleKernelModel.drive(II)V -/
def tb_87 : wm_T := [(0, .aload_n 0, 0, 0, 0, 0), (1, .aload_n 0, 0, 0, 0, 0), (2, .iload_n 1, 0, 0, 0, 0), (3, .invokevirtual 111, 80, 9, 0, 850), (6, .ifCond .ne (11), 17, 0, 0, 0), (9, .aload_n 0, 0, 0, 0, 0), (10, .iload_n 2, 0, 0, 0, 0), (11, .invokevirtual 95, 81, 9, 0, 854), (14, .ifCond .eq (7), 21, 0, 0, 0), (17, .iconst 1, 0, 0, 0, 0), (18, .goto (15), 33, 0, 0, 0), (21, .aload_n 0, 0, 0, 0, 0), (22, .getfield 99, 11, 2, 0, 731), (25, .ifCond .eq (7), 32, 0, 0, 0), (28, .iconst 2, 0, 0, 0, 0), (29, .goto (4), 33, 0, 0, 0), (32, .iconst 0, 0, 0, 0, 0), (33, .putfield 86, 11, 0, 0, 729), (36, .aload_n 0, 0, 0, 0, 0), (37, .getfield 86, 11, 0, 0, 729), (40, .ifCond .gt (18), 58, 0, 0, 0), (43, .aload_n 0, 0, 0, 0, 0), (44, .iload_n 1, 0, 0, 0, 0), (45, .aload_n 0, 0, 0, 0, 0), (46, .getfield 16, 11, 6, 2, 735), (49, .iload_n 2, 0, 0, 0, 0), (50, .iaload, 32, 0, 0, 0), (51, .invokevirtual 114, 85, 9, 0, 858), (54, .iconst (-1), 0, 0, 0, 0), (55, .if_icmp .eq (4), 59, 0, 0, 0), (58, .return_, 0, 0, 0, 0), (59, .aload_n 0, 0, 0, 0, 0), (60, .aload_n 0, 0, 0, 0, 0), (61, .getfield 7, 11, 4, 2, 733), (64, .iload_n 2, 0, 0, 0, 0), (65, .iaload, 30, 0, 0, 0), (66, .iconst 2, 0, 0, 0, 0), (67, .if_icmp .ne (16), 83, 0, 0, 0), (70, .aload_n 0, 0, 0, 0, 0), (71, .aload_n 0, 0, 0, 0, 0), (72, .getfield 16, 11, 6, 2, 735), (75, .iload_n 2, 0, 0, 0, 0), (76, .iaload, 32, 0, 0, 0), (77, .invokevirtual 118, 86, 9, 0, 862), (80, .ifCond .ne (20), 100, 0, 0, 0), (83, .aload_n 0, 0, 0, 0, 0), (84, .getfield 108, 11, 12, 0, 741), (87, .aload_n 0, 0, 0, 0, 0), (88, .getfield 13, 11, 5, 2, 734), (91, .iload_n 2, 0, 0, 0, 0), (92, .iaload, 31, 0, 0, 0), (93, .iadd, 0, 0, 0, 0), (94, .sipush 512, 0, 0, 0, 0), (97, .if_icmp .le (7), 104, 0, 0, 0), (100, .iconst 2, 0, 0, 0, 0), (101, .goto (4), 105, 0, 0, 0), (104, .iconst 0, 0, 0, 0, 0), (105, .putfield 86, 11, 0, 0, 729), (108, .iconst 0, 0, 0, 0, 0), (109, .istore_n 3, 0, 0, 0, 0), (110, .iload_n 3, 0, 0, 0, 0), (111, .aload_n 0, 0, 0, 0, 0), (112, .getfield 13, 11, 5, 2, 734), (115, .iload_n 2, 0, 0, 0, 0), (116, .iaload, 31, 0, 0, 0), (117, .if_icmp .ge (53), 170, 0, 0, 0), (120, .aload_n 0, 0, 0, 0, 0), (121, .getfield 86, 11, 0, 0, 729), (124, .ifCond .ne (46), 170, 0, 0, 0), (127, .aload_n 0, 0, 0, 0, 0), (128, .getfield 32, 11, 13, 2, 742), (131, .aload_n 0, 0, 0, 0, 0), (132, .getfield 108, 11, 12, 0, 741), (135, .iload_n 1, 0, 0, 0, 0), (136, .iastore, 37, 0, 0, 0), (137, .aload_n 0, 0, 0, 0, 0), (138, .getfield 35, 11, 14, 2, 743), (141, .aload_n 0, 0, 0, 0, 0), (142, .getfield 108, 11, 12, 0, 741), (145, .aload_n 0, 0, 0, 0, 0), (146, .getfield 16, 11, 6, 2, 735), (149, .iload_n 2, 0, 0, 0, 0), (150, .iaload, 32, 0, 0, 0), (151, .iload_n 3, 0, 0, 0, 0), (152, .iadd, 0, 0, 0, 0), (153, .iastore, 38, 0, 0, 0), (154, .aload_n 0, 0, 0, 0, 0), (155, .dup, 0, 0, 0, 0), (156, .getfield 108, 11, 12, 0, 741), (159, .iconst 1, 0, 0, 0, 0), (160, .iadd, 0, 0, 0, 0), (161, .putfield 108, 11, 12, 0, 741), (164, .iinc 3 1, 0, 0, 0, 0), (167, .goto (-57), 110, 0, 0, 0), (170, .return_, 0, 0, 0, 0)]
abbrev ci_87 : List Nat := [80, 81, 85, 86]
theorem tk_87 : wm_tb (wm_mr 87) (wm_my 87).cls (wm_my 87).name (wm_mrt 87) ci_87 (wm_mb 87) tb_87 = true := by decide +kernel
theorem oi_87 : ci_87.all (wm_oib (wm_mr 87)) = true := by decide +kernel
/-- CycleKernelModel.cannot(II)Z -/
def tb_88 : wm_T := [(0, .aload_n 0, 0, 0, 0, 0), (1, .getfield 7, 11, 4, 2, 733), (4, .iload_n 1, 0, 0, 0, 0), (5, .iaload, 30, 0, 0, 0), (6, .iconst 2, 0, 0, 0, 0), (7, .if_icmp .eq (17), 24, 0, 0, 0), (10, .iload_n 2, 0, 0, 0, 0), (11, .ifCond .lt (9), 20, 0, 0, 0), (14, .iload_n 2, 0, 0, 0, 0), (15, .bipush 8, 0, 0, 0, 0), (17, .if_icmp .le (7), 24, 0, 0, 0), (20, .iconst 1, 0, 0, 0, 0), (21, .goto (4), 25, 0, 0, 0), (24, .iconst 0, 0, 0, 0, 0), (25, .ireturn, 1, 0, 0, 0)]
abbrev ci_88 : List Nat := []
theorem tk_88 : wm_tb (wm_mr 88) (wm_my 88).cls (wm_my 88).name (wm_mrt 88) ci_88 (wm_mb 88) tb_88 = true := by decide +kernel
theorem oi_88 : ci_88.all (wm_oib (wm_mr 88)) = true := by decide +kernel
/-- CycleKernelModel.first(III)V -/
def tb_89 : wm_T := [(0, .aload_n 0, 0, 0, 0, 0), (1, .aload_n 0, 0, 0, 0, 0), (2, .iload_n 1, 0, 0, 0, 0), (3, .iload_n 2, 0, 0, 0, 0), (4, .invokevirtual 121, 82, 9, 0, 870), (7, .ifCond .eq (7), 14, 0, 0, 0), (10, .iconst 1, 0, 0, 0, 0), (11, .goto (28), 39, 0, 0, 0), (14, .aload_n 0, 0, 0, 0, 0), (15, .iload_n 1, 0, 0, 0, 0), (16, .iload_n 3, 0, 0, 0, 0), (17, .invokevirtual 125, 88, 9, 0, 874), (20, .ifCond .eq (7), 27, 0, 0, 0), (23, .iconst 2, 0, 0, 0, 0), (24, .goto (15), 39, 0, 0, 0), (27, .aload_n 0, 0, 0, 0, 0), (28, .getfield 99, 11, 2, 0, 731), (31, .ifCond .eq (7), 38, 0, 0, 0), (34, .iconst 3, 0, 0, 0, 0), (35, .goto (4), 39, 0, 0, 0), (38, .iconst 0, 0, 0, 0, 0), (39, .putfield 86, 11, 0, 0, 729), (42, .aload_n 0, 0, 0, 0, 0), (43, .getfield 86, 11, 0, 0, 729), (46, .ifCond .ne (17), 63, 0, 0, 0), (49, .aload_n 0, 0, 0, 0, 0), (50, .getfield 26, 11, 10, 2, 739), (53, .aload_n 0, 0, 0, 0, 0), (54, .getfield 16, 11, 6, 2, 735), (57, .iload_n 1, 0, 0, 0, 0), (58, .iaload, 32, 0, 0, 0), (59, .iload_n 2, 0, 0, 0, 0), (60, .iadd, 0, 0, 0, 0), (61, .iload_n 3, 0, 0, 0, 0), (62, .iastore, 35, 0, 0, 0), (63, .return_, 0, 0, 0, 0)]
abbrev ci_89 : List Nat := [82, 88]
theorem tk_89 : wm_tb (wm_mr 89) (wm_my 89).cls (wm_my 89).name (wm_mrt 89) ci_89 (wm_mb 89) tb_89 = true := by decide +kernel
theorem oi_89 : ci_89.all (wm_oib (wm_mr 89)) = true := by decide +kernel
/-- CycleKernelModel.start()V -/
def tb_90 : wm_T := [(0, .aload_n 0, 0, 0, 0, 0), (1, .aload_n 0, 0, 0, 0, 0), (2, .getfield 99, 11, 2, 0, 731), (5, .ifCond .eq (7), 12, 0, 0, 0), (8, .iconst 1, 0, 0, 0, 0), (9, .goto (4), 13, 0, 0, 0), (12, .iconst 0, 0, 0, 0, 0), (13, .putfield 86, 11, 0, 0, 729), (16, .aload_n 0, 0, 0, 0, 0), (17, .getfield 86, 11, 0, 0, 729), (20, .ifCond .le (4), 24, 0, 0, 0), (23, .return_, 0, 0, 0, 0), (24, .aload_n 0, 0, 0, 0, 0), (25, .iconst 1, 0, 0, 0, 0), (26, .putfield 99, 11, 2, 0, 731), (29, .iconst 0, 0, 0, 0, 0), (30, .istore_n 1, 0, 0, 0, 0), (31, .iload_n 1, 0, 0, 0, 0), (32, .aload_n 0, 0, 0, 0, 0), (33, .getfield 108, 11, 12, 0, 741), (36, .if_icmp .ge (26), 62, 0, 0, 0), (39, .aload_n 0, 0, 0, 0, 0), (40, .getfield 38, 11, 15, 2, 744), (43, .iload_n 1, 0, 0, 0, 0), (44, .aload_n 0, 0, 0, 0, 0), (45, .getfield 26, 11, 10, 2, 739), (48, .aload_n 0, 0, 0, 0, 0), (49, .getfield 35, 11, 14, 2, 743), (52, .iload_n 1, 0, 0, 0, 0), (53, .iaload, 38, 0, 0, 0), (54, .iaload, 35, 0, 0, 0), (55, .iastore, 39, 0, 0, 0), (56, .iinc 1 1, 0, 0, 0, 0), (59, .goto (-28), 31, 0, 0, 0), (62, .iconst 0, 0, 0, 0, 0), (63, .istore_n 1, 0, 0, 0, 0), (64, .iload_n 1, 0, 0, 0, 0), (65, .aload_n 0, 0, 0, 0, 0), (66, .getfield 92, 11, 3, 0, 732), (69, .if_icmp .ge (63), 132, 0, 0, 0), (72, .aload_n 0, 0, 0, 0, 0), (73, .getfield 16, 11, 6, 2, 735), (76, .iload_n 1, 0, 0, 0, 0), (77, .iaload, 32, 0, 0, 0), (78, .istore_n 2, 0, 0, 0, 0), (79, .iload_n 2, 0, 0, 0, 0), (80, .aload_n 0, 0, 0, 0, 0), (81, .getfield 16, 11, 6, 2, 735), (84, .iload_n 1, 0, 0, 0, 0), (85, .iaload, 32, 0, 0, 0), (86, .aload_n 0, 0, 0, 0, 0), (87, .getfield 13, 11, 5, 2, 734), (90, .iload_n 1, 0, 0, 0, 0), (91, .iaload, 31, 0, 0, 0), (92, .iadd, 0, 0, 0, 0), (93, .if_icmp .ge (33), 126, 0, 0, 0), (96, .aload_n 0, 0, 0, 0, 0), (97, .getfield 26, 11, 10, 2, 739), (100, .iload_n 2, 0, 0, 0, 0), (101, .aload_n 0, 0, 0, 0, 0), (102, .iload_n 1, 0, 0, 0, 0), (103, .iload_n 2, 0, 0, 0, 0), (104, .invokevirtual 128, 92, 9, 0, 882), (107, .iastore, 35, 0, 0, 0), (108, .aload_n 0, 0, 0, 0, 0), (109, .getfield 29, 11, 11, 2, 740), (112, .iload_n 2, 0, 0, 0, 0), (113, .aload_n 0, 0, 0, 0, 0), (114, .getfield 26, 11, 10, 2, 739), (117, .iload_n 2, 0, 0, 0, 0), (118, .iaload, 35, 0, 0, 0), (119, .iastore, 36, 0, 0, 0), (120, .iinc 2 1, 0, 0, 0, 0), (123, .goto (-44), 79, 0, 0, 0), (126, .iinc 1 1, 0, 0, 0, 0), (129, .goto (-65), 64, 0, 0, 0), (132, .iconst 0, 0, 0, 0, 0), (133, .istore_n 1, 0, 0, 0, 0), (134, .iload_n 1, 0, 0, 0, 0), (135, .aload_n 0, 0, 0, 0, 0), (136, .getfield 89, 11, 23, 0, 752), (139, .if_icmp .ge (16), 155, 0, 0, 0), (142, .aload_n 0, 0, 0, 0, 0), (143, .getfield 60, 11, 24, 2, 753), (146, .iload_n 1, 0, 0, 0, 0), (147, .iconst 0, 0, 0, 0, 0), (148, .iastore, 46, 0, 0, 0), (149, .iinc 1 1, 0, 0, 0, 0), (152, .goto (-18), 134, 0, 0, 0), (155, .return_, 0, 0, 0, 0)]
abbrev ci_90 : List Nat := [92]
theorem tk_90 : wm_tb (wm_mr 90) (wm_my 90).cls (wm_my 90).name (wm_mrt 90) ci_90 (wm_mb 90) tb_90 = true := by decide +kernel
theorem oi_90 : ci_90.all (wm_oib (wm_mr 90)) = true := by decide +kernel
/-- CycleKernelModel.both(II)I -/
def tb_91 : wm_T := [(0, .iload_n 0, 0, 0, 0, 0), (1, .ifCond .eq (7), 8, 0, 0, 0), (4, .iload_n 1, 0, 0, 0, 0), (5, .ifCond .ne (5), 10, 0, 0, 0), (8, .iconst 0, 0, 0, 0, 0), (9, .ireturn, 0, 0, 0, 0), (10, .iload_n 0, 0, 0, 0, 0), (11, .iconst 1, 0, 0, 0, 0), (12, .if_icmp .eq (40), 52, 0, 0, 0), (15, .iload_n 1, 0, 0, 0, 0), (16, .iconst 1, 0, 0, 0, 0), (17, .if_icmp .eq (35), 52, 0, 0, 0), (20, .iload_n 0, 0, 0, 0, 0), (21, .bipush 8, 0, 0, 0, 0), (23, .if_icmp .eq (29), 52, 0, 0, 0), (26, .iload_n 1, 0, 0, 0, 0), (27, .bipush 8, 0, 0, 0, 0), (29, .if_icmp .eq (23), 52, 0, 0, 0), (32, .iload_n 0, 0, 0, 0, 0), (33, .iconst 2, 0, 0, 0, 0), (34, .if_icmp .ne (8), 42, 0, 0, 0), (37, .iload_n 1, 0, 0, 0, 0), (38, .iconst 3, 0, 0, 0, 0), (39, .if_icmp .eq (13), 52, 0, 0, 0), (42, .iload_n 0, 0, 0, 0, 0), (43, .iconst 3, 0, 0, 0, 0), (44, .if_icmp .ne (10), 54, 0, 0, 0), (47, .iload_n 1, 0, 0, 0, 0), (48, .iconst 2, 0, 0, 0, 0), (49, .if_icmp .ne (5), 54, 0, 0, 0), (52, .iconst 1, 0, 0, 0, 0), (53, .ireturn, 0, 0, 0, 0), (54, .iload_n 0, 0, 0, 0, 0), (55, .iconst 4, 0, 0, 0, 0), (56, .if_icmp .ne (5), 61, 0, 0, 0), (59, .iload_n 1, 0, 0, 0, 0), (60, .ireturn, 0, 0, 0, 0), (61, .iload_n 1, 0, 0, 0, 0), (62, .iconst 4, 0, 0, 0, 0), (63, .if_icmp .ne (5), 68, 0, 0, 0), (66, .iload_n 0, 0, 0, 0, 0), (67, .ireturn, 0, 0, 0, 0), (68, .iload_n 0, 0, 0, 0, 0), (69, .iconst 2, 0, 0, 0, 0), (70, .if_icmp .eq (8), 78, 0, 0, 0), (73, .iload_n 0, 0, 0, 0, 0), (74, .iconst 3, 0, 0, 0, 0), (75, .if_icmp .ne (5), 80, 0, 0, 0), (78, .iload_n 0, 0, 0, 0, 0), (79, .ireturn, 0, 0, 0, 0), (80, .iload_n 1, 0, 0, 0, 0), (81, .iconst 2, 0, 0, 0, 0), (82, .if_icmp .eq (8), 90, 0, 0, 0), (85, .iload_n 1, 0, 0, 0, 0), (86, .iconst 3, 0, 0, 0, 0), (87, .if_icmp .ne (5), 92, 0, 0, 0), (90, .iload_n 1, 0, 0, 0, 0), (91, .ireturn, 0, 0, 0, 0), (92, .iload_n 0, 0, 0, 0, 0), (93, .iload_n 1, 0, 0, 0, 0), (94, .if_icmp .ne (7), 101, 0, 0, 0), (97, .iload_n 0, 0, 0, 0, 0), (98, .goto (4), 102, 0, 0, 0), (101, .iconst 5, 0, 0, 0, 0), (102, .ireturn, 0, 0, 0, 0)]
abbrev ci_91 : List Nat := []
theorem tk_91 : wm_tb (wm_mr 91) (wm_my 91).cls (wm_my 91).name (wm_mrt 91) ci_91 (wm_mb 91) tb_91 = true := by decide +kernel
theorem oi_91 : ci_91.all (wm_oib (wm_mr 91)) = true := by decide +kernel
/-- CycleKernelModel.made(II)I -/
def tb_92 : wm_T := [(0, .iconst 4, 0, 0, 0, 0), (1, .istore_n 3, 0, 0, 0, 0), (2, .iconst 0, 0, 0, 0, 0), (3, .istore 4, 0, 0, 0, 0), (5, .iconst 0, 0, 0, 0, 0), (6, .istore 5, 0, 0, 0, 0), (8, .iload 5, 0, 0, 0, 0), (10, .aload_n 0, 0, 0, 0, 0), (11, .getfield 108, 11, 12, 0, 741), (14, .if_icmp .ge (55), 69, 0, 0, 0), (17, .aload_n 0, 0, 0, 0, 0), (18, .getfield 35, 11, 14, 2, 743), (21, .iload 5, 0, 0, 0, 0), (23, .iaload, 38, 0, 0, 0), (24, .iload_n 2, 0, 0, 0, 0), (25, .if_icmp .ne (38), 63, 0, 0, 0), (28, .aload_n 0, 0, 0, 0, 0), (29, .getfield 7, 11, 4, 2, 733), (32, .iload_n 1, 0, 0, 0, 0), (33, .iaload, 30, 0, 0, 0), (34, .iconst 2, 0, 0, 0, 0), (35, .if_icmp .ne (13), 48, 0, 0, 0), (38, .aload_n 0, 0, 0, 0, 0), (39, .getfield 38, 11, 15, 2, 744), (42, .iload 5, 0, 0, 0, 0), (44, .iaload, 39, 0, 0, 0), (45, .goto (14), 59, 0, 0, 0), (48, .iload_n 3, 0, 0, 0, 0), (49, .aload_n 0, 0, 0, 0, 0), (50, .getfield 38, 11, 15, 2, 744), (53, .iload 5, 0, 0, 0, 0), (55, .iaload, 39, 0, 0, 0), (56, .invokestatic 131, 91, 9, 0, 886), (59, .istore_n 3, 0, 0, 0, 0), (60, .iconst 1, 0, 0, 0, 0), (61, .istore 4, 0, 0, 0, 0), (63, .iinc 5 1, 0, 0, 0, 0), (66, .goto (-58), 8, 0, 0, 0), (69, .iload 4, 0, 0, 0, 0), (71, .ifCond .eq (7), 78, 0, 0, 0), (74, .iload_n 3, 0, 0, 0, 0), (75, .goto (9), 84, 0, 0, 0), (78, .aload_n 0, 0, 0, 0, 0), (79, .getfield 26, 11, 10, 2, 739), (82, .iload_n 2, 0, 0, 0, 0), (83, .iaload, 35, 0, 0, 0), (84, .ireturn, 0, 0, 0, 0)]
abbrev ci_92 : List Nat := [91]
theorem tk_92 : wm_tb (wm_mr 92) (wm_my 92).cls (wm_my 92).name (wm_mrt 92) ci_92 (wm_mb 92) tb_92 = true := by decide +kernel
theorem oi_92 : ci_92.all (wm_oib (wm_mr 92)) = true := by decide +kernel
/-- CycleKernelModel.wave(J)V -/
def tb_93 : wm_T := [(0, .aload_n 0, 0, 0, 0, 0), (1, .lload_n 1, 0, 0, 0, 0), (2, .lconst 0, 0, 0, 0, 0), (3, .lcmp, 0, 0, 0, 0), (4, .ifCond .lt (11), 15, 0, 0, 0), (7, .lload_n 1, 0, 0, 0, 0), (8, .ldc2_w 134, 1152921504606846976, 0, 0, 893), (11, .lcmp, 0, 0, 0, 0), (12, .ifCond .le (7), 19, 0, 0, 0), (15, .iconst 1, 0, 0, 0, 0), (16, .goto (17), 33, 0, 0, 0), (19, .aload_n 0, 0, 0, 0, 0), (20, .getfield 136, 11, 31, 0, 760), (23, .bipush 16, 0, 0, 0, 0), (25, .if_icmp .ne (7), 32, 0, 0, 0), (28, .iconst 2, 0, 0, 0, 0), (29, .goto (4), 33, 0, 0, 0), (32, .iconst 0, 0, 0, 0, 0), (33, .putfield 86, 11, 0, 0, 729), (36, .aload_n 0, 0, 0, 0, 0), (37, .getfield 86, 11, 0, 0, 729), (40, .ifCond .le (4), 44, 0, 0, 0), (43, .return_, 0, 0, 0, 0), (44, .iconst 0, 0, 0, 0, 0), (45, .istore_n 3, 0, 0, 0, 0), (46, .iload_n 3, 0, 0, 0, 0), (47, .bipush 64, 0, 0, 0, 0), (49, .if_icmp .ge (24), 73, 0, 0, 0), (52, .aload_n 0, 0, 0, 0, 0), (53, .getfield 75, 11, 29, 2, 758), (56, .bipush 64, 0, 0, 0, 0), (58, .aload_n 0, 0, 0, 0, 0), (59, .getfield 136, 11, 31, 0, 760), (62, .imul, 0, 0, 0, 0), (63, .iload_n 3, 0, 0, 0, 0), (64, .iadd, 0, 0, 0, 0), (65, .iconst 0, 0, 0, 0, 0), (66, .iastore, 51, 0, 0, 0), (67, .iinc 3 1, 0, 0, 0, 0), (70, .goto (-24), 46, 0, 0, 0), (73, .aload_n 0, 0, 0, 0, 0), (74, .getfield 78, 11, 30, 2, 759), (77, .aload_n 0, 0, 0, 0, 0), (78, .getfield 136, 11, 31, 0, 760), (81, .lload_n 1, 0, 0, 0, 0), (82, .lastore, 52, 0, 0, 0), (83, .aload_n 0, 0, 0, 0, 0), (84, .dup, 0, 0, 0, 0), (85, .getfield 136, 11, 31, 0, 760), (88, .iconst 1, 0, 0, 0, 0), (89, .iadd, 0, 0, 0, 0), (90, .putfield 136, 11, 31, 0, 760), (93, .return_, 0, 0, 0, 0)]
abbrev ci_93 : List Nat := []
theorem tk_93 : wm_tb (wm_mr 93) (wm_my 93).cls (wm_my 93).name (wm_mrt 93) ci_93 (wm_mb 93) tb_93 = true := by decide +kernel
theorem oi_93 : ci_93.all (wm_oib (wm_mr 93)) = true := by decide +kernel
/-- CycleKernelModel.put(II)V -/
def tb_94 : wm_T := [(0, .aload_n 0, 0, 0, 0, 0), (1, .iload_n 1, 0, 0, 0, 0), (2, .ifCond .lt (9), 11, 0, 0, 0), (5, .iload_n 1, 0, 0, 0, 0), (6, .bipush 63, 0, 0, 0, 0), (8, .if_icmp .le (7), 15, 0, 0, 0), (11, .iconst 1, 0, 0, 0, 0), (12, .goto (15), 27, 0, 0, 0), (15, .aload_n 0, 0, 0, 0, 0), (16, .getfield 136, 11, 31, 0, 760), (19, .ifCond .ne (7), 26, 0, 0, 0), (22, .iconst 2, 0, 0, 0, 0), (23, .goto (4), 27, 0, 0, 0), (26, .iconst 0, 0, 0, 0, 0), (27, .putfield 86, 11, 0, 0, 729), (30, .aload_n 0, 0, 0, 0, 0), (31, .getfield 86, 11, 0, 0, 729), (34, .ifCond .ne (21), 55, 0, 0, 0), (37, .aload_n 0, 0, 0, 0, 0), (38, .getfield 75, 11, 29, 2, 758), (41, .bipush 64, 0, 0, 0, 0), (43, .aload_n 0, 0, 0, 0, 0), (44, .getfield 136, 11, 31, 0, 760), (47, .imul, 0, 0, 0, 0), (48, .bipush 64, 0, 0, 0, 0), (50, .isub, 0, 0, 0, 0), (51, .iload_n 1, 0, 0, 0, 0), (52, .iadd, 0, 0, 0, 0), (53, .iload_n 2, 0, 0, 0, 0), (54, .iastore, 51, 0, 0, 0), (55, .return_, 0, 0, 0, 0)]
abbrev ci_94 : List Nat := []
theorem tk_94 : wm_tb (wm_mr 94) (wm_my 94).cls (wm_my 94).name (wm_mrt 94) ci_94 (wm_mb 94) tb_94 = true := by decide +kernel
theorem oi_94 : ci_94.all (wm_oib (wm_mr 94)) = true := by decide +kernel
/-- CycleKernelModel.drop()V -/
def tb_95 : wm_T := [(0, .aload_n 0, 0, 0, 0, 0), (1, .iconst 0, 0, 0, 0, 0), (2, .putfield 86, 11, 0, 0, 729), (5, .aload_n 0, 0, 0, 0, 0), (6, .iconst 0, 0, 0, 0, 0), (7, .putfield 136, 11, 31, 0, 760), (10, .iconst 0, 0, 0, 0, 0), (11, .istore_n 1, 0, 0, 0, 0), (12, .iload_n 1, 0, 0, 0, 0), (13, .sipush 200, 0, 0, 0, 0), (16, .if_icmp .ge (16), 32, 0, 0, 0), (19, .aload_n 0, 0, 0, 0, 0), (20, .getfield 72, 11, 28, 2, 757), (23, .iload_n 1, 0, 0, 0, 0), (24, .iconst 0, 0, 0, 0, 0), (25, .bastore, 50, 0, 0, 0), (26, .iinc 1 1, 0, 0, 0, 0), (29, .goto (-17), 12, 0, 0, 0), (32, .return_, 0, 0, 0, 0)]
abbrev ci_95 : List Nat := []
theorem tk_95 : wm_tb (wm_mr 95) (wm_my 95).cls (wm_my 95).name (wm_mrt 95) ci_95 (wm_mb 95) tb_95 = true := by decide +kernel
theorem oi_95 : ci_95.all (wm_oib (wm_mr 95)) = true := by decide +kernel
/-- CycleKernelModel.good(IIIJ)Z -/
def tb_96 : wm_T := [(0, .iload_n 3, 0, 0, 0, 0), (1, .ifCond .lt (35), 36, 0, 0, 0), (4, .iload_n 3, 0, 0, 0, 0), (5, .iconst 2, 0, 0, 0, 0), (6, .if_icmp .gt (30), 36, 0, 0, 0), (9, .aload_n 0, 0, 0, 0, 0), (10, .getfield 139, 11, 32, 1, 761), (13, .aload_n 0, 0, 0, 0, 0), (14, .getfield 78, 11, 30, 2, 759), (17, .aload_n 0, 0, 0, 0, 0), (18, .getfield 136, 11, 31, 0, 760), (21, .iconst 1, 0, 0, 0, 0), (22, .isub, 0, 0, 0, 0), (23, .laload, 52, 0, 0, 0), (24, .ladd, 0, 0, 0, 0), (25, .ldc2_w 134, 1152921504606846976, 0, 0, 893), (28, .lcmp, 0, 0, 0, 0), (29, .ifCond .gt (7), 36, 0, 0, 0), (32, .iconst 1, 0, 0, 0, 0), (33, .goto (4), 37, 0, 0, 0), (36, .iconst 0, 0, 0, 0, 0), (37, .istore 6, 0, 0, 0, 0), (39, .iconst 0, 0, 0, 0, 0), (40, .istore 7, 0, 0, 0, 0), (42, .iload 7, 0, 0, 0, 0), (44, .aload_n 0, 0, 0, 0, 0), (45, .getfield 136, 11, 31, 0, 760), (48, .if_icmp .ge (94), 142, 0, 0, 0), (51, .iload 6, 0, 0, 0, 0), (53, .ifCond .eq (32), 85, 0, 0, 0), (56, .iload 7, 0, 0, 0, 0), (58, .ifCond .eq (23), 81, 0, 0, 0), (61, .aload_n 0, 0, 0, 0, 0), (62, .getfield 78, 11, 30, 2, 759), (65, .iload 7, 0, 0, 0, 0), (67, .laload, 52, 0, 0, 0), (68, .aload_n 0, 0, 0, 0, 0), (69, .getfield 78, 11, 30, 2, 759), (72, .iload 7, 0, 0, 0, 0), (74, .iconst 1, 0, 0, 0, 0), (75, .isub, 0, 0, 0, 0), (76, .laload, 52, 0, 0, 0), (77, .lcmp, 0, 0, 0, 0), (78, .ifCond .le (7), 85, 0, 0, 0), (81, .iconst 1, 0, 0, 0, 0), (82, .goto (4), 86, 0, 0, 0), (85, .iconst 0, 0, 0, 0, 0), (86, .istore 6, 0, 0, 0, 0), (88, .iconst 0, 0, 0, 0, 0), (89, .istore 8, 0, 0, 0, 0), (91, .iload 8, 0, 0, 0, 0), (93, .iload_n 2, 0, 0, 0, 0), (94, .if_icmp .ge (42), 136, 0, 0, 0), (97, .iload 6, 0, 0, 0, 0), (99, .ifCond .eq (28), 127, 0, 0, 0), (102, .aload_n 0, 0, 0, 0, 0), (103, .iload_n 1, 0, 0, 0, 0), (104, .aload_n 0, 0, 0, 0, 0), (105, .getfield 75, 11, 29, 2, 758), (108, .bipush 64, 0, 0, 0, 0), (110, .iload 7, 0, 0, 0, 0), (112, .imul, 0, 0, 0, 0), (113, .iload 8, 0, 0, 0, 0), (115, .iadd, 0, 0, 0, 0), (116, .iaload, 51, 0, 0, 0), (117, .invokevirtual 125, 88, 9, 0, 874), (120, .ifCond .ne (7), 127, 0, 0, 0), (123, .iconst 1, 0, 0, 0, 0), (124, .goto (4), 128, 0, 0, 0), (127, .iconst 0, 0, 0, 0, 0), (128, .istore 6, 0, 0, 0, 0), (130, .iinc 8 1, 0, 0, 0, 0), (133, .goto (-42), 91, 0, 0, 0), (136, .iinc 7 1, 0, 0, 0, 0), (139, .goto (-97), 42, 0, 0, 0), (142, .iload 6, 0, 0, 0, 0), (144, .ifCond .eq (31), 175, 0, 0, 0), (147, .iload_n 3, 0, 0, 0, 0), (148, .iconst 2, 0, 0, 0, 0), (149, .if_icmp .lt (22), 171, 0, 0, 0), (152, .lload 4, 0, 0, 0, 0), (154, .lconst 0, 0, 0, 0, 0), (155, .lcmp, 0, 0, 0, 0), (156, .ifCond .lt (19), 175, 0, 0, 0), (159, .lload 4, 0, 0, 0, 0), (161, .aload_n 0, 0, 0, 0, 0), (162, .getfield 78, 11, 30, 2, 759), (165, .iconst 0, 0, 0, 0, 0), (166, .laload, 52, 0, 0, 0), (167, .lcmp, 0, 0, 0, 0), (168, .ifCond .gt (7), 175, 0, 0, 0), (171, .iconst 1, 0, 0, 0, 0), (172, .goto (4), 176, 0, 0, 0), (175, .iconst 0, 0, 0, 0, 0), (176, .ireturn, 1, 0, 0, 0)]
abbrev ci_96 : List Nat := [88]
theorem tk_96 : wm_tb (wm_mr 96) (wm_my 96).cls (wm_my 96).name (wm_mrt 96) ci_96 (wm_mb 96) tb_96 = true := by decide +kernel
theorem oi_96 : ci_96.all (wm_oib (wm_mr 96)) = true := by decide +kernel
/-- CycleKernelModel.assign(IIIIIJ)I -/
def tb_97 : wm_T := [(0, .aload_n 0, 0, 0, 0, 0), (1, .aload_n 0, 0, 0, 0, 0), (2, .iload_n 1, 0, 0, 0, 0), (3, .invokevirtual 111, 80, 9, 0, 850), (6, .ifCond .ne (44), 50, 0, 0, 0), (9, .aload_n 0, 0, 0, 0, 0), (10, .iload_n 2, 0, 0, 0, 0), (11, .invokevirtual 95, 81, 9, 0, 854), (14, .ifCond .ne (36), 50, 0, 0, 0), (17, .iload_n 3, 0, 0, 0, 0), (18, .ifCond .lt (32), 50, 0, 0, 0), (21, .iload 4, 0, 0, 0, 0), (23, .iconst 1, 0, 0, 0, 0), (24, .if_icmp .lt (26), 50, 0, 0, 0), (27, .iload_n 3, 0, 0, 0, 0), (28, .aload_n 0, 0, 0, 0, 0), (29, .getfield 13, 11, 5, 2, 734), (32, .iload_n 2, 0, 0, 0, 0), (33, .iaload, 31, 0, 0, 0), (34, .if_icmp .ge (16), 50, 0, 0, 0), (37, .iload 4, 0, 0, 0, 0), (39, .aload_n 0, 0, 0, 0, 0), (40, .getfield 13, 11, 5, 2, 734), (43, .iload_n 2, 0, 0, 0, 0), (44, .iaload, 31, 0, 0, 0), (45, .iload_n 3, 0, 0, 0, 0), (46, .isub, 0, 0, 0, 0), (47, .if_icmp .le (7), 54, 0, 0, 0), (50, .iconst 1, 0, 0, 0, 0), (51, .goto (4), 55, 0, 0, 0), (54, .iconst 0, 0, 0, 0, 0), (55, .putfield 86, 11, 0, 0, 729), (58, .aload_n 0, 0, 0, 0, 0), (59, .getfield 86, 11, 0, 0, 729), (62, .ifCond .le (5), 67, 0, 0, 0), (65, .iconst 0, 0, 0, 0, 0), (66, .ireturn, 0, 0, 0, 0), (67, .aload_n 0, 0, 0, 0, 0), (68, .aload_n 0, 0, 0, 0, 0), (69, .getfield 60, 11, 24, 2, 753), (72, .iload_n 1, 0, 0, 0, 0), (73, .iaload, 46, 0, 0, 0), (74, .ifCond .ne (25), 99, 0, 0, 0), (77, .aload_n 0, 0, 0, 0, 0), (78, .iload_n 1, 0, 0, 0, 0), (79, .aload_n 0, 0, 0, 0, 0), (80, .getfield 16, 11, 6, 2, 735), (83, .iload_n 2, 0, 0, 0, 0), (84, .iaload, 32, 0, 0, 0), (85, .invokevirtual 114, 85, 9, 0, 858), (88, .iconst (-1), 0, 0, 0, 0), (89, .if_icmp .eq (10), 99, 0, 0, 0), (92, .aload_n 0, 0, 0, 0, 0), (93, .getfield 136, 11, 31, 0, 760), (96, .ifCond .ne (7), 103, 0, 0, 0), (99, .iconst 2, 0, 0, 0, 0), (100, .goto (4), 104, 0, 0, 0), (103, .iconst 0, 0, 0, 0, 0), (104, .putfield 86, 11, 0, 0, 729), (107, .aload_n 0, 0, 0, 0, 0), (108, .getfield 86, 11, 0, 0, 729), (111, .ifCond .le (5), 116, 0, 0, 0), (114, .iconst 0, 0, 0, 0, 0), (115, .ireturn, 0, 0, 0, 0), (116, .aload_n 0, 0, 0, 0, 0), (117, .aload_n 0, 0, 0, 0, 0), (118, .iload_n 2, 0, 0, 0, 0), (119, .iload 4, 0, 0, 0, 0), (121, .iload 5, 0, 0, 0, 0), (123, .lload 6, 0, 0, 0, 0), (125, .invokevirtual 143, 96, 9, 0, 906), (128, .ifCond .ne (7), 135, 0, 0, 0), (131, .iconst 3, 0, 0, 0, 0), (132, .goto (26), 158, 0, 0, 0), (135, .aload_n 0, 0, 0, 0, 0), (136, .getfield 147, 11, 16, 0, 745), (139, .iload 4, 0, 0, 0, 0), (141, .aload_n 0, 0, 0, 0, 0), (142, .getfield 136, 11, 31, 0, 760), (145, .imul, 0, 0, 0, 0), (146, .iadd, 0, 0, 0, 0), (147, .sipush 8192, 0, 0, 0, 0), (150, .if_icmp .le (7), 157, 0, 0, 0), (153, .iconst 2, 0, 0, 0, 0), (154, .goto (4), 158, 0, 0, 0), (157, .iconst 0, 0, 0, 0, 0), (158, .putfield 86, 11, 0, 0, 729), (161, .aload_n 0, 0, 0, 0, 0), (162, .getfield 86, 11, 0, 0, 729), (165, .ifCond .le (5), 170, 0, 0, 0), (168, .iconst 0, 0, 0, 0, 0), (169, .ireturn, 0, 0, 0, 0), (170, .iconst 0, 0, 0, 0, 0), (171, .istore 8, 0, 0, 0, 0), (173, .iconst 0, 0, 0, 0, 0), (174, .istore 9, 0, 0, 0, 0), (176, .iload 9, 0, 0, 0, 0), (178, .iload 4, 0, 0, 0, 0), (180, .if_icmp .ge (54), 234, 0, 0, 0), (183, .iload 8, 0, 0, 0, 0), (185, .aload_n 0, 0, 0, 0, 0), (186, .aload_n 0, 0, 0, 0, 0), (187, .iload_n 1, 0, 0, 0, 0), (188, .aload_n 0, 0, 0, 0, 0), (189, .getfield 16, 11, 6, 2, 735), (192, .iload_n 2, 0, 0, 0, 0), (193, .iaload, 32, 0, 0, 0), (194, .iload_n 3, 0, 0, 0, 0), (195, .iadd, 0, 0, 0, 0), (196, .iload 9, 0, 0, 0, 0), (198, .iadd, 0, 0, 0, 0), (199, .invokevirtual 114, 85, 9, 0, 858), (202, .iload 9, 0, 0, 0, 0), (204, .iload 5, 0, 0, 0, 0), (206, .iload 5, 0, 0, 0, 0), (208, .ifCond .ne (12), 220, 0, 0, 0), (211, .aload_n 0, 0, 0, 0, 0), (212, .getfield 78, 11, 30, 2, 759), (215, .iconst 0, 0, 0, 0, 0), (216, .laload, 52, 0, 0, 0), (217, .goto (5), 222, 0, 0, 0), (220, .lload 6, 0, 0, 0, 0), (222, .invokevirtual 150, 98, 9, 0, 910), (225, .iadd, 0, 0, 0, 0), (226, .istore 8, 0, 0, 0, 0), (228, .iinc 9 1, 0, 0, 0, 0), (231, .goto (-55), 176, 0, 0, 0), (234, .aload_n 0, 0, 0, 0, 0), (235, .iconst 0, 0, 0, 0, 0), (236, .putfield 136, 11, 31, 0, 760), (239, .iload 8, 0, 0, 0, 0), (241, .ireturn, 0, 0, 0, 0)]
abbrev ci_97 : List Nat := [80, 81, 85, 96, 98]
theorem tk_97 : wm_tb (wm_mr 97) (wm_my 97).cls (wm_my 97).name (wm_mrt 97) ci_97 (wm_mb 97) tb_97 = true := by decide +kernel
theorem oi_97 : ci_97.all (wm_oib (wm_mr 97)) = true := by decide +kernel
/-- CycleKernelModel.assignOne(IIIJ)I -/
def tb_98 : wm_T := [(0, .aload_n 0, 0, 0, 0, 0), (1, .getfield 139, 11, 32, 1, 761), (4, .aload_n 0, 0, 0, 0, 0), (5, .getfield 78, 11, 30, 2, 759), (8, .iconst 0, 0, 0, 0, 0), (9, .laload, 52, 0, 0, 0), (10, .ladd, 0, 0, 0, 0), (11, .lstore 6, 0, 0, 0, 0), (13, .iconst 0, 0, 0, 0, 0), (14, .istore 8, 0, 0, 0, 0), (16, .iconst 0, 0, 0, 0, 0), (17, .istore 9, 0, 0, 0, 0), (19, .iconst 0, 0, 0, 0, 0), (20, .istore 10, 0, 0, 0, 0), (22, .iload 10, 0, 0, 0, 0), (24, .aload_n 0, 0, 0, 0, 0), (25, .getfield 147, 11, 16, 0, 745), (28, .if_icmp .ge (100), 128, 0, 0, 0), (31, .aload_n 0, 0, 0, 0, 0), (32, .getfield 41, 11, 17, 2, 746), (35, .iload 10, 0, 0, 0, 0), (37, .iaload, 40, 0, 0, 0), (38, .iload_n 1, 0, 0, 0, 0), (39, .if_icmp .ne (83), 122, 0, 0, 0), (42, .iinc 9 1, 0, 0, 0, 0), (45, .aload_n 0, 0, 0, 0, 0), (46, .getfield 44, 11, 18, 2, 747), (49, .iload 10, 0, 0, 0, 0), (51, .laload, 41, 0, 0, 0), (52, .lload 6, 0, 0, 0, 0), (54, .lcmp, 0, 0, 0, 0), (55, .ifCond .ge (67), 122, 0, 0, 0), (58, .aload_n 0, 0, 0, 0, 0), (59, .getfield 51, 11, 20, 2, 749), (62, .iload 8, 0, 0, 0, 0), (64, .aload_n 0, 0, 0, 0, 0), (65, .getfield 44, 11, 18, 2, 747), (68, .iload 10, 0, 0, 0, 0), (70, .laload, 41, 0, 0, 0), (71, .lastore, 43, 0, 0, 0), (72, .aload_n 0, 0, 0, 0, 0), (73, .getfield 54, 11, 21, 2, 750), (76, .iload 8, 0, 0, 0, 0), (78, .aload_n 0, 0, 0, 0, 0), (79, .getfield 48, 11, 19, 2, 748), (82, .iload 10, 0, 0, 0, 0), (84, .iaload, 42, 0, 0, 0), (85, .iastore, 44, 0, 0, 0), (86, .aload_n 0, 0, 0, 0, 0), (87, .getfield 57, 11, 22, 2, 751), (90, .iload 8, 0, 0, 0, 0), (92, .iload_n 3, 0, 0, 0, 0), (93, .iconst 1, 0, 0, 0, 0), (94, .if_icmp .eq (19), 113, 0, 0, 0), (97, .aload_n 0, 0, 0, 0, 0), (98, .getfield 44, 11, 18, 2, 747), (101, .iload 10, 0, 0, 0, 0), (103, .laload, 41, 0, 0, 0), (104, .lload 6, 0, 0, 0, 0), (106, .lload 4, 0, 0, 0, 0), (108, .lsub, 0, 0, 0, 0), (109, .lcmp, 0, 0, 0, 0), (110, .ifCond .ge (7), 117, 0, 0, 0), (113, .iconst 1, 0, 0, 0, 0), (114, .goto (4), 118, 0, 0, 0), (117, .iconst 0, 0, 0, 0, 0), (118, .bastore, 45, 0, 0, 0), (119, .iinc 8 1, 0, 0, 0, 0), (122, .iinc 10 1, 0, 0, 0, 0), (125, .goto (-103), 22, 0, 0, 0), (128, .iload 8, 0, 0, 0, 0), (130, .istore 10, 0, 0, 0, 0), (132, .iconst 0, 0, 0, 0, 0), (133, .istore 11, 0, 0, 0, 0), (135, .iload 11, 0, 0, 0, 0), (137, .aload_n 0, 0, 0, 0, 0), (138, .getfield 136, 11, 31, 0, 760), (141, .if_icmp .ge (58), 199, 0, 0, 0), (144, .aload_n 0, 0, 0, 0, 0), (145, .getfield 51, 11, 20, 2, 749), (148, .iload 8, 0, 0, 0, 0), (150, .aload_n 0, 0, 0, 0, 0), (151, .getfield 139, 11, 32, 1, 761), (154, .aload_n 0, 0, 0, 0, 0), (155, .getfield 78, 11, 30, 2, 759), (158, .iload 11, 0, 0, 0, 0), (160, .laload, 52, 0, 0, 0), (161, .ladd, 0, 0, 0, 0), (162, .lastore, 43, 0, 0, 0), (163, .aload_n 0, 0, 0, 0, 0), (164, .getfield 54, 11, 21, 2, 750), (167, .iload 8, 0, 0, 0, 0), (169, .aload_n 0, 0, 0, 0, 0), (170, .getfield 75, 11, 29, 2, 758), (173, .bipush 64, 0, 0, 0, 0), (175, .iload 11, 0, 0, 0, 0), (177, .imul, 0, 0, 0, 0), (178, .iload_n 2, 0, 0, 0, 0), (179, .iadd, 0, 0, 0, 0), (180, .iaload, 51, 0, 0, 0), (181, .iastore, 44, 0, 0, 0), (182, .aload_n 0, 0, 0, 0, 0), (183, .getfield 57, 11, 22, 2, 751), (186, .iload 8, 0, 0, 0, 0), (188, .iconst 1, 0, 0, 0, 0), (189, .bastore, 45, 0, 0, 0), (190, .iinc 8 1, 0, 0, 0, 0), (193, .iinc 11 1, 0, 0, 0, 0), (196, .goto (-61), 135, 0, 0, 0), (199, .iload 10, 0, 0, 0, 0), (201, .iconst 1, 0, 0, 0, 0), (202, .isub, 0, 0, 0, 0), (203, .istore 11, 0, 0, 0, 0), (205, .iload 11, 0, 0, 0, 0), (207, .ifCond .lt (62), 269, 0, 0, 0), (210, .aload_n 0, 0, 0, 0, 0), (211, .getfield 57, 11, 22, 2, 751), (214, .iload 11, 0, 0, 0, 0), (216, .aload_n 0, 0, 0, 0, 0), (217, .getfield 57, 11, 22, 2, 751), (220, .iload 11, 0, 0, 0, 0), (222, .baload, 45, 0, 0, 0), (223, .ifCond .ne (34), 257, 0, 0, 0), (226, .aload_n 0, 0, 0, 0, 0), (227, .getfield 57, 11, 22, 2, 751), (230, .iload 11, 0, 0, 0, 0), (232, .iconst 1, 0, 0, 0, 0), (233, .iadd, 0, 0, 0, 0), (234, .baload, 45, 0, 0, 0), (235, .ifCond .eq (26), 261, 0, 0, 0), (238, .aload_n 0, 0, 0, 0, 0), (239, .getfield 54, 11, 21, 2, 750), (242, .iload 11, 0, 0, 0, 0), (244, .iaload, 44, 0, 0, 0), (245, .aload_n 0, 0, 0, 0, 0), (246, .getfield 54, 11, 21, 2, 750), (249, .iload 11, 0, 0, 0, 0), (251, .iconst 1, 0, 0, 0, 0), (252, .iadd, 0, 0, 0, 0), (253, .iaload, 44, 0, 0, 0), (254, .if_icmp .ne (7), 261, 0, 0, 0), (257, .iconst 1, 0, 0, 0, 0), (258, .goto (4), 262, 0, 0, 0), (261, .iconst 0, 0, 0, 0, 0), (262, .bastore, 45, 0, 0, 0), (263, .iinc 11 (-1), 0, 0, 0, 0), (266, .goto (-61), 205, 0, 0, 0), (269, .iconst 0, 0, 0, 0, 0), (270, .istore 11, 0, 0, 0, 0), (272, .iconst 0, 0, 0, 0, 0), (273, .istore 12, 0, 0, 0, 0), (275, .iload 12, 0, 0, 0, 0), (277, .aload_n 0, 0, 0, 0, 0), (278, .getfield 147, 11, 16, 0, 745), (281, .if_icmp .ge (31), 312, 0, 0, 0), (284, .aload_n 0, 0, 0, 0, 0), (285, .getfield 41, 11, 17, 2, 746), (288, .iload 12, 0, 0, 0, 0), (290, .iaload, 40, 0, 0, 0), (291, .iload_n 1, 0, 0, 0, 0), (292, .if_icmp .eq (14), 306, 0, 0, 0), (295, .aload_n 0, 0, 0, 0, 0), (296, .iload 12, 0, 0, 0, 0), (298, .iload 11, 0, 0, 0, 0), (300, .invokevirtual 154, 99, 9, 0, 914), (303, .iinc 11 1, 0, 0, 0, 0), (306, .iinc 12 1, 0, 0, 0, 0), (309, .goto (-34), 275, 0, 0, 0), (312, .iconst 0, 0, 0, 0, 0), (313, .istore 12, 0, 0, 0, 0), (315, .iconst 0, 0, 0, 0, 0), (316, .istore 13, 0, 0, 0, 0), (318, .iload 13, 0, 0, 0, 0), (320, .iload 8, 0, 0, 0, 0), (322, .if_icmp .ge (76), 398, 0, 0, 0), (325, .aload_n 0, 0, 0, 0, 0), (326, .getfield 57, 11, 22, 2, 751), (329, .iload 13, 0, 0, 0, 0), (331, .baload, 45, 0, 0, 0), (332, .ifCond .eq (60), 392, 0, 0, 0), (335, .aload_n 0, 0, 0, 0, 0), (336, .getfield 41, 11, 17, 2, 746), (339, .iload 11, 0, 0, 0, 0), (341, .iload_n 1, 0, 0, 0, 0), (342, .iastore, 40, 0, 0, 0), (343, .aload_n 0, 0, 0, 0, 0), (344, .getfield 44, 11, 18, 2, 747), (347, .iload 11, 0, 0, 0, 0), (349, .aload_n 0, 0, 0, 0, 0), (350, .getfield 51, 11, 20, 2, 749), (353, .iload 13, 0, 0, 0, 0), (355, .laload, 43, 0, 0, 0), (356, .lastore, 41, 0, 0, 0), (357, .aload_n 0, 0, 0, 0, 0), (358, .getfield 48, 11, 19, 2, 748), (361, .iload 11, 0, 0, 0, 0), (363, .aload_n 0, 0, 0, 0, 0), (364, .getfield 54, 11, 21, 2, 750), (367, .iload 13, 0, 0, 0, 0), (369, .iaload, 44, 0, 0, 0), (370, .iastore, 42, 0, 0, 0), (371, .iinc 11 1, 0, 0, 0, 0), (374, .iload 13, 0, 0, 0, 0), (376, .iload 10, 0, 0, 0, 0), (378, .if_icmp .ge (10), 388, 0, 0, 0), (381, .iload 12, 0, 0, 0, 0), (383, .iconst 1, 0, 0, 0, 0), (384, .iadd, 0, 0, 0, 0), (385, .goto (5), 390, 0, 0, 0), (388, .iload 12, 0, 0, 0, 0), (390, .istore 12, 0, 0, 0, 0), (392, .iinc 13 1, 0, 0, 0, 0), (395, .goto (-77), 318, 0, 0, 0), (398, .aload_n 0, 0, 0, 0, 0), (399, .iload 11, 0, 0, 0, 0), (401, .putfield 147, 11, 16, 0, 745), (404, .iload 9, 0, 0, 0, 0), (406, .iload 12, 0, 0, 0, 0), (408, .isub, 0, 0, 0, 0), (409, .ireturn, 0, 0, 0, 0)]
abbrev ci_98 : List Nat := [99]
theorem tk_98 : wm_tb (wm_mr 98) (wm_my 98).cls (wm_my 98).name (wm_mrt 98) ci_98 (wm_mb 98) tb_98 = true := by decide +kernel
theorem oi_98 : ci_98.all (wm_oib (wm_mr 98)) = true := by decide +kernel
/-- CycleKernelModel.move(II)V -/
def tb_99 : wm_T := [(0, .aload_n 0, 0, 0, 0, 0), (1, .getfield 41, 11, 17, 2, 746), (4, .iload_n 2, 0, 0, 0, 0), (5, .aload_n 0, 0, 0, 0, 0), (6, .getfield 41, 11, 17, 2, 746), (9, .iload_n 1, 0, 0, 0, 0), (10, .iaload, 40, 0, 0, 0), (11, .iastore, 40, 0, 0, 0), (12, .aload_n 0, 0, 0, 0, 0), (13, .getfield 44, 11, 18, 2, 747), (16, .iload_n 2, 0, 0, 0, 0), (17, .aload_n 0, 0, 0, 0, 0), (18, .getfield 44, 11, 18, 2, 747), (21, .iload_n 1, 0, 0, 0, 0), (22, .laload, 41, 0, 0, 0), (23, .lastore, 41, 0, 0, 0), (24, .aload_n 0, 0, 0, 0, 0), (25, .getfield 48, 11, 19, 2, 748), (28, .iload_n 2, 0, 0, 0, 0), (29, .aload_n 0, 0, 0, 0, 0), (30, .getfield 48, 11, 19, 2, 748), (33, .iload_n 1, 0, 0, 0, 0), (34, .iaload, 42, 0, 0, 0), (35, .iastore, 42, 0, 0, 0), (36, .return_, 0, 0, 0, 0)]
abbrev ci_99 : List Nat := []
theorem tk_99 : wm_tb (wm_mr 99) (wm_my 99).cls (wm_my 99).name (wm_mrt 99) ci_99 (wm_mb 99) tb_99 = true := by decide +kernel
theorem oi_99 : ci_99.all (wm_oib (wm_mr 99)) = true := by decide +kernel
/-- CycleKernelModel.on(I)V -/
def tb_100 : wm_T := [(0, .aload_n 0, 0, 0, 0, 0), (1, .aload_n 0, 0, 0, 0, 0), (2, .iload_n 1, 0, 0, 0, 0), (3, .invokevirtual 95, 81, 9, 0, 854), (6, .ifCond .eq (7), 13, 0, 0, 0), (9, .iconst 1, 0, 0, 0, 0), (10, .goto (4), 14, 0, 0, 0), (13, .iconst 0, 0, 0, 0, 0), (14, .putfield 86, 11, 0, 0, 729), (17, .aload_n 0, 0, 0, 0, 0), (18, .getfield 86, 11, 0, 0, 729), (21, .ifCond .ne (10), 31, 0, 0, 0), (24, .aload_n 0, 0, 0, 0, 0), (25, .getfield 72, 11, 28, 2, 757), (28, .iload_n 1, 0, 0, 0, 0), (29, .iconst 1, 0, 0, 0, 0), (30, .bastore, 50, 0, 0, 0), (31, .return_, 0, 0, 0, 0)]
abbrev ci_100 : List Nat := [81]
theorem tk_100 : wm_tb (wm_mr 100) (wm_my 100).cls (wm_my 100).name (wm_mrt 100) ci_100 (wm_mb 100) tb_100 = true := by decide +kernel
theorem oi_100 : ci_100.all (wm_oib (wm_mr 100)) = true := by decide +kernel
/-- CycleKernelModel.suspend(IZJ)V -/
def tb_101 : wm_T := [(0, .aload_n 0, 0, 0, 0, 0), (1, .aload_n 0, 0, 0, 0, 0), (2, .iload_n 1, 0, 0, 0, 0), (3, .invokevirtual 111, 80, 9, 0, 850), (6, .ifCond .eq (7), 13, 0, 0, 0), (9, .iconst 1, 0, 0, 0, 0), (10, .goto (42), 52, 0, 0, 0), (13, .lload_n 3, 0, 0, 0, 0), (14, .ldc2_w 106, 18446744073709551615, 0, 0, 845), (17, .lcmp, 0, 0, 0, 0), (18, .ifCond .lt (16), 34, 0, 0, 0), (21, .lload_n 3, 0, 0, 0, 0), (22, .ldc2_w 134, 1152921504606846976, 0, 0, 893), (25, .aload_n 0, 0, 0, 0, 0), (26, .getfield 139, 11, 32, 1, 761), (29, .lsub, 0, 0, 0, 0), (30, .lcmp, 0, 0, 0, 0), (31, .ifCond .le (7), 38, 0, 0, 0), (34, .iconst 2, 0, 0, 0, 0), (35, .goto (17), 52, 0, 0, 0), (38, .aload_n 0, 0, 0, 0, 0), (39, .getfield 60, 11, 24, 2, 753), (42, .iload_n 1, 0, 0, 0, 0), (43, .iaload, 46, 0, 0, 0), (44, .ifCond .eq (7), 51, 0, 0, 0), (47, .iconst 3, 0, 0, 0, 0), (48, .goto (4), 52, 0, 0, 0), (51, .iconst 0, 0, 0, 0, 0), (52, .putfield 86, 11, 0, 0, 729), (55, .aload_n 0, 0, 0, 0, 0), (56, .getfield 86, 11, 0, 0, 729), (59, .ifCond .le (4), 63, 0, 0, 0), (62, .return_, 0, 0, 0, 0), (63, .aload_n 0, 0, 0, 0, 0), (64, .getfield 60, 11, 24, 2, 753), (67, .iload_n 1, 0, 0, 0, 0), (68, .iconst 1, 0, 0, 0, 0), (69, .iastore, 46, 0, 0, 0), (70, .aload_n 0, 0, 0, 0, 0), (71, .getfield 63, 11, 25, 2, 754), (74, .iload_n 1, 0, 0, 0, 0), (75, .iload_n 2, 0, 0, 0, 0), (76, .bastore, 47, 0, 0, 0), (77, .aload_n 0, 0, 0, 0, 0), (78, .getfield 66, 11, 26, 2, 755), (81, .iload_n 1, 0, 0, 0, 0), (82, .lload_n 3, 0, 0, 0, 0), (83, .lconst 0, 0, 0, 0, 0), (84, .lcmp, 0, 0, 0, 0), (85, .ifCond .ge (9), 94, 0, 0, 0), (88, .ldc2_w 106, 18446744073709551615, 0, 0, 845), (91, .goto (9), 100, 0, 0, 0), (94, .aload_n 0, 0, 0, 0, 0), (95, .getfield 139, 11, 32, 1, 761), (98, .lload_n 3, 0, 0, 0, 0), (99, .ladd, 0, 0, 0, 0), (100, .lastore, 48, 0, 0, 0), (101, .iconst 0, 0, 0, 0, 0), (102, .istore 5, 0, 0, 0, 0), (104, .iload 5, 0, 0, 0, 0), (106, .sipush 200, 0, 0, 0, 0), (109, .if_icmp .ge (37), 146, 0, 0, 0), (112, .aload_n 0, 0, 0, 0, 0), (113, .getfield 69, 11, 27, 2, 756), (116, .sipush 200, 0, 0, 0, 0), (119, .iload_n 1, 0, 0, 0, 0), (120, .imul, 0, 0, 0, 0), (121, .iload 5, 0, 0, 0, 0), (123, .iadd, 0, 0, 0, 0), (124, .aload_n 0, 0, 0, 0, 0), (125, .getfield 72, 11, 28, 2, 757), (128, .iload 5, 0, 0, 0, 0), (130, .baload, 50, 0, 0, 0), (131, .bastore, 49, 0, 0, 0), (132, .aload_n 0, 0, 0, 0, 0), (133, .getfield 72, 11, 28, 2, 757), (136, .iload 5, 0, 0, 0, 0), (138, .iconst 0, 0, 0, 0, 0), (139, .bastore, 50, 0, 0, 0), (140, .iinc 5 1, 0, 0, 0, 0), (143, .goto (-39), 104, 0, 0, 0), (146, .return_, 0, 0, 0, 0)]
abbrev ci_101 : List Nat := [80]
theorem tk_101 : wm_tb (wm_mr 101) (wm_my 101).cls (wm_my 101).name (wm_mrt 101) ci_101 (wm_mb 101) tb_101 = true := by decide +kernel
theorem oi_101 : ci_101.all (wm_oib (wm_mr 101)) = true := by decide +kernel
/-- CycleKernelModel.end(I)V -/
def tb_102 : wm_T := [(0, .aload_n 0, 0, 0, 0, 0), (1, .aload_n 0, 0, 0, 0, 0), (2, .iload_n 1, 0, 0, 0, 0), (3, .invokevirtual 111, 80, 9, 0, 850), (6, .ifCond .eq (7), 13, 0, 0, 0), (9, .iconst 1, 0, 0, 0, 0), (10, .goto (27), 37, 0, 0, 0), (13, .aload_n 0, 0, 0, 0, 0), (14, .getfield 60, 11, 24, 2, 753), (17, .iload_n 1, 0, 0, 0, 0), (18, .iaload, 46, 0, 0, 0), (19, .ifCond .eq (17), 36, 0, 0, 0), (22, .aload_n 0, 0, 0, 0, 0), (23, .getfield 60, 11, 24, 2, 753), (26, .iload_n 1, 0, 0, 0, 0), (27, .iaload, 46, 0, 0, 0), (28, .iconst 2, 0, 0, 0, 0), (29, .if_icmp .eq (7), 36, 0, 0, 0), (32, .iconst 2, 0, 0, 0, 0), (33, .goto (4), 37, 0, 0, 0), (36, .iconst 0, 0, 0, 0, 0), (37, .putfield 86, 11, 0, 0, 729), (40, .aload_n 0, 0, 0, 0, 0), (41, .getfield 86, 11, 0, 0, 729), (44, .ifCond .ne (10), 54, 0, 0, 0), (47, .aload_n 0, 0, 0, 0, 0), (48, .getfield 60, 11, 24, 2, 753), (51, .iload_n 1, 0, 0, 0, 0), (52, .iconst 3, 0, 0, 0, 0), (53, .iastore, 46, 0, 0, 0), (54, .return_, 0, 0, 0, 0)]
abbrev ci_102 : List Nat := [80]
theorem tk_102 : wm_tb (wm_mr 102) (wm_my 102).cls (wm_my 102).name (wm_mrt 102) ci_102 (wm_mb 102) tb_102 = true := by decide +kernel
theorem oi_102 : ci_102.all (wm_oib (wm_mr 102)) = true := by decide +kernel
/-- CycleKernelModel.answer(IZ)V -/
def tb_103 : wm_T := [(0, .aload_n 0, 0, 0, 0, 0), (1, .aload_n 0, 0, 0, 0, 0), (2, .iload_n 1, 0, 0, 0, 0), (3, .invokevirtual 111, 80, 9, 0, 850), (6, .ifCond .eq (7), 13, 0, 0, 0), (9, .iconst 1, 0, 0, 0, 0), (10, .goto (18), 28, 0, 0, 0), (13, .aload_n 0, 0, 0, 0, 0), (14, .getfield 60, 11, 24, 2, 753), (17, .iload_n 1, 0, 0, 0, 0), (18, .iaload, 46, 0, 0, 0), (19, .iconst 2, 0, 0, 0, 0), (20, .if_icmp .eq (7), 27, 0, 0, 0), (23, .iconst 2, 0, 0, 0, 0), (24, .goto (4), 28, 0, 0, 0), (27, .iconst 0, 0, 0, 0, 0), (28, .putfield 86, 11, 0, 0, 729), (31, .aload_n 0, 0, 0, 0, 0), (32, .getfield 86, 11, 0, 0, 729), (35, .ifCond .ne (18), 53, 0, 0, 0), (38, .aload_n 0, 0, 0, 0, 0), (39, .getfield 60, 11, 24, 2, 753), (42, .iload_n 1, 0, 0, 0, 0), (43, .iload_n 2, 0, 0, 0, 0), (44, .ifCond .eq (7), 51, 0, 0, 0), (47, .iconst 0, 0, 0, 0, 0), (48, .goto (4), 52, 0, 0, 0), (51, .iconst 1, 0, 0, 0, 0), (52, .iastore, 46, 0, 0, 0), (53, .return_, 0, 0, 0, 0)]
abbrev ci_103 : List Nat := [80]
theorem tk_103 : wm_tb (wm_mr 103) (wm_my 103).cls (wm_my 103).name (wm_mrt 103) ci_103 (wm_mb 103) tb_103 = true := by decide +kernel
theorem oi_103 : ci_103.all (wm_oib (wm_mr 103)) = true := by decide +kernel
/-- CycleKernelModel.next()J -/
def tb_104 : wm_T := [(0, .aload_n 0, 0, 0, 0, 0), (1, .iconst 0, 0, 0, 0, 0), (2, .putfield 86, 11, 0, 0, 729), (5, .ldc2_w 106, 18446744073709551615, 0, 0, 845), (8, .lstore_n 1, 0, 0, 0, 0), (9, .iconst 0, 0, 0, 0, 0), (10, .istore_n 3, 0, 0, 0, 0), (11, .iload_n 3, 0, 0, 0, 0), (12, .aload_n 0, 0, 0, 0, 0), (13, .getfield 147, 11, 16, 0, 745), (16, .if_icmp .ge (39), 55, 0, 0, 0), (19, .lload_n 1, 0, 0, 0, 0), (20, .ldc2_w 106, 18446744073709551615, 0, 0, 845), (23, .lcmp, 0, 0, 0, 0), (24, .ifCond .eq (14), 38, 0, 0, 0), (27, .aload_n 0, 0, 0, 0, 0), (28, .getfield 44, 11, 18, 2, 747), (31, .iload_n 3, 0, 0, 0, 0), (32, .laload, 41, 0, 0, 0), (33, .lload_n 1, 0, 0, 0, 0), (34, .lcmp, 0, 0, 0, 0), (35, .ifCond .ge (12), 47, 0, 0, 0), (38, .aload_n 0, 0, 0, 0, 0), (39, .getfield 44, 11, 18, 2, 747), (42, .iload_n 3, 0, 0, 0, 0), (43, .laload, 41, 0, 0, 0), (44, .goto (4), 48, 0, 0, 0), (47, .lload_n 1, 0, 0, 0, 0), (48, .lstore_n 1, 0, 0, 0, 0), (49, .iinc 3 1, 0, 0, 0, 0), (52, .goto (-41), 11, 0, 0, 0), (55, .iconst 0, 0, 0, 0, 0), (56, .istore_n 3, 0, 0, 0, 0), (57, .iload_n 3, 0, 0, 0, 0), (58, .aload_n 0, 0, 0, 0, 0), (59, .getfield 89, 11, 23, 0, 752), (62, .if_icmp .ge (84), 146, 0, 0, 0), (65, .aload_n 0, 0, 0, 0, 0), (66, .getfield 60, 11, 24, 2, 753), (69, .iload_n 3, 0, 0, 0, 0), (70, .iaload, 46, 0, 0, 0), (71, .iconst 1, 0, 0, 0, 0), (72, .if_icmp .eq (13), 85, 0, 0, 0), (75, .aload_n 0, 0, 0, 0, 0), (76, .getfield 60, 11, 24, 2, 753), (79, .iload_n 3, 0, 0, 0, 0), (80, .iaload, 46, 0, 0, 0), (81, .iconst 2, 0, 0, 0, 0), (82, .if_icmp .ne (20), 102, 0, 0, 0), (85, .aload_n 0, 0, 0, 0, 0), (86, .getfield 66, 11, 26, 2, 755), (89, .iload_n 3, 0, 0, 0, 0), (90, .laload, 48, 0, 0, 0), (91, .ldc2_w 106, 18446744073709551615, 0, 0, 845), (94, .lcmp, 0, 0, 0, 0), (95, .ifCond .eq (7), 102, 0, 0, 0), (98, .iconst 1, 0, 0, 0, 0), (99, .goto (4), 103, 0, 0, 0), (102, .iconst 0, 0, 0, 0, 0), (103, .istore 4, 0, 0, 0, 0), (105, .iload 4, 0, 0, 0, 0), (107, .ifCond .eq (31), 138, 0, 0, 0), (110, .lload_n 1, 0, 0, 0, 0), (111, .ldc2_w 106, 18446744073709551615, 0, 0, 845), (114, .lcmp, 0, 0, 0, 0), (115, .ifCond .eq (14), 129, 0, 0, 0), (118, .aload_n 0, 0, 0, 0, 0), (119, .getfield 66, 11, 26, 2, 755), (122, .iload_n 3, 0, 0, 0, 0), (123, .laload, 48, 0, 0, 0), (124, .lload_n 1, 0, 0, 0, 0), (125, .lcmp, 0, 0, 0, 0), (126, .ifCond .ge (12), 138, 0, 0, 0), (129, .aload_n 0, 0, 0, 0, 0), (130, .getfield 66, 11, 26, 2, 755), (133, .iload_n 3, 0, 0, 0, 0), (134, .laload, 48, 0, 0, 0), (135, .goto (4), 139, 0, 0, 0), (138, .lload_n 1, 0, 0, 0, 0), (139, .lstore_n 1, 0, 0, 0, 0), (140, .iinc 3 1, 0, 0, 0, 0), (143, .goto (-86), 57, 0, 0, 0), (146, .lload_n 1, 0, 0, 0, 0), (147, .lreturn, 0, 0, 0, 0)]
abbrev ci_104 : List Nat := []
theorem tk_104 : wm_tb (wm_mr 104) (wm_my 104).cls (wm_my 104).name (wm_mrt 104) ci_104 (wm_mb 104) tb_104 = true := by decide +kernel
theorem oi_104 : ci_104.all (wm_oib (wm_mr 104)) = true := by decide +kernel
/-- CycleKernelModel.some(I)Z -/
def tb_105 : wm_T := [(0, .iconst 0, 0, 0, 0, 0), (1, .istore_n 2, 0, 0, 0, 0), (2, .iconst 0, 0, 0, 0, 0), (3, .istore_n 3, 0, 0, 0, 0), (4, .iload_n 3, 0, 0, 0, 0), (5, .aload_n 0, 0, 0, 0, 0), (6, .getfield 89, 11, 23, 0, 752), (9, .if_icmp .ge (29), 38, 0, 0, 0), (12, .iload_n 2, 0, 0, 0, 0), (13, .ifCond .ne (13), 26, 0, 0, 0), (16, .aload_n 0, 0, 0, 0, 0), (17, .getfield 60, 11, 24, 2, 753), (20, .iload_n 3, 0, 0, 0, 0), (21, .iaload, 46, 0, 0, 0), (22, .iload_n 1, 0, 0, 0, 0), (23, .if_icmp .ne (7), 30, 0, 0, 0), (26, .iconst 1, 0, 0, 0, 0), (27, .goto (4), 31, 0, 0, 0), (30, .iconst 0, 0, 0, 0, 0), (31, .istore_n 2, 0, 0, 0, 0), (32, .iinc 3 1, 0, 0, 0, 0), (35, .goto (-31), 4, 0, 0, 0), (38, .iload_n 2, 0, 0, 0, 0), (39, .ireturn, 1, 0, 0, 0)]
abbrev ci_105 : List Nat := []
theorem tk_105 : wm_tb (wm_mr 105) (wm_my 105).cls (wm_my 105).name (wm_mrt 105) ci_105 (wm_mb 105) tb_105 = true := by decide +kernel
theorem oi_105 : ci_105.all (wm_oib (wm_mr 105)) = true := by decide +kernel
/-- CycleKernelModel.cycle()I -/
def tb_106 : wm_T := [(0, .aload_n 0, 0, 0, 0, 0), (1, .aload_n 0, 0, 0, 0, 0), (2, .getfield 99, 11, 2, 0, 731), (5, .ifCond .eq (19), 24, 0, 0, 0), (8, .aload_n 0, 0, 0, 0, 0), (9, .iconst 0, 0, 0, 0, 0), (10, .invokevirtual 158, 105, 9, 0, 942), (13, .ifCond .ne (11), 24, 0, 0, 0), (16, .aload_n 0, 0, 0, 0, 0), (17, .iconst 2, 0, 0, 0, 0), (18, .invokevirtual 158, 105, 9, 0, 942), (21, .ifCond .eq (7), 28, 0, 0, 0), (24, .iconst 1, 0, 0, 0, 0), (25, .goto (4), 29, 0, 0, 0), (28, .iconst 0, 0, 0, 0, 0), (29, .putfield 86, 11, 0, 0, 729), (32, .aload_n 0, 0, 0, 0, 0), (33, .getfield 86, 11, 0, 0, 729), (36, .ifCond .le (5), 41, 0, 0, 0), (39, .iconst 0, 0, 0, 0, 0), (40, .ireturn, 0, 0, 0, 0), (41, .aload_n 0, 0, 0, 0, 0), (42, .invokevirtual 161, 104, 9, 0, 946), (45, .lstore_n 1, 0, 0, 0, 0), (46, .lload_n 1, 0, 0, 0, 0), (47, .ldc2_w 106, 18446744073709551615, 0, 0, 845), (50, .lcmp, 0, 0, 0, 0), (51, .ifCond .ne (5), 56, 0, 0, 0), (54, .iconst 0, 0, 0, 0, 0), (55, .ireturn, 0, 0, 0, 0), (56, .lload_n 1, 0, 0, 0, 0), (57, .aload_n 0, 0, 0, 0, 0), (58, .getfield 139, 11, 32, 1, 761), (61, .lcmp, 0, 0, 0, 0), (62, .ifCond .ne (7), 69, 0, 0, 0), (65, .iconst 1, 0, 0, 0, 0), (66, .goto (4), 70, 0, 0, 0), (69, .iconst 0, 0, 0, 0, 0), (70, .istore_n 3, 0, 0, 0, 0), (71, .iload_n 3, 0, 0, 0, 0), (72, .ifCond .eq (16), 88, 0, 0, 0), (75, .aload_n 0, 0, 0, 0, 0), (76, .getfield 165, 11, 33, 0, 762), (79, .aload_n 0, 0, 0, 0, 0), (80, .getfield 82, 11, 1, 0, 730), (83, .if_icmp .ne (5), 88, 0, 0, 0), (86, .iconst 3, 0, 0, 0, 0), (87, .ireturn, 0, 0, 0, 0), (88, .aload_n 0, 0, 0, 0, 0), (89, .iload_n 3, 0, 0, 0, 0), (90, .ifCond .eq (12), 102, 0, 0, 0), (93, .aload_n 0, 0, 0, 0, 0), (94, .getfield 165, 11, 33, 0, 762), (97, .iconst 1, 0, 0, 0, 0), (98, .iadd, 0, 0, 0, 0), (99, .goto (4), 103, 0, 0, 0), (102, .iconst 0, 0, 0, 0, 0), (103, .putfield 165, 11, 33, 0, 762), (106, .aload_n 0, 0, 0, 0, 0), (107, .lload_n 1, 0, 0, 0, 0), (108, .putfield 139, 11, 32, 1, 761), (111, .aload_n 0, 0, 0, 0, 0), (112, .invokevirtual 168, 107, 9, 0, 947), (115, .iconst 0, 0, 0, 0, 0), (116, .istore 4, 0, 0, 0, 0), (118, .iload 4, 0, 0, 0, 0), (120, .aload_n 0, 0, 0, 0, 0), (121, .getfield 92, 11, 3, 0, 732), (124, .if_icmp .ge (15), 139, 0, 0, 0), (127, .aload_n 0, 0, 0, 0, 0), (128, .iload 4, 0, 0, 0, 0), (130, .invokevirtual 171, 108, 9, 0, 951), (133, .iinc 4 1, 0, 0, 0, 0), (136, .goto (-18), 118, 0, 0, 0), (139, .iconst 0, 0, 0, 0, 0), (140, .istore 4, 0, 0, 0, 0), (142, .iload 4, 0, 0, 0, 0), (144, .aload_n 0, 0, 0, 0, 0), (145, .getfield 89, 11, 23, 0, 752), (148, .if_icmp .ge (26), 174, 0, 0, 0), (151, .aload_n 0, 0, 0, 0, 0), (152, .getfield 60, 11, 24, 2, 753), (155, .iload 4, 0, 0, 0, 0), (157, .iaload, 46, 0, 0, 0), (158, .iconst 1, 0, 0, 0, 0), (159, .if_icmp .ne (9), 168, 0, 0, 0), (162, .aload_n 0, 0, 0, 0, 0), (163, .iload 4, 0, 0, 0, 0), (165, .invokevirtual 175, 109, 9, 0, 955), (168, .iinc 4 1, 0, 0, 0, 0), (171, .goto (-29), 142, 0, 0, 0), (174, .iload_n 3, 0, 0, 0, 0), (175, .ifCond .eq (7), 182, 0, 0, 0), (178, .iconst 2, 0, 0, 0, 0), (179, .goto (4), 183, 0, 0, 0), (182, .iconst 1, 0, 0, 0, 0), (183, .ireturn, 0, 0, 0, 0)]
abbrev ci_106 : List Nat := [104, 105, 107, 108, 109]
theorem tk_106 : wm_tb (wm_mr 106) (wm_my 106).cls (wm_my 106).name (wm_mrt 106) ci_106 (wm_mb 106) tb_106 = true := by decide +kernel
theorem oi_106 : ci_106.all (wm_oib (wm_mr 106)) = true := by decide +kernel
/-- CycleKernelModel.takeDue()V -/
def tb_107 : wm_T := [(0, .iconst 0, 0, 0, 0, 0), (1, .istore_n 1, 0, 0, 0, 0), (2, .iload_n 1, 0, 0, 0, 0), (3, .aload_n 0, 0, 0, 0, 0), (4, .getfield 92, 11, 3, 0, 732), (7, .if_icmp .ge (16), 23, 0, 0, 0), (10, .aload_n 0, 0, 0, 0, 0), (11, .getfield 19, 11, 7, 2, 736), (14, .iload_n 1, 0, 0, 0, 0), (15, .iconst 0, 0, 0, 0, 0), (16, .bastore, 33, 0, 0, 0), (17, .iinc 1 1, 0, 0, 0, 0), (20, .goto (-18), 2, 0, 0, 0), (23, .iconst 0, 0, 0, 0, 0), (24, .istore_n 1, 0, 0, 0, 0), (25, .iconst 0, 0, 0, 0, 0), (26, .istore_n 2, 0, 0, 0, 0), (27, .iload_n 2, 0, 0, 0, 0), (28, .aload_n 0, 0, 0, 0, 0), (29, .getfield 147, 11, 16, 0, 745), (32, .if_icmp .ge (135), 167, 0, 0, 0), (35, .aload_n 0, 0, 0, 0, 0), (36, .getfield 44, 11, 18, 2, 747), (39, .iload_n 2, 0, 0, 0, 0), (40, .laload, 41, 0, 0, 0), (41, .aload_n 0, 0, 0, 0, 0), (42, .getfield 139, 11, 32, 1, 761), (45, .lcmp, 0, 0, 0, 0), (46, .ifCond .gt (106), 152, 0, 0, 0), (49, .aload_n 0, 0, 0, 0, 0), (50, .getfield 38, 11, 15, 2, 744), (53, .aload_n 0, 0, 0, 0, 0), (54, .getfield 41, 11, 17, 2, 746), (57, .iload_n 2, 0, 0, 0, 0), (58, .iaload, 40, 0, 0, 0), (59, .aload_n 0, 0, 0, 0, 0), (60, .getfield 48, 11, 19, 2, 748), (63, .iload_n 2, 0, 0, 0, 0), (64, .iaload, 42, 0, 0, 0), (65, .iastore, 39, 0, 0, 0), (66, .iconst 0, 0, 0, 0, 0), (67, .istore_n 3, 0, 0, 0, 0), (68, .iload_n 3, 0, 0, 0, 0), (69, .aload_n 0, 0, 0, 0, 0), (70, .getfield 92, 11, 3, 0, 732), (73, .if_icmp .ge (76), 149, 0, 0, 0), (76, .aload_n 0, 0, 0, 0, 0), (77, .getfield 19, 11, 7, 2, 736), (80, .iload_n 3, 0, 0, 0, 0), (81, .aload_n 0, 0, 0, 0, 0), (82, .getfield 19, 11, 7, 2, 736), (85, .iload_n 3, 0, 0, 0, 0), (86, .baload, 33, 0, 0, 0), (87, .ifCond .ne (50), 137, 0, 0, 0), (90, .aload_n 0, 0, 0, 0, 0), (91, .getfield 35, 11, 14, 2, 743), (94, .aload_n 0, 0, 0, 0, 0), (95, .getfield 41, 11, 17, 2, 746), (98, .iload_n 2, 0, 0, 0, 0), (99, .iaload, 40, 0, 0, 0), (100, .iaload, 38, 0, 0, 0), (101, .aload_n 0, 0, 0, 0, 0), (102, .getfield 16, 11, 6, 2, 735), (105, .iload_n 3, 0, 0, 0, 0), (106, .iaload, 32, 0, 0, 0), (107, .if_icmp .lt (34), 141, 0, 0, 0), (110, .aload_n 0, 0, 0, 0, 0), (111, .getfield 35, 11, 14, 2, 743), (114, .aload_n 0, 0, 0, 0, 0), (115, .getfield 41, 11, 17, 2, 746), (118, .iload_n 2, 0, 0, 0, 0), (119, .iaload, 40, 0, 0, 0), (120, .iaload, 38, 0, 0, 0), (121, .aload_n 0, 0, 0, 0, 0), (122, .getfield 16, 11, 6, 2, 735), (125, .iload_n 3, 0, 0, 0, 0), (126, .iaload, 32, 0, 0, 0), (127, .aload_n 0, 0, 0, 0, 0), (128, .getfield 13, 11, 5, 2, 734), (131, .iload_n 3, 0, 0, 0, 0), (132, .iaload, 31, 0, 0, 0), (133, .iadd, 0, 0, 0, 0), (134, .if_icmp .ge (7), 141, 0, 0, 0), (137, .iconst 1, 0, 0, 0, 0), (138, .goto (4), 142, 0, 0, 0), (141, .iconst 0, 0, 0, 0, 0), (142, .bastore, 33, 0, 0, 0), (143, .iinc 3 1, 0, 0, 0, 0), (146, .goto (-78), 68, 0, 0, 0), (149, .goto (12), 161, 0, 0, 0), (152, .aload_n 0, 0, 0, 0, 0), (153, .iload_n 2, 0, 0, 0, 0), (154, .iload_n 1, 0, 0, 0, 0), (155, .invokevirtual 154, 99, 9, 0, 914), (158, .iinc 1 1, 0, 0, 0, 0), (161, .iinc 2 1, 0, 0, 0, 0), (164, .goto (-137), 27, 0, 0, 0), (167, .aload_n 0, 0, 0, 0, 0), (168, .iload_n 1, 0, 0, 0, 0), (169, .putfield 147, 11, 16, 0, 745), (172, .return_, 0, 0, 0, 0)]
abbrev ci_107 : List Nat := [99]
theorem tk_107 : wm_tb (wm_mr 107) (wm_my 107).cls (wm_my 107).name (wm_mrt 107) ci_107 (wm_mb 107) tb_107 = true := by decide +kernel
theorem oi_107 : ci_107.all (wm_oib (wm_mr 107)) = true := by decide +kernel
/-- CycleKernelModel.renew(I)V -/
def tb_108 : wm_T := [(0, .aload_n 0, 0, 0, 0, 0), (1, .getfield 23, 11, 8, 2, 737), (4, .iload_n 1, 0, 0, 0, 0), (5, .iconst 0, 0, 0, 0, 0), (6, .bastore, 34, 0, 0, 0), (7, .aload_n 0, 0, 0, 0, 0), (8, .getfield 19, 11, 7, 2, 736), (11, .iload_n 1, 0, 0, 0, 0), (12, .baload, 33, 0, 0, 0), (13, .ifCond .ne (4), 17, 0, 0, 0), (16, .return_, 0, 0, 0, 0), (17, .aload_n 0, 0, 0, 0, 0), (18, .getfield 16, 11, 6, 2, 735), (21, .iload_n 1, 0, 0, 0, 0), (22, .iaload, 32, 0, 0, 0), (23, .istore_n 2, 0, 0, 0, 0), (24, .iload_n 2, 0, 0, 0, 0), (25, .aload_n 0, 0, 0, 0, 0), (26, .getfield 16, 11, 6, 2, 735), (29, .iload_n 1, 0, 0, 0, 0), (30, .iaload, 32, 0, 0, 0), (31, .aload_n 0, 0, 0, 0, 0), (32, .getfield 13, 11, 5, 2, 734), (35, .iload_n 1, 0, 0, 0, 0), (36, .iaload, 31, 0, 0, 0), (37, .iadd, 0, 0, 0, 0), (38, .if_icmp .ge (44), 82, 0, 0, 0), (41, .aload_n 0, 0, 0, 0, 0), (42, .getfield 23, 11, 8, 2, 737), (45, .iload_n 1, 0, 0, 0, 0), (46, .aload_n 0, 0, 0, 0, 0), (47, .getfield 23, 11, 8, 2, 737), (50, .iload_n 1, 0, 0, 0, 0), (51, .baload, 34, 0, 0, 0), (52, .ifCond .ne (18), 70, 0, 0, 0), (55, .aload_n 0, 0, 0, 0, 0), (56, .iload_n 1, 0, 0, 0, 0), (57, .iload_n 2, 0, 0, 0, 0), (58, .invokevirtual 128, 92, 9, 0, 882), (61, .aload_n 0, 0, 0, 0, 0), (62, .getfield 26, 11, 10, 2, 739), (65, .iload_n 2, 0, 0, 0, 0), (66, .iaload, 35, 0, 0, 0), (67, .if_icmp .eq (7), 74, 0, 0, 0), (70, .iconst 1, 0, 0, 0, 0), (71, .goto (4), 75, 0, 0, 0), (74, .iconst 0, 0, 0, 0, 0), (75, .bastore, 34, 0, 0, 0), (76, .iinc 2 1, 0, 0, 0, 0), (79, .goto (-55), 24, 0, 0, 0), (82, .aload_n 0, 0, 0, 0, 0), (83, .getfield 16, 11, 6, 2, 735), (86, .iload_n 1, 0, 0, 0, 0), (87, .iaload, 32, 0, 0, 0), (88, .istore_n 2, 0, 0, 0, 0), (89, .iload_n 2, 0, 0, 0, 0), (90, .aload_n 0, 0, 0, 0, 0), (91, .getfield 16, 11, 6, 2, 735), (94, .iload_n 1, 0, 0, 0, 0), (95, .iaload, 32, 0, 0, 0), (96, .aload_n 0, 0, 0, 0, 0), (97, .getfield 13, 11, 5, 2, 734), (100, .iload_n 1, 0, 0, 0, 0), (101, .iaload, 31, 0, 0, 0), (102, .iadd, 0, 0, 0, 0), (103, .if_icmp .ge (42), 145, 0, 0, 0), (106, .aload_n 0, 0, 0, 0, 0), (107, .getfield 23, 11, 8, 2, 737), (110, .iload_n 1, 0, 0, 0, 0), (111, .baload, 34, 0, 0, 0), (112, .ifCond .eq (33), 145, 0, 0, 0), (115, .aload_n 0, 0, 0, 0, 0), (116, .getfield 29, 11, 11, 2, 740), (119, .iload_n 2, 0, 0, 0, 0), (120, .aload_n 0, 0, 0, 0, 0), (121, .getfield 26, 11, 10, 2, 739), (124, .iload_n 2, 0, 0, 0, 0), (125, .iaload, 35, 0, 0, 0), (126, .iastore, 36, 0, 0, 0), (127, .aload_n 0, 0, 0, 0, 0), (128, .getfield 26, 11, 10, 2, 739), (131, .iload_n 2, 0, 0, 0, 0), (132, .aload_n 0, 0, 0, 0, 0), (133, .iload_n 1, 0, 0, 0, 0), (134, .iload_n 2, 0, 0, 0, 0), (135, .invokevirtual 128, 92, 9, 0, 882), (138, .iastore, 35, 0, 0, 0), (139, .iinc 2 1, 0, 0, 0, 0), (142, .goto (-53), 89, 0, 0, 0), (145, .return_, 0, 0, 0, 0)]
abbrev ci_108 : List Nat := [92]
theorem tk_108 : wm_tb (wm_mr 108) (wm_my 108).cls (wm_my 108).name (wm_mrt 108) ci_108 (wm_mb 108) tb_108 = true := by decide +kernel
theorem oi_108 : ci_108.all (wm_oib (wm_mr 108)) = true := by decide +kernel
/-- CycleKernelModel.look(I)V -/
def tb_109 : wm_T := [(0, .iconst 0, 0, 0, 0, 0), (1, .istore_n 2, 0, 0, 0, 0), (2, .iconst 0, 0, 0, 0, 0), (3, .istore_n 3, 0, 0, 0, 0), (4, .iload_n 3, 0, 0, 0, 0), (5, .aload_n 0, 0, 0, 0, 0), (6, .getfield 92, 11, 3, 0, 732), (9, .if_icmp .ge (43), 52, 0, 0, 0), (12, .iload_n 2, 0, 0, 0, 0), (13, .ifCond .ne (27), 40, 0, 0, 0), (16, .aload_n 0, 0, 0, 0, 0), (17, .getfield 23, 11, 8, 2, 737), (20, .iload_n 3, 0, 0, 0, 0), (21, .baload, 34, 0, 0, 0), (22, .ifCond .eq (22), 44, 0, 0, 0), (25, .aload_n 0, 0, 0, 0, 0), (26, .getfield 69, 11, 27, 2, 756), (29, .sipush 200, 0, 0, 0, 0), (32, .iload_n 1, 0, 0, 0, 0), (33, .imul, 0, 0, 0, 0), (34, .iload_n 3, 0, 0, 0, 0), (35, .iadd, 0, 0, 0, 0), (36, .baload, 49, 0, 0, 0), (37, .ifCond .eq (7), 44, 0, 0, 0), (40, .iconst 1, 0, 0, 0, 0), (41, .goto (4), 45, 0, 0, 0), (44, .iconst 0, 0, 0, 0, 0), (45, .istore_n 2, 0, 0, 0, 0), (46, .iinc 3 1, 0, 0, 0, 0), (49, .goto (-45), 4, 0, 0, 0), (52, .aload_n 0, 0, 0, 0, 0), (53, .getfield 66, 11, 26, 2, 755), (56, .iload_n 1, 0, 0, 0, 0), (57, .laload, 48, 0, 0, 0), (58, .aload_n 0, 0, 0, 0, 0), (59, .getfield 139, 11, 32, 1, 761), (62, .lcmp, 0, 0, 0, 0), (63, .ifCond .ne (13), 76, 0, 0, 0), (66, .aload_n 0, 0, 0, 0, 0), (67, .getfield 60, 11, 24, 2, 753), (70, .iload_n 1, 0, 0, 0, 0), (71, .iconst 0, 0, 0, 0, 0), (72, .iastore, 46, 0, 0, 0), (73, .goto (27), 100, 0, 0, 0), (76, .iload_n 2, 0, 0, 0, 0), (77, .ifCond .eq (23), 100, 0, 0, 0), (80, .aload_n 0, 0, 0, 0, 0), (81, .getfield 60, 11, 24, 2, 753), (84, .iload_n 1, 0, 0, 0, 0), (85, .aload_n 0, 0, 0, 0, 0), (86, .getfield 63, 11, 25, 2, 754), (89, .iload_n 1, 0, 0, 0, 0), (90, .baload, 47, 0, 0, 0), (91, .ifCond .eq (7), 98, 0, 0, 0), (94, .iconst 2, 0, 0, 0, 0), (95, .goto (4), 99, 0, 0, 0), (98, .iconst 0, 0, 0, 0, 0), (99, .iastore, 46, 0, 0, 0), (100, .return_, 0, 0, 0, 0)]
abbrev ci_109 : List Nat := []
theorem tk_109 : wm_tb (wm_mr 109) (wm_my 109).cls (wm_my 109).name (wm_mrt 109) ci_109 (wm_mb 109) tb_109 = true := by decide +kernel
theorem oi_109 : ci_109.all (wm_oib (wm_mr 109)) = true := by decide +kernel
/-- CycleKernelModel.state(I)I -/
def tb_110 : wm_T := [(0, .aload_n 0, 0, 0, 0, 0), (1, .aload_n 0, 0, 0, 0, 0), (2, .iload_n 1, 0, 0, 0, 0), (3, .invokevirtual 111, 80, 9, 0, 850), (6, .ifCond .eq (7), 13, 0, 0, 0), (9, .iconst 1, 0, 0, 0, 0), (10, .goto (4), 14, 0, 0, 0), (13, .iconst 0, 0, 0, 0, 0), (14, .putfield 86, 11, 0, 0, 729), (17, .aload_n 0, 0, 0, 0, 0), (18, .getfield 86, 11, 0, 0, 729), (21, .ifCond .le (7), 28, 0, 0, 0), (24, .iconst 0, 0, 0, 0, 0), (25, .goto (9), 34, 0, 0, 0), (28, .aload_n 0, 0, 0, 0, 0), (29, .getfield 60, 11, 24, 2, 753), (32, .iload_n 1, 0, 0, 0, 0), (33, .iaload, 46, 0, 0, 0), (34, .ireturn, 0, 0, 0, 0)]
abbrev ci_110 : List Nat := [80]
theorem tk_110 : wm_tb (wm_mr 110) (wm_my 110).cls (wm_my 110).name (wm_mrt 110) ci_110 (wm_mb 110) tb_110 = true := by decide +kernel
theorem oi_110 : ci_110.all (wm_oib (wm_mr 110)) = true := by decide +kernel
/-- CycleKernelModel.which(II)I -/
def tb_111 : wm_T := [(0, .aload_n 0, 0, 0, 0, 0), (1, .iload_n 1, 0, 0, 0, 0), (2, .ifCond .lt (8), 10, 0, 0, 0), (5, .iload_n 1, 0, 0, 0, 0), (6, .iconst 3, 0, 0, 0, 0), (7, .if_icmp .le (7), 14, 0, 0, 0), (10, .iconst 1, 0, 0, 0, 0), (11, .goto (4), 15, 0, 0, 0), (14, .iconst 0, 0, 0, 0, 0), (15, .putfield 86, 11, 0, 0, 729), (18, .iconst 0, 0, 0, 0, 0), (19, .istore_n 3, 0, 0, 0, 0), (20, .iconst 0, 0, 0, 0, 0), (21, .istore 4, 0, 0, 0, 0), (23, .iload 4, 0, 0, 0, 0), (25, .aload_n 0, 0, 0, 0, 0), (26, .getfield 89, 11, 23, 0, 752), (29, .if_icmp .ge (42), 71, 0, 0, 0), (32, .aload_n 0, 0, 0, 0, 0), (33, .getfield 86, 11, 0, 0, 729), (36, .ifCond .ne (35), 71, 0, 0, 0), (39, .iload_n 2, 0, 0, 0, 0), (40, .ifCond .lt (31), 71, 0, 0, 0), (43, .aload_n 0, 0, 0, 0, 0), (44, .getfield 60, 11, 24, 2, 753), (47, .iload 4, 0, 0, 0, 0), (49, .iaload, 46, 0, 0, 0), (50, .iload_n 1, 0, 0, 0, 0), (51, .if_icmp .ne (14), 65, 0, 0, 0), (54, .iload_n 3, 0, 0, 0, 0), (55, .iload_n 2, 0, 0, 0, 0), (56, .if_icmp .ne (6), 62, 0, 0, 0), (59, .iload 4, 0, 0, 0, 0), (61, .ireturn, 0, 0, 0, 0), (62, .iinc 3 1, 0, 0, 0, 0), (65, .iinc 4 1, 0, 0, 0, 0), (68, .goto (-45), 23, 0, 0, 0), (71, .iconst (-1), 0, 0, 0, 0), (72, .ireturn, 0, 0, 0, 0)]
abbrev ci_111 : List Nat := []
theorem tk_111 : wm_tb (wm_mr 111) (wm_my 111).cls (wm_my 111).name (wm_mrt 111) ci_111 (wm_mb 111) tb_111 = true := by decide +kernel
theorem oi_111 : ci_111.all (wm_oib (wm_mr 111)) = true := by decide +kernel
/-- CycleKernelModel.value(IIZ)I -/
def tb_112 : wm_T := [(0, .aload_n 0, 0, 0, 0, 0), (1, .aload_n 0, 0, 0, 0, 0), (2, .iload_n 1, 0, 0, 0, 0), (3, .iload_n 2, 0, 0, 0, 0), (4, .invokevirtual 121, 82, 9, 0, 870), (7, .ifCond .eq (7), 14, 0, 0, 0), (10, .iconst 1, 0, 0, 0, 0), (11, .goto (4), 15, 0, 0, 0), (14, .iconst 0, 0, 0, 0, 0), (15, .putfield 86, 11, 0, 0, 729), (18, .aload_n 0, 0, 0, 0, 0), (19, .getfield 86, 11, 0, 0, 729), (22, .ifCond .le (7), 29, 0, 0, 0), (25, .iconst 0, 0, 0, 0, 0), (26, .goto (36), 62, 0, 0, 0), (29, .iload_n 3, 0, 0, 0, 0), (30, .ifCond .eq (19), 49, 0, 0, 0), (33, .aload_n 0, 0, 0, 0, 0), (34, .getfield 29, 11, 11, 2, 740), (37, .aload_n 0, 0, 0, 0, 0), (38, .getfield 16, 11, 6, 2, 735), (41, .iload_n 1, 0, 0, 0, 0), (42, .iaload, 32, 0, 0, 0), (43, .iload_n 2, 0, 0, 0, 0), (44, .iadd, 0, 0, 0, 0), (45, .iaload, 36, 0, 0, 0), (46, .goto (16), 62, 0, 0, 0), (49, .aload_n 0, 0, 0, 0, 0), (50, .getfield 26, 11, 10, 2, 739), (53, .aload_n 0, 0, 0, 0, 0), (54, .getfield 16, 11, 6, 2, 735), (57, .iload_n 1, 0, 0, 0, 0), (58, .iaload, 32, 0, 0, 0), (59, .iload_n 2, 0, 0, 0, 0), (60, .iadd, 0, 0, 0, 0), (61, .iaload, 35, 0, 0, 0), (62, .ireturn, 0, 0, 0, 0)]
abbrev ci_112 : List Nat := [82]
theorem tk_112 : wm_tb (wm_mr 112) (wm_my 112).cls (wm_my 112).name (wm_mrt 112) ci_112 (wm_mb 112) tb_112 = true := by decide +kernel
theorem oi_112 : ci_112.all (wm_oib (wm_mr 112)) = true := by decide +kernel
/-- CycleKernelModel.marks(I)I -/
def tb_113 : wm_T := [(0, .aload_n 0, 0, 0, 0, 0), (1, .aload_n 0, 0, 0, 0, 0), (2, .iload_n 1, 0, 0, 0, 0), (3, .invokevirtual 95, 81, 9, 0, 854), (6, .ifCond .eq (7), 13, 0, 0, 0), (9, .iconst 1, 0, 0, 0, 0), (10, .goto (4), 14, 0, 0, 0), (13, .iconst 0, 0, 0, 0, 0), (14, .putfield 86, 11, 0, 0, 729), (17, .aload_n 0, 0, 0, 0, 0), (18, .getfield 86, 11, 0, 0, 729), (21, .ifCond .le (7), 28, 0, 0, 0), (24, .iconst 0, 0, 0, 0, 0), (25, .goto (30), 55, 0, 0, 0), (28, .aload_n 0, 0, 0, 0, 0), (29, .getfield 23, 11, 8, 2, 737), (32, .iload_n 1, 0, 0, 0, 0), (33, .baload, 34, 0, 0, 0), (34, .ifCond .eq (7), 41, 0, 0, 0), (37, .iconst 3, 0, 0, 0, 0), (38, .goto (17), 55, 0, 0, 0), (41, .aload_n 0, 0, 0, 0, 0), (42, .getfield 19, 11, 7, 2, 736), (45, .iload_n 1, 0, 0, 0, 0), (46, .baload, 33, 0, 0, 0), (47, .ifCond .eq (7), 54, 0, 0, 0), (50, .iconst 1, 0, 0, 0, 0), (51, .goto (4), 55, 0, 0, 0), (54, .iconst 0, 0, 0, 0, 0), (55, .ireturn, 0, 0, 0, 0)]
abbrev ci_113 : List Nat := [81]
theorem tk_113 : wm_tb (wm_mr 113) (wm_my 113).cls (wm_my 113).name (wm_mrt 113) ci_113 (wm_mb 113) tb_113 = true := by decide +kernel
theorem oi_113 : ci_113.all (wm_oib (wm_mr 113)) = true := by decide +kernel
/-- CycleKernelModel.event(I)I -/
def tb_114 : wm_T := [(0, .aload_n 0, 0, 0, 0, 0), (1, .iconst 0, 0, 0, 0, 0), (2, .putfield 86, 11, 0, 0, 729), (5, .iconst 0, 0, 0, 0, 0), (6, .istore_n 2, 0, 0, 0, 0), (7, .iconst 0, 0, 0, 0, 0), (8, .istore_n 3, 0, 0, 0, 0), (9, .iload_n 3, 0, 0, 0, 0), (10, .aload_n 0, 0, 0, 0, 0), (11, .getfield 92, 11, 3, 0, 732), (14, .if_icmp .ge (32), 46, 0, 0, 0), (17, .iload_n 1, 0, 0, 0, 0), (18, .ifCond .lt (28), 46, 0, 0, 0), (21, .aload_n 0, 0, 0, 0, 0), (22, .getfield 23, 11, 8, 2, 737), (25, .iload_n 3, 0, 0, 0, 0), (26, .baload, 34, 0, 0, 0), (27, .ifCond .eq (13), 40, 0, 0, 0), (30, .iload_n 2, 0, 0, 0, 0), (31, .iload_n 1, 0, 0, 0, 0), (32, .if_icmp .ne (5), 37, 0, 0, 0), (35, .iload_n 3, 0, 0, 0, 0), (36, .ireturn, 0, 0, 0, 0), (37, .iinc 2 1, 0, 0, 0, 0), (40, .iinc 3 1, 0, 0, 0, 0), (43, .goto (-34), 9, 0, 0, 0), (46, .iconst (-1), 0, 0, 0, 0), (47, .ireturn, 0, 0, 0, 0)]
abbrev ci_114 : List Nat := []
theorem tk_114 : wm_tb (wm_mr 114) (wm_my 114).cls (wm_my 114).name (wm_mrt 114) ci_114 (wm_mb 114) tb_114 = true := by decide +kernel
theorem oi_114 : ci_114.all (wm_oib (wm_mr 114)) = true := by decide +kernel
/-- CycleKernelModel.now()J -/
def tb_115 : wm_T := [(0, .aload_n 0, 0, 0, 0, 0), (1, .iconst 0, 0, 0, 0, 0), (2, .putfield 86, 11, 0, 0, 729), (5, .aload_n 0, 0, 0, 0, 0), (6, .getfield 139, 11, 32, 1, 761), (9, .lreturn, 0, 0, 0, 0)]
abbrev ci_115 : List Nat := []
theorem tk_115 : wm_tb (wm_mr 115) (wm_my 115).cls (wm_my 115).name (wm_mrt 115) ci_115 (wm_mb 115) tb_115 = true := by decide +kernel
theorem oi_115 : ci_115.all (wm_oib (wm_mr 115)) = true := by decide +kernel
/-- CycleKernelModel.step()I -/
def tb_116 : wm_T := [(0, .aload_n 0, 0, 0, 0, 0), (1, .iconst 0, 0, 0, 0, 0), (2, .putfield 86, 11, 0, 0, 729), (5, .aload_n 0, 0, 0, 0, 0), (6, .getfield 165, 11, 33, 0, 762), (9, .ireturn, 0, 0, 0, 0)]
abbrev ci_116 : List Nat := []
theorem tk_116 : wm_tb (wm_mr 116) (wm_my 116).cls (wm_my 116).name (wm_mrt 116) ci_116 (wm_mb 116) tb_116 = true := by decide +kernel
theorem oi_116 : ci_116.all (wm_oib (wm_mr 116)) = true := by decide +kernel
/-- CycleKernelModel.pending(III)I -/
def tb_117 : wm_T := [(0, .aload_n 0, 0, 0, 0, 0), (1, .aload_n 0, 0, 0, 0, 0), (2, .iload_n 1, 0, 0, 0, 0), (3, .invokevirtual 111, 80, 9, 0, 850), (6, .ifCond .ne (12), 18, 0, 0, 0), (9, .aload_n 0, 0, 0, 0, 0), (10, .iload_n 2, 0, 0, 0, 0), (11, .iload_n 3, 0, 0, 0, 0), (12, .invokevirtual 121, 82, 9, 0, 870), (15, .ifCond .eq (7), 22, 0, 0, 0), (18, .iconst 1, 0, 0, 0, 0), (19, .goto (4), 23, 0, 0, 0), (22, .iconst 0, 0, 0, 0, 0), (23, .putfield 86, 11, 0, 0, 729), (26, .aload_n 0, 0, 0, 0, 0), (27, .getfield 86, 11, 0, 0, 729), (30, .ifCond .le (5), 35, 0, 0, 0), (33, .iconst 0, 0, 0, 0, 0), (34, .ireturn, 0, 0, 0, 0), (35, .aload_n 0, 0, 0, 0, 0), (36, .iload_n 1, 0, 0, 0, 0), (37, .aload_n 0, 0, 0, 0, 0), (38, .getfield 16, 11, 6, 2, 735), (41, .iload_n 2, 0, 0, 0, 0), (42, .iaload, 32, 0, 0, 0), (43, .iload_n 3, 0, 0, 0, 0), (44, .iadd, 0, 0, 0, 0), (45, .invokevirtual 114, 85, 9, 0, 858), (48, .istore 4, 0, 0, 0, 0), (50, .iload 4, 0, 0, 0, 0), (52, .iconst (-1), 0, 0, 0, 0), (53, .if_icmp .ne (5), 58, 0, 0, 0), (56, .iconst (-1), 0, 0, 0, 0), (57, .ireturn, 0, 0, 0, 0), (58, .iconst 0, 0, 0, 0, 0), (59, .istore 5, 0, 0, 0, 0), (61, .iconst 0, 0, 0, 0, 0), (62, .istore 6, 0, 0, 0, 0), (64, .iload 6, 0, 0, 0, 0), (66, .aload_n 0, 0, 0, 0, 0), (67, .getfield 147, 11, 16, 0, 745), (70, .if_icmp .ge (32), 102, 0, 0, 0), (73, .aload_n 0, 0, 0, 0, 0), (74, .getfield 41, 11, 17, 2, 746), (77, .iload 6, 0, 0, 0, 0), (79, .iaload, 40, 0, 0, 0), (80, .iload 4, 0, 0, 0, 0), (82, .if_icmp .ne (10), 92, 0, 0, 0), (85, .iload 5, 0, 0, 0, 0), (87, .iconst 1, 0, 0, 0, 0), (88, .iadd, 0, 0, 0, 0), (89, .goto (5), 94, 0, 0, 0), (92, .iload 5, 0, 0, 0, 0), (94, .istore 5, 0, 0, 0, 0), (96, .iinc 6 1, 0, 0, 0, 0), (99, .goto (-35), 64, 0, 0, 0), (102, .iload 5, 0, 0, 0, 0), (104, .ireturn, 0, 0, 0, 0)]
abbrev ci_117 : List Nat := [80, 82, 85]
theorem tk_117 : wm_tb (wm_mr 117) (wm_my 117).cls (wm_my 117).name (wm_mrt 117) ci_117 (wm_mb 117) tb_117 = true := by decide +kernel
theorem oi_117 : ci_117.all (wm_oib (wm_mr 117)) = true := by decide +kernel
/-- CycleKernelModel.projected(IIIJ)I -/
def tb_118 : wm_T := [(0, .aload_n 0, 0, 0, 0, 0), (1, .aload_n 0, 0, 0, 0, 0), (2, .iload_n 1, 0, 0, 0, 0), (3, .invokevirtual 111, 80, 9, 0, 850), (6, .ifCond .ne (12), 18, 0, 0, 0), (9, .aload_n 0, 0, 0, 0, 0), (10, .iload_n 2, 0, 0, 0, 0), (11, .iload_n 3, 0, 0, 0, 0), (12, .invokevirtual 121, 82, 9, 0, 870), (15, .ifCond .eq (7), 22, 0, 0, 0), (18, .iconst 1, 0, 0, 0, 0), (19, .goto (18), 37, 0, 0, 0), (22, .lload 4, 0, 0, 0, 0), (24, .aload_n 0, 0, 0, 0, 0), (25, .getfield 139, 11, 32, 1, 761), (28, .lcmp, 0, 0, 0, 0), (29, .ifCond .ge (7), 36, 0, 0, 0), (32, .iconst 2, 0, 0, 0, 0), (33, .goto (4), 37, 0, 0, 0), (36, .iconst 0, 0, 0, 0, 0), (37, .putfield 86, 11, 0, 0, 729), (40, .aload_n 0, 0, 0, 0, 0), (41, .getfield 86, 11, 0, 0, 729), (44, .ifCond .le (5), 49, 0, 0, 0), (47, .iconst 0, 0, 0, 0, 0), (48, .ireturn, 0, 0, 0, 0), (49, .aload_n 0, 0, 0, 0, 0), (50, .iload_n 1, 0, 0, 0, 0), (51, .aload_n 0, 0, 0, 0, 0), (52, .getfield 16, 11, 6, 2, 735), (55, .iload_n 2, 0, 0, 0, 0), (56, .iaload, 32, 0, 0, 0), (57, .iload_n 3, 0, 0, 0, 0), (58, .iadd, 0, 0, 0, 0), (59, .invokevirtual 114, 85, 9, 0, 858), (62, .istore 6, 0, 0, 0, 0), (64, .iload 6, 0, 0, 0, 0), (66, .iconst (-1), 0, 0, 0, 0), (67, .if_icmp .ne (5), 72, 0, 0, 0), (70, .iconst 0, 0, 0, 0, 0), (71, .ireturn, 0, 0, 0, 0), (72, .aload_n 0, 0, 0, 0, 0), (73, .getfield 38, 11, 15, 2, 744), (76, .iload 6, 0, 0, 0, 0), (78, .iaload, 39, 0, 0, 0), (79, .istore 7, 0, 0, 0, 0), (81, .iconst 0, 0, 0, 0, 0), (82, .istore 8, 0, 0, 0, 0), (84, .iload 8, 0, 0, 0, 0), (86, .aload_n 0, 0, 0, 0, 0), (87, .getfield 147, 11, 16, 0, 745), (90, .if_icmp .ge (48), 138, 0, 0, 0), (93, .aload_n 0, 0, 0, 0, 0), (94, .getfield 41, 11, 17, 2, 746), (97, .iload 8, 0, 0, 0, 0), (99, .iaload, 40, 0, 0, 0), (100, .iload 6, 0, 0, 0, 0), (102, .if_icmp .ne (26), 128, 0, 0, 0), (105, .aload_n 0, 0, 0, 0, 0), (106, .getfield 44, 11, 18, 2, 747), (109, .iload 8, 0, 0, 0, 0), (111, .laload, 41, 0, 0, 0), (112, .lload 4, 0, 0, 0, 0), (114, .lcmp, 0, 0, 0, 0), (115, .ifCond .gt (13), 128, 0, 0, 0), (118, .aload_n 0, 0, 0, 0, 0), (119, .getfield 48, 11, 19, 2, 748), (122, .iload 8, 0, 0, 0, 0), (124, .iaload, 42, 0, 0, 0), (125, .goto (5), 130, 0, 0, 0), (128, .iload 7, 0, 0, 0, 0), (130, .istore 7, 0, 0, 0, 0), (132, .iinc 8 1, 0, 0, 0, 0), (135, .goto (-51), 84, 0, 0, 0), (138, .iload 7, 0, 0, 0, 0), (140, .ireturn, 0, 0, 0, 0)]
abbrev ci_118 : List Nat := [80, 82, 85]
theorem tk_118 : wm_tb (wm_mr 118) (wm_my 118).cls (wm_my 118).name (wm_mrt 118) ci_118 (wm_mb 118) tb_118 = true := by decide +kernel
theorem oi_118 : ci_118.all (wm_oib (wm_mr 118)) = true := by decide +kernel
end
section
/-! THE REFERENCE's STATE: what its one object and its arrays hold, by tag and place -/
abbrev md_M : Type := (Nat → Nat → Int32) × (Nat → Nat → Int64)
def md_u {α : Type} (f : Nat → Nat → α) (t k : Nat) (v : α) : Nat → Nat → α := fun t' k' => if t' = t ∧ k' = k then v else f t' k'
theorem md_u_s {α : Type} {f : Nat → Nat → α} {t k : Nat} {v : α} : md_u f t k v t k = v := by simp [md_u]
theorem md_u_t {α : Type} {f : Nat → Nat → α} {t t' k : Nat} {v : α} (h : t' ≠ t) : md_u f t k v t' = f t' := by funext k'; simp [md_u, h]
theorem md_u_k {α : Type} {f : Nat → Nat → α} {t t' k k' : Nat} {v : α} (h : k' ≠ k) : md_u f t k v t' k' = f t' k' := by simp [md_u, h]
/-- its arrays: the field's place, the tag, the length -/
def md_as : List (Nat × Nat × Nat) := [(4, 30, 200), (5, 31, 200), (6, 32, 200), (7, 33, 200), (8, 34, 200), (10, 35, 512), (11, 36, 512), (13, 37, 512), (14, 38, 512), (15, 39, 512), (17, 40, 8192), (18, 41, 8192), (19, 42, 8192), (20, 43, 8208), (21, 44, 8208), (22, 45, 8208), (24, 46, 64), (25, 47, 64), (26, 48, 64), (27, 49, 12800), (28, 50, 200), (29, 51, 1024), (30, 52, 16)]
def md_R (h : wm_H) (m : Nat) (ad : Nat → Nat) (M : md_M) : Prop :=
  h.1 m = 11 ∧ (∀ k, h.2.2.1 11 k m = M.1 11 k) ∧ (∀ k, h.2.2.2.1 11 k m = M.2 11 k) ∧ ∀ x ∈ md_as, h.2.2.2.2.1 11 x.1 m = some (ad x.2.1) ∧ h.1 (ad x.2.1) = x.2.1 ∧ h.2.1 (ad x.2.1) = x.2.2 ∧ (∀ k, h.2.2.1 x.2.1 k (ad x.2.1) = M.1 x.2.1 k) ∧ ∀ k, h.2.2.2.1 x.2.1 k (ad x.2.1) = M.2 x.2.1 k
/-- nothing else has changed -/
def md_F (h0 h : wm_H) : Prop := h.1 = h0.1 ∧ h.2.1 = h0.2.1 ∧ (∀ t, t < 30 → t ≠ 11 → h.2.2.1 t = h0.2.2.1 t ∧ h.2.2.2.1 t = h0.2.2.2.1 t) ∧ h.2.2.2.2.1 = h0.2.2.2.2.1 ∧ h.2.2.2.2.2 = h0.2.2.2.2.2
def md_S (h0 h : wm_H) (m : Nat) (ad : Nat → Nat) (M : md_M) : Prop := md_R h m ad M ∧ md_F h0 h
theorem md_S_rf {h : wm_H} {m : Nat} {ad : Nat → Nat} {M : md_M} (H : md_R h m ad M) : md_S h h m ad M := ⟨H, rfl, rfl, fun _ _ _ => ⟨rfl, rfl⟩, rfl, rfl⟩
theorem md_F_tr {h0 h1 h2 : wm_H} (a : md_F h0 h1) (b : md_F h1 h2) : md_F h0 h2 :=
  ⟨b.1.trans a.1, b.2.1.trans a.2.1, fun t h h' => ⟨(b.2.2.1 t h h').1.trans (a.2.2.1 t h h').1, (b.2.2.1 t h h').2.trans (a.2.2.1 t h h').2⟩, b.2.2.2.1.trans a.2.2.2.1, b.2.2.2.2.trans a.2.2.2.2⟩
theorem md_as_t : ∀ x ∈ md_as, 30 ≤ x.2.1 := by decide
theorem md_as_i : ∀ x ∈ md_as, ∀ y ∈ md_as, x.2.1 = y.2.1 → x = y := by decide
theorem md_arr {h0 h : wm_H} {m : Nat} {ad : Nat → Nat} {M : md_M} (H : md_S h0 h m ad M) (x : Nat × Nat × Nat) (hx : x ∈ md_as) : h.2.2.2.2.1 11 x.1 m = some (ad x.2.1) ∧ h.1 (ad x.2.1) = x.2.1 ∧ h.2.1 (ad x.2.1) = x.2.2 ∧ (∀ k, h.2.2.1 x.2.1 k (ad x.2.1) = M.1 x.2.1 k) ∧ ∀ k, h.2.2.2.1 x.2.1 k (ad x.2.1) = M.2 x.2.1 k := H.1.2.2.2 x hx
theorem md_fi {h0 h : wm_H} {m : Nat} {ad : Nat → Nat} {M : md_M} (H : md_S h0 h m ad M) (k : Nat) (v : Int32) : md_S h0 (wm_wr h 11 k m (.inl v)) m ad (md_u M.1 11 k v, M.2) := by
  obtain ⟨⟨r1, r2, r3, r4⟩, f1, f2, f3, f4, f5⟩ := H
  refine ⟨⟨r1, fun j => ?_, r3, fun x hx => ?_⟩, f1, f2, fun t h1 h2 => ⟨?_, (f3 t h1 h2).2⟩, f4, f5⟩
  · show wm_up h.2.2.1 11 k m v 11 j m = md_u M.1 11 k v 11 j
    by_cases e : j = k
    · subst e; rw [wm_up_self, md_u_s]
    · rw [wm_up_k e, md_u_k e]; exact r2 j
  · obtain ⟨a1, a2, a3, a4, a5⟩ := r4 x hx
    have ht := md_as_t x hx
    refine ⟨a1, a2, a3, fun j => ?_, a5⟩
    show wm_up h.2.2.1 11 k m v x.2.1 j (ad x.2.1) = md_u M.1 11 k v x.2.1 j
    rw [wm_up_t (by omega), md_u_t (by omega)]
    exact a4 j
  · show wm_up h.2.2.1 11 k m v t = h0.2.2.1 t
    rw [wm_up_t h2]
    exact (f3 t h1 h2).1
theorem md_fl {h0 h : wm_H} {m : Nat} {ad : Nat → Nat} {M : md_M} (H : md_S h0 h m ad M) (k : Nat) (v : Int64) : md_S h0 (wm_wr h 11 k m (.inr (.inl v))) m ad (M.1, md_u M.2 11 k v) := by
  obtain ⟨⟨r1, r2, r3, r4⟩, f1, f2, f3, f4, f5⟩ := H
  refine ⟨⟨r1, r2, fun j => ?_, fun x hx => ?_⟩, f1, f2, fun t h1 h2 => ⟨(f3 t h1 h2).1, ?_⟩, f4, f5⟩
  · show wm_up h.2.2.2.1 11 k m v 11 j m = md_u M.2 11 k v 11 j
    by_cases e : j = k
    · subst e; rw [wm_up_self, md_u_s]
    · rw [wm_up_k e, md_u_k e]; exact r3 j
  · obtain ⟨a1, a2, a3, a4, a5⟩ := r4 x hx
    have ht := md_as_t x hx
    refine ⟨a1, a2, a3, a4, fun j => ?_⟩
    show wm_up h.2.2.2.1 11 k m v x.2.1 j (ad x.2.1) = md_u M.2 11 k v x.2.1 j
    rw [wm_up_t (by omega), md_u_t (by omega)]
    exact a5 j
  · show wm_up h.2.2.2.1 11 k m v t = h0.2.2.2.1 t
    rw [wm_up_t h2]
    exact (f3 t h1 h2).2
theorem md_ai {h0 h : wm_H} {m : Nat} {ad : Nat → Nat} {M : md_M} (H : md_S h0 h m ad M) (y : Nat × Nat × Nat) (hy : y ∈ md_as) (k : Nat) (v : Int32) : md_S h0 (wm_wr h y.2.1 k (ad y.2.1) (.inl v)) m ad (md_u M.1 y.2.1 k v, M.2) := by
  obtain ⟨⟨r1, r2, r3, r4⟩, f1, f2, f3, f4, f5⟩ := H
  have ht := md_as_t y hy
  refine ⟨⟨r1, fun j => ?_, r3, fun x hx => ?_⟩, f1, f2, fun t h1 h2 => ⟨?_, (f3 t h1 h2).2⟩, f4, f5⟩
  · show wm_up h.2.2.1 y.2.1 k (ad y.2.1) v 11 j m = md_u M.1 y.2.1 k v 11 j
    rw [wm_up_t (by omega), md_u_t (by omega)]
    exact r2 j
  · obtain ⟨a1, a2, a3, a4, a5⟩ := r4 x hx
    refine ⟨a1, a2, a3, fun j => ?_, a5⟩
    show wm_up h.2.2.1 y.2.1 k (ad y.2.1) v x.2.1 j (ad x.2.1) = md_u M.1 y.2.1 k v x.2.1 j
    by_cases e : x.2.1 = y.2.1
    · rw [e] at a4 ⊢
      by_cases e2 : j = k
      · subst e2; rw [wm_up_self, md_u_s]
      · rw [wm_up_k e2, md_u_k e2]; exact a4 j
    · rw [wm_up_t e, md_u_t e]
      exact a4 j
  · show wm_up h.2.2.1 y.2.1 k (ad y.2.1) v t = h0.2.2.1 t
    rw [wm_up_t (by omega)]
    exact (f3 t h1 h2).1
theorem md_al {h0 h : wm_H} {m : Nat} {ad : Nat → Nat} {M : md_M} (H : md_S h0 h m ad M) (y : Nat × Nat × Nat) (hy : y ∈ md_as) (k : Nat) (v : Int64) : md_S h0 (wm_wr h y.2.1 k (ad y.2.1) (.inr (.inl v))) m ad (M.1, md_u M.2 y.2.1 k v) := by
  obtain ⟨⟨r1, r2, r3, r4⟩, f1, f2, f3, f4, f5⟩ := H
  have ht := md_as_t y hy
  refine ⟨⟨r1, r2, fun j => ?_, fun x hx => ?_⟩, f1, f2, fun t h1 h2 => ⟨(f3 t h1 h2).1, ?_⟩, f4, f5⟩
  · show wm_up h.2.2.2.1 y.2.1 k (ad y.2.1) v 11 j m = md_u M.2 y.2.1 k v 11 j
    rw [wm_up_t (by omega), md_u_t (by omega)]
    exact r3 j
  · obtain ⟨a1, a2, a3, a4, a5⟩ := r4 x hx
    refine ⟨a1, a2, a3, a4, fun j => ?_⟩
    show wm_up h.2.2.2.1 y.2.1 k (ad y.2.1) v x.2.1 j (ad x.2.1) = md_u M.2 y.2.1 k v x.2.1 j
    by_cases e : x.2.1 = y.2.1
    · rw [e] at a5 ⊢
      by_cases e2 : j = k
      · subst e2; rw [wm_up_self, md_u_s]
      · rw [wm_up_k e2, md_u_k e2]; exact a5 j
    · rw [wm_up_t e, md_u_t e]
      exact a5 j
  · show wm_up h.2.2.2.1 y.2.1 k (ad y.2.1) v t = h0.2.2.2.1 t
    rw [wm_up_t (by omega)]
    exact (f3 t h1 h2).2
/-- a method's contract, said by what it asks -/
def wm_sp (l : Launch) (D : va_G) (aC : wm_Y) (b0 id : Nat) (sp : List wm_V → wm_H → wm_Q1 → wm_Q2 → Prop) : Prop := ∀ as h q1 q2, sp as h q1 q2 → wm_Met l (wm_my id) (wm_cw id :: wm_WG) (wm_mr id) (wm_Pc D aC b0 as h) (wm_Qc D aC b0 q1 q2) (wm_mc id) (wm_ms id) (fun q => b0 ≤ q)
theorem wm_cx0 {l : Launch} {R : Room} {D : va_G} {aC : wm_Y} {b0 : Nat} {cx : wm_X} : wm_cxok l R D aC b0 cx [] := fun _ h => absurd h List.not_mem_nil
theorem wm_cxc {l : Launch} {R : Room} {D : va_G} {aC : wm_Y} {b0 : Nat} {cx : wm_X} {id : Nat} {ids : List Nat} (h1 : wm_sp l D aC b0 id (cx id)) (h2 : (id :: ids).all (wm_oib R) = true) (h3 : ids.all (wm_oib R) = true → wm_cxok l R D aC b0 cx ids) : wm_cxok l R D aC b0 cx (id :: ids) := by
  rw [List.all_cons, Bool.and_eq_true] at h2
  intro i hi
  rcases List.mem_cons.mp hi with rfl | hi
  · exact ⟨wm_oib_ok h2.1, h1⟩
  · exact h3 h2.2 i hi
theorem wm_cxn {l : Launch} {R : Room} {D : va_G} {aC : wm_Y} {b0 : Nat} {cx : wm_X} : ([] : List Nat).all (wm_oib R) = true → wm_cxok l R D aC b0 cx [] := fun _ => wm_cx0
end
section
/-! THE MACHINE OF WHOLE NUMBERS, 1: ints and longs as Int, references by names; what an instruction asks -/
abbrev wi_V : Type := Int ⊕ (Int ⊕ (Option Nat ⊕ (Int × Int)))
abbrev wi_L : Type := List (Option wi_V)
abbrev wi_N (H : Type) : Type := wi_L → List wi_V → H → Nat → Nat → Prop
abbrev wi_Q1 (H : Type) : Type := Option wi_V → H → Prop
abbrev wi_Q2 (H : Type) : Type := Nat → H → Prop
abbrev wi_X (H : Type) : Type := Nat → List wi_V → H → wi_Q1 H → wi_Q2 H → Prop
abbrev wi_P (H : Type) : Type := Nat → Nat → Nat → Nat → List wi_V → H → wi_Q1 H → Prop
def wi_cat (v : wi_V) : Nat := match v with
  | .inr (.inl _) => 2
  | _ => 1
def wi_r (ρ : Nat → Nat) (v : wi_V) (x : wm_V) : Prop := match v with
  | .inl y => ∃ z, x = .inl z ∧ z.toInt = y
  | .inr (.inl y) => ∃ z, x = .inr (.inl z) ∧ z.toInt = y
  | .inr (.inr (.inl o)) => x = .inr (.inr (o.map ρ))
  | .inr (.inr (.inr p)) => ∃ z z', x = .inl (lg_cmp z z') ∧ z.toInt = p.1 ∧ z'.toInt = p.2
def wi_rs (ρ : Nat → Nat) : List wi_V → List wm_V → Prop
  | [], [] => True
  | v :: r, x :: s => wi_r ρ v x ∧ wi_rs ρ r s
  | _, _ => False
def wi_rl (ρ : Nat → Nat) : wi_L → wm_L → Prop
  | [], [] => True
  | v :: r, x :: s => (∀ w, v = some w → ∃ y, x = some y ∧ wi_r ρ w y) ∧ wi_rl ρ r s
  | _, _ => False
def wi_lk : wi_L → Nat → Option wi_V
  | [], _ => none
  | x :: _, 0 => x
  | _ :: r, k + 1 => wi_lk r k
def wi_nl (x : Option wi_V) : Option wi_V := match x with
  | some (.inr (.inl _)) => none
  | y => y
def wi_s1 : wi_L → Nat → wi_V → wi_L
  | [], _, _ => []
  | _ :: r, 0, v => some v :: r
  | x :: r, 1, v => wi_nl x :: wi_s1 r 0 v
  | x :: r, k + 2, v => x :: wi_s1 r (k + 1) v
def wi_s2 : wi_L → Nat → wi_V → wi_L
  | [], _, _ => []
  | _ :: [], 0, _ => [none]
  | _ :: _ :: r, 0, v => some v :: none :: r
  | x :: r, 1, v => wi_nl x :: wi_s2 r 0 v
  | x :: r, k + 2, v => x :: wi_s2 r (k + 1) v
def wi_en : List wi_V → Nat → wi_L
  | [], n => List.replicate n none
  | v :: r, n => if wi_cat v = 2 then some v :: none :: wi_en r (n - 2) else some v :: wi_en r (n - 1)
def wi_pi (st : List wi_V) (f : Int → List wi_V → Prop) : Prop := match st with
  | .inl x :: r => f x r
  | _ => False
def wi_pj (st : List wi_V) (f : Int → List wi_V → Prop) : Prop := match st with
  | .inr (.inl x) :: r => f x r
  | _ => False
def wi_pr (st : List wi_V) (f : Option Nat → List wi_V → Prop) : Prop := match st with
  | .inr (.inr (.inl x)) :: r => f x r
  | _ => False
def wi_pc (st : List wi_V) (f : Int → Int → List wi_V → Prop) : Prop := match st with
  | .inl x :: r => f x 0 r
  | .inr (.inr (.inr (x, y))) :: r => f x y r
  | _ => False
/-- a value of one word -/
def wi_p1 (st : List wi_V) (f : wi_V → List wi_V → Prop) : Prop := match st with
  | .inl x :: r => f (.inl x) r
  | .inr (.inr (.inl x)) :: r => f (.inr (.inr (.inl x))) r
  | _ => False
def wi_gi (o : Option wi_V) (f : Int → Prop) : Prop := match o with
  | some (.inl x) => f x
  | _ => False
def wi_gj (o : Option wi_V) (f : Int → Prop) : Prop := match o with
  | some (.inr (.inl x)) => f x
  | _ => False
def wi_gr (o : Option wi_V) (f : Option Nat → Prop) : Prop := match o with
  | some (.inr (.inr (.inl x))) => f x
  | _ => False
def wi_br (k : ClassFile.Cond) (x y : Int) (A B : Prop) : Prop := match k with
  | .eq => (x = y → A) ∧ (x ≠ y → B)
  | .ne => (x ≠ y → A) ∧ (x = y → B)
  | .lt => (x < y → A) ∧ (y ≤ x → B)
  | .ge => (y ≤ x → A) ∧ (x < y → B)
  | .gt => (y < x → A) ∧ (x ≤ y → B)
  | .le => (x ≤ y → A) ∧ (y < x → B)
def wi_32 (x : Int) (A : Prop) : Prop := -2147483648 ≤ x ∧ x ≤ 2147483647 ∧ A
def wi_64 (x : Int) (A : Prop) : Prop := -9223372036854775808 ≤ x ∧ x ≤ 9223372036854775807 ∧ A
def wi_pp (n : Nat) (st : List wi_V) (f : List wi_V → List wi_V → Prop) : Prop := if n ≤ st.length then f (st.take n).reverse (st.drop n) else False
abbrev wi_rf (o : Option Nat) : wi_V := .inr (.inr (.inl o))
/-- one instruction; a, b, c: what the table says of it -/
def wi_1 {H : Type} (hp : wi_P H) (RC RS mc ms : Nat) (cx : wi_X H) (qr : wi_Q1 H) (qt : wi_Q2 H) (nx : wi_N H) (jp : Nat → wi_N H) (i : Instr) (a b c : Nat) (lv : wi_L) (st : List wi_V) (h : H) (cu su : Nat) : Prop := match i with
  | .iconst n => nx lv (.inl n :: st) h cu su
  | .bipush n => nx lv (.inl n :: st) h cu su
  | .sipush n => nx lv (.inl n :: st) h cu su
  | .ldc _ => nx lv (.inl (a : Int) :: st) h cu su
  | .lconst n => if (n : Nat) = 0 then nx lv (.inr (.inl 0) :: st) h cu su else nx lv (.inr (.inl 1) :: st) h cu su
  | .ldc2_w _ => if a < 9223372036854775808 then nx lv (.inr (.inl (a : Int)) :: st) h cu su else nx lv (.inr (.inl ((a : Int) - 18446744073709551616)) :: st) h cu su
  | .aconst_null => nx lv (wi_rf none :: st) h cu su
  | .iload k => wi_gi (wi_lk lv k) fun x => nx lv (.inl x :: st) h cu su
  | .iload_n k => wi_gi (wi_lk lv k) fun x => nx lv (.inl x :: st) h cu su
  | .lload k => wi_gj (wi_lk lv k) fun x => nx lv (.inr (.inl x) :: st) h cu su
  | .lload_n k => wi_gj (wi_lk lv k) fun x => nx lv (.inr (.inl x) :: st) h cu su
  | .aload k => wi_gr (wi_lk lv k) fun x => nx lv (wi_rf x :: st) h cu su
  | .aload_n k => wi_gr (wi_lk lv k) fun x => nx lv (wi_rf x :: st) h cu su
  | .istore k => wi_pi st fun x r => if k < lv.length then nx (wi_s1 lv k (.inl x)) r h cu su else False
  | .istore_n k => wi_pi st fun x r => if (k : Nat) < lv.length then nx (wi_s1 lv k (.inl x)) r h cu su else False
  | .lstore k => wi_pj st fun x r => if k + 1 < lv.length then nx (wi_s2 lv k (.inr (.inl x))) r h cu su else False
  | .lstore_n k => wi_pj st fun x r => if (k : Nat) + 1 < lv.length then nx (wi_s2 lv k (.inr (.inl x))) r h cu su else False
  | .astore k => wi_pr st fun x r => if k < lv.length then nx (wi_s1 lv k (wi_rf x)) r h cu su else False
  | .astore_n k => wi_pr st fun x r => if (k : Nat) < lv.length then nx (wi_s1 lv k (wi_rf x)) r h cu su else False
  | .iinc k n => wi_gi (wi_lk lv k) fun x => wi_32 (x + n) (nx (wi_s1 lv k (.inl (x + n))) st h cu su)
  | .iadd => wi_pi st fun y r => wi_pi r fun x r => wi_32 (x + y) (nx lv (.inl (x + y) :: r) h cu su)
  | .isub => wi_pi st fun y r => wi_pi r fun x r => wi_32 (x - y) (nx lv (.inl (x - y) :: r) h cu su)
  | .imul => wi_pi st fun y r => wi_pi r fun x r => wi_32 (x * y) (nx lv (.inl (x * y) :: r) h cu su)
  | .iand => wi_pi st fun y r => wi_pi r fun x r => nx lv (.inl (Int32.ofInt x &&& Int32.ofInt y).toInt :: r) h cu su
  | .ishr => wi_pi st fun y r => wi_pi r fun x r => nx lv (.inl (Int32.ofInt x >>> (Int32.ofInt y &&& 31)).toInt :: r) h cu su
  | .ladd => wi_pj st fun y r => wi_pj r fun x r => wi_64 (x + y) (nx lv (.inr (.inl (x + y)) :: r) h cu su)
  | .lsub => wi_pj st fun y r => wi_pj r fun x r => wi_64 (x - y) (nx lv (.inr (.inl (x - y)) :: r) h cu su)
  | .land => wi_pj st fun y r => wi_pj r fun x r => nx lv (.inr (.inl (Int64.ofInt x &&& Int64.ofInt y).toInt) :: r) h cu su
  | .lor => wi_pj st fun y r => wi_pj r fun x r => nx lv (.inr (.inl (Int64.ofInt x ||| Int64.ofInt y).toInt) :: r) h cu su
  | .lshl => wi_pi st fun y r => wi_pj r fun x r => nx lv (.inr (.inl (Int64.ofInt x <<< ((Int32.ofInt y).toInt64 &&& 63)).toInt) :: r) h cu su
  | .lshr => wi_pi st fun y r => wi_pj r fun x r => nx lv (.inr (.inl (Int64.ofInt x >>> ((Int32.ofInt y).toInt64 &&& 63)).toInt) :: r) h cu su
  | .i2l => wi_pi st fun x r => nx lv (.inr (.inl x) :: r) h cu su
  | .lcmp => wi_pj st fun y r => wi_pj r fun x r => nx lv (.inr (.inr (.inr (x, y))) :: r) h cu su
  | .dup => wi_p1 st fun v r => nx lv (v :: v :: r) h cu su
  | .pop => wi_p1 st fun _ r => nx lv r h cu su
  | .dup_x1 => wi_p1 st fun v r => wi_p1 r fun w r => nx lv (v :: w :: v :: r) h cu su
  | .dup2 => if a = 2 then wi_pj st fun x r => nx lv (.inr (.inl x) :: .inr (.inl x) :: r) h cu su else wi_p1 st fun v r => wi_p1 r fun w r => nx lv (v :: w :: v :: w :: r) h cu su
  | .ifCond k _ => wi_pc st fun x y r => wi_br k x y (jp a lv r h cu su) (nx lv r h cu su)
  | .if_icmp k _ => wi_pi st fun y r => wi_pi r fun x r => wi_br k x y (jp a lv r h cu su) (nx lv r h cu su)
  | .if_acmp .eq _ => wi_pr st fun y r => wi_pr r fun x r => hp 7 0 0 0 [wi_rf x, wi_rf y] h fun v _ => match v with
    | some _ => jp a lv r h cu su
    | none => nx lv r h cu su
  | .if_acmp .ne _ => wi_pr st fun y r => wi_pr r fun x r => hp 7 0 0 0 [wi_rf x, wi_rf y] h fun v _ => match v with
    | some _ => nx lv r h cu su
    | none => jp a lv r h cu su
  | .ifnull _ => wi_pr st fun x r => (x = none → jp a lv r h cu su) ∧ (∀ q, x = some q → nx lv r h cu su)
  | .ifnonnull _ => wi_pr st fun x r => (x = none → nx lv r h cu su) ∧ (∀ q, x = some q → jp a lv r h cu su)
  | .goto _ => jp a lv st h cu su
  | .getfield _ => wi_pr st fun o r => hp 0 a b c [wi_rf o] h fun v _ => nx lv (v.toList ++ r) h cu su
  | .putfield _ => match st with
    | v :: r => wi_pr r fun o r => hp 1 a b c [wi_rf o, v] h fun _ h' => nx lv r h' cu su
    | _ => False
  | .arraylength => wi_pr st fun o r => hp 2 a 0 0 [wi_rf o] h fun v _ => nx lv (v.toList ++ r) h cu su
  | .iaload => wi_pi st fun j r => wi_pr r fun o r => hp 3 a 0 0 [wi_rf o, .inl j] h fun v _ => nx lv (v.toList ++ r) h cu su
  | .baload => wi_pi st fun j r => wi_pr r fun o r => hp 3 a 0 0 [wi_rf o, .inl j] h fun v _ => nx lv (v.toList ++ r) h cu su
  | .laload => wi_pi st fun j r => wi_pr r fun o r => hp 3 a 0 1 [wi_rf o, .inl j] h fun v _ => nx lv (v.toList ++ r) h cu su
  | .aaload => wi_pi st fun j r => wi_pr r fun o r => hp 3 a 0 2 [wi_rf o, .inl j] h fun v _ => nx lv (v.toList ++ r) h cu su
  | .iastore => wi_pi st fun x r => wi_pi r fun j r => wi_pr r fun o r => hp 4 a 0 0 [wi_rf o, .inl j, .inl x] h fun _ h' => nx lv r h' cu su
  | .bastore => wi_pi st fun x r => wi_pi r fun j r => wi_pr r fun o r => (x = 0 ∨ x = 1) ∧ hp 4 a 0 0 [wi_rf o, .inl j, .inl x] h fun _ h' => nx lv r h' cu su
  | .lastore => wi_pj st fun x r => wi_pi r fun j r => wi_pr r fun o r => hp 4 a 0 1 [wi_rf o, .inl j, .inr (.inl x)] h fun _ h' => nx lv r h' cu su
  | .aastore => wi_pr st fun x r => wi_pi r fun j r => wi_pr r fun o r => hp 4 a b 2 [wi_rf o, .inl j, wi_rf x] h fun _ h' => nx lv r h' cu su
  | .newarray _ => wi_pi st fun x r => 0 ≤ x ∧ x < 1048576 ∧ cu + 1 ≤ RC ∧ su + x.toNat ≤ RS ∧ hp 5 a 0 0 [.inl x] h fun v h' => nx lv (v.toList ++ r) h' (cu + 1) (su + x.toNat)
  | .anewarray _ => wi_pi st fun x r => 0 ≤ x ∧ x < 1048576 ∧ cu + 1 ≤ RC ∧ su + x.toNat ≤ RS ∧ hp 5 a 0 0 [.inl x] h fun v h' => nx lv (v.toList ++ r) h' (cu + 1) (su + x.toNat)
  | .new _ => cu + 1 ≤ RC ∧ su + b ≤ RS ∧ (if c = 9 then cu + 1 ≤ mc ∧ su + b ≤ ms ∧ (if (st.map wi_cat).sum ≤ 8 then hp 9 0 0 0 [] h fun _ h' => qt a h' else False) else hp 5 a 0 0 [.inl 0] h fun v h' => nx lv (v.toList ++ st) h' (cu + 1) (su + b))
  | .invokespecial _ => if c = 9 then wi_pr st fun o r => match o with
        | some _ => if (r.map wi_cat).sum ≤ 8 then nx lv r h cu su else False
        | none => False
      else cu + wm_mc a ≤ RC ∧ su + wm_ms a ≤ RS ∧ wi_pp (wm_mn a) st fun as r => match as with
        | .inr (.inr (.inl (some _))) :: _ => if (r.map wi_cat).sum ≤ 8 then cx a as h (fun v h' => nx lv (v.toList ++ r) h' (cu + wm_mc a) (su + wm_ms a)) (fun t h' => cu + wm_mc a ≤ mc ∧ su + wm_ms a ≤ ms ∧ qt t h') else False
        | _ => False
  | .invokevirtual _ => cu + wm_mc a ≤ RC ∧ su + wm_ms a ≤ RS ∧ wi_pp (wm_mn a) st fun as r => match as with
        | .inr (.inr (.inl o)) :: _ => if (r.map wi_cat).sum ≤ 8 then hp 8 0 b 0 [wi_rf o] h (fun _ _ => cx a as h (fun v h' => nx lv (v.toList ++ r) h' (cu + wm_mc a) (su + wm_ms a)) (fun t h' => cu + wm_mc a ≤ mc ∧ su + wm_ms a ≤ ms ∧ qt t h')) else False
        | _ => False
  | .invokestatic _ => cu + wm_mc a ≤ RC ∧ su + wm_ms a ≤ RS ∧ wi_pp (wm_mn a) st fun as r => if (r.map wi_cat).sum ≤ 8 then cx a as h (fun v h' => nx lv (v.toList ++ r) h' (cu + wm_mc a) (su + wm_ms a)) (fun t h' => cu + wm_mc a ≤ mc ∧ su + wm_ms a ≤ ms ∧ qt t h') else False
  | .ireturn => wi_pi st fun x r => match r with
    | [] => cu ≤ mc ∧ su ≤ ms ∧ (if a = 1 then (x = 0 ∨ x = 1) ∧ qr (some (.inl x)) h else qr (some (.inl x)) h)
    | _ => False
  | .lreturn => wi_pj st fun x r => match r with
    | [] => cu ≤ mc ∧ su ≤ ms ∧ qr (some (.inr (.inl x))) h
    | _ => False
  | .areturn => wi_pr st fun x r => match r with
    | [] => cu ≤ mc ∧ su ≤ ms ∧ qr (some (wi_rf x)) h
    | _ => False
  | .return_ => match st with
    | [] => cu ≤ mc ∧ su ≤ ms ∧ qr none h
    | _ => False
  | _ => False
/-- what a table must say for it: its numbers are in their ranges -/
def wi_ck (i : Instr) (a : Nat) : Bool := match i with
  | .iconst n => decide (-2147483648 ≤ n ∧ n ≤ 2147483647)
  | .bipush n => decide (-128 ≤ n ∧ n < 128)
  | .sipush n => decide (-32768 ≤ n ∧ n < 32768)
  | .ldc _ => decide (a < 2147483648)
  | .ldc2_w _ => decide (a < 18446744073709551616)
  | .iinc _ n => decide (-2147483648 ≤ n ∧ n ≤ 2147483647)
  | _ => true
/-- what the heap's instructions must be -/
def wi_hk {H : Type} (ρ : Nat → Nat) (Rr : H → wm_H → Prop) (hp : wi_P H) : Prop :=
  (∀ a b c o h k h', hp 0 a b c [wi_rf o] h k → Rr h h' → ∃ q, o.map ρ = some q ∧ h'.1 q = a ∧ ∃ v, wi_r ρ v (wm_wv h' c a b q) ∧ k (some v) h) ∧
  (∀ a b c o v x h k h', hp 1 a b c [wi_rf o, v] h k → Rr h h' → wi_r ρ v x → ∃ q, o.map ρ = some q ∧ h'.1 q = a ∧ wm_vk x = c ∧ (∀ ci, wm_tags a = some (.inl ci) → wm_ty ci b = .boolean → x = .inl 0 ∨ x = .inl 1) ∧ ∃ h2, Rr h2 (wm_wr h' a b q x) ∧ k none h2) ∧
  (∀ a o h k h', hp 2 a 0 0 [wi_rf o] h k → Rr h h' → ∃ q, o.map ρ = some q ∧ h'.1 q = a ∧ ∃ v, wi_r ρ v (.inl (nI (h'.2.1 q))) ∧ k (some v) h) ∧
  (∀ a c o j h k h', hp 3 a 0 c [wi_rf o, .inl j] h k → Rr h h' → ∃ q, o.map ρ = some q ∧ h'.1 q = a ∧ 0 ≤ j ∧ j < h'.2.1 q ∧ ∃ v, wi_r ρ v (wm_wv h' c a j.toNat q) ∧ k (some v) h) ∧
  (∀ a b c o j v x h k h', hp 4 a b c [wi_rf o, .inl j, v] h k → Rr h h' → wi_r ρ v x → ∃ q, o.map ρ = some q ∧ h'.1 q = a ∧ 0 ≤ j ∧ j < h'.2.1 q ∧ (c = 2 → ∀ z, x = .inr (.inr (some z)) → wm_tags (h'.1 z) = some (.inl b)) ∧ ∃ h2, Rr h2 (wm_wr h' a j.toNat q x) ∧ k none h2) ∧
  (∀ a n h k h', hp 5 a 0 0 [.inl n] h k → Rr h h' → 0 ≤ n → n < 1048576 → ∃ v h2, wi_r ρ v (.inr (.inr (some h'.2.2.2.2.2))) ∧ Rr h2 (wm_nw h' a n.toNat) ∧ k (some v) h2) ∧
  (∀ x y h k h', hp 7 0 0 0 [wi_rf x, wi_rf y] h k → Rr h h' → (x.map ρ = y.map ρ → k (some (.inl 1)) h) ∧ (¬ x.map ρ = y.map ρ → k none h)) ∧
  (∀ b o h k h', hp 8 0 b 0 [wi_rf o] h k → Rr h h' → ∃ q, o.map ρ = some q ∧ wm_tags (h'.1 q) = some (.inl b) ∧ k none h) ∧
  (∀ h k h', hp 9 0 0 0 [] h k → Rr h h' → ∀ n, h'.2.2.2.2.2 ≤ n → ∃ h2, Rr h2 (wm_sz h' n) ∧ k none h2)
/-- lists and locals -/
theorem wi_pi_e {st : List wi_V} {f : Int → List wi_V → Prop} (h : wi_pi st f) : ∃ x r, st = .inl x :: r ∧ f x r := by
  unfold wi_pi at h
  split at h
  · exact ⟨_, _, rfl, h⟩
  · exact h.elim
theorem wi_pj_e {st : List wi_V} {f : Int → List wi_V → Prop} (h : wi_pj st f) : ∃ x r, st = .inr (.inl x) :: r ∧ f x r := by
  unfold wi_pj at h
  split at h
  · exact ⟨_, _, rfl, h⟩
  · exact h.elim
theorem wi_pr_e {st : List wi_V} {f : Option Nat → List wi_V → Prop} (h : wi_pr st f) : ∃ x r, st = wi_rf x :: r ∧ f x r := by
  unfold wi_pr at h
  split at h
  · exact ⟨_, _, rfl, h⟩
  · exact h.elim
theorem wi_p1_e {st : List wi_V} {f : wi_V → List wi_V → Prop} (h : wi_p1 st f) : ∃ v r, st = v :: r ∧ ((∃ x, v = .inl x) ∨ ∃ x, v = wi_rf x) ∧ f v r := by
  unfold wi_p1 at h
  split at h
  · exact ⟨_, _, rfl, Or.inl ⟨_, rfl⟩, h⟩
  · exact ⟨_, _, rfl, Or.inr ⟨_, rfl⟩, h⟩
  · exact h.elim
theorem wi_gi_e {o : Option wi_V} {f : Int → Prop} (h : wi_gi o f) : ∃ x, o = some (.inl x) ∧ f x := by
  unfold wi_gi at h
  split at h
  · exact ⟨_, rfl, h⟩
  · exact h.elim
theorem wi_gj_e {o : Option wi_V} {f : Int → Prop} (h : wi_gj o f) : ∃ x, o = some (.inr (.inl x)) ∧ f x := by
  unfold wi_gj at h
  split at h
  · exact ⟨_, rfl, h⟩
  · exact h.elim
theorem wi_gr_e {o : Option wi_V} {f : Option Nat → Prop} (h : wi_gr o f) : ∃ x, o = some (wi_rf x) ∧ f x := by
  unfold wi_gr at h
  split at h
  · exact ⟨_, rfl, h⟩
  · exact h.elim
theorem wi_rs_c {ρ : Nat → Nat} {v : wi_V} {r : List wi_V} {s : List wm_V} (h : wi_rs ρ (v :: r) s) : ∃ x t, s = x :: t ∧ wi_r ρ v x ∧ wi_rs ρ r t := by
  cases s with
  | nil => exact h.elim
  | cons x t => exact ⟨x, t, rfl, h.1, h.2⟩
theorem wi_rs_i {ρ : Nat → Nat} {y : Int} {r : List wi_V} {s : List wm_V} (h : wi_rs ρ (.inl y :: r) s) : ∃ z t, s = .inl z :: t ∧ z.toInt = y ∧ wi_rs ρ r t := by
  obtain ⟨x, t, rfl, ⟨z, rfl, hz⟩, h2⟩ := wi_rs_c h
  exact ⟨z, t, rfl, hz, h2⟩
theorem wi_rs_j {ρ : Nat → Nat} {y : Int} {r : List wi_V} {s : List wm_V} (h : wi_rs ρ (.inr (.inl y) :: r) s) : ∃ z t, s = .inr (.inl z) :: t ∧ z.toInt = y ∧ wi_rs ρ r t := by
  obtain ⟨x, t, rfl, ⟨z, rfl, hz⟩, h2⟩ := wi_rs_c h
  exact ⟨z, t, rfl, hz, h2⟩
theorem wi_rs_r {ρ : Nat → Nat} {o : Option Nat} {r : List wi_V} {s : List wm_V} (h : wi_rs ρ (wi_rf o :: r) s) : ∃ t, s = .inr (.inr (o.map ρ)) :: t ∧ wi_rs ρ r t := by
  obtain ⟨x, t, rfl, h1, h2⟩ := wi_rs_c h
  cases (show x = .inr (.inr (o.map ρ)) from h1)
  exact ⟨t, rfl, h2⟩
theorem wi_rs_n {ρ : Nat → Nat} {s : List wm_V} (h : wi_rs ρ [] s) : s = [] := by
  cases s with
  | nil => rfl
  | cons x t => exact h.elim
theorem wi_rs_len {ρ : Nat → Nat} : ∀ {r : List wi_V} {s : List wm_V}, wi_rs ρ r s → s.length = r.length
  | [], [], _ => rfl
  | [], _ :: _, h => h.elim
  | _ :: _, [], h => h.elim
  | _ :: r, _ :: s, h => by rw [List.length_cons, List.length_cons, wi_rs_len h.2]
theorem wi_r_cat {ρ : Nat → Nat} {v : wi_V} {x : wm_V} (h : wi_r ρ v x) : wm_cat x = wi_cat v := by
  rcases v with y | y | o | p
  · obtain ⟨z, rfl, -⟩ := h; rfl
  · obtain ⟨z, rfl, -⟩ := h; rfl
  · cases (show x = .inr (.inr (o.map ρ)) from h); rfl
  · obtain ⟨z, z', rfl, -⟩ := h; rfl
theorem wi_rs_cat {ρ : Nat → Nat} : ∀ {r : List wi_V} {s : List wm_V}, wi_rs ρ r s → s.map wm_cat = r.map wi_cat
  | [], [], _ => rfl
  | [], _ :: _, h => h.elim
  | _ :: _, [], h => h.elim
  | _ :: r, _ :: s, h => by rw [List.map_cons, List.map_cons, wi_rs_cat h.2, wi_r_cat h.1]
theorem wi_rs_app {ρ : Nat → Nat} : ∀ {a : List wi_V} {x : List wm_V} {b : List wi_V} {y : List wm_V}, wi_rs ρ a x → wi_rs ρ b y → wi_rs ρ (a ++ b) (x ++ y)
  | [], [], _, _, _, h => h
  | [], _ :: _, _, _, h, _ => h.elim
  | _ :: _, [], _, _, h, _ => h.elim
  | _ :: r, _ :: s, _, _, h, g => ⟨h.1, wi_rs_app h.2 g⟩
theorem wi_rs_rev {ρ : Nat → Nat} : ∀ {a : List wi_V} {x : List wm_V}, wi_rs ρ a x → wi_rs ρ a.reverse x.reverse
  | [], [], h => h
  | [], _ :: _, h => h.elim
  | _ :: _, [], h => h.elim
  | v :: r, y :: s, h => by rw [List.reverse_cons, List.reverse_cons]; exact wi_rs_app (wi_rs_rev h.2) ⟨h.1, trivial⟩
theorem wi_rs_td {ρ : Nat → Nat} : ∀ (n : Nat) {a : List wi_V} {x : List wm_V}, wi_rs ρ a x → wi_rs ρ (a.take n) (x.take n) ∧ wi_rs ρ (a.drop n) (x.drop n)
  | 0, _, _, h => ⟨trivial, h⟩
  | n + 1, [], [], h => ⟨h, h⟩
  | n + 1, [], _ :: _, h => h.elim
  | n + 1, _ :: _, [], h => h.elim
  | n + 1, _ :: _, _ :: _, h => ⟨⟨h.1, (wi_rs_td n h.2).1⟩, (wi_rs_td n h.2).2⟩
theorem wi_rl_len {ρ : Nat → Nat} : ∀ {r : wi_L} {s : wm_L}, wi_rl ρ r s → s.length = r.length
  | [], [], _ => rfl
  | [], _ :: _, h => h.elim
  | _ :: _, [], h => h.elim
  | _ :: r, _ :: s, h => by rw [List.length_cons, List.length_cons, wi_rl_len h.2]
theorem wi_rl_lk {ρ : Nat → Nat} : ∀ {r : wi_L} {s : wm_L} {k : Nat} {w : wi_V}, wi_rl ρ r s → wi_lk r k = some w → ∃ y, wm_lk s k = some y ∧ wi_r ρ w y
  | [], _, k, w, _, h => by cases k <;> cases h
  | _ :: _, [], _, _, h, _ => h.elim
  | v :: r, x :: s, 0, w, h, g => h.1 w g
  | v :: r, x :: s, k + 1, w, h, g => wi_rl_lk (r := r) (s := s) (k := k) h.2 g
theorem wi_nl_r {ρ : Nat → Nat} {v : Option wi_V} {x : Option wm_V} (h : ∀ w, v = some w → ∃ y, x = some y ∧ wi_r ρ w y) : ∀ w, wi_nl v = some w → ∃ y, wm_nl x = some y ∧ wi_r ρ w y := by
  intro w hw
  rcases v with _ | (z | z | o | p)
  · cases hw
  · obtain ⟨y, rfl, hy⟩ := h _ rfl
    cases hw
    obtain ⟨u, rfl, -⟩ := id hy
    exact ⟨_, rfl, hy⟩
  · cases hw
  · obtain ⟨y, rfl, hy⟩ := h _ rfl
    cases hw
    cases (show y = .inr (.inr (o.map ρ)) from hy)
    exact ⟨_, rfl, hy⟩
  · obtain ⟨y, rfl, hy⟩ := h _ rfl
    cases hw
    obtain ⟨u, u', rfl, -⟩ := id hy
    exact ⟨_, rfl, hy⟩
theorem wi_nn {ρ : Nat → Nat} {x : Option wm_V} : ∀ w, (none : Option wi_V) = some w → ∃ y, x = some y ∧ wi_r ρ w y := fun w hw => by cases hw
theorem wi_sm {ρ : Nat → Nat} {v : wi_V} {y : wm_V} (hv : wi_r ρ v y) : ∀ w, some v = some w → ∃ z, some y = some z ∧ wi_r ρ w z := fun w hw => by cases hw; exact ⟨y, rfl, hv⟩
theorem wi_rl_s1 {ρ : Nat → Nat} {v : wi_V} {y : wm_V} (hv : wi_r ρ v y) : ∀ {r : wi_L} {s : wm_L} {k : Nat}, wi_rl ρ r s → wi_rl ρ (wi_s1 r k v) (wm_s1 s k y)
  | [], [], k, h => by simp only [wi_s1, wm_s1]; exact h
  | [], _ :: _, _, h => h.elim
  | _ :: _, [], _, h => h.elim
  | x :: r, z :: s, 0, h => And.intro (wi_sm hv) h.2
  | x :: r, z :: s, 1, h => And.intro (wi_nl_r h.1) (wi_rl_s1 hv (k := 0) h.2)
  | x :: r, z :: s, k + 2, h => And.intro h.1 (wi_rl_s1 hv (k := k + 1) h.2)
theorem wi_rl_s2 {ρ : Nat → Nat} {v : wi_V} {y : wm_V} (hv : wi_r ρ v y) : ∀ {r : wi_L} {s : wm_L} {k : Nat}, wi_rl ρ r s → wi_rl ρ (wi_s2 r k v) (wm_s2 s k y)
  | [], [], k, h => by simp only [wi_s2, wm_s2]; exact h
  | [], _ :: _, _, h => h.elim
  | _ :: _, [], _, h => h.elim
  | [x], [z], 0, h => And.intro wi_nn trivial
  | [x], z :: z' :: s, 0, h => h.2.elim
  | x :: x' :: r, [z], 0, h => h.2.elim
  | x :: x' :: r, z :: z' :: s, 0, h => And.intro (wi_sm hv) (And.intro wi_nn h.2.2)
  | x :: r, z :: s, 1, h => by
    have e1 : wi_s2 (x :: r) 1 v = wi_nl x :: wi_s2 r 0 v := by cases r <;> rfl
    have e2 : wm_s2 (z :: s) 1 y = wm_nl z :: wm_s2 s 0 y := by cases s <;> rfl
    rw [e1, e2]
    exact And.intro (wi_nl_r h.1) (wi_rl_s2 hv (k := 0) h.2)
  | x :: r, z :: s, k + 2, h => by
    have e1 : wi_s2 (x :: r) (k + 2) v = x :: wi_s2 r (k + 1) v := by cases r <;> rfl
    have e2 : wm_s2 (z :: s) (k + 2) y = z :: wm_s2 s (k + 1) y := by cases s <;> rfl
    rw [e1, e2]
    exact And.intro h.1 (wi_rl_s2 hv (k := k + 1) h.2)
theorem wi_rl_rep {ρ : Nat → Nat} : ∀ n : Nat, wi_rl ρ (List.replicate n none) (List.replicate n none)
  | 0 => trivial
  | n + 1 => And.intro wi_nn (wi_rl_rep n)
theorem wi_rl_en {ρ : Nat → Nat} : ∀ {r : List wi_V} {s : List wm_V} (n : Nat), wi_rs ρ r s → wi_rl ρ (wi_en r n) (wm_en s n)
  | [], [], n, _ => wi_rl_rep n
  | [], _ :: _, _, h => h.elim
  | _ :: _, [], _, h => h.elim
  | v :: r, x :: s, n, h => by
    unfold wi_en wm_en
    rw [wi_r_cat h.1]
    split
    · exact And.intro (wi_sm h.1) (And.intro wi_nn (wi_rl_en (n - 2) h.2))
    · exact And.intro (wi_sm h.1) (wi_rl_en (n - 1) h.2)
/-- numbers -/
theorem wi_b32 {z : Int} (h1 : -2147483648 ≤ z) (h2 : z ≤ 2147483647) : z.bmod (2 ^ 32) = z := by
  unfold Int.bmod
  simp only [Int.reducePow, Nat.reducePow]
  split <;> omega
theorem wi_b64 {z : Int} (h1 : -9223372036854775808 ≤ z) (h2 : z ≤ 9223372036854775807) : z.bmod (2 ^ 64) = z := by
  unfold Int.bmod
  simp only [Int.reducePow, Nat.reducePow]
  split <;> omega
theorem wi_o32 {z : Int} (h1 : -2147483648 ≤ z) (h2 : z ≤ 2147483647) : (Int32.ofInt z).toInt = z := by
  rw [Int32.toInt_ofInt]; exact wi_b32 h1 h2
theorem wi_o64 {z : Int} (h1 : -9223372036854775808 ≤ z) (h2 : z ≤ 9223372036854775807) : (Int64.ofInt z).toInt = z := by
  rw [Int64.toInt_ofInt]; exact wi_b64 h1 h2
theorem wi_t32 (x : Int32) : -2147483648 ≤ x.toInt ∧ x.toInt ≤ 2147483647 := ⟨Int32.le_toInt x, by have := Int32.toInt_lt x; omega⟩
theorem wi_t64 (x : Int64) : -9223372036854775808 ≤ x.toInt ∧ x.toInt ≤ 9223372036854775807 := ⟨Int64.le_toInt x, by have := Int64.toInt_lt x; omega⟩
theorem wi_add {x y : Int32} {u v : Int} (hx : x.toInt = u) (hy : y.toInt = v) (h1 : -2147483648 ≤ u + v) (h2 : u + v ≤ 2147483647) : (x + y).toInt = u + v := by
  rw [Int32.toInt_add, hx, hy, wi_b32 h1 h2]
theorem wi_sub {x y : Int32} {u v : Int} (hx : x.toInt = u) (hy : y.toInt = v) (h1 : -2147483648 ≤ u - v) (h2 : u - v ≤ 2147483647) : (x - y).toInt = u - v := by
  rw [Int32.toInt_sub, hx, hy, wi_b32 h1 h2]
theorem wi_mul {x y : Int32} {u v : Int} (hx : x.toInt = u) (hy : y.toInt = v) (h1 : -2147483648 ≤ u * v) (h2 : u * v ≤ 2147483647) : (x * y).toInt = u * v := by
  rw [Int32.toInt_mul, hx, hy, wi_b32 h1 h2]
theorem wi_ladd {x y : Int64} {u v : Int} (hx : x.toInt = u) (hy : y.toInt = v) (h1 : -9223372036854775808 ≤ u + v) (h2 : u + v ≤ 9223372036854775807) : (x + y).toInt = u + v := by
  rw [Int64.toInt_add, hx, hy, wi_b64 h1 h2]
theorem wi_lsub {x y : Int64} {u v : Int} (hx : x.toInt = u) (hy : y.toInt = v) (h1 : -9223372036854775808 ≤ u - v) (h2 : u - v ≤ 9223372036854775807) : (x - y).toInt = u - v := by
  rw [Int64.toInt_sub, hx, hy, wi_b64 h1 h2]
theorem wi_nat {x : Int32} {u : Int} (hx : x.toInt = u) : x.toNatClampNeg = u.toNat := by rw [← hx]; rfl
theorem wi_e32 {x : Int32} {u : Int} (hx : x.toInt = u) : x = Int32.ofInt u := by rw [← hx, Int32.ofInt_toInt]
theorem wi_e64 {x : Int64} {u : Int} (hx : x.toInt = u) : x = Int64.ofInt u := by rw [← hx, Int64.ofInt_toInt]
/-- a condition of ints -/
theorem wi_ic32 {k : ClassFile.Cond} {x y : Int32} {u v : Int} (hx : x.toInt = u) (hy : y.toInt = v) {A B A' B' : Prop} (hA : A → A') (hB : B → B') (h : wi_br k u v A B) : wm_br (wm_ic k x y) A' B' := by
  subst hx hy
  unfold wm_br wm_ic
  unfold wi_br at h
  cases k <;> simp only [Int32.lt_iff_toInt_lt, Int32.le_iff_toInt_le, ← Int32.toInt_inj] at * <;> refine ⟨fun z => hA (h.1 (by omega)), fun z => hB (h.2 (by omega))⟩
theorem wi_cmp {x y : Int64} : (lg_cmp x y).toInt = if y.toInt < x.toInt then 1 else if x.toInt = y.toInt then 0 else -1 := by
  unfold lg_cmp
  simp only [gt_iff_lt, Int64.lt_iff_toInt_lt, ← Int64.toInt_inj]
  split
  · decide
  · split <;> decide
theorem wi_ic64 {k : ClassFile.Cond} {x y : Int64} {u v : Int} (hx : x.toInt = u) (hy : y.toInt = v) {A B A' B' : Prop} (hA : A → A') (hB : B → B') (h : wi_br k u v A B) : wm_br (wm_ic k (lg_cmp x y) 0) A' B' := by
  have e := wi_cmp (x := x) (y := y)
  rw [hx, hy] at e
  refine wi_ic32 (u := (lg_cmp x y).toInt) (v := 0) rfl (by decide) hA hB ?_
  have e2 : ((lg_cmp x y).toInt = 1 ∧ v < u) ∨ ((lg_cmp x y).toInt = 0 ∧ u = v) ∨ ((lg_cmp x y).toInt = -1 ∧ u < v) := by
    rw [e]
    split
    · exact Or.inl ⟨rfl, by omega⟩
    · split
      · exact Or.inr (Or.inl ⟨rfl, by omega⟩)
      · exact Or.inr (Or.inr ⟨rfl, by omega⟩)
  rcases e2 with ⟨e2, e3⟩ | ⟨e2, e3⟩ | ⟨e2, e3⟩ <;> rw [e2] <;> cases k <;> exact And.intro (fun z => h.1 (by omega)) (fun z => h.2 (by omega))
end
section
/-! THE MACHINE OF WHOLE NUMBERS, 2: what it asks is enough -/
section WIS
variable {H : Type} {ρ : Nat → Nat} {Rr : H → wm_H → Prop} {hp : wi_P H} {RC RS mc ms : Nat} {cx : wi_X H} {qr : wi_Q1 H} {qt : wi_Q2 H} {nx : wi_N H} {jp : Nat → wi_N H}
variable {cx' : wm_X} {qr' : wm_Q1} {qt' : wm_Q2} {nx' : wm_N} {jp' : Nat → wm_N}
/-- results -/
def wi_ro (ρ : Nat → Nat) (v : Option wi_V) (x : Option wm_V) : Prop := wi_rs ρ v.toList x.toList
theorem wi_1_ok (K : wi_hk ρ Rr hp)
    (hq : ∀ v h v' h', qr v h → wi_ro ρ v v' → Rr h h' → qr' v' h') (ht : ∀ t h h', qt t h → Rr h h' → qt' t h')
    (hc : ∀ id as h q1 q2 as' h' q1' q2', cx id as h q1 q2 → wi_rs ρ as as' → Rr h h' → (∀ v h v' h', q1 v h → wi_ro ρ v v' → Rr h h' → q1' v' h') → (∀ t h h', q2 t h → Rr h h' → q2' t h') → cx' id as' h' q1' q2')
    (hn : ∀ lv st h cu su lv' st' h', nx lv st h cu su → wi_rl ρ lv lv' → wi_rs ρ st st' → Rr h h' → nx' lv' st' h' cu su)
    (hj : ∀ t lv st h cu su lv' st' h', jp t lv st h cu su → wi_rl ρ lv lv' → wi_rs ρ st st' → Rr h h' → jp' t lv' st' h' cu su)
    {i : Instr} {a b c : Nat} (hk : wi_ck i a = true) {lv : wi_L} {st : List wi_V} {h : H} {cu su : Nat} {lv' : wm_L} {st' : List wm_V} {h' : wm_H}
    (d : wi_1 hp RC RS mc ms cx qr qt nx jp i a b c lv st h cu su) (rl : wi_rl ρ lv lv') (rs : wi_rs ρ st st') (rr : Rr h h') : wm_1 RC RS mc ms cx' qr' qt' nx' jp' i a b c lv' st' h' cu su := by
  obtain ⟨k0, k1, k2, k3, k4, k5, k7, k8, k9⟩ := K
  have hro : ∀ (v : wi_V) (x : wm_V), wi_r ρ v x → wi_ro ρ (some v) (some x) := fun v x z => And.intro z trivial
  have hrn : wi_ro ρ none none := trivial
  have cxk : ∀ id as r as' r' (g : H) (g' : wm_H), wi_rs ρ as as' → wi_rs ρ r r' → Rr g g' → cx id as g (fun v h' => nx lv (v.toList ++ r) h' (cu + wm_mc id) (su + wm_ms id)) (fun t h' => cu + wm_mc id ≤ mc ∧ su + wm_ms id ≤ ms ∧ qt t h') → cx' id as' g' (fun v h' => nx' lv' (v.toList ++ r') h' (cu + wm_mc id) (su + wm_ms id)) (fun t h' => cu + wm_mc id ≤ mc ∧ su + wm_ms id ≤ ms ∧ qt' t h') :=
    fun id as r as' r' g g' z1 z2 z3 z4 => hc id as g _ _ as' g' _ _ z4 z1 z3 (fun v h v' h' y1 y2 y3 => hn _ _ _ _ _ _ _ _ y1 rl (wi_rs_app y2 z2) y3) (fun t h h' y1 y2 => ⟨y1.1, y1.2.1, ht _ _ _ y1.2.2 y2⟩)
  unfold wi_1 at d
  split at d
  · simp only [wi_ck, decide_eq_true_eq] at hk
    exact hn _ _ _ _ _ _ _ _ d rl (And.intro ⟨_, rfl, wi_o32 hk.1 hk.2⟩ rs) rr
  · simp only [wi_ck, decide_eq_true_eq] at hk
    refine hn _ _ _ _ _ _ _ _ d rl (And.intro ⟨_, rfl, ?_⟩ rs) rr
    rw [Int8.toInt_toInt32, Int8.toInt_ofInt]
    show Int.bmod _ 256 = _
    unfold Int.bmod
    simp only []
    split <;> omega
  · simp only [wi_ck, decide_eq_true_eq] at hk
    refine hn _ _ _ _ _ _ _ _ d rl (And.intro ⟨_, rfl, ?_⟩ rs) rr
    rw [Int16.toInt_toInt32, Int16.toInt_ofInt]
    show Int.bmod _ 65536 = _
    unfold Int.bmod
    simp only []
    split <;> omega
  · simp only [wi_ck, decide_eq_true_eq] at hk
    refine hn _ _ _ _ _ _ _ _ d rl (And.intro ⟨_, rfl, ?_⟩ rs) rr
    unfold nI
    rw [Int32.toInt_ofNat']
    exact wi_b32 (by omega) (by omega)
  · rename_i n
    have hz : n = 0 ∨ n = 1 := by omega
    rcases hz with rfl | rfl
    · exact hn _ _ _ _ _ _ _ _ d rl (And.intro ⟨_, rfl, by decide⟩ rs) rr
    · exact hn _ _ _ _ _ _ _ _ d rl (And.intro ⟨_, rfl, by decide⟩ rs) rr
  · simp only [wi_ck, decide_eq_true_eq] at hk
    split at d
    · refine hn _ _ _ _ _ _ _ _ d rl (And.intro ⟨_, rfl, ?_⟩ rs) rr
      unfold lN
      rw [Int64.toInt_ofNat']
      exact wi_b64 (by omega) (by omega)
    · refine hn _ _ _ _ _ _ _ _ d rl (And.intro ⟨_, rfl, ?_⟩ rs) rr
      unfold lN
      rw [Int64.toInt_ofNat']
      show Int.bmod _ 18446744073709551616 = _
      unfold Int.bmod
      simp only []
      split <;> omega
  · exact hn _ _ _ _ _ _ _ _ d rl (And.intro rfl rs) rr
  iterate 2
    · obtain ⟨x, e, d_1⟩ := wi_gi_e d
      obtain ⟨y, e', z, rfl, hz⟩ := wi_rl_lk rl e
      show wm_gi _ _
      rw [e']
      exact hn _ _ _ _ _ _ _ _ d_1 rl (And.intro ⟨_, rfl, hz⟩ rs) rr
  iterate 2
    · obtain ⟨x, e, d_2⟩ := wi_gj_e d
      obtain ⟨y, e', z, rfl, hz⟩ := wi_rl_lk rl e
      show wm_gj _ _
      rw [e']
      exact hn _ _ _ _ _ _ _ _ d_2 rl (And.intro ⟨_, rfl, hz⟩ rs) rr
  iterate 2
    · obtain ⟨x, e, d_3⟩ := wi_gr_e d
      obtain ⟨y, e', hz⟩ := wi_rl_lk rl e
      cases (show y = .inr (.inr (x.map ρ)) from hz)
      show wm_gr _ _
      rw [e']
      exact hn _ _ _ _ _ _ _ _ d_3 rl (And.intro rfl rs) rr
  iterate 2
    · obtain ⟨x, r, rfl, d_4⟩ := wi_pi_e d
      obtain ⟨z, t, rfl, hz, rs_5⟩ := wi_rs_i rs
      split at d_4
      · next e => exact And.intro (by rw [wi_rl_len rl]; exact e) (hn _ _ _ _ _ _ _ _ d_4 (wi_rl_s1 (v := .inl x) ⟨z, rfl, hz⟩ rl) rs_5 rr)
      · exact d_4.elim
  iterate 2
    · obtain ⟨x, r, rfl, d_6⟩ := wi_pj_e d
      obtain ⟨z, t, rfl, hz, rs_7⟩ := wi_rs_j rs
      split at d_6
      · next e => exact And.intro (by rw [wi_rl_len rl]; exact e) (hn _ _ _ _ _ _ _ _ d_6 (wi_rl_s2 (v := .inr (.inl x)) ⟨z, rfl, hz⟩ rl) rs_7 rr)
      · exact d_6.elim
  iterate 2
    · obtain ⟨x, r, rfl, d_8⟩ := wi_pr_e d
      obtain ⟨t, rfl, rs_9⟩ := wi_rs_r rs
      split at d_8
      · next e => exact And.intro (by rw [wi_rl_len rl]; exact e) (hn _ _ _ _ _ _ _ _ d_8 (wi_rl_s1 (v := wi_rf x) rfl rl) rs_9 rr)
      · exact d_8.elim
  · simp only [wi_ck, decide_eq_true_eq] at hk
    obtain ⟨x, e, d1, d2, d_10⟩ := wi_gi_e d
    obtain ⟨y, e', z, rfl, hz⟩ := wi_rl_lk rl e
    show wm_gi _ _
    rw [e']
    exact hn _ _ _ _ _ _ _ _ d_10 (wi_rl_s1 (v := .inl _) ⟨_, rfl, wi_add hz (wi_o32 hk.1 hk.2) d1 d2⟩ rl) rs rr
  · obtain ⟨y, r, rfl, d_11⟩ := wi_pi_e d
    obtain ⟨x, r, rfl, d1, d2, d_12⟩ := wi_pi_e d_11
    obtain ⟨z, t, rfl, hz, rs_13⟩ := wi_rs_i rs
    obtain ⟨u, t, rfl, hu, rs_14⟩ := wi_rs_i rs_13
    exact hn _ _ _ _ _ _ _ _ d_12 rl (And.intro ⟨_, rfl, wi_add hu hz d1 d2⟩ rs_14) rr
  · obtain ⟨y, r, rfl, d_15⟩ := wi_pi_e d
    obtain ⟨x, r, rfl, d1, d2, d_16⟩ := wi_pi_e d_15
    obtain ⟨z, t, rfl, hz, rs_17⟩ := wi_rs_i rs
    obtain ⟨u, t, rfl, hu, rs_18⟩ := wi_rs_i rs_17
    exact hn _ _ _ _ _ _ _ _ d_16 rl (And.intro ⟨_, rfl, wi_sub hu hz d1 d2⟩ rs_18) rr
  · obtain ⟨y, r, rfl, d_19⟩ := wi_pi_e d
    obtain ⟨x, r, rfl, d1, d2, d_20⟩ := wi_pi_e d_19
    obtain ⟨z, t, rfl, hz, rs_21⟩ := wi_rs_i rs
    obtain ⟨u, t, rfl, hu, rs_22⟩ := wi_rs_i rs_21
    exact hn _ _ _ _ _ _ _ _ d_20 rl (And.intro ⟨_, rfl, wi_mul hu hz d1 d2⟩ rs_22) rr
  iterate 2
    · obtain ⟨y, r, rfl, d_23⟩ := wi_pi_e d
      obtain ⟨x, r, rfl, d_24⟩ := wi_pi_e d_23
      obtain ⟨z, t, rfl, hz, rs_25⟩ := wi_rs_i rs
      obtain ⟨u, t, rfl, hu, rs_26⟩ := wi_rs_i rs_25
      cases wi_e32 hz
      cases wi_e32 hu
      exact hn _ _ _ _ _ _ _ _ d_24 rl (And.intro ⟨_, rfl, rfl⟩ rs_26) rr
  · obtain ⟨y, r, rfl, d_27⟩ := wi_pj_e d
    obtain ⟨x, r, rfl, d1, d2, d_28⟩ := wi_pj_e d_27
    obtain ⟨z, t, rfl, hz, rs_29⟩ := wi_rs_j rs
    obtain ⟨u, t, rfl, hu, rs_30⟩ := wi_rs_j rs_29
    exact hn _ _ _ _ _ _ _ _ d_28 rl (And.intro ⟨_, rfl, wi_ladd hu hz d1 d2⟩ rs_30) rr
  · obtain ⟨y, r, rfl, d_31⟩ := wi_pj_e d
    obtain ⟨x, r, rfl, d1, d2, d_32⟩ := wi_pj_e d_31
    obtain ⟨z, t, rfl, hz, rs_33⟩ := wi_rs_j rs
    obtain ⟨u, t, rfl, hu, rs_34⟩ := wi_rs_j rs_33
    exact hn _ _ _ _ _ _ _ _ d_32 rl (And.intro ⟨_, rfl, wi_lsub hu hz d1 d2⟩ rs_34) rr
  iterate 2
    · obtain ⟨y, r, rfl, d_35⟩ := wi_pj_e d
      obtain ⟨x, r, rfl, d_36⟩ := wi_pj_e d_35
      obtain ⟨z, t, rfl, hz, rs_37⟩ := wi_rs_j rs
      obtain ⟨u, t, rfl, hu, rs_38⟩ := wi_rs_j rs_37
      cases wi_e64 hz
      cases wi_e64 hu
      exact hn _ _ _ _ _ _ _ _ d_36 rl (And.intro ⟨_, rfl, rfl⟩ rs_38) rr
  iterate 2
    · obtain ⟨y, r, rfl, d_39⟩ := wi_pi_e d
      obtain ⟨x, r, rfl, d_40⟩ := wi_pj_e d_39
      obtain ⟨z, t, rfl, hz, rs_41⟩ := wi_rs_i rs
      obtain ⟨u, t, rfl, hu, rs_42⟩ := wi_rs_j rs_41
      cases wi_e32 hz
      cases wi_e64 hu
      exact hn _ _ _ _ _ _ _ _ d_40 rl (And.intro ⟨_, rfl, rfl⟩ rs_42) rr
  · obtain ⟨x, r, rfl, d_43⟩ := wi_pi_e d
    obtain ⟨z, t, rfl, hz, rs_44⟩ := wi_rs_i rs
    exact hn _ _ _ _ _ _ _ _ d_43 rl (And.intro ⟨_, rfl, (Int32.toInt_toInt64 z).trans hz⟩ rs_44) rr
  · obtain ⟨y, r, rfl, d_45⟩ := wi_pj_e d
    obtain ⟨x, r, rfl, d_46⟩ := wi_pj_e d_45
    obtain ⟨z, t, rfl, hz, rs_47⟩ := wi_rs_j rs
    obtain ⟨u, t, rfl, hu, rs_48⟩ := wi_rs_j rs_47
    exact hn _ _ _ _ _ _ _ _ d_46 rl (And.intro ⟨_, _, rfl, hu, hz⟩ rs_48) rr
  · obtain ⟨v, r, rfl, e, d_49⟩ := wi_p1_e d
    obtain ⟨x, t, rfl, hz, rs_50⟩ := wi_rs_c rs
    have hx : wm_p1 (x :: t) (fun v r => nx' lv' (v :: v :: r) h' cu su) = nx' lv' (x :: x :: t) h' cu su := by
      rcases e with ⟨y, rfl⟩ | ⟨y, rfl⟩
      · obtain ⟨z, rfl, -⟩ := hz; rfl
      · cases (show x = .inr (.inr (y.map ρ)) from hz); rfl
    show wm_p1 (x :: t) (fun v r => nx' lv' (v :: v :: r) h' cu su)
    rw [hx]
    exact hn _ _ _ _ _ _ _ _ d_49 rl (And.intro hz (And.intro hz rs_50)) rr
  · obtain ⟨v, r, rfl, e, d_51⟩ := wi_p1_e d
    obtain ⟨x, t, rfl, hz, rs_52⟩ := wi_rs_c rs
    have hx : wm_p1 (x :: t) (fun v r => nx' lv' r h' cu su) = nx' lv' t h' cu su := by
      rcases e with ⟨y, rfl⟩ | ⟨y, rfl⟩
      · obtain ⟨z, rfl, -⟩ := hz; rfl
      · cases (show x = .inr (.inr (y.map ρ)) from hz); rfl
    show wm_p1 (x :: t) (fun _ r => nx' lv' r h' cu su)
    rw [hx]
    exact hn _ _ _ _ _ _ _ _ d_51 rl rs_52 rr
  · obtain ⟨v, r, rfl, e, d_53⟩ := wi_p1_e d
    obtain ⟨w, r, rfl, e2, d_54⟩ := wi_p1_e d_53
    obtain ⟨x, t, rfl, hz, rs_55⟩ := wi_rs_c rs
    obtain ⟨x2, t, rfl, hz2, rs_56⟩ := wi_rs_c rs_55
    have hx : ∀ (f : wm_V → List wm_V → Prop) (s : List wm_V), wm_p1 (x :: s) f = f x s := by
      intro f s
      rcases e with ⟨y, rfl⟩ | ⟨y, rfl⟩
      · obtain ⟨z, rfl, -⟩ := hz; rfl
      · cases (show x = .inr (.inr (y.map ρ)) from hz); rfl
    have hx2 : ∀ (f : wm_V → List wm_V → Prop) (s : List wm_V), wm_p1 (x2 :: s) f = f x2 s := by
      intro f s
      rcases e2 with ⟨y, rfl⟩ | ⟨y, rfl⟩
      · obtain ⟨z, rfl, -⟩ := hz2; rfl
      · cases (show x2 = .inr (.inr (y.map ρ)) from hz2); rfl
    show wm_p1 (x :: x2 :: t) (fun v r => wm_p1 r fun w r => nx' lv' (v :: w :: v :: r) h' cu su)
    rw [hx, hx2]
    exact hn _ _ _ _ _ _ _ _ d_54 rl (And.intro hz (And.intro hz2 (And.intro hz rs_56))) rr
  · show ite _ _ _
    split at d
    · next e =>
      rw [if_pos e]
      obtain ⟨x, r, rfl, d_57⟩ := wi_pj_e d
      obtain ⟨z, t, rfl, hz, rs_58⟩ := wi_rs_j rs
      exact hn _ _ _ _ _ _ _ _ d_57 rl (And.intro ⟨_, rfl, hz⟩ (And.intro ⟨_, rfl, hz⟩ rs_58)) rr
    · next e =>
      rw [if_neg e]
      obtain ⟨v, r, rfl, e, d_59⟩ := wi_p1_e d
      obtain ⟨w, r, rfl, e2, d_60⟩ := wi_p1_e d_59
      obtain ⟨x, t, rfl, hz, rs_61⟩ := wi_rs_c rs
      obtain ⟨x2, t, rfl, hz2, rs_62⟩ := wi_rs_c rs_61
      have hx : ∀ (f : wm_V → List wm_V → Prop) (s : List wm_V), wm_p1 (x :: s) f = f x s := by
        intro f s
        rcases e with ⟨y, rfl⟩ | ⟨y, rfl⟩
        · obtain ⟨z, rfl, -⟩ := hz; rfl
        · cases (show x = .inr (.inr (y.map ρ)) from hz); rfl
      have hx2 : ∀ (f : wm_V → List wm_V → Prop) (s : List wm_V), wm_p1 (x2 :: s) f = f x2 s := by
        intro f s
        rcases e2 with ⟨y, rfl⟩ | ⟨y, rfl⟩
        · obtain ⟨z, rfl, -⟩ := hz2; rfl
        · cases (show x2 = .inr (.inr (y.map ρ)) from hz2); rfl
      rw [hx, hx2]
      exact hn _ _ _ _ _ _ _ _ d_60 rl (And.intro hz (And.intro hz2 (And.intro hz (And.intro hz2 rs_62)))) rr
  · unfold wi_pc at d
    split at d
    · obtain ⟨z, t, rfl, hz, rs_63⟩ := wi_rs_i rs
      exact wi_ic32 hz (by decide) (fun d => hj _ _ _ _ _ _ _ _ _ d rl rs_63 rr) (fun d => hn _ _ _ _ _ _ _ _ d rl rs_63 rr) d
    · obtain ⟨x, t, rfl, ⟨z, z', rfl, hz, hz'⟩, rs_64⟩ := wi_rs_c rs
      exact wi_ic64 hz hz' (fun d => hj _ _ _ _ _ _ _ _ _ d rl rs_64 rr) (fun d => hn _ _ _ _ _ _ _ _ d rl rs_64 rr) d
    · exact d.elim
  · obtain ⟨y, r, rfl, d_65⟩ := wi_pi_e d
    obtain ⟨x, r, rfl, d_66⟩ := wi_pi_e d_65
    obtain ⟨z, t, rfl, hz, rs_67⟩ := wi_rs_i rs
    obtain ⟨u, t, rfl, hu, rs_68⟩ := wi_rs_i rs_67
    exact wi_ic32 hu hz (fun d_66 => hj _ _ _ _ _ _ _ _ _ d_66 rl rs_68 rr) (fun d_66 => hn _ _ _ _ _ _ _ _ d_66 rl rs_68 rr) d_66
  · obtain ⟨y, r, rfl, d_69⟩ := wi_pr_e d
    obtain ⟨x, r, rfl, d_70⟩ := wi_pr_e d_69
    obtain ⟨t, rfl, rs_71⟩ := wi_rs_r rs
    obtain ⟨t, rfl, rs_72⟩ := wi_rs_r rs_71
    obtain ⟨d1, d2⟩ := k7 _ _ _ _ _ d_70 rr
    exact And.intro (fun e => hj _ _ _ _ _ _ _ _ _ (d1 e) rl rs_72 rr) (fun e => hn _ _ _ _ _ _ _ _ (d2 e) rl rs_72 rr)
  · obtain ⟨y, r, rfl, d_73⟩ := wi_pr_e d
    obtain ⟨x, r, rfl, d_74⟩ := wi_pr_e d_73
    obtain ⟨t, rfl, rs_75⟩ := wi_rs_r rs
    obtain ⟨t, rfl, rs_76⟩ := wi_rs_r rs_75
    obtain ⟨d1, d2⟩ := k7 _ _ _ _ _ d_74 rr
    exact And.intro (fun e => hn _ _ _ _ _ _ _ _ (d1 e) rl rs_76 rr) (fun e => hj _ _ _ _ _ _ _ _ _ (d2 e) rl rs_76 rr)
  · obtain ⟨x, r, rfl, d_77⟩ := wi_pr_e d
    obtain ⟨t, rfl, rs_78⟩ := wi_rs_r rs
    refine And.intro (fun e => ?_) (fun e => ?_)
    · cases x with
      | none => exact hj _ _ _ _ _ _ _ _ _ (d_77.1 rfl) rl rs_78 rr
      | some q => cases e
    · cases x with
      | none => exact absurd rfl e
      | some q => exact hn _ _ _ _ _ _ _ _ (d_77.2 q rfl) rl rs_78 rr
  · obtain ⟨x, r, rfl, d_79⟩ := wi_pr_e d
    obtain ⟨t, rfl, rs_80⟩ := wi_rs_r rs
    refine And.intro (fun e => ?_) (fun e => ?_)
    · cases x with
      | none => exact hn _ _ _ _ _ _ _ _ (d_79.1 rfl) rl rs_80 rr
      | some q => cases e
    · cases x with
      | none => exact absurd rfl e
      | some q => exact hj _ _ _ _ _ _ _ _ _ (d_79.2 q rfl) rl rs_80 rr
  · exact hj _ _ _ _ _ _ _ _ _ d rl rs rr
  · obtain ⟨o, r, rfl, d_81⟩ := wi_pr_e d
    obtain ⟨t, rfl, rs_82⟩ := wi_rs_r rs
    obtain ⟨q, e1, e2, v, e3, d_83⟩ := k0 _ _ _ _ _ _ _ d_81 rr
    exact ⟨q, e1, e2, hn _ _ _ _ _ _ _ _ d_83 rl (And.intro e3 rs_82) rr⟩
  · split at d
    · obtain ⟨o, r, rfl, d_84⟩ := wi_pr_e d
      obtain ⟨x, t, rfl, hz, rs_85⟩ := wi_rs_c rs
      obtain ⟨t, rfl, rs_86⟩ := wi_rs_r rs_85
      obtain ⟨q, e1, e2, e3, e4, h2, e5, d_87⟩ := k1 _ _ _ _ _ _ _ _ _ d_84 rr hz
      exact ⟨q, e1, e2, e3, e4, hn _ _ _ _ _ _ _ _ d_87 rl rs_86 e5⟩
    · exact d.elim
  · obtain ⟨o, r, rfl, d_88⟩ := wi_pr_e d
    obtain ⟨t, rfl, rs_89⟩ := wi_rs_r rs
    obtain ⟨q, e1, e2, v, e3, d_90⟩ := k2 _ _ _ _ _ d_88 rr
    exact ⟨q, e1, e2, hn _ _ _ _ _ _ _ _ d_90 rl (And.intro e3 rs_89) rr⟩
  iterate 4
    · obtain ⟨j, r, rfl, d_91⟩ := wi_pi_e d
      obtain ⟨o, r, rfl, d_92⟩ := wi_pr_e d_91
      obtain ⟨z, t, rfl, hz, rs_93⟩ := wi_rs_i rs
      obtain ⟨t, rfl, rs_94⟩ := wi_rs_r rs_93
      obtain ⟨q, e1, e2, e3, e4, v, e5, d_95⟩ := k3 _ _ _ _ _ _ _ d_92 rr
      refine ⟨q, e1, e2, by rw [hz]; exact e3, by rw [hz]; exact e4, ?_⟩
      rw [wi_nat hz]
      exact hn _ _ _ _ _ _ _ _ d_95 rl (And.intro e5 rs_94) rr
  · obtain ⟨x, r, rfl, d_96⟩ := wi_pi_e d
    obtain ⟨j, r, rfl, d_97⟩ := wi_pi_e d_96
    obtain ⟨o, r, rfl, d_98⟩ := wi_pr_e d_97
    obtain ⟨y, t, rfl, hy, rs_99⟩ := wi_rs_i rs
    obtain ⟨z, t, rfl, hz, rs_100⟩ := wi_rs_i rs_99
    obtain ⟨t, rfl, rs_101⟩ := wi_rs_r rs_100
    obtain ⟨q, e1, e2, e3, e4, -, h2, e5, d_102⟩ := k4 _ _ _ _ _ _ _ _ _ _ d_98 rr ⟨y, rfl, hy⟩
    refine ⟨q, e1, e2, by rw [hz]; exact e3, by rw [hz]; exact e4, ?_⟩
    rw [wi_nat hz]
    exact hn _ _ _ _ _ _ _ _ d_102 rl rs_101 e5
  · obtain ⟨x, r, rfl, d_103⟩ := wi_pi_e d
    obtain ⟨j, r, rfl, d_104⟩ := wi_pi_e d_103
    obtain ⟨o, r, rfl, d0, d_105⟩ := wi_pr_e d_104
    obtain ⟨y, t, rfl, hy, rs_106⟩ := wi_rs_i rs
    obtain ⟨z, t, rfl, hz, rs_107⟩ := wi_rs_i rs_106
    obtain ⟨t, rfl, rs_108⟩ := wi_rs_r rs_107
    obtain ⟨q, e1, e2, e3, e4, -, h2, e5, d_109⟩ := k4 _ _ _ _ _ _ _ _ _ _ d_105 rr ⟨y, rfl, hy⟩
    refine ⟨q, e1, e2, ?_, by rw [hz]; exact e3, by rw [hz]; exact e4, ?_⟩
    · rw [← Int32.toInt_inj, ← Int32.toInt_inj, hy]
      exact d0
    · rw [wi_nat hz]
      exact hn _ _ _ _ _ _ _ _ d_109 rl rs_108 e5
  · obtain ⟨x, r, rfl, d_110⟩ := wi_pj_e d
    obtain ⟨j, r, rfl, d_111⟩ := wi_pi_e d_110
    obtain ⟨o, r, rfl, d_112⟩ := wi_pr_e d_111
    obtain ⟨y, t, rfl, hy, rs_113⟩ := wi_rs_j rs
    obtain ⟨z, t, rfl, hz, rs_114⟩ := wi_rs_i rs_113
    obtain ⟨t, rfl, rs_115⟩ := wi_rs_r rs_114
    obtain ⟨q, e1, e2, e3, e4, -, h2, e5, d_116⟩ := k4 _ _ _ _ _ _ _ _ _ _ d_112 rr ⟨y, rfl, hy⟩
    refine ⟨q, e1, e2, by rw [hz]; exact e3, by rw [hz]; exact e4, ?_⟩
    rw [wi_nat hz]
    exact hn _ _ _ _ _ _ _ _ d_116 rl rs_115 e5
  · obtain ⟨x, r, rfl, d_117⟩ := wi_pr_e d
    obtain ⟨j, r, rfl, d_118⟩ := wi_pi_e d_117
    obtain ⟨o, r, rfl, d_119⟩ := wi_pr_e d_118
    obtain ⟨t, rfl, rs_120⟩ := wi_rs_r rs
    obtain ⟨z, t, rfl, hz, rs_121⟩ := wi_rs_i rs_120
    obtain ⟨t, rfl, rs_122⟩ := wi_rs_r rs_121
    obtain ⟨q, e1, e2, e3, e4, e6, h2, e5, d_123⟩ := k4 _ _ _ _ _ _ _ _ _ _ d_119 rr rfl
    refine ⟨q, e1, e2, fun v hv => e6 rfl v (by rw [hv]), by rw [hz]; exact e3, by rw [hz]; exact e4, ?_⟩
    rw [wi_nat hz]
    exact hn _ _ _ _ _ _ _ _ d_123 rl rs_122 e5
  iterate 2
    · obtain ⟨x, r, rfl, d1, d2, d3, d4, d_124⟩ := wi_pi_e d
      obtain ⟨z, t, rfl, hz, rs_125⟩ := wi_rs_i rs
      obtain ⟨v, h2, e1, e2, d_126⟩ := k5 _ _ _ _ _ d_124 rr d1 d2
      refine And.intro (by rw [hz]; exact d1) (And.intro (by rw [hz]; exact d2) ?_)
      rw [wi_nat hz]
      exact ⟨d3, d4, hn _ _ _ _ _ _ _ _ d_126 rl (And.intro e1 rs_125) e2⟩
  · obtain ⟨d1, d2, d_127⟩ := d
    refine And.intro d1 (And.intro d2 ?_)
    split at d_127
    · next e =>
      rw [if_pos e]
      obtain ⟨d3, d4, d_128⟩ := d_127
      split at d_128
      · next e2 =>
        refine ⟨d3, d4, by rw [wi_rs_cat rs]; exact e2, fun n hn => ?_⟩
        obtain ⟨h2, e3, d_129⟩ := k9 _ _ _ d_128 rr n hn
        exact ht _ _ _ d_129 e3
      · exact d_128.elim
    · next e =>
      rw [if_neg e]
      obtain ⟨v, h2, e1, e2, d_130⟩ := k5 _ _ _ _ _ d_127 rr (by decide) (by decide)
      exact hn _ _ _ _ _ _ _ _ d_130 rl (And.intro e1 rs) e2
  · show ite _ _ _
    split at d
    · next e =>
      rw [if_pos e]
      obtain ⟨o, r, rfl, d_131⟩ := wi_pr_e d
      obtain ⟨t, rfl, rs_132⟩ := wi_rs_r rs
      split at d_131
      · split at d_131
        · next e2 => exact And.intro ⟨_, rfl⟩ (And.intro (by rw [wi_rs_cat rs_132]; exact e2) (hn _ _ _ _ _ _ _ _ d_131 rl rs_132 rr))
        · exact d_131.elim
      · exact d_131.elim
    · next e =>
      rw [if_neg e]
      obtain ⟨d1, d2, d_133⟩ := d
      unfold wi_pp at d_133
      split at d_133
      · next e3 =>
        obtain ⟨t1, t2⟩ := wi_rs_td (wm_mn a) rs
        refine ⟨d1, d2, by rw [wi_rs_len rs]; exact e3, ?_⟩
        have t1 := wi_rs_rev t1
        split at d_133
        · next e4 =>
          split at d_133
          · next e5 =>
            refine ⟨by rw [wi_rs_cat t2]; exact e5, ?_, cxk _ _ _ _ _ _ _ t1 t2 rr d_133⟩
            rw [e4] at t1
            obtain ⟨t, e6, -⟩ := wi_rs_r t1
            exact ⟨_, _, e6⟩
          · exact d_133.elim
        · exact d_133.elim
      · exact d_133.elim
  · obtain ⟨d1, d2, d_134⟩ := d
    unfold wi_pp at d_134
    split at d_134
    · next e3 =>
      obtain ⟨t1, t2⟩ := wi_rs_td (wm_mn a) rs
      refine ⟨d1, d2, by rw [wi_rs_len rs]; exact e3, ?_⟩
      have t1 := wi_rs_rev t1
      split at d_134
      · next e4 =>
        split at d_134
        · next e5 =>
          obtain ⟨q, e7, e8, d_135⟩ := k8 _ _ _ _ _ d_134 rr
          refine ⟨by rw [wi_rs_cat t2]; exact e5, ?_, cxk _ _ _ _ _ _ _ t1 t2 rr d_135⟩
          rw [e4] at t1
          obtain ⟨t, e6, -⟩ := wi_rs_r t1
          exact ⟨q, t, by rw [e6, e7], e8⟩
        · exact d_134.elim
      · exact d_134.elim
    · exact d_134.elim
  · obtain ⟨d1, d2, d_136⟩ := d
    unfold wi_pp at d_136
    split at d_136
    · next e3 =>
      obtain ⟨t1, t2⟩ := wi_rs_td (wm_mn a) rs
      refine ⟨d1, d2, by rw [wi_rs_len rs]; exact e3, ?_⟩
      have t1 := wi_rs_rev t1
      split at d_136
      · next e5 => exact ⟨by rw [wi_rs_cat t2]; exact e5, cxk _ _ _ _ _ _ _ t1 t2 rr d_136⟩
      · exact d_136.elim
    · exact d_136.elim
  · obtain ⟨x, r, rfl, d_137⟩ := wi_pi_e d
    obtain ⟨z, t, rfl, hz, rs_138⟩ := wi_rs_i rs
    split at d_137
    · obtain ⟨d1, d2, d_139⟩ := d_137
      cases wi_rs_n rs_138
      refine ⟨rfl, d1, d2, fun e => ?_, ?_⟩
      · rw [if_pos e] at d_139
        rw [← Int32.toInt_inj, ← Int32.toInt_inj, hz]
        exact d_139.1
      · split at d_139
        · exact hq _ _ _ _ d_139.2 (hro _ _ ⟨z, rfl, hz⟩) rr
        · exact hq _ _ _ _ d_139 (hro _ _ ⟨z, rfl, hz⟩) rr
    · exact d_137.elim
  · obtain ⟨x, r, rfl, d_140⟩ := wi_pj_e d
    obtain ⟨z, t, rfl, hz, rs_141⟩ := wi_rs_j rs
    split at d_140
    · obtain ⟨d1, d2, d_142⟩ := d_140
      cases wi_rs_n rs_141
      exact ⟨rfl, d1, d2, hq _ _ _ _ d_142 (hro _ _ ⟨z, rfl, hz⟩) rr⟩
    · exact d_140.elim
  · obtain ⟨x, r, rfl, d_143⟩ := wi_pr_e d
    obtain ⟨t, rfl, rs_144⟩ := wi_rs_r rs
    split at d_143
    · obtain ⟨d1, d2, d_145⟩ := d_143
      cases wi_rs_n rs_144
      exact ⟨rfl, d1, d2, hq _ _ _ _ d_145 (hro _ _ rfl) rr⟩
    · exact d_143.elim
  · split at d
    · obtain ⟨d1, d2, d_146⟩ := d
      cases wi_rs_n rs
      exact And.intro rfl (And.intro d1 (And.intro d2 (hq _ _ _ _ d_146 hrn rr)))
    · exact d.elim
  · exact d.elim
end WIS
end
section
/-! THE MACHINE OF WHOLE NUMBERS, 3: methods -/
def wi_ct {H : Type} (hs : List Nat) (I : Nat → wi_N H) (pc : Nat) (A : Prop) (lv : wi_L) (st : List wi_V) (h : H) (cu su : Nat) : Prop := if hs.contains pc then I pc lv st h cu su else A
def wi_w {H : Type} (hp : wi_P H) (RC RS mc ms : Nat) (cx : wi_X H) (qr : wi_Q1 H) (qt : wi_Q2 H) (tb : wm_T) (hs : List Nat) (I : Nat → wi_N H) : Nat → wm_T → wi_N H
  | 0, _ => fun _ _ _ _ _ => False
  | _ + 1, [] => fun _ _ _ _ _ => False
  | n + 1, (pc, i, a, b, c, _) :: r => wi_1 hp RC RS mc ms cx qr qt (fun lv st h cu su => wi_ct hs I (pc + wm_len i) (wi_w hp RC RS mc ms cx qr qt tb hs I n (wm_nt i c r) lv st h cu su) lv st h cu su) (fun t lv st h cu su => wi_ct hs I t (wi_w hp RC RS mc ms cx qr qt tb hs I n (wm_dp tb t) lv st h cu su) lv st h cu su) i a b c
def wi_tc (tb : wm_T) : Bool := tb.all fun x => wi_ck x.2.1 x.2.2.1
theorem wi_tc_sub : ∀ {u t : wm_T}, wi_tc (u ++ t) = true → wi_tc t = true := by
  intro u t h
  unfold wi_tc at h ⊢
  rw [List.all_append, Bool.and_eq_true] at h
  exact h.2
/-- the world's relation to heaps, from a heap on -/
abbrev wi_RL (H : Type) : Type := (Nat → Nat) → wm_H → H → wm_H → Prop
def wi_Lw {H : Type} (Rl : wi_RL H) (hp : wi_P H) : Prop := (∀ ρ h0 h h', Rl ρ h0 h h' → Rl ρ h' h h') ∧ (∀ ρ h0 h h' h2 h2', Rl ρ h0 h h' → Rl ρ h' h2 h2' → Rl ρ h0 h2 h2') ∧ ∀ ρ h0, wi_hk ρ (Rl ρ h0) hp
/-- a contract over the world as one over heaps -/
def wi_lf {H : Type} (Rl : wi_RL H) (sp : List wi_V → H → wi_Q1 H → wi_Q2 H → Prop) : List wm_V → wm_H → wm_Q1 → wm_Q2 → Prop := fun as' h' q1' q2' =>
  ∃ ρ as h q1 q2, wi_rs ρ as as' ∧ Rl ρ h' h h' ∧ sp as h q1 q2 ∧ (∀ v g v' g', q1 v g → wi_ro ρ v v' → Rl ρ h' g g' → q1' v' g') ∧ ∀ t g g', q2 t g → Rl ρ h' g g' → q2' t g'
theorem wi_w_ok {H : Type} {Rl : wi_RL H} {hp : wi_P H} (W : wi_Lw Rl hp) {ρ : Nat → Nat} {h0 : wm_H} {RC RS mc ms : Nat} {cx : wi_X H} {qr : wi_Q1 H} {qt : wi_Q2 H} {qr' : wm_Q1} {qt' : wm_Q2}
    (hq : ∀ v h v' h', qr v h → wi_ro ρ v v' → Rl ρ h0 h h' → qr' v' h') (ht : ∀ t h h', qt t h → Rl ρ h0 h h' → qt' t h') {tb : wm_T} (hk : wi_tc tb = true) {hs : List Nat} {I : Nat → wi_N H} {I' : Nat → wm_S → Prop}
    (hI : ∀ pc lv st h cu su lv' st' h', I pc lv st h cu su → wi_rl ρ lv lv' → wi_rs ρ st st' → Rl ρ h0 h h' → I' pc (lv', st', h', cu, su)) :
    ∀ n T, wi_tc T = true → ∀ lv st h cu su lv' st' h', wi_w hp RC RS mc ms cx qr qt tb hs I n T lv st h cu su → wi_rl ρ lv lv' → wi_rs ρ st st' → Rl ρ h0 h h' → wm_w RC RS mc ms (fun id => wi_lf Rl (cx id)) qr' qt' tb hs I' n T lv' st' h' cu su := by
  obtain ⟨w1, w2, w3⟩ := W
  intro n
  induction n with
  | zero => intro T _ lv st h cu su lv' st' h' d; exact d.elim
  | succ n ih =>
    intro T hT lv st h cu su lv' st' h' d rl rs rr
    cases T with
    | nil => exact d.elim
    | cons x r =>
      obtain ⟨pc, i, a, b, c, e⟩ := x
      have hT2 : wi_ck i a = true ∧ wi_tc r = true := by
        unfold wi_tc at hT ⊢
        rw [List.all_cons, Bool.and_eq_true] at hT
        exact hT
      refine wi_1_ok (w3 ρ h0) hq ht (fun id as h q1 q2 as' h' q1' q2' z1 z2 z3 z4 z5 => ?_) (fun lv st h cu su lv' st' h' z1 z2 z3 z4 => ?_) (fun t lv st h cu su lv' st' h' z1 z2 z3 z4 => ?_) hT2.1 d rl rs rr
      · exact ⟨ρ, as, h, q1, q2, z2, w1 _ _ _ _ z3, z1, fun v g v' g' y1 y2 y3 => z4 _ _ _ _ y1 y2 (w2 _ _ _ _ _ _ z3 y3), fun t g g' y1 y3 => z5 _ _ _ y1 (w2 _ _ _ _ _ _ z3 y3)⟩
      · unfold wi_ct at z1
        unfold wm_ct
        split at z1
        · next e1 => rw [if_pos e1]; exact hI _ _ _ _ _ _ _ _ _ z1 z2 z3 z4
        · next e1 =>
          rw [if_neg e1]
          refine ih _ ?_ _ _ _ _ _ _ _ _ z1 z2 z3 z4
          rcases wm_nt_e i c r r with e9 | ⟨e9, -⟩
          · rw [e9]; rfl
          · rw [e9]; exact hT2.2
      · unfold wi_ct at z1
        unfold wm_ct
        split at z1
        · next e1 => rw [if_pos e1]; exact hI _ _ _ _ _ _ _ _ _ z1 z2 z3 z4
        · next e1 =>
          rw [if_neg e1]
          refine ih _ ?_ _ _ _ _ _ _ _ _ z1 z2 z3 z4
          obtain ⟨u, hu⟩ := wm_dp_e tb t
          rw [hu] at hk
          exact wi_tc_sub hk
/-- what must be shown of a method with cuts -/
def wi_go {H : Type} (hp : wi_P H) (id : Nat) (cx : wi_X H) (tb : wm_T) (hs : List Nat) (f : Nat) (as : List wi_V) (h : H) (qr : wi_Q1 H) (qt : wi_Q2 H) : Prop :=
  ∃ I : Nat → Nat → wi_N H, (∀ pc, hs.contains pc = true → ∀ n lv st h cu su, I n pc lv st h cu su → wi_w hp (wm_mr id).cells (wm_mr id).slots (wm_mc id) (wm_ms id) cx qr qt tb hs (fun pc' lv st h cu su => ∃ n', n' < n ∧ I n' pc' lv st h cu su) f (wm_dp tb pc) lv st h cu su) ∧
    wi_w hp (wm_mr id).cells (wm_mr id).slots (wm_mc id) (wm_ms id) cx qr qt tb hs (fun pc' lv st h cu su => ∃ n', I n' pc' lv st h cu su) f (wm_dp tb 0) (wi_en as (wm_mL id)) [] h 0 0
theorem wi_method {l : Launch} {D : va_G} {aC : wm_Y} {b0 : Nat} {H : Type} {Rl : wi_RL H} {hp : wi_P H} (W : wi_Lw Rl hp) (id : Nat) {cx : wi_X H} {ids : List Nat} {tb : wm_T} {sp : List wi_V → H → wi_Q1 H → wi_Q2 H → Prop}
    (hy : plainName (wm_my id).cls = true) (hl0 : l.stackTraces = false) (hcx : wm_cxok l (wm_mr id) D aC b0 (fun id => wi_lf Rl (cx id)) ids)
    (ht : wm_tok (wm_mr id) (wm_my id).cls (wm_my id).name (wm_mrt id) ids (wm_mb id) tb) (hk : wi_tc tb = true) (hs : List Nat) (f : Nat)
    (main : ∀ as h q1 q2, sp as h q1 q2 → Nat.ble ((as.map wi_cat).sum) (wm_mL id) = true ∧ wi_go hp id cx tb hs f as h q1 q2) : wm_sp l D aC b0 id (wi_lf Rl sp) := by
  intro as' h' q1' q2' z
  obtain ⟨ρ, as, h, q1, q2, z1, z2, z3, z4, z5⟩ := z
  obtain ⟨m1, I, m2, m3⟩ := main as h q1 q2 z3
  have m1 := Nat.le_of_ble_eq_true m1
  refine wm_method id hy (by unfold wm_ws; rw [wi_rs_cat z1]; exact m1) hl0 hcx ht hs (fun n pc σ => ∃ lv st g, I n pc lv st g σ.2.2.2.1 σ.2.2.2.2 ∧ wi_rl ρ lv σ.1 ∧ wi_rs ρ st σ.2.1 ∧ Rl ρ h' g σ.2.2.1) f (fun pc hpc n σ hσ => ?_) (fun hw => ?_)
  · obtain ⟨lv, st, g, y1, y2, y3, y4⟩ := hσ
    exact wi_w_ok W z4 z5 hk (fun pc lv st h cu su lv' st' h2 x1 x2 x3 x4 => by
      obtain ⟨n', x5, x6⟩ := x1
      exact ⟨n', x5, lv, st, h, x6, x2, x3, x4⟩) f _ (by obtain ⟨u, hu⟩ := wm_dp_e tb pc; rw [hu] at hk; exact wi_tc_sub hk) _ _ _ _ _ _ _ _ (m2 pc hpc n lv st g _ _ y1) y2 y3 y4
  · exact wi_w_ok W z4 z5 hk (fun pc lv st h cu su lv' st' h2 x1 x2 x3 x4 => by
      obtain ⟨n', x6⟩ := x1
      exact ⟨n', lv, st, h, x6, x2, x3, x4⟩) f _ (by obtain ⟨u, hu⟩ := wm_dp_e tb 0; rw [hu] at hk; exact wi_tc_sub hk) _ _ _ _ _ _ _ _ m3 (wi_rl_en _ z1) trivial z2
end
section
/-! THE REFERENCE's WORLD: its state as whole numbers; its references are their tags -/
/-- its numbers: code limit started signals elements drivers size processes waveCount step now; its arrays of ints; of longs -/
abbrev mq_H : Type := List Int × (Nat → Nat → Int) × (Nat → Nat → Int)
abbrev mq_A : Type := Nat → Nat → Int
def mq_sl (b : Nat) (f : Nat → Prop) : Prop := match b with
  | 4 => f 30
  | 5 => f 31
  | 6 => f 32
  | 7 => f 33
  | 8 => f 34
  | 10 => f 35
  | 11 => f 36
  | 13 => f 37
  | 14 => f 38
  | 15 => f 39
  | 17 => f 40
  | 18 => f 41
  | 19 => f 42
  | 20 => f 43
  | 21 => f 44
  | 22 => f 45
  | 24 => f 46
  | 25 => f 47
  | 26 => f 48
  | 27 => f 49
  | 28 => f 50
  | 29 => f 51
  | 30 => f 52
  | _ => False
def mq_ln (a : Nat) (f : Int → Prop) : Prop := match a with
  | 30 => f 200
  | 31 => f 200
  | 32 => f 200
  | 33 => f 200
  | 34 => f 200
  | 35 => f 512
  | 36 => f 512
  | 37 => f 512
  | 38 => f 512
  | 39 => f 512
  | 40 => f 8192
  | 41 => f 8192
  | 42 => f 8192
  | 43 => f 8208
  | 44 => f 8208
  | 45 => f 8208
  | 46 => f 64
  | 47 => f 64
  | 48 => f 64
  | 49 => f 12800
  | 50 => f 200
  | 51 => f 1024
  | 52 => f 16
  | _ => False
theorem mq_sl_e {b : Nat} {f : Nat → Prop} (h : mq_sl b f) : ∃ t n, (b, t, n) ∈ md_as ∧ f t := by
  unfold mq_sl at h
  split at h
  · exact ⟨30, 200, by decide, h⟩
  · exact ⟨31, 200, by decide, h⟩
  · exact ⟨32, 200, by decide, h⟩
  · exact ⟨33, 200, by decide, h⟩
  · exact ⟨34, 200, by decide, h⟩
  · exact ⟨35, 512, by decide, h⟩
  · exact ⟨36, 512, by decide, h⟩
  · exact ⟨37, 512, by decide, h⟩
  · exact ⟨38, 512, by decide, h⟩
  · exact ⟨39, 512, by decide, h⟩
  · exact ⟨40, 8192, by decide, h⟩
  · exact ⟨41, 8192, by decide, h⟩
  · exact ⟨42, 8192, by decide, h⟩
  · exact ⟨43, 8208, by decide, h⟩
  · exact ⟨44, 8208, by decide, h⟩
  · exact ⟨45, 8208, by decide, h⟩
  · exact ⟨46, 64, by decide, h⟩
  · exact ⟨47, 64, by decide, h⟩
  · exact ⟨48, 64, by decide, h⟩
  · exact ⟨49, 12800, by decide, h⟩
  · exact ⟨50, 200, by decide, h⟩
  · exact ⟨51, 1024, by decide, h⟩
  · exact ⟨52, 16, by decide, h⟩
  · exact h.elim
theorem mq_ln_e {a : Nat} {f : Int → Prop} (h : mq_ln a f) : ∃ s n : Nat, (s, a, n) ∈ md_as ∧ f n := by
  unfold mq_ln at h
  split at h
  · exact ⟨4, 200, by decide, h⟩
  · exact ⟨5, 200, by decide, h⟩
  · exact ⟨6, 200, by decide, h⟩
  · exact ⟨7, 200, by decide, h⟩
  · exact ⟨8, 200, by decide, h⟩
  · exact ⟨10, 512, by decide, h⟩
  · exact ⟨11, 512, by decide, h⟩
  · exact ⟨13, 512, by decide, h⟩
  · exact ⟨14, 512, by decide, h⟩
  · exact ⟨15, 512, by decide, h⟩
  · exact ⟨17, 8192, by decide, h⟩
  · exact ⟨18, 8192, by decide, h⟩
  · exact ⟨19, 8192, by decide, h⟩
  · exact ⟨20, 8208, by decide, h⟩
  · exact ⟨21, 8208, by decide, h⟩
  · exact ⟨22, 8208, by decide, h⟩
  · exact ⟨24, 64, by decide, h⟩
  · exact ⟨25, 64, by decide, h⟩
  · exact ⟨26, 64, by decide, h⟩
  · exact ⟨27, 12800, by decide, h⟩
  · exact ⟨28, 200, by decide, h⟩
  · exact ⟨29, 1024, by decide, h⟩
  · exact ⟨30, 16, by decide, h⟩
  · exact h.elim
def mq_ix (j n : Int) (A : Prop) : Prop := 0 ≤ j ∧ j < n ∧ A
def mq_nt : List Int → Nat → (Int → Prop) → Prop
  | [], _, _ => False
  | x :: _, 0, k => k x
  | _ :: r, n + 1, k => mq_nt r n k
def mq_st : List Int → Nat → Int → List Int
  | [], _, _ => []
  | _ :: r, 0, v => v :: r
  | x :: r, n + 1, v => x :: mq_st r n v
def mq_fi (b : Nat) (f : Nat → Prop) : Prop := match b with
  | 0 => f 0
  | 1 => f 1
  | 2 => f 2
  | 3 => f 3
  | 9 => f 4
  | 12 => f 5
  | 16 => f 6
  | 23 => f 7
  | 31 => f 8
  | 33 => f 9
  | _ => False
def mq_gf (c b : Nat) (F : List Int) (A B : mq_A) (k : wi_Q1 mq_H) : Prop := match c with
  | 0 => mq_fi b fun n => mq_nt F n fun x => k (some (.inl x)) (F, A, B)
  | 1 => if b = 32 then mq_nt F 10 fun x => k (some (.inr (.inl x))) (F, A, B) else False
  | 2 => mq_sl b fun t => k (some (wi_rf (some t))) (F, A, B)
  | _ => False
def mq_la (c a j : Nat) (F : List Int) (A B : mq_A) (k : wi_Q1 mq_H) : Prop := match c with
  | 0 => k (some (.inl (A a j))) (F, A, B)
  | 1 => k (some (.inr (.inl (B a j)))) (F, A, B)
  | _ => False
def mq_h (code a b c : Nat) (as : List wi_V) (F : List Int) (A B : mq_A) (k : wi_Q1 mq_H) : Prop := match code with
  | 0 => match as with
    | [.inr (.inr (.inl (some t)))] => if t = 11 ∧ a = 11 then mq_gf c b F A B k else False
    | _ => False
  | 1 => match as with
    | [.inr (.inr (.inl (some t))), .inl x] => if t = 11 ∧ a = 11 ∧ c = 0 then (if b = 2 then (x = 0 ∨ x = 1) ∧ k none (mq_st F 2 x, A, B) else mq_fi b fun n => k none (mq_st F n x, A, B)) else False
    | [.inr (.inr (.inl (some t))), .inr (.inl x)] => if t = 11 ∧ a = 11 ∧ c = 1 ∧ b = 32 then k none (mq_st F 10 x, A, B) else False
    | _ => False
  | 3 => match as with
    | [.inr (.inr (.inl (some t))), .inl j] => if t = a then mq_ln a (fun n => mq_ix j n (mq_la c a j.toNat F A B k)) else False
    | _ => False
  | 4 => match as with
    | [.inr (.inr (.inl (some t))), .inl j, .inl x] => if t = a ∧ c = 0 then mq_ln a (fun n => mq_ix j n (∀ A', A' = md_u A a j.toNat x → k none (F, A', B))) else False
    | [.inr (.inr (.inl (some t))), .inl j, .inr (.inl x)] => if t = a ∧ c = 1 then mq_ln a (fun n => mq_ix j n (∀ B', B' = md_u B a j.toNat x → k none (F, A, B'))) else False
    | _ => False
  | 8 => match as with
    | [.inr (.inr (.inl (some t)))] => if t = 11 ∧ b = 9 then k none (F, A, B) else False
    | _ => False
  | _ => False
def mq_hp : wi_P mq_H := fun code a b c as M k => match M with
  | (F, A, B) => mq_h code a b c as F A B k
def mq_F (N : md_M) : List Int := [(N.1 11 0).toInt, (N.1 11 1).toInt, (N.1 11 2).toInt, (N.1 11 3).toInt, (N.1 11 9).toInt, (N.1 11 12).toInt, (N.1 11 16).toInt, (N.1 11 23).toInt, (N.1 11 31).toInt, (N.1 11 33).toInt, (N.2 11 32).toInt]
def mq_E (M : mq_H) (N : md_M) : Prop := M.1 = mq_F N ∧ (∀ t k, 11 < t → (N.1 t k).toInt = M.2.1 t k) ∧ ∀ t k, 11 < t → (N.2 t k).toInt = M.2.2 t k
def mq_Rl : wi_RL mq_H := fun ρ h0 M h => ∃ N : md_M, md_S h0 h (ρ 11) ρ N ∧ mq_E M N
theorem mq_nt_e {N : md_M} {b : Nat} {f : Int → Prop} (h : mq_fi b fun n => mq_nt (mq_F N) n f) : f (N.1 11 b).toInt := by
  unfold mq_fi at h
  split at h <;> first
    | exact h.elim
    | exact h
theorem mq_st_e {N : md_M} {b : Nat} {x : Int32} {y : Int} (hx : x.toInt = y) {f : List Int → Prop} (h : mq_fi b fun n => f (mq_st (mq_F N) n y)) : f (mq_F (md_u N.1 11 b x, N.2)) := by
  subst hx
  unfold mq_fi at h
  split at h
  · exact h
  · exact h
  · exact h
  · exact h
  · exact h
  · exact h
  · exact h
  · exact h
  · exact h
  · exact h
  · exact h.elim
theorem mq_E_1 {M : mq_H} {N : md_M} (e : mq_E M N) {t k : Nat} (ht : 11 < t) {x : Int32} {y : Int} (h : x.toInt = y) : mq_E (M.1, md_u M.2.1 t k y, M.2.2) (md_u N.1 t k x, N.2) := by
  refine ⟨?_, fun t' k' ht' => ?_, e.2.2⟩
  · rw [e.1]
    unfold mq_F
    simp only [md_u_t (Nat.ne_of_lt ht)]
  · simp only [md_u]
    split
    · exact h
    · exact e.2.1 t' k' ht'
theorem mq_E_2 {M : mq_H} {N : md_M} (e : mq_E M N) {t k : Nat} (ht : 11 < t) {x : Int64} {y : Int} (h : x.toInt = y) : mq_E (M.1, M.2.1, md_u M.2.2 t k y) (N.1, md_u N.2 t k x) := by
  refine ⟨?_, e.2.1, fun t' k' ht' => ?_⟩
  · rw [e.1]
    unfold mq_F
    simp only [md_u_t (Nat.ne_of_lt ht)]
  · simp only [md_u]
    split
    · exact h
    · exact e.2.2 t' k' ht'
theorem mq_nb {b : Nat} (h : b ≠ 2) : wm_ty 9 b ≠ .boolean := by
  show wd_t9 b ≠ .boolean
  unfold wd_t9
  split <;> first
    | exact absurd rfl h
    | intro z; cases z
theorem mq_hk (ρ : Nat → Nat) (h0 : wm_H) : wi_hk ρ (mq_Rl ρ h0) mq_hp := by
  refine ⟨?_, ?_, ?_, ?_, ?_, ?_, ?_, ?_, ?_⟩
  · intro a b c o M k h' d r
    obtain ⟨F, A, B⟩ := M
    obtain ⟨N, S, E⟩ := r
    cases o with
    | none => exact (show False from d).elim
    | some t =>
      replace d : (if t = 11 ∧ a = 11 then mq_gf c b F A B k else False) := d
      split at d
      · next e =>
        obtain ⟨rfl, rfl⟩ := e
        refine ⟨ρ 11, rfl, S.1.1, ?_⟩
        unfold mq_gf at d
        split at d
        · cases E.1
          exact ⟨.inl _, ⟨_, rfl, by rw [S.1.2.1]⟩, mq_nt_e d⟩
        · cases E.1
          split at d
          · next e => subst e; exact ⟨.inr (.inl _), ⟨_, rfl, by rw [S.1.2.2.1]⟩, d⟩
          · exact d.elim
        · obtain ⟨t, n, hx, d2⟩ := mq_sl_e d
          refine ⟨_, ?_, d2⟩
          show wm_wv h' 2 11 b (ρ 11) = _
          unfold wm_wv
          rw [(S.1.2.2.2 _ hx).1]
          rfl
        · exact d.elim
      · exact d.elim
  · intro a b c o v x M k h' d r hv
    obtain ⟨F, A, B⟩ := M
    obtain ⟨N, S, E⟩ := r
    cases o with
    | none => rcases v with v | v | v | v <;> exact (show False from d).elim
    | some t =>
      rcases v with v | v | v | v
      · replace d : (if t = 11 ∧ a = 11 ∧ c = 0 then (if b = 2 then (v = 0 ∨ v = 1) ∧ k none (mq_st F 2 v, A, B) else mq_fi b fun n => k none (mq_st F n v, A, B)) else False) := d
        obtain ⟨z, rfl, hz⟩ := hv
        cases E.1
        split at d
        · next e =>
          obtain ⟨rfl, rfl, rfl⟩ := e
          refine ⟨ρ 11, rfl, S.1.1, rfl, fun ci h1 h2 => ?_, (mq_F (md_u N.1 11 b z, N.2), A, B), ⟨_, md_fi S b z, rfl, fun t k ht => ?_, E.2.2⟩, ?_⟩
          · cases h1
            by_cases hb : b = 2
            · rw [if_pos hb] at d
              rcases d.1 with e | e
              · left; congr 1; rw [← Int32.toInt_inj, hz, e]; rfl
              · right; congr 1; rw [← Int32.toInt_inj, hz, e]; rfl
            · exact absurd h2 (mq_nb hb)
          · show ((md_u N.1 11 b z) t k).toInt = A t k
            rw [md_u_t (Nat.ne_of_gt ht)]
            exact E.2.1 t k ht
          · split at d
            · next e => subst e; subst hz; exact d.2
            · exact mq_st_e (f := fun F => k none (F, A, B)) hz d
        · exact d.elim
      · replace d : (if t = 11 ∧ a = 11 ∧ c = 1 ∧ b = 32 then k none (mq_st F 10 v, A, B) else False) := d
        obtain ⟨z, rfl, hz⟩ := hv
        cases E.1
        split at d
        · next e =>
          obtain ⟨rfl, rfl, rfl, rfl⟩ := e
          subst hz
          refine ⟨ρ 11, rfl, S.1.1, rfl, fun ci h1 h2 => ?_, (mq_F (N.1, md_u N.2 11 32 z), A, B), ⟨_, md_fl S 32 z, rfl, E.2.1, fun t k ht => ?_⟩, d⟩
          · cases h1
            exact absurd h2 (mq_nb (by decide))
          · show ((md_u N.2 11 32 z) t k).toInt = B t k
            rw [md_u_t (Nat.ne_of_gt ht)]
            exact E.2.2 t k ht
        · exact d.elim
      · exact (show False from d).elim
      · exact (show False from d).elim
  · intro a o M k h' d r
    exact (show False from d).elim
  · intro a c o j M k h' d r
    obtain ⟨F, A, B⟩ := M
    obtain ⟨N, S, E⟩ := r
    cases o with
    | none => exact (show False from d).elim
    | some t =>
      replace d : (if t = a then mq_ln a (fun n => mq_ix j n (mq_la c a j.toNat F A B k)) else False) := d
      split at d
      · next e =>
        subst e
        obtain ⟨s, n, hx, d1, d2, d3⟩ := mq_ln_e d
        obtain ⟨a1, a2, a3, a4, a5⟩ := S.1.2.2.2 _ hx
        have h30 : 30 ≤ t := md_as_t _ hx
        refine ⟨ρ t, rfl, a2, d1, by rw [a3]; exact d2, ?_⟩
        unfold mq_la at d3
        split at d3
        · exact ⟨.inl _, ⟨_, rfl, by rw [a4]; exact E.2.1 _ _ (by show 11 < t; omega)⟩, d3⟩
        · exact ⟨.inr (.inl _), ⟨_, rfl, by rw [a5]; exact E.2.2 _ _ (by show 11 < t; omega)⟩, d3⟩
        · exact d3.elim
      · exact d.elim
  · intro a b c o j v x M k h' d r hv
    obtain ⟨F, A, B⟩ := M
    obtain ⟨N, S, E⟩ := r
    cases o with
    | none => rcases v with v | v | v | v <;> exact (show False from d).elim
    | some t =>
      rcases v with v | v | v | v
      · replace d : (if t = a ∧ c = 0 then mq_ln a (fun n => mq_ix j n (∀ A', A' = md_u A a j.toNat v → k none (F, A', B))) else False) := d
        obtain ⟨z, rfl, hz⟩ := hv
        split at d
        · next e =>
          obtain ⟨rfl, rfl⟩ := e
          obtain ⟨s, n, hx, d1, d2, d3⟩ := mq_ln_e d
          obtain ⟨a1, a2, a3, a4, a5⟩ := S.1.2.2.2 _ hx
          have h30 : 30 ≤ t := md_as_t _ hx
          exact ⟨ρ t, rfl, a2, d1, by rw [a3]; exact d2, (fun e => by cases e), _, ⟨_, md_ai S _ hx j.toNat z, mq_E_1 (M := (F, A, B)) E (by show 11 < t; omega) hz⟩, d3 _ rfl⟩
        · exact d.elim
      · replace d : (if t = a ∧ c = 1 then mq_ln a (fun n => mq_ix j n (∀ B', B' = md_u B a j.toNat v → k none (F, A, B'))) else False) := d
        obtain ⟨z, rfl, hz⟩ := hv
        split at d
        · next e =>
          obtain ⟨rfl, rfl⟩ := e
          obtain ⟨s, n, hx, d1, d2, d3⟩ := mq_ln_e d
          obtain ⟨a1, a2, a3, a4, a5⟩ := S.1.2.2.2 _ hx
          have h30 : 30 ≤ t := md_as_t _ hx
          exact ⟨ρ t, rfl, a2, d1, by rw [a3]; exact d2, (fun e => by cases e), _, ⟨_, md_al S _ hx j.toNat z, mq_E_2 (M := (F, A, B)) E (by show 11 < t; omega) hz⟩, d3 _ rfl⟩
        · exact d.elim
      · exact (show False from d).elim
      · exact (show False from d).elim
  · intro a n M k h' d
    exact (show False from d).elim
  · intro x y M k h' d
    exact (show False from d).elim
  · intro b o M k h' d r
    obtain ⟨F, A, B⟩ := M
    obtain ⟨N, S, E⟩ := r
    cases o with
    | none => exact (show False from d).elim
    | some t =>
      replace d : (if t = 11 ∧ b = 9 then k none (F, A, B) else False) := d
      split at d
      · next e =>
        obtain ⟨rfl, rfl⟩ := e
        exact ⟨ρ 11, rfl, by rw [S.1.1]; rfl, d⟩
      · exact d.elim
  · intro M k h' d
    exact (show False from d).elim
theorem mq_lw : wi_Lw mq_Rl mq_hp := by
  refine ⟨fun ρ h0 h h' z => ?_, fun ρ h0 h h' h2 h2' z1 z2 => ?_, mq_hk⟩
  · obtain ⟨N, S, E⟩ := z
    exact ⟨N, md_S_rf S.1, E⟩
  · obtain ⟨N, S, E⟩ := z1
    obtain ⟨N2, S2, E2⟩ := z2
    exact ⟨N2, ⟨S2.1, md_F_tr S.2 S2.2⟩, E2⟩
end
section
/-! THE REFERENCE, 1: methods without loops -/
def mq_s (as : List wi_V) (f : Prop) : Prop := match as with
  | [.inr (.inr (.inl (some t)))] => if t = 11 then f else False
  | _ => False
theorem mq_s_e {as : List wi_V} {f : Prop} (h : mq_s as f) : as = [wi_rf (some 11)] ∧ f := by
  unfold mq_s at h
  split at h
  · split at h
    · next e => subst e; exact ⟨rfl, h⟩
    · exact h.elim
  · exact h.elim
def mq_sI (as : List wi_V) (f : Int → Prop) : Prop := match as with
  | [.inr (.inr (.inl (some t))), .inl x0] => if t = 11 then f x0 else False
  | _ => False
theorem mq_sI_e {as : List wi_V} {f : Int → Prop} (h : mq_sI as f) : ∃ x0, as = [wi_rf (some 11), .inl x0] ∧ f x0 := by
  unfold mq_sI at h
  split at h
  · split at h
    · next e => subst e; exact ⟨_, rfl, h⟩
    · exact h.elim
  · exact h.elim
def mq_sII (as : List wi_V) (f : Int → Int → Prop) : Prop := match as with
  | [.inr (.inr (.inl (some t))), .inl x0, .inl x1] => if t = 11 then f x0 x1 else False
  | _ => False
theorem mq_sII_e {as : List wi_V} {f : Int → Int → Prop} (h : mq_sII as f) : ∃ x0 x1, as = [wi_rf (some 11), .inl x0, .inl x1] ∧ f x0 x1 := by
  unfold mq_sII at h
  split at h
  · split at h
    · next e => subst e; exact ⟨_, _, rfl, h⟩
    · exact h.elim
  · exact h.elim
def mq_sIII (as : List wi_V) (f : Int → Int → Int → Prop) : Prop := match as with
  | [.inr (.inr (.inl (some t))), .inl x0, .inl x1, .inl x2] => if t = 11 then f x0 x1 x2 else False
  | _ => False
theorem mq_sIII_e {as : List wi_V} {f : Int → Int → Int → Prop} (h : mq_sIII as f) : ∃ x0 x1 x2, as = [wi_rf (some 11), .inl x0, .inl x1, .inl x2] ∧ f x0 x1 x2 := by
  unfold mq_sIII at h
  split at h
  · split at h
    · next e => subst e; exact ⟨_, _, _, rfl, h⟩
    · exact h.elim
  · exact h.elim
def mq_sJ (as : List wi_V) (f : Int → Prop) : Prop := match as with
  | [.inr (.inr (.inl (some t))), .inr (.inl x0)] => if t = 11 then f x0 else False
  | _ => False
theorem mq_sJ_e {as : List wi_V} {f : Int → Prop} (h : mq_sJ as f) : ∃ x0, as = [wi_rf (some 11), .inr (.inl x0)] ∧ f x0 := by
  unfold mq_sJ at h
  split at h
  · split at h
    · next e => subst e; exact ⟨_, rfl, h⟩
    · exact h.elim
  · exact h.elim
def mq_sIIJ (as : List wi_V) (f : Int → Int → Int → Prop) : Prop := match as with
  | [.inr (.inr (.inl (some t))), .inl x0, .inl x1, .inr (.inl x2)] => if t = 11 then f x0 x1 x2 else False
  | _ => False
theorem mq_sIIJ_e {as : List wi_V} {f : Int → Int → Int → Prop} (h : mq_sIIJ as f) : ∃ x0 x1 x2, as = [wi_rf (some 11), .inl x0, .inl x1, .inr (.inl x2)] ∧ f x0 x1 x2 := by
  unfold mq_sIIJ at h
  split at h
  · split at h
    · next e => subst e; exact ⟨_, _, _, rfl, h⟩
    · exact h.elim
  · exact h.elim
def mq_sIIIJ (as : List wi_V) (f : Int → Int → Int → Int → Prop) : Prop := match as with
  | [.inr (.inr (.inl (some t))), .inl x0, .inl x1, .inl x2, .inr (.inl x3)] => if t = 11 then f x0 x1 x2 x3 else False
  | _ => False
theorem mq_sIIIJ_e {as : List wi_V} {f : Int → Int → Int → Int → Prop} (h : mq_sIIIJ as f) : ∃ x0 x1 x2 x3, as = [wi_rf (some 11), .inl x0, .inl x1, .inl x2, .inr (.inl x3)] ∧ f x0 x1 x2 x3 := by
  unfold mq_sIIIJ at h
  split at h
  · split at h
    · next e => subst e; exact ⟨_, _, _, _, rfl, h⟩
    · exact h.elim
  · exact h.elim
def mq_sIIIIIJ (as : List wi_V) (f : Int → Int → Int → Int → Int → Int → Prop) : Prop := match as with
  | [.inr (.inr (.inl (some t))), .inl x0, .inl x1, .inl x2, .inl x3, .inl x4, .inr (.inl x5)] => if t = 11 then f x0 x1 x2 x3 x4 x5 else False
  | _ => False
theorem mq_sIIIIIJ_e {as : List wi_V} {f : Int → Int → Int → Int → Int → Int → Prop} (h : mq_sIIIIIJ as f) : ∃ x0 x1 x2 x3 x4 x5, as = [wi_rf (some 11), .inl x0, .inl x1, .inl x2, .inl x3, .inl x4, .inr (.inl x5)] ∧ f x0 x1 x2 x3 x4 x5 := by
  unfold mq_sIIIIIJ at h
  split at h
  · split at h
    · next e => subst e; exact ⟨_, _, _, _, _, _, rfl, h⟩
    · exact h.elim
  · exact h.elim
def mq_tII (as : List wi_V) (f : Int → Int → Prop) : Prop := match as with
  | [.inl x0, .inl x1] => f x0 x1
  | _ => False
theorem mq_tII_e {as : List wi_V} {f : Int → Int → Prop} (h : mq_tII as f) : ∃ x0 x1, as = [.inl x0, .inl x1] ∧ f x0 x1 := by
  unfold mq_tII at h
  split at h
  · exact ⟨_, _, rfl, h⟩
  · exact h.elim
theorem mq_nc {P : Nat → Prop} : ∀ pc, ([] : List Nat).contains pc = true → P pc := fun pc h => by cases h
theorem mq_c1 {a : Nat} {P : Nat → Prop} (h1 : P a) : ∀ pc, [a].contains pc = true → P pc := fun pc h => by
  have e : pc = a := by simpa using h
  rw [e]; exact h1
theorem mq_c2 {a b : Nat} {P : Nat → Prop} (h1 : P a) (h2 : P b) : ∀ pc, [a, b].contains pc = true → P pc := fun pc h => by
  have e : pc = a ∨ pc = b := by simpa using h
  rcases e with e | e <;> rw [e] <;> assumption
theorem mq_c3 {a b c : Nat} {P : Nat → Prop} (h1 : P a) (h2 : P b) (h3 : P c) : ∀ pc, [a, b, c].contains pc = true → P pc := fun pc h => by
  have e : pc = a ∨ pc = b ∨ pc = c := by simpa using h
  rcases e with e | e | e <;> rw [e] <;> assumption
theorem mq_c4 {a b c d : Nat} {P : Nat → Prop} (h1 : P a) (h2 : P b) (h3 : P c) (h4 : P d) : ∀ pc, [a, b, c, d].contains pc = true → P pc := fun pc h => by
  have e : pc = a ∨ pc = b ∨ pc = c ∨ pc = d := by simpa using h
  rcases e with e | e | e | e <;> rw [e] <;> assumption
theorem mq_c5 {a b c d f : Nat} {P : Nat → Prop} (h1 : P a) (h2 : P b) (h3 : P c) (h4 : P d) (h5 : P f) : ∀ pc, [a, b, c, d, f].contains pc = true → P pc := fun pc h => by
  have e : pc = a ∨ pc = b ∨ pc = c ∨ pc = d ∨ pc = f := by simpa using h
  rcases e with e | e | e | e | e <;> rw [e] <;> assumption
def mq_f (M : mq_H) (f : Int → Int → Int → Int → Int → Int → Int → Int → Int → Int → Int → mq_A → mq_A → Prop) : Prop := match M with
  | ([cd, lm, st, sg, el, dr, sz, pr, wc, sp, nw], A, B) => f cd lm st sg el dr sz pr wc sp nw A B
  | _ => False
theorem mq_f_e {M : mq_H} {f : Int → Int → Int → Int → Int → Int → Int → Int → Int → Int → Int → mq_A → mq_A → Prop} (h : mq_f M f) : ∃ cd lm st sg el dr sz pr wc sp nw A B, M = ([cd, lm, st, sg, el, dr, sz, pr, wc, sp, nw], A, B) ∧ f cd lm st sg el dr sz pr wc sp nw A B := by
  unfold mq_f at h
  split at h
  · exact ⟨_, _, _, _, _, _, _, _, _, _, _, _, _, rfl, h⟩
  · exact h.elim
def sm_79 (as : List wi_V) (M : mq_H) (q : wi_Q1 mq_H) (_ : wi_Q2 mq_H) : Prop := mq_s as (mq_f M fun cd lm st sg el dr sz pr wc sp nw A B => q (some (.inl cd)) ([cd, lm, st, sg, el, dr, sz, pr, wc, sp, nw], A, B))
theorem mm_79 {l : Launch} {D : va_G} {aC : wm_Y} {b0 : Nat} (hl0 : l.stackTraces = false) : wm_sp l D aC b0 79 (wi_lf mq_Rl sm_79) := by
  refine wi_method mq_lw 79 (cx := fun _ _ _ _ _ => False) (ids := ci_79) (tb := tb_79) (by decide +kernel) hl0 wm_cx0 (wm_tb_ok tk_79) (by decide +kernel) [] 250 (fun as M q qt hs => ?_)
  obtain ⟨rfl, hs1⟩ := mq_s_e hs
  clear hs
  obtain ⟨cd, lm, st, sg, el, dr, sz, pr, wc, sp, nw, A, B, rfl, hs⟩ := mq_f_e hs1
  clear hs1
  refine ⟨rfl, fun _ _ _ _ _ _ _ => False, mq_nc, ?_⟩
  repeat' first
    | exact hs
    | refine And.intro ?_ ?_
    | (intro h; try omega)
    | omega
    | exact Nat.le_of_ble_eq_true rfl
def sm_80 (as : List wi_V) (M : mq_H) (q : wi_Q1 mq_H) (_ : wi_Q2 mq_H) : Prop := mq_sI as (fun p => mq_f M fun cd lm st sg el dr sz pr wc sp nw A B => (p < 0 ∨ pr ≤ p → q (some (.inl 1)) ([cd, lm, st, sg, el, dr, sz, pr, wc, sp, nw], A, B)) ∧ (0 ≤ p → p < pr → q (some (.inl 0)) ([cd, lm, st, sg, el, dr, sz, pr, wc, sp, nw], A, B)))
theorem mm_80 {l : Launch} {D : va_G} {aC : wm_Y} {b0 : Nat} (hl0 : l.stackTraces = false) : wm_sp l D aC b0 80 (wi_lf mq_Rl sm_80) := by
  refine wi_method mq_lw 80 (cx := fun _ _ _ _ _ => False) (ids := ci_80) (tb := tb_80) (by decide +kernel) hl0 wm_cx0 (wm_tb_ok tk_80) (by decide +kernel) [] 250 (fun as M q qt hs => ?_)
  obtain ⟨p, rfl, hs1⟩ := mq_sI_e hs
  clear hs
  obtain ⟨cd, lm, st, sg, el, dr, sz, pr, wc, sp, nw, A, B, rfl, hs⟩ := mq_f_e hs1
  clear hs1
  refine ⟨rfl, fun _ _ _ _ _ _ _ => False, mq_nc, ?_⟩
  repeat' first
    | exact hs.1 (by omega)
    | exact hs.2 (by omega) (by omega)
    | refine And.intro ?_ ?_
    | (intro h; try omega)
    | omega
    | exact Nat.le_of_ble_eq_true rfl
def sm_81 (as : List wi_V) (M : mq_H) (q : wi_Q1 mq_H) (_ : wi_Q2 mq_H) : Prop := mq_sI as (fun p => mq_f M fun cd lm st sg el dr sz pr wc sp nw A B => (p < 0 ∨ sg ≤ p → q (some (.inl 1)) ([cd, lm, st, sg, el, dr, sz, pr, wc, sp, nw], A, B)) ∧ (0 ≤ p → p < sg → q (some (.inl 0)) ([cd, lm, st, sg, el, dr, sz, pr, wc, sp, nw], A, B)))
theorem mm_81 {l : Launch} {D : va_G} {aC : wm_Y} {b0 : Nat} (hl0 : l.stackTraces = false) : wm_sp l D aC b0 81 (wi_lf mq_Rl sm_81) := by
  refine wi_method mq_lw 81 (cx := fun _ _ _ _ _ => False) (ids := ci_81) (tb := tb_81) (by decide +kernel) hl0 wm_cx0 (wm_tb_ok tk_81) (by decide +kernel) [] 250 (fun as M q qt hs => ?_)
  obtain ⟨p, rfl, hs1⟩ := mq_sI_e hs
  clear hs
  obtain ⟨cd, lm, st, sg, el, dr, sz, pr, wc, sp, nw, A, B, rfl, hs⟩ := mq_f_e hs1
  clear hs1
  refine ⟨rfl, fun _ _ _ _ _ _ _ => False, mq_nc, ?_⟩
  repeat' first
    | exact hs.1 (by omega)
    | exact hs.2 (by omega) (by omega)
    | refine And.intro ?_ ?_
    | (intro h; try omega)
    | omega
    | exact Nat.le_of_ble_eq_true rfl
def sm_82 (as : List wi_V) (M : mq_H) (q : wi_Q1 mq_H) (_ : wi_Q2 mq_H) : Prop := mq_sII as (fun s k => mq_f M fun cd lm st sg el dr sz pr wc sp nw A B => sg ≤ 200 ∧ (s < 0 ∨ sg ≤ s ∨ k < 0 ∨ A 31 s.toNat ≤ k → q (some (.inl 1)) ([cd, lm, st, sg, el, dr, sz, pr, wc, sp, nw], A, B)) ∧ (0 ≤ s → s < sg → 0 ≤ k → k < A 31 s.toNat → q (some (.inl 0)) ([cd, lm, st, sg, el, dr, sz, pr, wc, sp, nw], A, B)))
theorem mm_82 {l : Launch} {D : va_G} {aC : wm_Y} {b0 : Nat} (hl0 : l.stackTraces = false) : wm_sp l D aC b0 82 (wi_lf mq_Rl sm_82) := by
  refine wi_method mq_lw 82 (cx := fun id => if id = 81 then sm_81 else fun _ _ _ _ => False) (ids := ci_82) (tb := tb_82) (by decide +kernel) hl0 (wm_cxc (mm_81 hl0) oi_82 (fun h => wm_cxn h)) (wm_tb_ok tk_82) (by decide +kernel) [] 250 (fun as M q qt hs => ?_)
  obtain ⟨s, k, rfl, hs1⟩ := mq_sII_e hs
  clear hs
  obtain ⟨cd, lm, st, sg, el, dr, sz, pr, wc, sp, nw, A, B, rfl, hs⟩ := mq_f_e hs1
  clear hs1
  refine ⟨rfl, fun _ _ _ _ _ _ _ => False, mq_nc, ?_⟩
  obtain ⟨r1, hs⟩ := hs
  repeat' first
    | exact hs.1 (by omega)
    | exact hs.2 (by omega) (by omega) (by omega) (by omega)
    | refine And.intro ?_ ?_
    | (intro h; try omega)
    | omega
    | exact Nat.le_of_ble_eq_true rfl
def sm_88 (as : List wi_V) (M : mq_H) (q : wi_Q1 mq_H) (_ : wi_Q2 mq_H) : Prop := mq_sII as (fun s v => mq_f M fun cd lm st sg el dr sz pr wc sp nw A B => 0 ≤ s ∧ s < 200 ∧ (A 30 s.toNat ≠ 2 → v < 0 ∨ 8 < v → q (some (.inl 1)) ([cd, lm, st, sg, el, dr, sz, pr, wc, sp, nw], A, B)) ∧ (A 30 s.toNat = 2 ∨ (0 ≤ v ∧ v ≤ 8) → q (some (.inl 0)) ([cd, lm, st, sg, el, dr, sz, pr, wc, sp, nw], A, B)))
theorem mm_88 {l : Launch} {D : va_G} {aC : wm_Y} {b0 : Nat} (hl0 : l.stackTraces = false) : wm_sp l D aC b0 88 (wi_lf mq_Rl sm_88) := by
  refine wi_method mq_lw 88 (cx := fun _ _ _ _ _ => False) (ids := ci_88) (tb := tb_88) (by decide +kernel) hl0 wm_cx0 (wm_tb_ok tk_88) (by decide +kernel) [] 250 (fun as M q qt hs => ?_)
  obtain ⟨s, v, rfl, hs1⟩ := mq_sII_e hs
  clear hs
  obtain ⟨cd, lm, st, sg, el, dr, sz, pr, wc, sp, nw, A, B, rfl, hs⟩ := mq_f_e hs1
  clear hs1
  refine ⟨rfl, fun _ _ _ _ _ _ _ => False, mq_nc, ?_⟩
  obtain ⟨r1, r2, hs⟩ := hs
  repeat' first
    | exact hs.1 (by omega) (by omega)
    | exact hs.2 (by omega)
    | refine And.intro ?_ ?_
    | (intro h; try omega)
    | omega
    | exact Nat.le_of_ble_eq_true rfl
def mq_both (x y : Int) : Int := if x = 0 ∨ y = 0 then 0 else if x = 1 ∨ y = 1 ∨ x = 8 ∨ y = 8 ∨ (x = 2 ∧ y = 3) ∨ (x = 3 ∧ y = 2) then 1 else if x = 4 then y else if y = 4 then x else if x = 2 ∨ x = 3 then x else if y = 2 ∨ y = 3 then y else if x = y then x else 5
def sm_91 (as : List wi_V) (M : mq_H) (q : wi_Q1 mq_H) (_ : wi_Q2 mq_H) : Prop := mq_tII as (fun x y => mq_f M fun cd lm st sg el dr sz pr wc sp nw A B => q (some (.inl (mq_both x y))) ([cd, lm, st, sg, el, dr, sz, pr, wc, sp, nw], A, B))
theorem mm_91 {l : Launch} {D : va_G} {aC : wm_Y} {b0 : Nat} (hl0 : l.stackTraces = false) : wm_sp l D aC b0 91 (wi_lf mq_Rl sm_91) := by
  refine wi_method mq_lw 91 (cx := fun _ _ _ _ _ => False) (ids := ci_91) (tb := tb_91) (by decide +kernel) hl0 wm_cx0 (wm_tb_ok tk_91) (by decide +kernel) [] 250 (fun as M q qt hs => ?_)
  obtain ⟨x, y, rfl, hs1⟩ := mq_tII_e hs
  clear hs
  obtain ⟨cd, lm, st, sg, el, dr, sz, pr, wc, sp, nw, A, B, rfl, hs⟩ := mq_f_e hs1
  clear hs1
  refine ⟨rfl, fun _ _ _ _ _ _ _ => False, mq_nc, ?_⟩
  have key : ∀ z, z = mq_both x y → q (some (.inl z)) ([cd, lm, st, sg, el, dr, sz, pr, wc, sp, nw], A, B) := fun z e => by rw [e]; exact hs
  clear hs
  repeat' first
    | (refine key _ ?_; unfold mq_both; repeat (first | rw [if_pos (by omega)] | rw [if_neg (by omega)]))
    | refine And.intro ?_ ?_
    | (intro h; try omega)
    | omega
    | exact Nat.le_of_ble_eq_true rfl
def sm_83 (as : List wi_V) (M : mq_H) (q : wi_Q1 mq_H) (_ : wi_Q2 mq_H) : Prop := mq_sII as (fun c n => mq_f M fun cd lm st sg el dr sz pr wc sp nw A B => 0 ≤ sg ∧ sg ≤ 200 ∧ 0 ≤ el ∧ el ≤ 512 ∧ (c < 0 ∨ 2 < c ∨ n < 1 ∨ (c = 1 ∧ 64 < n) ∨ (c ≠ 1 ∧ 1 < n) → q (some (.inl 0)) ([1, lm, st, sg, el, dr, sz, pr, wc, sp, nw], A, B)) ∧
  (0 ≤ c → c ≤ 2 → 1 ≤ n → (c = 1 → n ≤ 64) → (c ≠ 1 → n ≤ 1) → st ≠ 0 ∨ sg = 200 ∨ 512 < el + n → q (some (.inl 0)) ([2, lm, st, sg, el, dr, sz, pr, wc, sp, nw], A, B)) ∧
  (0 ≤ c → c ≤ 2 → 1 ≤ n → (c = 1 → n ≤ 64) → (c ≠ 1 → n ≤ 1) → st = 0 → sg < 200 → el + n ≤ 512 → q (some (.inl (sg + 1 - 1))) ([0, lm, st, sg + 1, el + n, dr, sz, pr, wc, sp, nw], md_u (md_u (md_u A 30 sg.toNat c) 31 sg.toNat n) 32 sg.toNat el, B)))
theorem mm_83 {l : Launch} {D : va_G} {aC : wm_Y} {b0 : Nat} (hl0 : l.stackTraces = false) : wm_sp l D aC b0 83 (wi_lf mq_Rl sm_83) := by
  refine wi_method mq_lw 83 (cx := fun _ _ _ _ _ => False) (ids := ci_83) (tb := tb_83) (by decide +kernel) hl0 wm_cx0 (wm_tb_ok tk_83) (by decide +kernel) [] 250 (fun as M q qt hs => ?_)
  obtain ⟨c, n, rfl, hs1⟩ := mq_sII_e hs
  clear hs
  obtain ⟨cd, lm, st, sg, el, dr, sz, pr, wc, sp, nw, A, B, rfl, hs⟩ := mq_f_e hs1
  clear hs1
  refine ⟨rfl, fun _ _ _ _ _ _ _ => False, mq_nc, ?_⟩
  obtain ⟨r1, r2, r3, r4, h1, h2, h3⟩ := hs
  repeat' first
    | exact h1 (by omega)
    | exact h2 (by omega) (by omega) (by omega) (by omega) (by omega) (by omega)
    | (refine h3 ?_ ?_ ?_ ?_ ?_ ?_ ?_ ?_ <;> omega)
    | (subst_vars; refine h3 ?_ ?_ ?_ ?_ ?_ ?_ ?_ ?_ <;> omega)
    | refine And.intro ?_ ?_
    | (intro h; try omega)
    | omega
    | exact Nat.le_of_ble_eq_true rfl
def sm_84 (as : List wi_V) (M : mq_H) (q : wi_Q1 mq_H) (_ : wi_Q2 mq_H) : Prop := mq_s as (mq_f M fun cd lm st sg el dr sz pr wc sp nw A B => 0 ≤ pr ∧ pr ≤ 64 ∧ (st ≠ 0 ∨ pr = 64 → q (some (.inl 0)) ([1, lm, st, sg, el, dr, sz, pr, wc, sp, nw], A, B)) ∧ (st = 0 → pr < 64 → q (some (.inl (pr + 1 - 1))) ([0, lm, st, sg, el, dr, sz, pr + 1, wc, sp, nw], md_u A 46 pr.toNat 1, md_u B 48 pr.toNat (-1))))
theorem mm_84 {l : Launch} {D : va_G} {aC : wm_Y} {b0 : Nat} (hl0 : l.stackTraces = false) : wm_sp l D aC b0 84 (wi_lf mq_Rl sm_84) := by
  refine wi_method mq_lw 84 (cx := fun _ _ _ _ _ => False) (ids := ci_84) (tb := tb_84) (by decide +kernel) hl0 wm_cx0 (wm_tb_ok tk_84) (by decide +kernel) [] 250 (fun as M q qt hs => ?_)
  obtain ⟨rfl, hs1⟩ := mq_s_e hs
  clear hs
  obtain ⟨cd, lm, st, sg, el, dr, sz, pr, wc, sp, nw, A, B, rfl, hs⟩ := mq_f_e hs1
  clear hs1
  refine ⟨rfl, fun _ _ _ _ _ _ _ => False, mq_nc, ?_⟩
  obtain ⟨r1, r2, h1, h2⟩ := hs
  repeat' first
    | exact h1 (by omega)
    | (subst_vars; refine h2 ?_ ?_ <;> omega)
    | refine And.intro ?_ ?_
    | (intro h; try omega)
    | omega
    | exact Nat.le_of_ble_eq_true rfl
def sm_89 (as : List wi_V) (M : mq_H) (q : wi_Q1 mq_H) (_ : wi_Q2 mq_H) : Prop := mq_sIII as (fun s k v => mq_f M fun cd lm st sg el dr sz pr wc sp nw A B => sg ≤ 200 ∧ (∀ s : Nat, (s : Int) < sg → 0 ≤ A 32 s ∧ A 32 s + A 31 s ≤ 512) ∧ (s < 0 ∨ sg ≤ s ∨ k < 0 ∨ A 31 s.toNat ≤ k → q none ([1, lm, st, sg, el, dr, sz, pr, wc, sp, nw], A, B)) ∧
  (0 ≤ s → s < sg → 0 ≤ k → k < A 31 s.toNat → A 30 s.toNat ≠ 2 → v < 0 ∨ 8 < v → q none ([2, lm, st, sg, el, dr, sz, pr, wc, sp, nw], A, B)) ∧
  (0 ≤ s → s < sg → 0 ≤ k → k < A 31 s.toNat → A 30 s.toNat = 2 ∨ (0 ≤ v ∧ v ≤ 8) → st ≠ 0 → q none ([3, lm, st, sg, el, dr, sz, pr, wc, sp, nw], A, B)) ∧
  (0 ≤ s → s < sg → 0 ≤ k → k < A 31 s.toNat → A 30 s.toNat = 2 ∨ (0 ≤ v ∧ v ≤ 8) → st = 0 → q none ([0, lm, st, sg, el, dr, sz, pr, wc, sp, nw], md_u A 35 (A 32 s.toNat + k).toNat v, B)))
theorem mm_89 {l : Launch} {D : va_G} {aC : wm_Y} {b0 : Nat} (hl0 : l.stackTraces = false) : wm_sp l D aC b0 89 (wi_lf mq_Rl sm_89) := by
  refine wi_method mq_lw 89 (cx := fun id => if id = 82 then sm_82 else if id = 88 then sm_88 else fun _ _ _ _ => False) (ids := ci_89) (tb := tb_89) (by decide +kernel) hl0 (wm_cxc (mm_82 hl0) oi_89 (fun h => wm_cxc (mm_88 hl0) h (fun h => wm_cxn h))) (wm_tb_ok tk_89) (by decide +kernel) [] 250 (fun as M q qt hs => ?_)
  obtain ⟨s, k, v, rfl, hs1⟩ := mq_sIII_e hs
  clear hs
  obtain ⟨cd, lm, st, sg, el, dr, sz, pr, wc, sp, nw, A, B, rfl, hs⟩ := mq_f_e hs1
  clear hs1
  refine ⟨rfl, fun _ _ _ _ _ _ _ => False, mq_nc, ?_⟩
  obtain ⟨r1, r2, h1, h2, h3, h4⟩ := hs
  have r3 := r2 s.toNat
  clear r2
  repeat' first
    | exact h1 (by omega)
    | exact h2 (by omega) (by omega) (by omega) (by omega) (by omega) (by omega)
    | exact h3 (by omega) (by omega) (by omega) (by omega) (by omega) (by omega)
    | (subst_vars; refine h4 ?_ ?_ ?_ ?_ ?_ ?_ <;> omega)
    | refine And.intro ?_ ?_
    | (intro h; try omega)
    | omega
    | exact Nat.le_of_ble_eq_true rfl
def sm_94 (as : List wi_V) (M : mq_H) (q : wi_Q1 mq_H) (_ : wi_Q2 mq_H) : Prop := mq_sII as (fun k v => mq_f M fun cd lm st sg el dr sz pr wc sp nw A B => 0 ≤ wc ∧ wc ≤ 16 ∧ (k < 0 ∨ 63 < k → q none ([1, lm, st, sg, el, dr, sz, pr, wc, sp, nw], A, B)) ∧ (0 ≤ k → k ≤ 63 → wc = 0 → q none ([2, lm, st, sg, el, dr, sz, pr, wc, sp, nw], A, B)) ∧ (0 ≤ k → k ≤ 63 → wc ≠ 0 → q none ([0, lm, st, sg, el, dr, sz, pr, wc, sp, nw], md_u A 51 (64 * wc - 64 + k).toNat v, B)))
theorem mm_94 {l : Launch} {D : va_G} {aC : wm_Y} {b0 : Nat} (hl0 : l.stackTraces = false) : wm_sp l D aC b0 94 (wi_lf mq_Rl sm_94) := by
  refine wi_method mq_lw 94 (cx := fun _ _ _ _ _ => False) (ids := ci_94) (tb := tb_94) (by decide +kernel) hl0 wm_cx0 (wm_tb_ok tk_94) (by decide +kernel) [] 250 (fun as M q qt hs => ?_)
  obtain ⟨k, v, rfl, hs1⟩ := mq_sII_e hs
  clear hs
  obtain ⟨cd, lm, st, sg, el, dr, sz, pr, wc, sp, nw, A, B, rfl, hs⟩ := mq_f_e hs1
  clear hs1
  refine ⟨rfl, fun _ _ _ _ _ _ _ => False, mq_nc, ?_⟩
  obtain ⟨r1, r2, h1, h2, h3⟩ := hs
  repeat' first
    | exact h1 (by omega)
    | exact h2 (by omega) (by omega) (by omega)
    | (subst_vars; refine h3 ?_ ?_ ?_ <;> omega)
    | refine And.intro ?_ ?_
    | (intro h; try omega)
    | omega
    | exact Nat.le_of_ble_eq_true rfl
def sm_99 (as : List wi_V) (M : mq_H) (q : wi_Q1 mq_H) (_ : wi_Q2 mq_H) : Prop := mq_sII as (fun i j => mq_f M fun cd lm st sg el dr sz pr wc sp nw A B => 0 ≤ i ∧ i < 8192 ∧ 0 ≤ j ∧ j < 8192 ∧ q none ([cd, lm, st, sg, el, dr, sz, pr, wc, sp, nw], md_u (md_u A 40 j.toNat (A 40 i.toNat)) 42 j.toNat (A 42 i.toNat), md_u B 41 j.toNat (B 41 i.toNat)))
theorem mm_99 {l : Launch} {D : va_G} {aC : wm_Y} {b0 : Nat} (hl0 : l.stackTraces = false) : wm_sp l D aC b0 99 (wi_lf mq_Rl sm_99) := by
  refine wi_method mq_lw 99 (cx := fun _ _ _ _ _ => False) (ids := ci_99) (tb := tb_99) (by decide +kernel) hl0 wm_cx0 (wm_tb_ok tk_99) (by decide +kernel) [] 250 (fun as M q qt hs => ?_)
  obtain ⟨i, j, rfl, hs1⟩ := mq_sII_e hs
  clear hs
  obtain ⟨cd, lm, st, sg, el, dr, sz, pr, wc, sp, nw, A, B, rfl, hs⟩ := mq_f_e hs1
  clear hs1
  refine ⟨rfl, fun _ _ _ _ _ _ _ => False, mq_nc, ?_⟩
  obtain ⟨r1, r2, r3, r4, h1⟩ := hs
  repeat' first
    | (subst_vars; simp only [md_u_t (show (42 : Nat) ≠ 40 by decide)]; exact h1)
    | refine And.intro ?_ ?_
    | (intro h; try omega)
    | omega
    | exact Nat.le_of_ble_eq_true rfl
def sm_100 (as : List wi_V) (M : mq_H) (q : wi_Q1 mq_H) (_ : wi_Q2 mq_H) : Prop := mq_sI as (fun s => mq_f M fun cd lm st sg el dr sz pr wc sp nw A B => sg ≤ 200 ∧ (s < 0 ∨ sg ≤ s → q none ([1, lm, st, sg, el, dr, sz, pr, wc, sp, nw], A, B)) ∧ (0 ≤ s → s < sg → q none ([0, lm, st, sg, el, dr, sz, pr, wc, sp, nw], md_u A 50 s.toNat 1, B)))
theorem mm_100 {l : Launch} {D : va_G} {aC : wm_Y} {b0 : Nat} (hl0 : l.stackTraces = false) : wm_sp l D aC b0 100 (wi_lf mq_Rl sm_100) := by
  refine wi_method mq_lw 100 (cx := fun id => if id = 81 then sm_81 else fun _ _ _ _ => False) (ids := ci_100) (tb := tb_100) (by decide +kernel) hl0 (wm_cxc (mm_81 hl0) oi_100 (fun h => wm_cxn h)) (wm_tb_ok tk_100) (by decide +kernel) [] 250 (fun as M q qt hs => ?_)
  obtain ⟨s, rfl, hs1⟩ := mq_sI_e hs
  clear hs
  obtain ⟨cd, lm, st, sg, el, dr, sz, pr, wc, sp, nw, A, B, rfl, hs⟩ := mq_f_e hs1
  clear hs1
  refine ⟨rfl, fun _ _ _ _ _ _ _ => False, mq_nc, ?_⟩
  obtain ⟨r1, h1, h2⟩ := hs
  repeat' first
    | exact h1 (by omega)
    | (subst_vars; refine h2 ?_ ?_ <;> omega)
    | refine And.intro ?_ ?_
    | (intro h; try omega)
    | omega
    | exact Nat.le_of_ble_eq_true rfl
def sm_102 (as : List wi_V) (M : mq_H) (q : wi_Q1 mq_H) (_ : wi_Q2 mq_H) : Prop := mq_sI as (fun p => mq_f M fun cd lm st sg el dr sz pr wc sp nw A B => pr ≤ 64 ∧ (p < 0 ∨ pr ≤ p → q none ([1, lm, st, sg, el, dr, sz, pr, wc, sp, nw], A, B)) ∧ (0 ≤ p → p < pr → A 46 p.toNat ≠ 0 → A 46 p.toNat ≠ 2 → q none ([2, lm, st, sg, el, dr, sz, pr, wc, sp, nw], A, B)) ∧ (0 ≤ p → p < pr → A 46 p.toNat = 0 ∨ A 46 p.toNat = 2 → q none ([0, lm, st, sg, el, dr, sz, pr, wc, sp, nw], md_u A 46 p.toNat 3, B)))
theorem mm_102 {l : Launch} {D : va_G} {aC : wm_Y} {b0 : Nat} (hl0 : l.stackTraces = false) : wm_sp l D aC b0 102 (wi_lf mq_Rl sm_102) := by
  refine wi_method mq_lw 102 (cx := fun id => if id = 80 then sm_80 else fun _ _ _ _ => False) (ids := ci_102) (tb := tb_102) (by decide +kernel) hl0 (wm_cxc (mm_80 hl0) oi_102 (fun h => wm_cxn h)) (wm_tb_ok tk_102) (by decide +kernel) [] 250 (fun as M q qt hs => ?_)
  obtain ⟨p, rfl, hs1⟩ := mq_sI_e hs
  clear hs
  obtain ⟨cd, lm, st, sg, el, dr, sz, pr, wc, sp, nw, A, B, rfl, hs⟩ := mq_f_e hs1
  clear hs1
  refine ⟨rfl, fun _ _ _ _ _ _ _ => False, mq_nc, ?_⟩
  obtain ⟨r1, h1, h2, h3⟩ := hs
  repeat' first
    | exact h1 (by omega)
    | exact h2 (by omega) (by omega) (by omega) (by omega)
    | (subst_vars; refine h3 ?_ ?_ ?_ <;> omega)
    | refine And.intro ?_ ?_
    | (intro h; try omega)
    | omega
    | exact Nat.le_of_ble_eq_true rfl
def sm_103 (as : List wi_V) (M : mq_H) (q : wi_Q1 mq_H) (_ : wi_Q2 mq_H) : Prop := mq_sII as (fun p y => mq_f M fun cd lm st sg el dr sz pr wc sp nw A B => pr ≤ 64 ∧ (p < 0 ∨ pr ≤ p → q none ([1, lm, st, sg, el, dr, sz, pr, wc, sp, nw], A, B)) ∧ (0 ≤ p → p < pr → A 46 p.toNat ≠ 2 → q none ([2, lm, st, sg, el, dr, sz, pr, wc, sp, nw], A, B)) ∧ (0 ≤ p → p < pr → A 46 p.toNat = 2 → (y ≠ 0 → q none ([0, lm, st, sg, el, dr, sz, pr, wc, sp, nw], md_u A 46 p.toNat 0, B)) ∧ (y = 0 → q none ([0, lm, st, sg, el, dr, sz, pr, wc, sp, nw], md_u A 46 p.toNat 1, B))))
theorem mm_103 {l : Launch} {D : va_G} {aC : wm_Y} {b0 : Nat} (hl0 : l.stackTraces = false) : wm_sp l D aC b0 103 (wi_lf mq_Rl sm_103) := by
  refine wi_method mq_lw 103 (cx := fun id => if id = 80 then sm_80 else fun _ _ _ _ => False) (ids := ci_103) (tb := tb_103) (by decide +kernel) hl0 (wm_cxc (mm_80 hl0) oi_103 (fun h => wm_cxn h)) (wm_tb_ok tk_103) (by decide +kernel) [] 250 (fun as M q qt hs => ?_)
  obtain ⟨p, y, rfl, hs1⟩ := mq_sII_e hs
  clear hs
  obtain ⟨cd, lm, st, sg, el, dr, sz, pr, wc, sp, nw, A, B, rfl, hs⟩ := mq_f_e hs1
  clear hs1
  refine ⟨rfl, fun _ _ _ _ _ _ _ => False, mq_nc, ?_⟩
  obtain ⟨r1, h1, h2, h3⟩ := hs
  repeat' first
    | exact h1 (by omega)
    | exact h2 (by omega) (by omega) (by omega)
    | (subst_vars; exact (h3 (by omega) (by omega) (by omega)).1 (by omega))
    | (subst_vars; exact (h3 (by omega) (by omega) (by omega)).2 (by omega))
    | refine And.intro ?_ ?_
    | (intro h; try omega)
    | omega
    | exact Nat.le_of_ble_eq_true rfl
def sm_110 (as : List wi_V) (M : mq_H) (q : wi_Q1 mq_H) (_ : wi_Q2 mq_H) : Prop := mq_sI as (fun p => mq_f M fun cd lm st sg el dr sz pr wc sp nw A B => pr ≤ 64 ∧ (p < 0 ∨ pr ≤ p → q (some (.inl 0)) ([1, lm, st, sg, el, dr, sz, pr, wc, sp, nw], A, B)) ∧ (0 ≤ p → p < pr → q (some (.inl (A 46 p.toNat))) ([0, lm, st, sg, el, dr, sz, pr, wc, sp, nw], A, B)))
theorem mm_110 {l : Launch} {D : va_G} {aC : wm_Y} {b0 : Nat} (hl0 : l.stackTraces = false) : wm_sp l D aC b0 110 (wi_lf mq_Rl sm_110) := by
  refine wi_method mq_lw 110 (cx := fun id => if id = 80 then sm_80 else fun _ _ _ _ => False) (ids := ci_110) (tb := tb_110) (by decide +kernel) hl0 (wm_cxc (mm_80 hl0) oi_110 (fun h => wm_cxn h)) (wm_tb_ok tk_110) (by decide +kernel) [] 250 (fun as M q qt hs => ?_)
  obtain ⟨p, rfl, hs1⟩ := mq_sI_e hs
  clear hs
  obtain ⟨cd, lm, st, sg, el, dr, sz, pr, wc, sp, nw, A, B, rfl, hs⟩ := mq_f_e hs1
  clear hs1
  refine ⟨rfl, fun _ _ _ _ _ _ _ => False, mq_nc, ?_⟩
  obtain ⟨r1, h1, h2⟩ := hs
  repeat' first
    | exact h1 (by omega)
    | exact h2 (by omega) (by omega)
    | refine And.intro ?_ ?_
    | (intro h; try omega)
    | omega
    | exact Nat.le_of_ble_eq_true rfl
def sm_112 (as : List wi_V) (M : mq_H) (q : wi_Q1 mq_H) (_ : wi_Q2 mq_H) : Prop := mq_sIII as (fun s k y => mq_f M fun cd lm st sg el dr sz pr wc sp nw A B => sg ≤ 200 ∧ (∀ s : Nat, (s : Int) < sg → 0 ≤ A 32 s ∧ A 32 s + A 31 s ≤ 512) ∧ (s < 0 ∨ sg ≤ s ∨ k < 0 ∨ A 31 s.toNat ≤ k → q (some (.inl 0)) ([1, lm, st, sg, el, dr, sz, pr, wc, sp, nw], A, B)) ∧
  (0 ≤ s → s < sg → 0 ≤ k → k < A 31 s.toNat → (y ≠ 0 → q (some (.inl (A 36 (A 32 s.toNat + k).toNat))) ([0, lm, st, sg, el, dr, sz, pr, wc, sp, nw], A, B)) ∧ (y = 0 → q (some (.inl (A 35 (A 32 s.toNat + k).toNat))) ([0, lm, st, sg, el, dr, sz, pr, wc, sp, nw], A, B))))
theorem mm_112 {l : Launch} {D : va_G} {aC : wm_Y} {b0 : Nat} (hl0 : l.stackTraces = false) : wm_sp l D aC b0 112 (wi_lf mq_Rl sm_112) := by
  refine wi_method mq_lw 112 (cx := fun id => if id = 82 then sm_82 else fun _ _ _ _ => False) (ids := ci_112) (tb := tb_112) (by decide +kernel) hl0 (wm_cxc (mm_82 hl0) oi_112 (fun h => wm_cxn h)) (wm_tb_ok tk_112) (by decide +kernel) [] 250 (fun as M q qt hs => ?_)
  obtain ⟨s, k, y, rfl, hs1⟩ := mq_sIII_e hs
  clear hs
  obtain ⟨cd, lm, st, sg, el, dr, sz, pr, wc, sp, nw, A, B, rfl, hs⟩ := mq_f_e hs1
  clear hs1
  refine ⟨rfl, fun _ _ _ _ _ _ _ => False, mq_nc, ?_⟩
  obtain ⟨r1, r2, h1, h2⟩ := hs
  have r3 := r2 s.toNat
  clear r2
  repeat' first
    | exact h1 (by omega)
    | exact (h2 (by omega) (by omega) (by omega) (by omega)).1 (by omega)
    | exact (h2 (by omega) (by omega) (by omega) (by omega)).2 (by omega)
    | refine And.intro ?_ ?_
    | (intro h; try omega)
    | omega
    | exact Nat.le_of_ble_eq_true rfl
def sm_113 (as : List wi_V) (M : mq_H) (q : wi_Q1 mq_H) (_ : wi_Q2 mq_H) : Prop := mq_sI as (fun s => mq_f M fun cd lm st sg el dr sz pr wc sp nw A B => sg ≤ 200 ∧ (s < 0 ∨ sg ≤ s → q (some (.inl 0)) ([1, lm, st, sg, el, dr, sz, pr, wc, sp, nw], A, B)) ∧ (0 ≤ s → s < sg → (A 34 s.toNat ≠ 0 → q (some (.inl 3)) ([0, lm, st, sg, el, dr, sz, pr, wc, sp, nw], A, B)) ∧ (A 34 s.toNat = 0 → A 33 s.toNat ≠ 0 → q (some (.inl 1)) ([0, lm, st, sg, el, dr, sz, pr, wc, sp, nw], A, B)) ∧ (A 34 s.toNat = 0 → A 33 s.toNat = 0 → q (some (.inl 0)) ([0, lm, st, sg, el, dr, sz, pr, wc, sp, nw], A, B))))
theorem mm_113 {l : Launch} {D : va_G} {aC : wm_Y} {b0 : Nat} (hl0 : l.stackTraces = false) : wm_sp l D aC b0 113 (wi_lf mq_Rl sm_113) := by
  refine wi_method mq_lw 113 (cx := fun id => if id = 81 then sm_81 else fun _ _ _ _ => False) (ids := ci_113) (tb := tb_113) (by decide +kernel) hl0 (wm_cxc (mm_81 hl0) oi_113 (fun h => wm_cxn h)) (wm_tb_ok tk_113) (by decide +kernel) [] 250 (fun as M q qt hs => ?_)
  obtain ⟨s, rfl, hs1⟩ := mq_sI_e hs
  clear hs
  obtain ⟨cd, lm, st, sg, el, dr, sz, pr, wc, sp, nw, A, B, rfl, hs⟩ := mq_f_e hs1
  clear hs1
  refine ⟨rfl, fun _ _ _ _ _ _ _ => False, mq_nc, ?_⟩
  obtain ⟨r1, h1, h2⟩ := hs
  repeat' first
    | exact h1 (by omega)
    | exact (h2 (by omega) (by omega)).1 (by omega)
    | exact (h2 (by omega) (by omega)).2.1 (by omega) (by omega)
    | exact (h2 (by omega) (by omega)).2.2 (by omega) (by omega)
    | refine And.intro ?_ ?_
    | (intro h; try omega)
    | omega
    | exact Nat.le_of_ble_eq_true rfl
def sm_115 (as : List wi_V) (M : mq_H) (q : wi_Q1 mq_H) (_ : wi_Q2 mq_H) : Prop := mq_s as (mq_f M fun cd lm st sg el dr sz pr wc sp nw A B => q (some (.inr (.inl nw))) ([0, lm, st, sg, el, dr, sz, pr, wc, sp, nw], A, B))
theorem mm_115 {l : Launch} {D : va_G} {aC : wm_Y} {b0 : Nat} (hl0 : l.stackTraces = false) : wm_sp l D aC b0 115 (wi_lf mq_Rl sm_115) := by
  refine wi_method mq_lw 115 (cx := fun _ _ _ _ _ => False) (ids := ci_115) (tb := tb_115) (by decide +kernel) hl0 wm_cx0 (wm_tb_ok tk_115) (by decide +kernel) [] 250 (fun as M q qt hs => ?_)
  obtain ⟨rfl, hs1⟩ := mq_s_e hs
  clear hs
  obtain ⟨cd, lm, st, sg, el, dr, sz, pr, wc, sp, nw, A, B, rfl, hs⟩ := mq_f_e hs1
  clear hs1
  refine ⟨rfl, fun _ _ _ _ _ _ _ => False, mq_nc, ?_⟩
  repeat' first
    | exact hs
    | refine And.intro ?_ ?_
    | (intro h; try omega)
    | omega
    | exact Nat.le_of_ble_eq_true rfl
def sm_116 (as : List wi_V) (M : mq_H) (q : wi_Q1 mq_H) (_ : wi_Q2 mq_H) : Prop := mq_s as (mq_f M fun cd lm st sg el dr sz pr wc sp nw A B => q (some (.inl sp)) ([0, lm, st, sg, el, dr, sz, pr, wc, sp, nw], A, B))
theorem mm_116 {l : Launch} {D : va_G} {aC : wm_Y} {b0 : Nat} (hl0 : l.stackTraces = false) : wm_sp l D aC b0 116 (wi_lf mq_Rl sm_116) := by
  refine wi_method mq_lw 116 (cx := fun _ _ _ _ _ => False) (ids := ci_116) (tb := tb_116) (by decide +kernel) hl0 wm_cx0 (wm_tb_ok tk_116) (by decide +kernel) [] 250 (fun as M q qt hs => ?_)
  obtain ⟨rfl, hs1⟩ := mq_s_e hs
  clear hs
  obtain ⟨cd, lm, st, sg, el, dr, sz, pr, wc, sp, nw, A, B, rfl, hs⟩ := mq_f_e hs1
  clear hs1
  refine ⟨rfl, fun _ _ _ _ _ _ _ => False, mq_nc, ?_⟩
  repeat' first
    | exact hs
    | refine And.intro ?_ ?_
    | (intro h; try omega)
    | omega
    | exact Nat.le_of_ble_eq_true rfl
end
section
/-! THE REFERENCE, 2: loops that look -/
def sm_85 (as : List wi_V) (M : mq_H) (q : wi_Q1 mq_H) (_ : wi_Q2 mq_H) : Prop := mq_sII as (fun p e => mq_f M fun cd lm st sg el dr sz pr wc sp nw A B => 0 ≤ dr ∧ dr ≤ 512 ∧ ((∀ j : Nat, (j : Int) < dr → ¬ (A 37 j = p ∧ A 38 j = e)) → q (some (.inl (-1))) ([cd, lm, st, sg, el, dr, sz, pr, wc, sp, nw], A, B)) ∧ (∀ r : Int, 0 ≤ r → r < dr → A 37 r.toNat = p → A 38 r.toNat = e → q (some (.inl r)) ([cd, lm, st, sg, el, dr, sz, pr, wc, sp, nw], A, B)))
theorem mm_85 {l : Launch} {D : va_G} {aC : wm_Y} {b0 : Nat} (hl0 : l.stackTraces = false) : wm_sp l D aC b0 85 (wi_lf mq_Rl sm_85) := by
  refine wi_method mq_lw 85 (cx := fun _ _ _ _ _ => False) (ids := ci_85) (tb := tb_85) (by decide +kernel) hl0 wm_cx0 (wm_tb_ok tk_85) (by decide +kernel) [2] 250 (fun as M q qt hs => ?_)
  obtain ⟨p, e, rfl, hs1⟩ := mq_sII_e hs
  clear hs
  obtain ⟨cd, lm, st, sg, el, dr, sz, pr, wc, sp, nw, A, B, rfl, hs⟩ := mq_f_e hs1
  clear hs1
  obtain ⟨r1, r2, h1, h2⟩ := hs
  refine ⟨rfl, fun mz pc lv sk h cu su => ∃ d : Int, lv = [some (wi_rf (some 11)), some (.inl (p)), some (.inl (e)), some (.inl (d))] ∧ sk = [] ∧ h = ([cd, lm, st, sg, el, dr, sz, pr, wc, sp, nw], A, B) ∧ cu = 0 ∧ su = 0 ∧ mz = (dr - d).toNat ∧ 0 ≤ d ∧ d ≤ dr ∧ ∀ j : Nat, (j : Int) < d → ¬ (A 37 j = p ∧ A 38 j = e), mq_c1 (fun mz lv sk h cu su hI => ?_), ?_⟩
  · obtain ⟨d, rfl, rfl, rfl, rfl, rfl, rfl, p1, p2, p3⟩ := hI
    repeat' first
      | (exact h1 (fun j hj => p3 j (by omega)))
      | exact h2 d (by omega) (by omega) (by omega) (by omega)
      | (refine Exists.intro _ (And.intro ?_ (Exists.intro (d + 1) (And.intro rfl (And.intro rfl (And.intro rfl (And.intro rfl (And.intro rfl (And.intro rfl (?_))))))))) <;> first | omega | exact ⟨by omega, by omega, (fun j hj => by rcases (show (j : Int) < d ∨ j = (d).toNat by omega) with hd | rfl <;> first | exact p3 _ (by omega) | omega)⟩)
      | refine And.intro ?_ ?_
      | (intro h; try omega)
      | omega
      | exact Nat.le_of_ble_eq_true rfl
  · refine Exists.intro _ (Exists.intro (0) (And.intro rfl (And.intro rfl (And.intro rfl (And.intro rfl (And.intro rfl (And.intro rfl (⟨by omega, by omega, fun j hj => by omega⟩))))))))
def sm_86 (as : List wi_V) (M : mq_H) (q : wi_Q1 mq_H) (_ : wi_Q2 mq_H) : Prop := mq_sI as (fun e => mq_f M fun cd lm st sg el dr sz pr wc sp nw A B => 0 ≤ dr ∧ dr ≤ 512 ∧ ((∃ j : Nat, (j : Int) < dr ∧ A 38 j = e) → q (some (.inl 1)) ([cd, lm, st, sg, el, dr, sz, pr, wc, sp, nw], A, B)) ∧ ((∀ j : Nat, (j : Int) < dr → A 38 j ≠ e) → q (some (.inl 0)) ([cd, lm, st, sg, el, dr, sz, pr, wc, sp, nw], A, B)))
theorem mm_86 {l : Launch} {D : va_G} {aC : wm_Y} {b0 : Nat} (hl0 : l.stackTraces = false) : wm_sp l D aC b0 86 (wi_lf mq_Rl sm_86) := by
  refine wi_method mq_lw 86 (cx := fun _ _ _ _ _ => False) (ids := ci_86) (tb := tb_86) (by decide +kernel) hl0 wm_cx0 (wm_tb_ok tk_86) (by decide +kernel) [4] 250 (fun as M q qt hs => ?_)
  obtain ⟨e, rfl, hs1⟩ := mq_sI_e hs
  clear hs
  obtain ⟨cd, lm, st, sg, el, dr, sz, pr, wc, sp, nw, A, B, rfl, hs⟩ := mq_f_e hs1
  clear hs1
  obtain ⟨r1, r2, h1, h2⟩ := hs
  refine ⟨rfl, fun mz pc lv sk h cu su => ∃ x : Int, ∃ d : Int, lv = [some (wi_rf (some 11)), some (.inl (e)), some (.inl (x)), some (.inl (d))] ∧ sk = [] ∧ h = ([cd, lm, st, sg, el, dr, sz, pr, wc, sp, nw], A, B) ∧ cu = 0 ∧ su = 0 ∧ mz = (dr - d).toNat ∧ 0 ≤ d ∧ d ≤ dr ∧ ((x = 1 ∧ ∃ j : Nat, (j : Int) < d ∧ A 38 j = e) ∨ (x = 0 ∧ ∀ j : Nat, (j : Int) < d → A 38 j ≠ e)), mq_c1 (fun mz lv sk h cu su hI => ?_), ?_⟩
  · obtain ⟨x, d, rfl, rfl, rfl, rfl, rfl, rfl, p1, p2, ⟨rfl, j, p3, p4⟩ | ⟨rfl, p3⟩⟩ := hI
    · repeat' first
        | exact h1 ⟨j, by omega, p4⟩
        | (refine Exists.intro _ (And.intro ?_ (Exists.intro (1) (Exists.intro (d + 1) (And.intro rfl (And.intro rfl (And.intro rfl (And.intro rfl (And.intro rfl (And.intro rfl (?_)))))))))) <;> first | omega | exact ⟨by omega, by omega, Or.inl ⟨rfl, j, by omega, p4⟩⟩ | exact ⟨by omega, by omega, Or.inl ⟨rfl, d.toNat, by omega, by omega⟩⟩)
        | refine And.intro ?_ ?_
        | (intro h; try omega)
        | omega
        | exact Nat.le_of_ble_eq_true rfl
    · repeat' first
        | exact h2 (fun j hj => p3 j (by omega))
        | (refine Exists.intro _ (And.intro ?_ (Exists.intro (1) (Exists.intro (d + 1) (And.intro rfl (And.intro rfl (And.intro rfl (And.intro rfl (And.intro rfl (And.intro rfl (?_)))))))))) <;> first | omega | exact ⟨by omega, by omega, Or.inl ⟨rfl, j, by omega, p4⟩⟩ | exact ⟨by omega, by omega, Or.inl ⟨rfl, d.toNat, by omega, by omega⟩⟩)
        | (refine Exists.intro _ (And.intro ?_ (Exists.intro (0) (Exists.intro (d + 1) (And.intro rfl (And.intro rfl (And.intro rfl (And.intro rfl (And.intro rfl (And.intro rfl (?_)))))))))) <;> first | omega | exact ⟨by omega, by omega, Or.inr ⟨rfl, (fun j hj => by rcases (show (j : Int) < d ∨ j = (d).toNat by omega) with hd | rfl <;> first | exact p3 _ (by omega) | omega)⟩⟩)
        | refine And.intro ?_ ?_
        | (intro h; try omega)
        | omega
        | exact Nat.le_of_ble_eq_true rfl
  · refine Exists.intro _ (Exists.intro (0) (Exists.intro (0) (And.intro rfl (And.intro rfl (And.intro rfl (And.intro rfl (And.intro rfl (And.intro rfl (⟨by omega, by omega, Or.inr ⟨rfl, fun j hj => by omega⟩⟩)))))))))
def sm_105 (as : List wi_V) (M : mq_H) (q : wi_Q1 mq_H) (_ : wi_Q2 mq_H) : Prop := mq_sI as (fun e => mq_f M fun cd lm st sg el dr sz pr wc sp nw A B => 0 ≤ pr ∧ pr ≤ 64 ∧ ((∃ j : Nat, (j : Int) < pr ∧ A 46 j = e) → q (some (.inl 1)) ([cd, lm, st, sg, el, dr, sz, pr, wc, sp, nw], A, B)) ∧ ((∀ j : Nat, (j : Int) < pr → A 46 j ≠ e) → q (some (.inl 0)) ([cd, lm, st, sg, el, dr, sz, pr, wc, sp, nw], A, B)))
theorem mm_105 {l : Launch} {D : va_G} {aC : wm_Y} {b0 : Nat} (hl0 : l.stackTraces = false) : wm_sp l D aC b0 105 (wi_lf mq_Rl sm_105) := by
  refine wi_method mq_lw 105 (cx := fun _ _ _ _ _ => False) (ids := ci_105) (tb := tb_105) (by decide +kernel) hl0 wm_cx0 (wm_tb_ok tk_105) (by decide +kernel) [4] 250 (fun as M q qt hs => ?_)
  obtain ⟨e, rfl, hs1⟩ := mq_sI_e hs
  clear hs
  obtain ⟨cd, lm, st, sg, el, dr, sz, pr, wc, sp, nw, A, B, rfl, hs⟩ := mq_f_e hs1
  clear hs1
  obtain ⟨r1, r2, h1, h2⟩ := hs
  refine ⟨rfl, fun mz pc lv sk h cu su => ∃ x : Int, ∃ d : Int, lv = [some (wi_rf (some 11)), some (.inl (e)), some (.inl (x)), some (.inl (d))] ∧ sk = [] ∧ h = ([cd, lm, st, sg, el, dr, sz, pr, wc, sp, nw], A, B) ∧ cu = 0 ∧ su = 0 ∧ mz = (pr - d).toNat ∧ 0 ≤ d ∧ d ≤ pr ∧ ((x = 1 ∧ ∃ j : Nat, (j : Int) < d ∧ A 46 j = e) ∨ (x = 0 ∧ ∀ j : Nat, (j : Int) < d → A 46 j ≠ e)), mq_c1 (fun mz lv sk h cu su hI => ?_), ?_⟩
  · obtain ⟨x, d, rfl, rfl, rfl, rfl, rfl, rfl, p1, p2, ⟨rfl, j, p3, p4⟩ | ⟨rfl, p3⟩⟩ := hI
    · repeat' first
        | exact h1 ⟨j, by omega, p4⟩
        | (refine Exists.intro _ (And.intro ?_ (Exists.intro (1) (Exists.intro (d + 1) (And.intro rfl (And.intro rfl (And.intro rfl (And.intro rfl (And.intro rfl (And.intro rfl (?_)))))))))) <;> first | omega | exact ⟨by omega, by omega, Or.inl ⟨rfl, j, by omega, p4⟩⟩ | exact ⟨by omega, by omega, Or.inl ⟨rfl, d.toNat, by omega, by omega⟩⟩)
        | refine And.intro ?_ ?_
        | (intro h; try omega)
        | omega
        | exact Nat.le_of_ble_eq_true rfl
    · repeat' first
        | exact h2 (fun j hj => p3 j (by omega))
        | (refine Exists.intro _ (And.intro ?_ (Exists.intro (1) (Exists.intro (d + 1) (And.intro rfl (And.intro rfl (And.intro rfl (And.intro rfl (And.intro rfl (And.intro rfl (?_)))))))))) <;> first | omega | exact ⟨by omega, by omega, Or.inl ⟨rfl, j, by omega, p4⟩⟩ | exact ⟨by omega, by omega, Or.inl ⟨rfl, d.toNat, by omega, by omega⟩⟩)
        | (refine Exists.intro _ (And.intro ?_ (Exists.intro (0) (Exists.intro (d + 1) (And.intro rfl (And.intro rfl (And.intro rfl (And.intro rfl (And.intro rfl (And.intro rfl (?_)))))))))) <;> first | omega | exact ⟨by omega, by omega, Or.inr ⟨rfl, (fun j hj => by rcases (show (j : Int) < d ∨ j = (d).toNat by omega) with hd | rfl <;> first | exact p3 _ (by omega) | omega)⟩⟩)
        | refine And.intro ?_ ?_
        | (intro h; try omega)
        | omega
        | exact Nat.le_of_ble_eq_true rfl
  · refine Exists.intro _ (Exists.intro (0) (Exists.intro (0) (And.intro rfl (And.intro rfl (And.intro rfl (And.intro rfl (And.intro rfl (And.intro rfl (⟨by omega, by omega, Or.inr ⟨rfl, fun j hj => by omega⟩⟩)))))))))
/-- what the drivers d below n make of an element: the value so far, whether there is one -/
def mq_mk (A : mq_A) (s e : Int) : Nat → Int × Bool
  | 0 => (4, false)
  | d + 1 => if A 38 d = e then ((if A 30 s.toNat = 2 then A 39 d else mq_both (mq_mk A s e d).1 (A 39 d)), true) else mq_mk A s e d
def mq_made (A : mq_A) (dr s e : Int) : Int := if (mq_mk A s e dr.toNat).2 = true then (mq_mk A s e dr.toNat).1 else A 35 e.toNat
theorem mq_mk_s {A : mq_A} {s e d : Int} (h : 0 ≤ d) : mq_mk A s e (d + 1).toNat = if A 38 d.toNat = e then ((if A 30 s.toNat = 2 then A 39 d.toNat else mq_both (mq_mk A s e d.toNat).1 (A 39 d.toNat)), true) else mq_mk A s e d.toNat := by
  rw [show (d + 1).toNat = d.toNat + 1 by omega]
  rfl
def sm_92 (as : List wi_V) (M : mq_H) (q : wi_Q1 mq_H) (_ : wi_Q2 mq_H) : Prop := mq_sII as (fun s e => mq_f M fun cd lm st sg el dr sz pr wc sp nw A B => 0 ≤ s ∧ s < 200 ∧ 0 ≤ e ∧ e < 512 ∧ 0 ≤ dr ∧ dr ≤ 512 ∧ q (some (.inl (mq_made A dr s e))) ([cd, lm, st, sg, el, dr, sz, pr, wc, sp, nw], A, B))
theorem mm_92 {l : Launch} {D : va_G} {aC : wm_Y} {b0 : Nat} (hl0 : l.stackTraces = false) : wm_sp l D aC b0 92 (wi_lf mq_Rl sm_92) := by
  refine wi_method mq_lw 92 (cx := fun id => if id = 91 then sm_91 else fun _ _ _ _ => False) (ids := ci_92) (tb := tb_92) (by decide +kernel) hl0 (wm_cxc (mm_91 hl0) oi_92 (fun h => wm_cxn h)) (wm_tb_ok tk_92) (by decide +kernel) [8] 250 (fun as M q qt hs => ?_)
  obtain ⟨s, e, rfl, hs1⟩ := mq_sII_e hs
  clear hs
  obtain ⟨cd, lm, st, sg, el, dr, sz, pr, wc, sp, nw, A, B, rfl, hs⟩ := mq_f_e hs1
  clear hs1
  obtain ⟨r1, r2, r3, r4, r5, r6, h1⟩ := hs
  refine ⟨rfl, fun mz pc lv sk h cu su => ∃ v : Int, ∃ x : Int, ∃ d : Int, lv = [some (wi_rf (some 11)), some (.inl (s)), some (.inl (e)), some (.inl (v)), some (.inl (x)), some (.inl (d))] ∧ sk = [] ∧ h = ([cd, lm, st, sg, el, dr, sz, pr, wc, sp, nw], A, B) ∧ cu = 0 ∧ su = 0 ∧ mz = (dr - d).toNat ∧ 0 ≤ d ∧ d ≤ dr ∧ (mq_mk A s e d.toNat).1 = v ∧ ((x = 1 ∧ (mq_mk A s e d.toNat).2 = true) ∨ (x = 0 ∧ (mq_mk A s e d.toNat).2 = false)), mq_c1 (fun mz lv sk h cu su hI => ?_), ?_⟩
  · obtain ⟨v, x, d, rfl, rfl, rfl, rfl, rfl, rfl, p1, p2, p3, p4⟩ := hI
    have key : ∀ z, z = mq_made A dr s e → q (some (.inl z)) ([cd, lm, st, sg, el, dr, sz, pr, wc, sp, nw], A, B) := fun z e => by rw [e]; exact h1
    repeat' first
      | (refine key _ ?_; have hd : d = dr := (by omega); subst hd; unfold mq_made; rcases p4 with ⟨a, b⟩ | ⟨a, b⟩ <;> rw [b] <;> first | omega | exact p3.symm | rfl)
      | (refine Exists.intro _ (And.intro ?_ (Exists.intro (A 39 d.toNat) (Exists.intro (1) (Exists.intro (d + 1) (And.intro rfl (And.intro rfl (And.intro rfl (And.intro rfl (And.intro rfl (And.intro rfl (?_))))))))))) <;> first | omega | (rw [mq_mk_s p1]; simp_all))
      | (refine Exists.intro _ (And.intro ?_ (Exists.intro (mq_both v (A 39 d.toNat)) (Exists.intro (1) (Exists.intro (d + 1) (And.intro rfl (And.intro rfl (And.intro rfl (And.intro rfl (And.intro rfl (And.intro rfl (?_))))))))))) <;> first | omega | (rw [mq_mk_s p1]; simp_all))
      | (refine Exists.intro _ (And.intro ?_ (Exists.intro (v) (Exists.intro (x) (Exists.intro (d + 1) (And.intro rfl (And.intro rfl (And.intro rfl (And.intro rfl (And.intro rfl (And.intro rfl (?_))))))))))) <;> first | omega | (rw [mq_mk_s p1]; simp_all))
      | refine And.intro ?_ ?_
      | (intro h; try omega)
      | omega
      | exact Nat.le_of_ble_eq_true rfl
  · refine Exists.intro _ (Exists.intro (4) (Exists.intro (0) (Exists.intro (0) (And.intro rfl (And.intro rfl (And.intro rfl (And.intro rfl (And.intro rfl (And.intro rfl (⟨by omega, by omega, rfl, Or.inr ⟨rfl, rfl⟩⟩))))))))))
/-- a stretch of an array, filled -/
def mq_g (A : mq_A) (t lo n : Nat) (v : Nat → Int) : mq_A := fun t' k => if t' = t ∧ lo ≤ k ∧ k < lo + n then v k else A t' k
theorem mq_g_0 {A : mq_A} {t lo : Nat} {v : Nat → Int} : mq_g A t lo 0 v = A := by
  funext t' k
  simp only [mq_g]
  rw [if_neg (by omega)]
theorem mq_g_s {A : mq_A} {t lo n m k : Nat} {v : Nat → Int} {x : Int} (hk : k = lo + n) (hm : m = n + 1) (hx : x = v k) : md_u (mq_g A t lo n v) t k x = mq_g A t lo m v := by
  subst hk hm hx
  funext t' k
  simp only [mq_g, md_u]
  split
  · next e => obtain ⟨rfl, rfl⟩ := e; rw [if_pos (by omega)]
  · split
    · rw [if_pos (by omega)]
    · rw [if_neg (by omega)]
theorem mq_eA {F : List Int} {A A' B : mq_A} (h : A = A') : (F, A, B) = (F, A', B) := by rw [h]
theorem mq_eB {F : List Int} {A B B' : mq_A} (h : B = B') : (F, A, B) = (F, A, B') := by rw [h]
theorem mq_eAB {F : List Int} {A A' B B' : mq_A} (h : A = A') (g : B = B') : (F, A, B) = (F, A', B') := by rw [h, g]
theorem mq_g_t {A : mq_A} {t lo n t' : Nat} {v : Nat → Int} (h : t' ≠ t) : mq_g A t lo n v t' = A t' := by
  funext k
  simp [mq_g, h]
def sm_95 (as : List wi_V) (M : mq_H) (q : wi_Q1 mq_H) (_ : wi_Q2 mq_H) : Prop := mq_s as (mq_f M fun cd lm st sg el dr sz pr wc sp nw A B => q none ([0, lm, st, sg, el, dr, sz, pr, 0, sp, nw], mq_g A 50 0 200 (fun _ => 0), B))
theorem mm_95 {l : Launch} {D : va_G} {aC : wm_Y} {b0 : Nat} (hl0 : l.stackTraces = false) : wm_sp l D aC b0 95 (wi_lf mq_Rl sm_95) := by
  refine wi_method mq_lw 95 (cx := fun _ _ _ _ _ => False) (ids := ci_95) (tb := tb_95) (by decide +kernel) hl0 wm_cx0 (wm_tb_ok tk_95) (by decide +kernel) [12] 250 (fun as M q qt hs => ?_)
  obtain ⟨rfl, hs1⟩ := mq_s_e hs
  clear hs
  obtain ⟨cd, lm, st, sg, el, dr, sz, pr, wc, sp, nw, A, B, rfl, hs⟩ := mq_f_e hs1
  clear hs1
  refine ⟨rfl, fun mz pc lv sk h cu su => ∃ s : Int, lv = [some (wi_rf (some 11)), some (.inl (s))] ∧ sk = [] ∧ h = ([0, lm, st, sg, el, dr, sz, pr, 0, sp, nw], mq_g A 50 0 s.toNat (fun _ => 0), B) ∧ cu = 0 ∧ su = 0 ∧ mz = (200 - s).toNat ∧ 0 ≤ s ∧ s ≤ 200, mq_c1 (fun mz lv sk h cu su hI => ?_), ?_⟩
  · obtain ⟨s, rfl, rfl, rfl, rfl, rfl, rfl, p1, p2⟩ := hI
    repeat' first
      | (have hd : s = 200 := (by omega); subst hd; exact hs)
      | (refine Exists.intro _ (And.intro ?_ (Exists.intro (s + 1) (And.intro rfl (And.intro rfl (And.intro (mq_eA (by subst_vars; exact mq_g_s (by omega) (by omega) rfl)) (And.intro rfl (And.intro rfl (And.intro rfl (?_))))))))) <;> omega)
      | refine And.intro ?_ ?_
      | (intro h; try omega)
      | omega
      | exact Nat.le_of_ble_eq_true rfl
  · refine Exists.intro _ (Exists.intro (0) (And.intro rfl (And.intro rfl (And.intro (mq_eA mq_g_0.symm) (And.intro rfl (And.intro rfl (And.intro rfl (⟨by omega, by omega⟩))))))))
def sm_93 (as : List wi_V) (M : mq_H) (q : wi_Q1 mq_H) (_ : wi_Q2 mq_H) : Prop := mq_sJ as (fun w => mq_f M fun cd lm st sg el dr sz pr wc sp nw A B => 0 ≤ wc ∧ wc ≤ 16 ∧ (w < 0 ∨ 1152921504606846976 < w → q none ([1, lm, st, sg, el, dr, sz, pr, wc, sp, nw], A, B)) ∧ (0 ≤ w → w ≤ 1152921504606846976 → wc = 16 → q none ([2, lm, st, sg, el, dr, sz, pr, wc, sp, nw], A, B)) ∧ (0 ≤ w → w ≤ 1152921504606846976 → wc < 16 → q none ([0, lm, st, sg, el, dr, sz, pr, wc + 1, sp, nw], mq_g A 51 (64 * wc).toNat 64 (fun _ => 0), md_u B 52 wc.toNat w)))
theorem mm_93 {l : Launch} {D : va_G} {aC : wm_Y} {b0 : Nat} (hl0 : l.stackTraces = false) : wm_sp l D aC b0 93 (wi_lf mq_Rl sm_93) := by
  refine wi_method mq_lw 93 (cx := fun _ _ _ _ _ => False) (ids := ci_93) (tb := tb_93) (by decide +kernel) hl0 wm_cx0 (wm_tb_ok tk_93) (by decide +kernel) [46] 250 (fun as M q qt hs => ?_)
  obtain ⟨w, rfl, hs1⟩ := mq_sJ_e hs
  clear hs
  obtain ⟨cd, lm, st, sg, el, dr, sz, pr, wc, sp, nw, A, B, rfl, hs⟩ := mq_f_e hs1
  clear hs1
  obtain ⟨r1, r2, h1, h2, h3⟩ := hs
  refine ⟨rfl, fun mz pc lv sk h cu su => ∃ k : Int, lv = [some (wi_rf (some 11)), some (.inr (.inl (w))), none, some (.inl (k))] ∧ sk = [] ∧ h = ([0, lm, st, sg, el, dr, sz, pr, wc, sp, nw], mq_g A 51 (64 * wc).toNat k.toNat (fun _ => 0), B) ∧ cu = 0 ∧ su = 0 ∧ mz = (64 - k).toNat ∧ 0 ≤ k ∧ k ≤ 64 ∧ wc < 16 ∧ 0 ≤ w ∧ w ≤ 1152921504606846976, mq_c1 (fun mz lv sk h cu su hI => ?_), ?_⟩
  · obtain ⟨k, rfl, rfl, rfl, rfl, rfl, rfl, p1, p2, p3, p4, p5⟩ := hI
    repeat' first
      | (have hd : k = 64 := (by omega); subst hd; subst_vars; exact h3 (by omega) (by omega) (by omega))
      | (refine Exists.intro _ (And.intro ?_ (Exists.intro (k + 1) (And.intro rfl (And.intro rfl (And.intro (mq_eA (by subst_vars; exact mq_g_s (by omega) (by omega) rfl)) (And.intro rfl (And.intro rfl (And.intro rfl (?_))))))))) <;> omega)
      | refine And.intro ?_ ?_
      | (intro h; try omega)
      | omega
      | exact Nat.le_of_ble_eq_true rfl
  · repeat' first
      | exact h1 (by omega)
      | exact h2 (by omega) (by omega) (by omega)
      | (refine Exists.intro _ (Exists.intro (0) (And.intro rfl (And.intro rfl (And.intro (mq_eA mq_g_0.symm) (And.intro rfl (And.intro rfl (And.intro rfl (?_)))))))) <;> omega)
      | refine And.intro ?_ ?_
      | (intro h; try omega)
      | omega
      | exact Nat.le_of_ble_eq_true rfl
end
section
/-! THE REFERENCE, 3: loops that look, further -/
def mq_can (A : mq_A) (s v : Int) : Prop := A 30 s.toNat = 2 ∨ (0 ≤ v ∧ v ≤ 8)
def mq_ri (B : mq_A) (w : Int) : Prop := ∀ j : Int, 1 ≤ j → j < w → B 52 (j - 1).toNat < B 52 j.toNat
def mq_ck (A : mq_A) (s w k : Int) : Prop := ∀ i : Int, 0 ≤ i → i < k → mq_can A s (A 51 (64 * w + i).toNat)
def mq_cw (A : mq_A) (s n w : Int) : Prop := ∀ j : Int, 0 ≤ j → j < w → mq_ck A s j n
theorem mq_ri_0 {B : mq_A} {w : Int} (h : w ≤ 1) : mq_ri B w := fun j h1 h2 => by omega
theorem mq_ri_s {B : mq_A} {w : Int} (h : mq_ri B w) (g : w < 1 ∨ B 52 (w - 1).toNat < B 52 w.toNat) : mq_ri B (w + 1) := fun j h1 h2 => by
  rcases (show j < w ∨ j = w by omega) with hd | rfl
  · exact h j h1 hd
  · omega
theorem mq_ri_d {B : mq_A} {w : Int} (h : mq_ri B (w + 1)) : mq_ri B w := fun j h1 h2 => h j h1 (by omega)
theorem mq_ck_s {A : mq_A} {s w k : Int} (h : mq_ck A s w k) (g : mq_can A s (A 51 (64 * w + k).toNat)) : mq_ck A s w (k + 1) := fun j h1 h2 => by
  rcases (show j < k ∨ j = k by omega) with hd | rfl
  · exact h j h1 hd
  · exact g
theorem mq_ck_d {A : mq_A} {s w k : Int} (h : mq_ck A s w (k + 1)) : mq_ck A s w k := fun j h1 h2 => h j h1 (by omega)
theorem mq_cw_s {A : mq_A} {s n w : Int} (h : mq_cw A s n w) (g : mq_ck A s w n) : mq_cw A s n (w + 1) := fun j h1 h2 => by
  rcases (show j < w ∨ j = w by omega) with hd | rfl
  · exact h j h1 hd
  · exact g
theorem mq_cw_d {A : mq_A} {s n w : Int} (h : mq_cw A s n (w + 1)) : mq_cw A s n w := fun j h1 h2 => h j h1 (by omega)
def mq_good (A B : mq_A) (nw wc s n mo li : Int) : Prop := (0 ≤ mo ∧ mo ≤ 2 ∧ nw + B 52 (wc - 1).toNat ≤ 1152921504606846976) ∧ mq_ri B wc ∧ mq_cw A s n wc ∧ (mo < 2 ∨ (0 ≤ li ∧ li ≤ B 52 (Int.toNat 0)))
def sm_96 (as : List wi_V) (M : mq_H) (q : wi_Q1 mq_H) (_ : wi_Q2 mq_H) : Prop := mq_sIIIJ as (fun s n mo li => mq_f M fun cd lm st sg el dr sz pr wc sp nw A B => 0 ≤ s ∧ s < 200 ∧ 0 ≤ n ∧ n ≤ 64 ∧ 1 ≤ wc ∧ wc ≤ 16 ∧ 0 ≤ nw ∧ nw ≤ 1152921504606846976 ∧ (∀ j : Int, 0 ≤ j → j < wc → 0 ≤ B 52 j.toNat ∧ B 52 j.toNat ≤ 1152921504606846976) ∧ (mq_good A B nw wc s n mo li → q (some (.inl 1)) ([cd, lm, st, sg, el, dr, sz, pr, wc, sp, nw], A, B)) ∧ (¬ mq_good A B nw wc s n mo li → q (some (.inl 0)) ([cd, lm, st, sg, el, dr, sz, pr, wc, sp, nw], A, B)))
theorem mm_96 {l : Launch} {D : va_G} {aC : wm_Y} {b0 : Nat} (hl0 : l.stackTraces = false) : wm_sp l D aC b0 96 (wi_lf mq_Rl sm_96) := by
  refine wi_method mq_lw 96 (cx := fun id => if id = 88 then sm_88 else fun _ _ _ _ => False) (ids := ci_96) (tb := tb_96) (by decide +kernel) hl0 (wm_cxc (mm_88 hl0) oi_96 (fun h => wm_cxn h)) (wm_tb_ok tk_96) (by decide +kernel) [42, 91] 250 (fun as M q qt hs => ?_)
  obtain ⟨s, n, mo, li, rfl, hs1⟩ := mq_sIIIJ_e hs
  clear hs
  obtain ⟨cd, lm, st, sg, el, dr, sz, pr, wc, sp, nw, A, B, rfl, hs⟩ := mq_f_e hs1
  clear hs1
  obtain ⟨r1, r2, r3, r4, r5, r6, r7, r8, r9, h1, h2⟩ := hs
  have r10 := r9 (wc - 1) (by omega) (by omega)
  refine ⟨rfl, fun mz pc lv sk h cu su => match pc with | 42 => ∃ x : Int, ∃ w : Int, ∃ k8 : Option wi_V, lv = [some (wi_rf (some 11)), some (.inl (s)), some (.inl (n)), some (.inl (mo)), some (.inr (.inl (li))), none, some (.inl (x)), some (.inl (w)), k8] ∧ sk = [] ∧ h = ([cd, lm, st, sg, el, dr, sz, pr, wc, sp, nw], A, B) ∧ cu = 0 ∧ su = 0 ∧ mz = ((wc - w) * 100).toNat ∧ 0 ≤ w ∧ w ≤ wc ∧ ((x = 1 ∧ ((0 ≤ mo ∧ mo ≤ 2 ∧ nw + B 52 (wc - 1).toNat ≤ 1152921504606846976) ∧ mq_ri B w ∧ mq_cw A s n w)) ∨ (x = 0 ∧ ¬ ((0 ≤ mo ∧ mo ≤ 2 ∧ nw + B 52 (wc - 1).toNat ≤ 1152921504606846976) ∧ mq_ri B w ∧ mq_cw A s n w))) | 91 => ∃ x : Int, ∃ w : Int, ∃ k : Int, lv = [some (wi_rf (some 11)), some (.inl (s)), some (.inl (n)), some (.inl (mo)), some (.inr (.inl (li))), none, some (.inl (x)), some (.inl (w)), some (.inl (k))] ∧ sk = [] ∧ h = ([cd, lm, st, sg, el, dr, sz, pr, wc, sp, nw], A, B) ∧ cu = 0 ∧ su = 0 ∧ mz = ((wc - w) * 100 - 1 - k).toNat ∧ 0 ≤ w ∧ w < wc ∧ 0 ≤ k ∧ k ≤ n ∧ ((x = 1 ∧ ((0 ≤ mo ∧ mo ≤ 2 ∧ nw + B 52 (wc - 1).toNat ≤ 1152921504606846976) ∧ mq_ri B (w + 1) ∧ mq_cw A s n w ∧ mq_ck A s w k)) ∨ (x = 0 ∧ ¬ ((0 ≤ mo ∧ mo ≤ 2 ∧ nw + B 52 (wc - 1).toNat ≤ 1152921504606846976) ∧ mq_ri B (w + 1) ∧ mq_cw A s n w ∧ mq_ck A s w k))) | _ => False, mq_c2 (fun mz lv sk h cu su hI => ?_) (fun mz lv sk h cu su hI => ?_), ?_⟩
  · obtain ⟨x, w, k8, rfl, rfl, rfl, rfl, rfl, rfl, p1, p2, ⟨rfl, p3, p4, p5⟩ | ⟨rfl, p3⟩⟩ := hI
    · repeat' first
        | (have e : w = wc := (by omega); subst e; exact h1 ⟨p3, p4, p5, by omega⟩)
        | (have e : w = wc := (by omega); subst e; refine h2 (fun c => ?_); have c2 := c.2.2.2; omega)
        | (refine Exists.intro _ (And.intro ?_ (Exists.intro (1) (Exists.intro (w) (Exists.intro (0) (And.intro rfl (And.intro rfl (And.intro rfl (And.intro rfl (And.intro rfl (And.intro rfl (?_))))))))))) <;> first | omega | exact ⟨by omega, by omega, by omega, by omega, Or.inl ⟨rfl, p3, mq_ri_s p4 (by omega), p5, fun j h1 h2 => by omega⟩⟩)
        | (refine Exists.intro _ (And.intro ?_ (Exists.intro (0) (Exists.intro (w) (Exists.intro (0) (And.intro rfl (And.intro rfl (And.intro rfl (And.intro rfl (And.intro rfl (And.intro rfl (?_))))))))))) <;> first | omega | exact ⟨by omega, by omega, by omega, by omega, Or.inr ⟨rfl, fun c => by have c2 := c.2.1 w (by omega) (by omega); omega⟩⟩)
        | refine And.intro ?_ ?_
        | (intro h; try omega)
        | omega
        | exact Nat.le_of_ble_eq_true rfl
    · repeat' first
        | (have e : w = wc := (by omega); subst e; exact h2 (fun c => p3 ⟨c.1, c.2.1, c.2.2.1⟩))
        | (refine Exists.intro _ (And.intro ?_ (Exists.intro (0) (Exists.intro (w) (Exists.intro (0) (And.intro rfl (And.intro rfl (And.intro rfl (And.intro rfl (And.intro rfl (And.intro rfl (?_))))))))))) <;> first | omega | exact ⟨by omega, by omega, by omega, by omega, Or.inr ⟨rfl, fun c => p3 ⟨c.1, mq_ri_d c.2.1, c.2.2.1⟩⟩⟩)
        | refine And.intro ?_ ?_
        | (intro h; try omega)
        | omega
        | exact Nat.le_of_ble_eq_true rfl
  · obtain ⟨x, w, k, rfl, rfl, rfl, rfl, rfl, rfl, p1, p2, p3, p4, ⟨rfl, p5, p6, p7, p8⟩ | ⟨rfl, p5⟩⟩ := hI
    · repeat' first
        | (refine Exists.intro _ (And.intro ?_ (Exists.intro (1) (Exists.intro (w) (Exists.intro (k + 1) (And.intro rfl (And.intro rfl (And.intro rfl (And.intro rfl (And.intro rfl (And.intro rfl (?_))))))))))) <;> first | omega | exact ⟨by omega, by omega, by omega, by omega, Or.inl ⟨rfl, p5, p6, p7, mq_ck_s p8 (by unfold mq_can; omega)⟩⟩)
        | (refine Exists.intro _ (And.intro ?_ (Exists.intro (0) (Exists.intro (w) (Exists.intro (k + 1) (And.intro rfl (And.intro rfl (And.intro rfl (And.intro rfl (And.intro rfl (And.intro rfl (?_))))))))))) <;> first | omega | exact ⟨by omega, by omega, by omega, by omega, Or.inr ⟨rfl, fun c => by have c2 := c.2.2.2 k (by omega) (by omega); unfold mq_can at c2; omega⟩⟩)
        | (have e : k = n := (by omega); subst e; (refine Exists.intro _ (And.intro ?_ (Exists.intro (1) (Exists.intro (w + 1) (Exists.intro (_) (And.intro rfl (And.intro rfl (And.intro rfl (And.intro rfl (And.intro rfl (And.intro rfl (?_))))))))))) <;> first | omega | exact ⟨by omega, by omega, Or.inl ⟨rfl, p5, p6, mq_cw_s p7 p8⟩⟩))
        | refine And.intro ?_ ?_
        | (intro h; try omega)
        | omega
        | exact Nat.le_of_ble_eq_true rfl
    · repeat' first
        | (refine Exists.intro _ (And.intro ?_ (Exists.intro (0) (Exists.intro (w) (Exists.intro (k + 1) (And.intro rfl (And.intro rfl (And.intro rfl (And.intro rfl (And.intro rfl (And.intro rfl (?_))))))))))) <;> first | omega | exact ⟨by omega, by omega, by omega, by omega, Or.inr ⟨rfl, fun c => p5 ⟨c.1, c.2.1, c.2.2.1, mq_ck_d c.2.2.2⟩⟩⟩)
        | (have e : k = n := (by omega); subst e; (refine Exists.intro _ (And.intro ?_ (Exists.intro (0) (Exists.intro (w + 1) (Exists.intro (_) (And.intro rfl (And.intro rfl (And.intro rfl (And.intro rfl (And.intro rfl (And.intro rfl (?_))))))))))) <;> first | omega | exact ⟨by omega, by omega, Or.inr ⟨rfl, fun c => p5 ⟨c.1, c.2.1, mq_cw_d c.2.2, c.2.2 w (by omega) (by omega)⟩⟩⟩))
        | refine And.intro ?_ ?_
        | (intro h; try omega)
        | omega
        | exact Nat.le_of_ble_eq_true rfl
  · repeat' first
      | (refine Exists.intro _ (Exists.intro (1) (Exists.intro (0) (Exists.intro (_) (And.intro rfl (And.intro rfl (And.intro rfl (And.intro rfl (And.intro rfl (And.intro rfl (?_)))))))))) <;> first | omega | exact ⟨by omega, by omega, Or.inl ⟨rfl, ⟨by omega, by omega, by omega⟩, mq_ri_0 (by omega), fun j h1 h2 => by omega⟩⟩)
      | (refine Exists.intro _ (Exists.intro (0) (Exists.intro (0) (Exists.intro (_) (And.intro rfl (And.intro rfl (And.intro rfl (And.intro rfl (And.intro rfl (And.intro rfl (?_)))))))))) <;> first | omega | exact ⟨by omega, by omega, Or.inr ⟨rfl, fun c => by have c2 := c.1; omega⟩⟩)
      | refine And.intro ?_ ?_
      | (intro h; try omega)
      | omega
      | exact Nat.le_of_ble_eq_true rfl
def mq_w (A B : mq_A) (j : Int) : Prop := (A 46 j.toNat = 1 ∨ A 46 j.toNat = 2) ∧ B 48 j.toNat ≠ -1
def mq_nx (A B : mq_A) (i p t : Int) : Prop := (t = -1 ∧ i ≤ 0 ∧ ∀ j : Int, 0 ≤ j → j < p → ¬ mq_w A B j) ∨ (0 ≤ t ∧ ((∃ j : Int, 0 ≤ j ∧ j < i ∧ B 41 j.toNat = t) ∨ (∃ j : Int, 0 ≤ j ∧ j < p ∧ mq_w A B j ∧ B 48 j.toNat = t)) ∧ (∀ j : Int, 0 ≤ j → j < i → t ≤ B 41 j.toNat) ∧ ∀ j : Int, 0 ≤ j → j < p → mq_w A B j → t ≤ B 48 j.toNat)
theorem mq_nx_i {A B : mq_A} {i t : Int} (h : mq_nx A B i 0 t) (h0 : 0 ≤ i) (h1 : 0 ≤ B 41 i.toNat) (h2 : t = -1 ∨ B 41 i.toNat < t) : mq_nx A B (i + 1) 0 (B 41 i.toNat) := by
  refine Or.inr ⟨h1, Or.inl ⟨i, h0, by omega, rfl⟩, fun j hj hj2 => ?_, fun j hj hj2 => by omega⟩
  rcases (show j < i ∨ j = i by omega) with hd | rfl
  · rcases h with ⟨a, b, c⟩ | ⟨a, b, c, d⟩
    · omega
    · have := c j hj hd
      omega
  · omega
theorem mq_nx_j {A B : mq_A} {i t : Int} (h : mq_nx A B i 0 t) (h1 : t ≠ -1) (h2 : t ≤ B 41 i.toNat) : mq_nx A B (i + 1) 0 t := by
  rcases h with ⟨a, b, c⟩ | ⟨a, b, c, d⟩
  · omega
  · refine Or.inr ⟨a, ?_, fun j hj hj2 => ?_, d⟩
    · rcases b with ⟨j, b1, b2, b3⟩ | ⟨j, b1, b2, b3⟩
      · exact Or.inl ⟨j, b1, by omega, b3⟩
      · exact Or.inr ⟨j, b1, b2, b3⟩
    · rcases (show j < i ∨ j = i by omega) with hd | rfl
      · exact c j hj hd
      · exact h2
theorem mq_nx_p {A B : mq_A} {i p t : Int} (h : mq_nx A B i p t) (h0 : 0 ≤ p) (h3 : mq_w A B p) (h1 : -1 ≤ B 48 p.toNat) (h2 : t = -1 ∨ B 48 p.toNat < t) : mq_nx A B i (p + 1) (B 48 p.toNat) := by
  have h4 := h3.2
  refine Or.inr ⟨by omega, Or.inr ⟨p, h0, by omega, h3, rfl⟩, fun j hj hj2 => ?_, fun j hj hj2 hw => ?_⟩
  · rcases h with ⟨a, b, c⟩ | ⟨a, b, c, d⟩
    · omega
    · have := c j hj hj2
      omega
  · rcases (show j < p ∨ j = p by omega) with hd | rfl
    · rcases h with ⟨a, b, c⟩ | ⟨a, b, c, d⟩
      · exact absurd hw (c j hj hd)
      · have := d j hj hd hw
        omega
    · omega
theorem mq_nx_q {A B : mq_A} {i p t : Int} (h : mq_nx A B i p t) (h2 : ¬ mq_w A B p ∨ (t ≠ -1 ∧ t ≤ B 48 p.toNat)) : mq_nx A B i (p + 1) t := by
  rcases h with ⟨a, b, c⟩ | ⟨a, b, c, d⟩
  · refine Or.inl ⟨a, b, fun j hj hj2 => ?_⟩
    rcases (show j < p ∨ j = p by omega) with hd | rfl
    · exact c j hj hd
    · rcases h2 with h2 | h2
      · exact h2
      · exact absurd a h2.1
  · refine Or.inr ⟨a, ?_, c, fun j hj hj2 hw => ?_⟩
    · rcases b with ⟨j, b1, b2, b3⟩ | ⟨j, b1, b2, b3⟩
      · exact Or.inl ⟨j, b1, b2, b3⟩
      · exact Or.inr ⟨j, b1, by omega, b3⟩
    · rcases (show j < p ∨ j = p by omega) with hd | rfl
      · exact d j hj hd hw
      · rcases h2 with h2 | h2
        · exact absurd hw h2
        · exact h2.2
def sm_104 (as : List wi_V) (M : mq_H) (q : wi_Q1 mq_H) (_ : wi_Q2 mq_H) : Prop := mq_s as (mq_f M fun cd lm st sg el dr sz pr wc sp nw A B => 0 ≤ sz ∧ sz ≤ 8192 ∧ 0 ≤ pr ∧ pr ≤ 64 ∧ (∀ j : Int, 0 ≤ j → j < sz → 0 ≤ B 41 j.toNat) ∧ (∀ j : Int, 0 ≤ j → j < pr → -1 ≤ B 48 j.toNat) ∧ ∀ t : Int, mq_nx A B sz pr t → q (some (.inr (.inl t))) ([0, lm, st, sg, el, dr, sz, pr, wc, sp, nw], A, B))
theorem mm_104 {l : Launch} {D : va_G} {aC : wm_Y} {b0 : Nat} (hl0 : l.stackTraces = false) : wm_sp l D aC b0 104 (wi_lf mq_Rl sm_104) := by
  refine wi_method mq_lw 104 (cx := fun _ _ _ _ _ => False) (ids := ci_104) (tb := tb_104) (by decide +kernel) hl0 wm_cx0 (wm_tb_ok tk_104) (by decide +kernel) [11, 57] 250 (fun as M q qt hs => ?_)
  obtain ⟨rfl, hs1⟩ := mq_s_e hs
  clear hs
  obtain ⟨cd, lm, st, sg, el, dr, sz, pr, wc, sp, nw, A, B, rfl, hs⟩ := mq_f_e hs1
  clear hs1
  obtain ⟨r1, r2, r3, r4, r5, r6, h1⟩ := hs
  refine ⟨rfl, fun mz pc lv sk h cu su => match pc with | 11 => ∃ t : Int, ∃ i : Int, ∃ x4 : Option wi_V, lv = [some (wi_rf (some 11)), some (.inr (.inl (t))), none, some (.inl (i)), x4] ∧ sk = [] ∧ h = ([0, lm, st, sg, el, dr, sz, pr, wc, sp, nw], A, B) ∧ cu = 0 ∧ su = 0 ∧ mz = (10000 - i).toNat ∧ 0 ≤ i ∧ i ≤ sz ∧ mq_nx A B i 0 t | 57 => ∃ t : Int, ∃ p : Int, ∃ x4 : Option wi_V, lv = [some (wi_rf (some 11)), some (.inr (.inl (t))), none, some (.inl (p)), x4] ∧ sk = [] ∧ h = ([0, lm, st, sg, el, dr, sz, pr, wc, sp, nw], A, B) ∧ cu = 0 ∧ su = 0 ∧ mz = (100 - p).toNat ∧ 0 ≤ p ∧ p ≤ pr ∧ mq_nx A B sz p t | _ => False, mq_c2 (fun mz lv sk h cu su hI => ?_) (fun mz lv sk h cu su hI => ?_), ?_⟩
  · obtain ⟨t, i, x4, rfl, rfl, rfl, rfl, rfl, rfl, p1, p2, p3⟩ := hI
    have p4 := r5 i
    repeat' first
      | (have e : i = sz := (by omega); subst e; (refine Exists.intro _ (And.intro ?_ (Exists.intro (t) (Exists.intro (0) (Exists.intro (_) (And.intro rfl (And.intro rfl (And.intro rfl (And.intro rfl (And.intro rfl (And.intro rfl (?_))))))))))) <;> first | omega | exact ⟨by omega, by omega, p3⟩))
      | (refine Exists.intro _ (And.intro ?_ (Exists.intro (B 41 i.toNat) (Exists.intro (i + 1) (Exists.intro (_) (And.intro rfl (And.intro rfl (And.intro rfl (And.intro rfl (And.intro rfl (And.intro rfl (?_))))))))))) <;> first | omega | exact ⟨by omega, by omega, mq_nx_i p3 p1 (by omega) (by omega)⟩)
      | (refine Exists.intro _ (And.intro ?_ (Exists.intro (t) (Exists.intro (i + 1) (Exists.intro (_) (And.intro rfl (And.intro rfl (And.intro rfl (And.intro rfl (And.intro rfl (And.intro rfl (?_))))))))))) <;> first | omega | exact ⟨by omega, by omega, mq_nx_j p3 (by omega) (by omega)⟩)
      | refine And.intro ?_ ?_
      | (intro h; try omega)
      | omega
      | exact Nat.le_of_ble_eq_true rfl
  · obtain ⟨t, p, x4, rfl, rfl, rfl, rfl, rfl, rfl, p1, p2, p3⟩ := hI
    have p4 := r6 p
    repeat' first
      | (have e : p = pr := (by omega); subst e; exact h1 _ p3)
      | (refine Exists.intro _ (And.intro ?_ (Exists.intro (B 48 p.toNat) (Exists.intro (p + 1) (Exists.intro (_) (And.intro rfl (And.intro rfl (And.intro rfl (And.intro rfl (And.intro rfl (And.intro rfl (?_))))))))))) <;> first | omega | exact ⟨by omega, by omega, mq_nx_p p3 p1 ⟨by omega, by omega⟩ (by omega) (by omega)⟩)
      | (refine Exists.intro _ (And.intro ?_ (Exists.intro (t) (Exists.intro (p + 1) (Exists.intro (_) (And.intro rfl (And.intro rfl (And.intro rfl (And.intro rfl (And.intro rfl (And.intro rfl (?_))))))))))) <;> first | omega | exact ⟨by omega, by omega, mq_nx_q p3 (Or.inr ⟨by omega, by omega⟩)⟩)
      | (refine Exists.intro _ (And.intro ?_ (Exists.intro (t) (Exists.intro (p + 1) (Exists.intro (_) (And.intro rfl (And.intro rfl (And.intro rfl (And.intro rfl (And.intro rfl (And.intro rfl (?_))))))))))) <;> first | omega | exact ⟨by omega, by omega, mq_nx_q p3 (Or.inl (fun c => by unfold mq_w at c; omega))⟩)
      | refine And.intro ?_ ?_
      | (intro h; try omega)
      | omega
      | exact Nat.le_of_ble_eq_true rfl
  · refine Exists.intro _ (Exists.intro (-1) (Exists.intro (0) (Exists.intro (_) (And.intro rfl (And.intro rfl (And.intro rfl (And.intro rfl (And.intro rfl (And.intro rfl (⟨by omega, by omega, Or.inl ⟨rfl, by omega, fun j hj hj2 => by omega⟩⟩))))))))))
end
section
/-! THE REFERENCE, 4: loops that count, and such as write a stretch -/
/-- how many of the first n -/
def mq_cnt (P : Nat → Bool) : Nat → Int
  | 0 => 0
  | n + 1 => mq_cnt P n + if P n = true then 1 else 0
theorem mq_cnt_s {P : Nat → Bool} {p : Int} (h : 0 ≤ p) : mq_cnt P (p + 1).toNat = mq_cnt P p.toNat + if P p.toNat = true then 1 else 0 := by
  rw [show (p + 1).toNat = p.toNat + 1 by omega]
  rfl
theorem mq_cnt_b {P : Nat → Bool} : ∀ n : Nat, 0 ≤ mq_cnt P n ∧ mq_cnt P n ≤ n
  | 0 => by simp [mq_cnt]
  | n + 1 => by
    have := mq_cnt_b (P := P) n
    simp only [mq_cnt]
    split <;> omega
/-- the waiting transactions of a driver, among the first n -/
def mq_row (A B : mq_A) (d : Int) : Nat → List (Int × Int)
  | 0 => []
  | n + 1 => if A 40 n = d then mq_row A B d n ++ [(B 41 n, A 42 n)] else mq_row A B d n
theorem mq_row_s {A B : mq_A} {d i : Int} (h : 0 ≤ i) : mq_row A B d (i + 1).toNat = if A 40 i.toNat = d then mq_row A B d i.toNat ++ [(B 41 i.toNat, A 42 i.toNat)] else mq_row A B d i.toNat := by
  rw [show (i + 1).toNat = i.toNat + 1 by omega]
  rfl
theorem mq_row_b {A B : mq_A} {d : Int} : ∀ n : Nat, (mq_row A B d n).length ≤ n
  | 0 => by simp [mq_row]
  | n + 1 => by
    have := mq_row_b (A := A) (B := B) (d := d) n
    simp only [mq_row]
    split
    · rw [List.length_append]; simp only [List.length_cons, List.length_nil]; omega
    · omega
/-- the value at a time, out of a row -/
def mq_va (t : Int) (v : Int) (x : Int × Int) : Int := if x.1 ≤ t then x.2 else v
def sm_111 (as : List wi_V) (M : mq_H) (q : wi_Q1 mq_H) (_ : wi_Q2 mq_H) : Prop := mq_sII as (fun a i => mq_f M fun cd lm st sg el dr sz pr wc sp nw A B => 0 ≤ pr ∧ pr ≤ 64 ∧ (a < 0 ∨ 3 < a → q (some (.inl (-1))) ([1, lm, st, sg, el, dr, sz, pr, wc, sp, nw], A, B)) ∧ (0 ≤ a → a ≤ 3 → ∀ r : Int, 0 ≤ r → r < pr → (fun k => decide (A 46 k = a)) r.toNat = true → mq_cnt (fun k => decide (A 46 k = a)) r.toNat = i → q (some (.inl r)) ([0, lm, st, sg, el, dr, sz, pr, wc, sp, nw], A, B)) ∧ (0 ≤ a → a ≤ 3 → i < 0 ∨ mq_cnt (fun k => decide (A 46 k = a)) pr.toNat ≤ i → q (some (.inl (-1))) ([0, lm, st, sg, el, dr, sz, pr, wc, sp, nw], A, B)))
theorem mm_111 {l : Launch} {D : va_G} {aC : wm_Y} {b0 : Nat} (hl0 : l.stackTraces = false) : wm_sp l D aC b0 111 (wi_lf mq_Rl sm_111) := by
  refine wi_method mq_lw 111 (cx := fun _ _ _ _ _ => False) (ids := ci_111) (tb := tb_111) (by decide +kernel) hl0 wm_cx0 (wm_tb_ok tk_111) (by decide +kernel) [23] 250 (fun as M q qt hs => ?_)
  obtain ⟨a, i, rfl, hs1⟩ := mq_sII_e hs
  clear hs
  obtain ⟨cd, lm, st, sg, el, dr, sz, pr, wc, sp, nw, A, B, rfl, hs⟩ := mq_f_e hs1
  clear hs1
  obtain ⟨r1, r2, h0, h1, h2⟩ := hs
  refine ⟨rfl, fun mz pc lv sk h cu su => ∃ c : Int, ∃ p : Int, ∃ c0 : Int, lv = [some (wi_rf (some 11)), some (.inl (a)), some (.inl (i)), some (.inl (c)), some (.inl (p))] ∧ sk = [] ∧ h = ([c0, lm, st, sg, el, dr, sz, pr, wc, sp, nw], A, B) ∧ cu = 0 ∧ su = 0 ∧ mz = (pr - p).toNat ∧ 0 ≤ p ∧ p ≤ pr ∧ mq_cnt (fun k => decide (A 46 k = a)) p.toNat = c ∧ (0 ≤ i → c ≤ i) ∧ ((c0 = 0 ∧ 0 ≤ a ∧ a ≤ 3) ∨ (c0 = 1 ∧ (a < 0 ∨ 3 < a))), mq_c1 (fun mz lv sk h cu su hI => ?_), ?_⟩
  · obtain ⟨c, p, c0, rfl, rfl, rfl, rfl, rfl, rfl, p1, p2, p3, p4, p5⟩ := hI
    have p6 := mq_cnt_b (P := (fun k => decide (A 46 k = a))) p.toNat
    rcases p5 with ⟨rfl, p7, p8⟩ | ⟨rfl, p7⟩
    · repeat' first
        | exact h1 (by omega) (by omega) p (by omega) (by omega) (by simp only [decide_eq_true_eq]; omega) (by omega)
        | (have e : p = pr := (by omega); subst e; exact h2 (by omega) (by omega) (by omega))
        | exact h2 (by omega) (by omega) (by omega)
        | (refine Exists.intro _ (And.intro ?_ (Exists.intro (c + 1) (Exists.intro (p + 1) (Exists.intro (0) (And.intro rfl (And.intro rfl (And.intro rfl (And.intro rfl (And.intro rfl (And.intro rfl (?_))))))))))) <;> first | omega | exact ⟨by omega, by omega, by rw [mq_cnt_s p1]; simp only [decide_eq_true_eq]; first | (rw [if_pos (by omega)]; omega) | (rw [if_neg (by omega)]; omega), by omega, Or.inl ⟨rfl, p7, p8⟩⟩)
        | (refine Exists.intro _ (And.intro ?_ (Exists.intro (c) (Exists.intro (p + 1) (Exists.intro (0) (And.intro rfl (And.intro rfl (And.intro rfl (And.intro rfl (And.intro rfl (And.intro rfl (?_))))))))))) <;> first | omega | exact ⟨by omega, by omega, by rw [mq_cnt_s p1]; simp only [decide_eq_true_eq]; first | (rw [if_pos (by omega)]; omega) | (rw [if_neg (by omega)]; omega), by omega, Or.inl ⟨rfl, p7, p8⟩⟩)
        | refine And.intro ?_ ?_
        | (intro h; try omega)
        | omega
        | exact Nat.le_of_ble_eq_true rfl
    · repeat' first
        | exact h0 (by omega)
        | refine And.intro ?_ ?_
        | (intro h; try omega)
        | omega
        | exact Nat.le_of_ble_eq_true rfl
  · repeat' first
      | (refine Exists.intro _ (Exists.intro (0) (Exists.intro (0) (Exists.intro (0) (And.intro rfl (And.intro rfl (And.intro rfl (And.intro rfl (And.intro rfl (And.intro rfl (?_)))))))))) <;> first | omega | exact ⟨by omega, by omega, rfl, by omega, Or.inl ⟨rfl, by omega, by omega⟩⟩)
      | (refine Exists.intro _ (Exists.intro (0) (Exists.intro (0) (Exists.intro (1) (And.intro rfl (And.intro rfl (And.intro rfl (And.intro rfl (And.intro rfl (And.intro rfl (?_)))))))))) <;> first | omega | exact ⟨by omega, by omega, rfl, by omega, Or.inr ⟨rfl, by omega⟩⟩)
      | refine And.intro ?_ ?_
      | (intro h; try omega)
      | omega
      | exact Nat.le_of_ble_eq_true rfl
def sm_114 (as : List wi_V) (M : mq_H) (q : wi_Q1 mq_H) (_ : wi_Q2 mq_H) : Prop := mq_sI as (fun i => mq_f M fun cd lm st sg el dr sz pr wc sp nw A B => 0 ≤ sg ∧ sg ≤ 200 ∧ (∀ r : Int, 0 ≤ r → r < sg → (fun k => decide (A 34 k ≠ 0)) r.toNat = true → mq_cnt (fun k => decide (A 34 k ≠ 0)) r.toNat = i → q (some (.inl r)) ([0, lm, st, sg, el, dr, sz, pr, wc, sp, nw], A, B)) ∧ (i < 0 ∨ mq_cnt (fun k => decide (A 34 k ≠ 0)) sg.toNat ≤ i → q (some (.inl (-1))) ([0, lm, st, sg, el, dr, sz, pr, wc, sp, nw], A, B)))
theorem mm_114 {l : Launch} {D : va_G} {aC : wm_Y} {b0 : Nat} (hl0 : l.stackTraces = false) : wm_sp l D aC b0 114 (wi_lf mq_Rl sm_114) := by
  refine wi_method mq_lw 114 (cx := fun _ _ _ _ _ => False) (ids := ci_114) (tb := tb_114) (by decide +kernel) hl0 wm_cx0 (wm_tb_ok tk_114) (by decide +kernel) [9] 250 (fun as M q qt hs => ?_)
  obtain ⟨i, rfl, hs1⟩ := mq_sI_e hs
  clear hs
  obtain ⟨cd, lm, st, sg, el, dr, sz, pr, wc, sp, nw, A, B, rfl, hs⟩ := mq_f_e hs1
  clear hs1
  obtain ⟨r1, r2, h1, h2⟩ := hs
  refine ⟨rfl, fun mz pc lv sk h cu su => ∃ c : Int, ∃ p : Int, lv = [some (wi_rf (some 11)), some (.inl (i)), some (.inl (c)), some (.inl (p))] ∧ sk = [] ∧ h = ([0, lm, st, sg, el, dr, sz, pr, wc, sp, nw], A, B) ∧ cu = 0 ∧ su = 0 ∧ mz = (sg - p).toNat ∧ 0 ≤ p ∧ p ≤ sg ∧ mq_cnt (fun k => decide (A 34 k ≠ 0)) p.toNat = c ∧ (0 ≤ i → c ≤ i), mq_c1 (fun mz lv sk h cu su hI => ?_), ?_⟩
  · obtain ⟨c, p, rfl, rfl, rfl, rfl, rfl, rfl, p1, p2, p3, p4⟩ := hI
    have p6 := mq_cnt_b (P := (fun k => decide (A 34 k ≠ 0))) p.toNat
    repeat' first
      | exact h1 p (by omega) (by omega) (by simp only [decide_eq_true_eq]; omega) (by omega)
      | (have e : p = sg := (by omega); subst e; exact h2 (by omega))
      | exact h2 (by omega)
      | (refine Exists.intro _ (And.intro ?_ (Exists.intro (c + 1) (Exists.intro (p + 1) (And.intro rfl (And.intro rfl (And.intro rfl (And.intro rfl (And.intro rfl (And.intro rfl (?_)))))))))) <;> first | omega | exact ⟨by omega, by omega, by rw [mq_cnt_s p1]; simp only [decide_eq_true_eq]; first | (rw [if_pos (by omega)]; omega) | (rw [if_neg (by omega)]; omega), by omega⟩)
      | (refine Exists.intro _ (And.intro ?_ (Exists.intro (c) (Exists.intro (p + 1) (And.intro rfl (And.intro rfl (And.intro rfl (And.intro rfl (And.intro rfl (And.intro rfl (?_)))))))))) <;> first | omega | exact ⟨by omega, by omega, by rw [mq_cnt_s p1]; simp only [decide_eq_true_eq]; first | (rw [if_pos (by omega)]; omega) | (rw [if_neg (by omega)]; omega), by omega⟩)
      | refine And.intro ?_ ?_
      | (intro h; try omega)
      | omega
      | exact Nat.le_of_ble_eq_true rfl
  · refine Exists.intro _ (Exists.intro (0) (Exists.intro (0) (And.intro rfl (And.intro rfl (And.intro rfl (And.intro rfl (And.intro rfl (And.intro rfl (⟨by omega, by omega, rfl, by omega⟩)))))))))
def sm_117 (as : List wi_V) (M : mq_H) (q : wi_Q1 mq_H) (_ : wi_Q2 mq_H) : Prop := mq_sIII as (fun p s k => mq_f M fun cd lm st sg el dr sz pr wc sp nw A B => sg ≤ 200 ∧ 0 ≤ dr ∧ dr ≤ 512 ∧ 0 ≤ sz ∧ sz ≤ 8192 ∧ (∀ s : Nat, (s : Int) < sg → 0 ≤ A 32 s ∧ A 32 s + A 31 s ≤ 512) ∧ (p < 0 ∨ pr ≤ p ∨ s < 0 ∨ sg ≤ s ∨ k < 0 ∨ A 31 s.toNat ≤ k → q (some (.inl 0)) ([1, lm, st, sg, el, dr, sz, pr, wc, sp, nw], A, B)) ∧ (0 ≤ p → p < pr → 0 ≤ s → s < sg → 0 ≤ k → k < A 31 s.toNat → (∀ j : Nat, (j : Int) < dr → ¬ (A 37 j = p ∧ A 38 j = A 32 s.toNat + k)) → q (some (.inl (-1))) ([0, lm, st, sg, el, dr, sz, pr, wc, sp, nw], A, B)) ∧ (0 ≤ p → p < pr → 0 ≤ s → s < sg → 0 ≤ k → k < A 31 s.toNat → ∀ d : Int, 0 ≤ d → d < dr → A 37 d.toNat = p → A 38 d.toNat = A 32 s.toNat + k → q (some (.inl (mq_row A B d sz.toNat).length)) ([0, lm, st, sg, el, dr, sz, pr, wc, sp, nw], A, B)))
theorem mm_117 {l : Launch} {D : va_G} {aC : wm_Y} {b0 : Nat} (hl0 : l.stackTraces = false) : wm_sp l D aC b0 117 (wi_lf mq_Rl sm_117) := by
  refine wi_method mq_lw 117 (cx := fun id => if id = 80 then sm_80 else if id = 82 then sm_82 else if id = 85 then sm_85 else fun _ _ _ _ => False) (ids := ci_117) (tb := tb_117) (by decide +kernel) hl0 (wm_cxc (mm_80 hl0) oi_117 (fun h => wm_cxc (mm_82 hl0) h (fun h => wm_cxc (mm_85 hl0) h (fun h => wm_cxn h)))) (wm_tb_ok tk_117) (by decide +kernel) [64] 250 (fun as M q qt hs => ?_)
  obtain ⟨p, s, k, rfl, hs1⟩ := mq_sIII_e hs
  clear hs
  obtain ⟨cd, lm, st, sg, el, dr, sz, pr, wc, sp, nw, A, B, rfl, hs⟩ := mq_f_e hs1
  clear hs1
  obtain ⟨r1, r2, r3, r4, r5, r6, h1, h2, h3⟩ := hs
  have r7 := r6 s.toNat
  clear r6
  refine ⟨rfl, fun mz pc lv sk h cu su => ∃ d : Int, ∃ c : Int, ∃ i : Int, lv = [some (wi_rf (some 11)), some (.inl (p)), some (.inl (s)), some (.inl (k)), some (.inl (d)), some (.inl (c)), some (.inl (i))] ∧ sk = [] ∧ h = ([0, lm, st, sg, el, dr, sz, pr, wc, sp, nw], A, B) ∧ cu = 0 ∧ su = 0 ∧ mz = (sz - i).toNat ∧ 0 ≤ i ∧ i ≤ sz ∧ 0 ≤ d ∧ d < dr ∧ A 37 d.toNat = p ∧ A 38 d.toNat = A 32 s.toNat + k ∧ 0 ≤ p ∧ p < pr ∧ 0 ≤ s ∧ s < sg ∧ 0 ≤ k ∧ k < A 31 s.toNat ∧ c = (mq_row A B d i.toNat).length, mq_c1 (fun mz lv sk h cu su hI => ?_), ?_⟩
  · obtain ⟨d, c, i, rfl, rfl, rfl, rfl, rfl, rfl, p1, p2, p3, p4, p5, p6, p7, p8, p9, p10, p11, p12, rfl⟩ := hI
    have p13 := mq_row_b (A := A) (B := B) (d := d) i.toNat
    repeat' first
      | (have e : i = sz := (by omega); subst e; exact h3 p7 p8 p9 p10 p11 p12 d p3 p4 p5 p6)
      | (refine Exists.intro _ (And.intro ?_ (Exists.intro (d) (Exists.intro (((mq_row A B d i.toNat).length : Int) + 1) (Exists.intro (i + 1) (And.intro rfl (And.intro rfl (And.intro rfl (And.intro rfl (And.intro rfl (And.intro rfl (?_))))))))))) <;> first | omega | exact ⟨by omega, by omega, p3, p4, p5, p6, p7, p8, p9, p10, p11, p12, by rw [mq_row_s p1]; first | (rw [if_pos (by omega), List.length_append]; rfl) | (rw [if_neg (by omega)])⟩)
      | (refine Exists.intro _ (And.intro ?_ (Exists.intro (d) (Exists.intro (((mq_row A B d i.toNat).length : Int)) (Exists.intro (i + 1) (And.intro rfl (And.intro rfl (And.intro rfl (And.intro rfl (And.intro rfl (And.intro rfl (?_))))))))))) <;> first | omega | exact ⟨by omega, by omega, p3, p4, p5, p6, p7, p8, p9, p10, p11, p12, by rw [mq_row_s p1]; first | (rw [if_pos (by omega), List.length_append]; rfl) | (rw [if_neg (by omega)])⟩)
      | refine And.intro ?_ ?_
      | (intro h; try omega)
      | omega
      | exact Nat.le_of_ble_eq_true rfl
  · repeat' first
      | exact h1 (by omega)
      | exact h2 (by omega) (by omega) (by omega) (by omega) (by omega) (by omega) (by assumption)
      | (refine Exists.intro _ (Exists.intro (_) (Exists.intro (0) (Exists.intro (0) (And.intro rfl (And.intro rfl (And.intro rfl (And.intro rfl (And.intro rfl (And.intro rfl (?_)))))))))) <;> first | omega | (refine ⟨by omega, by omega, by omega, by omega, ?_, ?_, by omega, by omega, by omega, by omega, by omega, by omega, rfl⟩ <;> assumption))
      | refine And.intro ?_ ?_
      | (intro h; try omega)
      | omega
      | exact Nat.le_of_ble_eq_true rfl
def sm_118 (as : List wi_V) (M : mq_H) (q : wi_Q1 mq_H) (_ : wi_Q2 mq_H) : Prop := mq_sIIIJ as (fun p s k t => mq_f M fun cd lm st sg el dr sz pr wc sp nw A B => sg ≤ 200 ∧ 0 ≤ dr ∧ dr ≤ 512 ∧ 0 ≤ sz ∧ sz ≤ 8192 ∧ (∀ s : Nat, (s : Int) < sg → 0 ≤ A 32 s ∧ A 32 s + A 31 s ≤ 512) ∧ (p < 0 ∨ pr ≤ p ∨ s < 0 ∨ sg ≤ s ∨ k < 0 ∨ A 31 s.toNat ≤ k → q (some (.inl 0)) ([1, lm, st, sg, el, dr, sz, pr, wc, sp, nw], A, B)) ∧ (0 ≤ p → p < pr → 0 ≤ s → s < sg → 0 ≤ k → k < A 31 s.toNat → t < nw → q (some (.inl 0)) ([2, lm, st, sg, el, dr, sz, pr, wc, sp, nw], A, B)) ∧ (0 ≤ p → p < pr → 0 ≤ s → s < sg → 0 ≤ k → k < A 31 s.toNat → nw ≤ t → (∀ j : Nat, (j : Int) < dr → ¬ (A 37 j = p ∧ A 38 j = A 32 s.toNat + k)) → q (some (.inl 0)) ([0, lm, st, sg, el, dr, sz, pr, wc, sp, nw], A, B)) ∧ (0 ≤ p → p < pr → 0 ≤ s → s < sg → 0 ≤ k → k < A 31 s.toNat → nw ≤ t → ∀ d : Int, 0 ≤ d → d < dr → A 37 d.toNat = p → A 38 d.toNat = A 32 s.toNat + k → q (some (.inl ((mq_row A B d sz.toNat).foldl (mq_va t) (A 39 d.toNat)))) ([0, lm, st, sg, el, dr, sz, pr, wc, sp, nw], A, B)))
theorem mm_118 {l : Launch} {D : va_G} {aC : wm_Y} {b0 : Nat} (hl0 : l.stackTraces = false) : wm_sp l D aC b0 118 (wi_lf mq_Rl sm_118) := by
  refine wi_method mq_lw 118 (cx := fun id => if id = 80 then sm_80 else if id = 82 then sm_82 else if id = 85 then sm_85 else fun _ _ _ _ => False) (ids := ci_118) (tb := tb_118) (by decide +kernel) hl0 (wm_cxc (mm_80 hl0) oi_118 (fun h => wm_cxc (mm_82 hl0) h (fun h => wm_cxc (mm_85 hl0) h (fun h => wm_cxn h)))) (wm_tb_ok tk_118) (by decide +kernel) [84] 250 (fun as M q qt hs => ?_)
  obtain ⟨p, s, k, t, rfl, hs1⟩ := mq_sIIIJ_e hs
  clear hs
  obtain ⟨cd, lm, st, sg, el, dr, sz, pr, wc, sp, nw, A, B, rfl, hs⟩ := mq_f_e hs1
  clear hs1
  obtain ⟨r1, r2, r3, r4, r5, r6, h1, h0, h2, h3⟩ := hs
  have r7 := r6 s.toNat
  clear r6
  refine ⟨rfl, fun mz pc lv sk h cu su => ∃ d : Int, ∃ c : Int, ∃ i : Int, lv = [some (wi_rf (some 11)), some (.inl (p)), some (.inl (s)), some (.inl (k)), some (.inr (.inl (t))), none, some (.inl (d)), some (.inl (c)), some (.inl (i))] ∧ sk = [] ∧ h = ([0, lm, st, sg, el, dr, sz, pr, wc, sp, nw], A, B) ∧ cu = 0 ∧ su = 0 ∧ mz = (sz - i).toNat ∧ 0 ≤ i ∧ i ≤ sz ∧ 0 ≤ d ∧ d < dr ∧ A 37 d.toNat = p ∧ A 38 d.toNat = A 32 s.toNat + k ∧ 0 ≤ p ∧ p < pr ∧ 0 ≤ s ∧ s < sg ∧ 0 ≤ k ∧ k < A 31 s.toNat ∧ nw ≤ t ∧ c = (mq_row A B d i.toNat).foldl (mq_va t) (A 39 d.toNat), mq_c1 (fun mz lv sk h cu su hI => ?_), ?_⟩
  · obtain ⟨d, c, i, rfl, rfl, rfl, rfl, rfl, rfl, p1, p2, p3, p4, p5, p6, p7, p8, p9, p10, p11, p12, p14, rfl⟩ := hI
    repeat' first
      | (have e : i = sz := (by omega); subst e; exact h3 p7 p8 p9 p10 p11 p12 p14 d p3 p4 p5 p6)
      | (refine Exists.intro _ (And.intro ?_ (Exists.intro (d) (Exists.intro (A 42 i.toNat) (Exists.intro (i + 1) (And.intro rfl (And.intro rfl (And.intro rfl (And.intro rfl (And.intro rfl (And.intro rfl (?_))))))))))) <;> first | omega | exact ⟨by omega, by omega, p3, p4, p5, p6, p7, p8, p9, p10, p11, p12, p14, by rw [mq_row_s p1]; first | (rw [if_pos (by omega), List.foldl_append]; simp only [List.foldl_cons, List.foldl_nil]; first | exact (if_pos (by omega)).symm | exact (if_neg (by omega)).symm) | (rw [if_neg (by omega)])⟩)
      | (refine Exists.intro _ (And.intro ?_ (Exists.intro (d) (Exists.intro ((mq_row A B d i.toNat).foldl (mq_va t) (A 39 d.toNat)) (Exists.intro (i + 1) (And.intro rfl (And.intro rfl (And.intro rfl (And.intro rfl (And.intro rfl (And.intro rfl (?_))))))))))) <;> first | omega | exact ⟨by omega, by omega, p3, p4, p5, p6, p7, p8, p9, p10, p11, p12, p14, by rw [mq_row_s p1]; first | (rw [if_pos (by omega), List.foldl_append]; simp only [List.foldl_cons, List.foldl_nil]; first | exact (if_pos (by omega)).symm | exact (if_neg (by omega)).symm) | (rw [if_neg (by omega)])⟩)
      | refine And.intro ?_ ?_
      | (intro h; try omega)
      | omega
      | exact Nat.le_of_ble_eq_true rfl
  · repeat' first
      | exact h1 (by omega)
      | exact h0 (by omega) (by omega) (by omega) (by omega) (by omega) (by omega) (by omega)
      | exact h2 (by omega) (by omega) (by omega) (by omega) (by omega) (by omega) (by omega) (by assumption)
      | (refine Exists.intro _ (Exists.intro (_) (Exists.intro (_) (Exists.intro (0) (And.intro rfl (And.intro rfl (And.intro rfl (And.intro rfl (And.intro rfl (And.intro rfl (?_)))))))))) <;> first | omega | (refine ⟨by omega, by omega, by omega, by omega, ?_, ?_, by omega, by omega, by omega, by omega, by omega, by omega, by omega, rfl⟩ <;> assumption))
      | refine And.intro ?_ ?_
      | (intro h; try omega)
      | omega
      | exact Nat.le_of_ble_eq_true rfl
end
section
/-! THE REFERENCE, 5: suspend, drive, look, renew -/
theorem mq_g_u {A : mq_A} {t lo n t' k : Nat} {v : Nat → Int} {x : Int} (h : t' ≠ t) : md_u (mq_g A t lo n v) t' k x = mq_g (md_u A t' k x) t lo n v := by
  funext a b
  simp only [mq_g, md_u]
  by_cases h1 : a = t' ∧ b = k
  · obtain ⟨rfl, rfl⟩ := h1
    rw [if_pos ⟨rfl, rfl⟩, if_neg (fun z => h z.1), if_pos ⟨rfl, rfl⟩]
  · rw [if_neg h1]
    split <;> rfl
theorem mq_g2 {A : mq_A} {t1 t2 b c n m k1 k2 : Nat} {f g : Nat → Int} {x y : Int} (h : t1 ≠ t2) (h1 : k1 = b + n) (h2 : k2 = c + n) (h3 : m = n + 1) (hx : x = f k1) (hy : y = g k2) : md_u (md_u (mq_g (mq_g A t1 b n f) t2 c n g) t1 k1 x) t2 k2 y = mq_g (mq_g A t1 b m f) t2 c m g := by
  rw [mq_g_u h, mq_g_s h1 h3 hx]
  exact mq_g_s h2 h3 hy
theorem mq_g_o {A : mq_A} {t lo n k : Nat} {v : Nat → Int} (h : k < lo ∨ lo + n ≤ k) : mq_g A t lo n v t k = A t k := by
  simp only [mq_g]
  rw [if_neg (by omega)]
theorem mq_g_i {A : mq_A} {t lo n k : Nat} {v : Nat → Int} (h : lo ≤ k) (g : k < lo + n) : mq_g A t lo n v t k = v k := by
  simp [mq_g, h, g]
def sm_109 (as : List wi_V) (M : mq_H) (q : wi_Q1 mq_H) (_ : wi_Q2 mq_H) : Prop := mq_sI as (fun p => mq_f M fun cd lm st sg el dr sz pr wc sp nw A B => 0 ≤ p ∧ p < 64 ∧ 0 ≤ sg ∧ sg ≤ 200 ∧ (B 48 p.toNat = nw → q none ([cd, lm, st, sg, el, dr, sz, pr, wc, sp, nw], md_u A 46 p.toNat 0, B)) ∧
  (B 48 p.toNat ≠ nw → (∃ j : Int, 0 ≤ j ∧ j < sg ∧ A 34 j.toNat ≠ 0 ∧ A 49 (200 * p + j).toNat ≠ 0) → (A 47 p.toNat ≠ 0 → q none ([cd, lm, st, sg, el, dr, sz, pr, wc, sp, nw], md_u A 46 p.toNat 2, B)) ∧ (A 47 p.toNat = 0 → q none ([cd, lm, st, sg, el, dr, sz, pr, wc, sp, nw], md_u A 46 p.toNat 0, B))) ∧
  (B 48 p.toNat ≠ nw → (∀ j : Int, 0 ≤ j → j < sg → A 34 j.toNat = 0 ∨ A 49 (200 * p + j).toNat = 0) → q none ([cd, lm, st, sg, el, dr, sz, pr, wc, sp, nw], A, B)))
theorem mm_109 {l : Launch} {D : va_G} {aC : wm_Y} {b0 : Nat} (hl0 : l.stackTraces = false) : wm_sp l D aC b0 109 (wi_lf mq_Rl sm_109) := by
  refine wi_method mq_lw 109 (cx := fun _ _ _ _ _ => False) (ids := ci_109) (tb := tb_109) (by decide +kernel) hl0 wm_cx0 (wm_tb_ok tk_109) (by decide +kernel) [4] 250 (fun as M q qt hs => ?_)
  obtain ⟨p, rfl, hs1⟩ := mq_sI_e hs
  clear hs
  obtain ⟨cd, lm, st, sg, el, dr, sz, pr, wc, sp, nw, A, B, rfl, hs⟩ := mq_f_e hs1
  clear hs1
  obtain ⟨r1, r2, r3, r4, h1, h2, h3⟩ := hs
  refine ⟨rfl, fun mz pc lv sk h cu su => ∃ x : Int, ∃ s : Int, lv = [some (wi_rf (some 11)), some (.inl (p)), some (.inl (x)), some (.inl (s))] ∧ sk = [] ∧ h = ([cd, lm, st, sg, el, dr, sz, pr, wc, sp, nw], A, B) ∧ cu = 0 ∧ su = 0 ∧ mz = (sg - s).toNat ∧ 0 ≤ s ∧ s ≤ sg ∧ ((x = 1 ∧ ∃ j : Int, 0 ≤ j ∧ j < s ∧ A 34 j.toNat ≠ 0 ∧ A 49 (200 * p + j).toNat ≠ 0) ∨ (x = 0 ∧ ∀ j : Int, 0 ≤ j → j < s → A 34 j.toNat = 0 ∨ A 49 (200 * p + j).toNat = 0)), mq_c1 (fun mz lv sk h cu su hI => ?_), ?_⟩
  · obtain ⟨x, s, rfl, rfl, rfl, rfl, rfl, rfl, p1, p2, ⟨rfl, j, p3, p4, p5, p6⟩ | ⟨rfl, p3⟩⟩ := hI
    · repeat' first
        | (subst_vars; exact h1 (by omega))
        | (subst_vars; exact (h2 (by omega) ⟨j, p3, by omega, p5, p6⟩).1 (by omega))
        | (subst_vars; exact (h2 (by omega) ⟨j, p3, by omega, p5, p6⟩).2 (by omega))
        | (refine Exists.intro _ (And.intro ?_ (Exists.intro (1) (Exists.intro (s + 1) (And.intro rfl (And.intro rfl (And.intro rfl (And.intro rfl (And.intro rfl (And.intro rfl (?_)))))))))) <;> first | omega | exact ⟨by omega, by omega, Or.inl ⟨rfl, j, p3, by omega, p5, p6⟩⟩ | exact ⟨by omega, by omega, Or.inl ⟨rfl, s, by omega, by omega, by omega, by omega⟩⟩)
        | refine And.intro ?_ ?_
        | (intro h; try omega)
        | omega
        | exact Nat.le_of_ble_eq_true rfl
    · repeat' first
        | (subst_vars; exact h1 (by omega))
        | exact h3 (by omega) (fun j hj hj2 => p3 j hj (by omega))
        | (refine Exists.intro _ (And.intro ?_ (Exists.intro (1) (Exists.intro (s + 1) (And.intro rfl (And.intro rfl (And.intro rfl (And.intro rfl (And.intro rfl (And.intro rfl (?_)))))))))) <;> first | omega | exact ⟨by omega, by omega, Or.inl ⟨rfl, j, p3, by omega, p5, p6⟩⟩ | exact ⟨by omega, by omega, Or.inl ⟨rfl, s, by omega, by omega, by omega, by omega⟩⟩)
        | (refine Exists.intro _ (And.intro ?_ (Exists.intro (0) (Exists.intro (s + 1) (And.intro rfl (And.intro rfl (And.intro rfl (And.intro rfl (And.intro rfl (And.intro rfl (?_)))))))))) <;> first | omega | exact ⟨by omega, by omega, Or.inr ⟨rfl, fun j hj hj2 => by rcases (show j < s ∨ j = s by omega) with hd | rfl <;> first | exact p3 j hj hd | omega⟩⟩)
        | refine And.intro ?_ ?_
        | (intro h; try omega)
        | omega
        | exact Nat.le_of_ble_eq_true rfl
  · refine Exists.intro _ (Exists.intro (0) (Exists.intro (0) (And.intro rfl (And.intro rfl (And.intro rfl (And.intro rfl (And.intro rfl (And.intro rfl (⟨by omega, by omega, Or.inr ⟨rfl, fun j hj hj2 => by omega⟩⟩)))))))))
def sm_101 (as : List wi_V) (M : mq_H) (q : wi_Q1 mq_H) (_ : wi_Q2 mq_H) : Prop := mq_sIIJ as (fun p a w => mq_f M fun cd lm st sg el dr sz pr wc sp nw A B => pr ≤ 64 ∧ 0 ≤ nw ∧ nw ≤ 1152921504606846976 ∧ (a = 0 ∨ a = 1) ∧ (∀ j : Int, 0 ≤ j → j < 200 → A 50 j.toNat = 0 ∨ A 50 j.toNat = 1) ∧ (p < 0 ∨ pr ≤ p → q none ([1, lm, st, sg, el, dr, sz, pr, wc, sp, nw], A, B)) ∧ (0 ≤ p → p < pr → w < -1 ∨ 1152921504606846976 - nw < w → q none ([2, lm, st, sg, el, dr, sz, pr, wc, sp, nw], A, B)) ∧ (0 ≤ p → p < pr → -1 ≤ w → w ≤ 1152921504606846976 - nw → A 46 p.toNat ≠ 0 → q none ([3, lm, st, sg, el, dr, sz, pr, wc, sp, nw], A, B)) ∧
  (0 ≤ p → p < pr → -1 ≤ w → w ≤ 1152921504606846976 - nw → A 46 p.toNat = 0 → ∀ u : Int, (w < 0 → u = -1) → (0 ≤ w → u = nw + w) → q none ([0, lm, st, sg, el, dr, sz, pr, wc, sp, nw], mq_g (mq_g (md_u (md_u A 46 p.toNat 1) 47 p.toNat a) 49 (200 * p).toNat 200 (fun k => A 50 (k - (200 * p).toNat))) 50 0 200 (fun _ => 0), md_u B 48 p.toNat u)))
theorem mm_101 {l : Launch} {D : va_G} {aC : wm_Y} {b0 : Nat} (hl0 : l.stackTraces = false) : wm_sp l D aC b0 101 (wi_lf mq_Rl sm_101) := by
  refine wi_method mq_lw 101 (cx := fun id => if id = 80 then sm_80 else fun _ _ _ _ => False) (ids := ci_101) (tb := tb_101) (by decide +kernel) hl0 (wm_cxc (mm_80 hl0) oi_101 (fun h => wm_cxn h)) (wm_tb_ok tk_101) (by decide +kernel) [104] 250 (fun as M q qt hs => ?_)
  obtain ⟨p, a, w, rfl, hs1⟩ := mq_sIIJ_e hs
  clear hs
  obtain ⟨cd, lm, st, sg, el, dr, sz, pr, wc, sp, nw, A, B, rfl, hs⟩ := mq_f_e hs1
  clear hs1
  obtain ⟨r1, r2, r3, r4, r5, h1, h2, h3, h4⟩ := hs
  refine ⟨rfl, fun mz pc lv sk h cu su => ∃ u : Int, ∃ s : Int, ∃ A2 : mq_A, lv = [some (wi_rf (some 11)), some (.inl (p)), some (.inl (a)), some (.inr (.inl (w))), none, some (.inl (s))] ∧ sk = [] ∧ h = ([0, lm, st, sg, el, dr, sz, pr, wc, sp, nw], A2, md_u B 48 p.toNat u) ∧ cu = 0 ∧ su = 0 ∧ mz = (200 - s).toNat ∧ 0 ≤ s ∧ s ≤ 200 ∧ 0 ≤ p ∧ p < pr ∧ -1 ≤ w ∧ w ≤ 1152921504606846976 - nw ∧ A 46 p.toNat = 0 ∧ (w < 0 → u = -1) ∧ (0 ≤ w → u = nw + w) ∧ A2 = mq_g (mq_g (md_u (md_u A 46 p.toNat 1) 47 p.toNat a) 49 (200 * p).toNat s.toNat (fun k => A 50 (k - (200 * p).toNat))) 50 0 s.toNat (fun _ => 0), mq_c1 (fun mz lv sk h cu su hI => ?_), ?_⟩
  · obtain ⟨u, s, A2, rfl, rfl, rfl, rfl, rfl, rfl, p1, p2, p3, p4, p5, p6, p7, p8, p9, p10⟩ := hI
    have e50 : A2 50 s.toNat = A 50 s.toNat := by rw [p10, mq_g_o (by omega), mq_g_t (by decide), md_u_t (by decide), md_u_t (by decide)]
    have r6 := r5 s p1
    repeat' first
      | (have e : s = 200 := (by omega); subst e; rw [p10]; exact h4 p3 p4 p5 p6 p7 u p8 p9)
      | (refine Exists.intro _ (And.intro ?_ (Exists.intro (u) (Exists.intro (s + 1) (Exists.intro (_) (And.intro rfl (And.intro rfl (And.intro rfl (And.intro rfl (And.intro rfl (And.intro rfl (?_))))))))))) <;> first | omega | (refine ⟨by omega, by omega, p3, p4, p5, p6, p7, p8, p9, ?_⟩; subst_vars; rw [e50]; exact mq_g2 (by decide) (by omega) (by omega) (by omega) (congrArg (A 50) (by omega)) rfl))
      | refine And.intro ?_ ?_
      | (intro h; try omega)
      | omega
      | exact Nat.le_of_ble_eq_true rfl
  · repeat' first
      | exact h1 (by omega)
      | exact h2 (by omega) (by omega) (by omega)
      | exact h3 (by omega) (by omega) (by omega) (by omega) (by omega)
      | (refine Exists.intro _ (Exists.intro (_) (Exists.intro (0) (Exists.intro (_) (And.intro rfl (And.intro rfl (And.intro (by subst_vars; rfl) (And.intro rfl (And.intro rfl (And.intro rfl (?_)))))))))) <;> first | omega | (refine ⟨by omega, by omega, by omega, by omega, by omega, by omega, by assumption, by omega, by omega, ?_⟩; subst_vars; rw [show Int.toNat 0 = 0 from rfl, mq_g_0, mq_g_0]))
      | refine And.intro ?_ ?_
      | (intro h; try omega)
      | omega
      | exact Nat.le_of_ble_eq_true rfl
end
section
/-! THE REFERENCE, 6: drive, renew, start -/
def sm_87 (as : List wi_V) (M : mq_H) (q : wi_Q1 mq_H) (_ : wi_Q2 mq_H) : Prop := mq_sII as (fun p s => mq_f M fun cd lm st sg el dr sz pr wc sp nw A B => sg ≤ 200 ∧ 0 ≤ dr ∧ dr ≤ 512 ∧ (∀ s : Nat, (s : Int) < sg → 1 ≤ A 31 s ∧ A 31 s ≤ 64 ∧ 0 ≤ A 32 s ∧ A 32 s ≤ 512) ∧ (p < 0 ∨ pr ≤ p ∨ s < 0 ∨ sg ≤ s → q none ([1, lm, st, sg, el, dr, sz, pr, wc, sp, nw], A, B)) ∧ (0 ≤ p → p < pr → 0 ≤ s → s < sg → st ≠ 0 → q none ([2, lm, st, sg, el, dr, sz, pr, wc, sp, nw], A, B)) ∧
  (0 ≤ p → p < pr → 0 ≤ s → s < sg → st = 0 → ∀ d : Int, 0 ≤ d → d < dr → A 37 d.toNat = p → A 38 d.toNat = A 32 s.toNat → q none ([0, lm, st, sg, el, dr, sz, pr, wc, sp, nw], A, B)) ∧ (0 ≤ p → p < pr → 0 ≤ s → s < sg → st = 0 → (∀ j : Nat, (j : Int) < dr → ¬ (A 37 j = p ∧ A 38 j = A 32 s.toNat)) → ((A 30 s.toNat = 2 ∧ (∃ j : Nat, (j : Int) < dr ∧ A 38 j = A 32 s.toNat)) ∨ 512 < dr + A 31 s.toNat) → q none ([2, lm, st, sg, el, dr, sz, pr, wc, sp, nw], A, B)) ∧
  (0 ≤ p → p < pr → 0 ≤ s → s < sg → st = 0 → (∀ j : Nat, (j : Int) < dr → ¬ (A 37 j = p ∧ A 38 j = A 32 s.toNat)) → ¬ ((A 30 s.toNat = 2 ∧ (∃ j : Nat, (j : Int) < dr ∧ A 38 j = A 32 s.toNat)) ∨ 512 < dr + A 31 s.toNat) → q none ([0, lm, st, sg, el, dr + A 31 s.toNat, sz, pr, wc, sp, nw], mq_g (mq_g A 37 dr.toNat (A 31 s.toNat).toNat (fun _ => p)) 38 dr.toNat (A 31 s.toNat).toNat (fun j => A 32 s.toNat + ((j - dr.toNat : Nat) : Int)), B)))
theorem mm_87 {l : Launch} {D : va_G} {aC : wm_Y} {b0 : Nat} (hl0 : l.stackTraces = false) : wm_sp l D aC b0 87 (wi_lf mq_Rl sm_87) := by
  refine wi_method mq_lw 87 (cx := fun id => if id = 80 then sm_80 else if id = 81 then sm_81 else if id = 85 then sm_85 else if id = 86 then sm_86 else fun _ _ _ _ => False) (ids := ci_87) (tb := tb_87) (by decide +kernel) hl0 (wm_cxc (mm_80 hl0) oi_87 (fun h => wm_cxc (mm_81 hl0) h (fun h => wm_cxc (mm_85 hl0) h (fun h => wm_cxc (mm_86 hl0) h (fun h => wm_cxn h))))) (wm_tb_ok tk_87) (by decide +kernel) [110] 250 (fun as M q qt hs => ?_)
  obtain ⟨p, s, rfl, hs1⟩ := mq_sII_e hs
  clear hs
  obtain ⟨cd, lm, st, sg, el, dr, sz, pr, wc, sp, nw, A, B, rfl, hs⟩ := mq_f_e hs1
  clear hs1
  obtain ⟨r1, r2, r3, r4, h1, h2, h3, h4, h5⟩ := hs
  have r5 := r4 s.toNat
  clear r4
  refine ⟨rfl, fun mz pc lv sk h cu su => ∃ k : Int, ∃ c0 : Int, ∃ D : Int, ∃ A1 : mq_A, lv = [some (wi_rf (some 11)), some (.inl (p)), some (.inl (s)), some (.inl (k))] ∧ sk = [] ∧ h = ([c0, lm, st, sg, el, D, sz, pr, wc, sp, nw], A1, B) ∧ cu = 0 ∧ su = 0 ∧ mz = (100 - k).toNat ∧ 0 ≤ k ∧ k ≤ A 31 s.toNat ∧ 0 ≤ p ∧ p < pr ∧ 0 ≤ s ∧ s < sg ∧ st = 0 ∧ (∀ j : Nat, (j : Int) < dr → ¬ (A 37 j = p ∧ A 38 j = A 32 s.toNat)) ∧ ((c0 = 0 ∧ D = dr + k ∧ A1 = mq_g (mq_g A 37 dr.toNat k.toNat (fun _ => p)) 38 dr.toNat k.toNat (fun j => A 32 s.toNat + ((j - dr.toNat : Nat) : Int)) ∧ ¬ ((A 30 s.toNat = 2 ∧ (∃ j : Nat, (j : Int) < dr ∧ A 38 j = A 32 s.toNat)) ∨ 512 < dr + A 31 s.toNat)) ∨ (c0 = 2 ∧ D = dr ∧ A1 = A ∧ ((A 30 s.toNat = 2 ∧ (∃ j : Nat, (j : Int) < dr ∧ A 38 j = A 32 s.toNat)) ∨ 512 < dr + A 31 s.toNat))), mq_c1 (fun mz lv sk h cu su hI => ?_), ?_⟩
  · obtain ⟨k, c0, D, A1, rfl, rfl, rfl, rfl, rfl, rfl, p1, p2, p3, p4, p5, p6, p7, p8, ⟨rfl, p9, p10, p11⟩ | ⟨rfl, rfl, rfl, p9⟩⟩ := hI
    · have e31 : A1 31 s.toNat = A 31 s.toNat := by rw [p10, mq_g_t (by decide), mq_g_t (by decide)]
      have e32 : A1 32 s.toNat = A 32 s.toNat := by rw [p10, mq_g_t (by decide), mq_g_t (by decide)]
      have p12 : dr + A 31 s.toNat ≤ 512 := by have := fun z => p11 (Or.inr z); omega
      have e33 : ∀ X : mq_A, X = md_u A1 37 D.toNat p → X 32 s.toNat = A 32 s.toNat := fun X e => by rw [e, md_u_t (by decide)]; exact e32
      repeat' first
        | (have e : k = A 31 s.toNat := (by omega); subst e; rw [p10, p9]; exact h5 p3 p4 p5 p6 p7 p8 p11)
        | (intro A3 e3; have e34 := e33 A3 e3)
        | (refine Exists.intro _ (And.intro ?_ (Exists.intro (k + 1) (Exists.intro (0) (Exists.intro (_) (Exists.intro (_) (And.intro rfl (And.intro rfl (And.intro rfl (And.intro rfl (And.intro rfl (And.intro rfl (?_)))))))))))) <;> first | omega | (refine ⟨by omega, by omega, p3, p4, p5, p6, p7, p8, Or.inl ⟨rfl, by omega, ?_, p11⟩⟩; rw [h, e34, e3, p10]; exact mq_g2 (by decide) (by omega) (by omega) (by omega) rfl (by show A 32 s.toNat + k = A 32 s.toNat + ((D.toNat - dr.toNat : Nat) : Int); omega)))
        | refine And.intro ?_ ?_
        | (intro h; try omega)
        | omega
        | exact Nat.le_of_ble_eq_true rfl
    · repeat' first
        | exact h4 p3 p4 p5 p6 p7 p8 p9
        | refine And.intro ?_ ?_
        | (intro h; try omega)
        | omega
        | exact Nat.le_of_ble_eq_true rfl
  · repeat' first
      | exact h1 (by omega)
      | exact h2 (by omega) (by omega) (by omega) (by omega) (by omega)
      | exact h3 (by omega) (by omega) (by omega) (by omega) (by omega) _ (by assumption) (by assumption) (by assumption) (by assumption)
      | (refine Exists.intro _ (Exists.intro (0) (Exists.intro (2) (Exists.intro (_) (Exists.intro (_) (And.intro rfl (And.intro rfl (And.intro rfl (And.intro rfl (And.intro rfl (And.intro rfl (?_))))))))))) <;> first | omega | exact ⟨by omega, by omega, by omega, by omega, by omega, by omega, by omega, by assumption, Or.inr ⟨rfl, rfl, rfl, Or.inr (by omega)⟩⟩)
      | (refine Exists.intro _ (Exists.intro (0) (Exists.intro (2) (Exists.intro (_) (Exists.intro (_) (And.intro rfl (And.intro rfl (And.intro rfl (And.intro rfl (And.intro rfl (And.intro rfl (?_))))))))))) <;> first | omega | exact ⟨by omega, by omega, by omega, by omega, by omega, by omega, by omega, by assumption, Or.inr ⟨rfl, rfl, rfl, Or.inl ⟨by omega, by assumption⟩⟩⟩)
      | (refine Exists.intro _ (Exists.intro (0) (Exists.intro (0) (Exists.intro (_) (Exists.intro (_) (And.intro rfl (And.intro rfl (And.intro rfl (And.intro rfl (And.intro rfl (And.intro rfl (?_))))))))))) <;> first | omega | exact ⟨by omega, by omega, by omega, by omega, by omega, by omega, by omega, by assumption, Or.inl ⟨rfl, by omega, (by rw [show Int.toNat 0 = 0 from rfl, mq_g_0, mq_g_0]), fun z => by rcases z with ⟨z1, j, z2, z3⟩ | z <;> first | omega | exact (‹∀ j : Nat, (j : Int) < dr → A 38 j ≠ A 32 s.toNat› j z2 z3).elim⟩⟩)
      | refine And.intro ?_ ?_
      | (intro h; try omega)
      | omega
      | exact Nat.le_of_ble_eq_true rfl
end
section
/-! THE REFERENCE, 7: renew -/
theorem md_u_u {α : Type} {f : Nat → Nat → α} {t k : Nat} {a b : α} : md_u (md_u f t k a) t k b = md_u f t k b := by
  funext t' k'
  simp only [md_u]
  split <;> rfl
theorem mq_mk_c {A A' : mq_A} {s e : Int} (h38 : A' 38 = A 38) (h30 : A' 30 = A 30) (h39 : A' 39 = A 39) : ∀ n, mq_mk A' s e n = mq_mk A s e n
  | 0 => rfl
  | n + 1 => by simp only [mq_mk, h38, h30, h39, mq_mk_c h38 h30 h39 n]
theorem mq_made_c {A A' : mq_A} {dr s e : Int} (h38 : A' 38 = A 38) (h30 : A' 30 = A 30) (h39 : A' 39 = A 39) (h35 : A' 35 e.toNat = A 35 e.toNat) : mq_made A' dr s e = mq_made A dr s e := by
  unfold mq_made
  rw [mq_mk_c h38 h30 h39, h35]
def sm_108 (as : List wi_V) (M : mq_H) (q : wi_Q1 mq_H) (_ : wi_Q2 mq_H) : Prop := mq_sI as (fun s => mq_f M fun cd lm st sg el dr sz pr wc sp nw A B => 0 ≤ s ∧ s < 200 ∧ 0 ≤ A 32 s.toNat ∧ 0 ≤ A 31 s.toNat ∧ A 32 s.toNat + A 31 s.toNat ≤ 512 ∧ 0 ≤ dr ∧ dr ≤ 512 ∧ (A 33 s.toNat = 0 → q none ([cd, lm, st, sg, el, dr, sz, pr, wc, sp, nw], md_u A 34 s.toNat 0, B)) ∧ (A 33 s.toNat ≠ 0 → (∀ j : Int, A 32 s.toNat ≤ j → j < A 32 s.toNat + A 31 s.toNat → mq_made A dr s j = A 35 j.toNat) → q none ([cd, lm, st, sg, el, dr, sz, pr, wc, sp, nw], md_u A 34 s.toNat 0, B)) ∧ (A 33 s.toNat ≠ 0 → (∃ j : Int, A 32 s.toNat ≤ j ∧ j < A 32 s.toNat + A 31 s.toNat ∧ mq_made A dr s j ≠ A 35 j.toNat) → q none ([cd, lm, st, sg, el, dr, sz, pr, wc, sp, nw], mq_g (mq_g (md_u A 34 s.toNat 1) 36 (A 32 s.toNat).toNat (A 31 s.toNat).toNat (fun j => A 35 j)) 35 (A 32 s.toNat).toNat (A 31 s.toNat).toNat (fun j => mq_made A dr s (j : Int)), B)))
theorem mm_108 {l : Launch} {D : va_G} {aC : wm_Y} {b0 : Nat} (hl0 : l.stackTraces = false) : wm_sp l D aC b0 108 (wi_lf mq_Rl sm_108) := by
  refine wi_method mq_lw 108 (cx := fun id => if id = 92 then sm_92 else fun _ _ _ _ => False) (ids := ci_108) (tb := tb_108) (by decide +kernel) hl0 (wm_cxc (mm_92 hl0) oi_108 (fun h => wm_cxn h)) (wm_tb_ok tk_108) (by decide +kernel) [24, 89] 250 (fun as M q qt hs => ?_)
  obtain ⟨s, rfl, hs1⟩ := mq_sI_e hs
  clear hs
  obtain ⟨cd, lm, st, sg, el, dr, sz, pr, wc, sp, nw, A, B, rfl, hs⟩ := mq_f_e hs1
  clear hs1
  obtain ⟨r1, r2, r3, r4, r5, r6, r7, h1, h2, h3⟩ := hs
  refine ⟨rfl, fun mz pc lv sk h cu su => match pc with | 24 => ∃ e : Int, ∃ x : Int, ∃ A1 : mq_A, lv = [some (wi_rf (some 11)), some (.inl (s)), some (.inl (e))] ∧ sk = [] ∧ h = ([cd, lm, st, sg, el, dr, sz, pr, wc, sp, nw], A1, B) ∧ cu = 0 ∧ su = 0 ∧ mz = (10000 - e).toNat ∧ A 32 s.toNat ≤ e ∧ e ≤ A 32 s.toNat + A 31 s.toNat ∧ A1 = md_u A 34 s.toNat x ∧ A 33 s.toNat ≠ 0 ∧ ((x = 1 ∧ (∃ j : Int, A 32 s.toNat ≤ j ∧ j < e ∧ mq_made A dr s j ≠ A 35 j.toNat)) ∨ (x = 0 ∧ (∀ j : Int, A 32 s.toNat ≤ j → j < e → mq_made A dr s j = A 35 j.toNat))) | 89 => ∃ e : Int, ∃ A1 : mq_A, lv = [some (wi_rf (some 11)), some (.inl (s)), some (.inl (e))] ∧ sk = [] ∧ h = ([cd, lm, st, sg, el, dr, sz, pr, wc, sp, nw], A1, B) ∧ cu = 0 ∧ su = 0 ∧ mz = (1000 - e).toNat ∧ A 32 s.toNat ≤ e ∧ e ≤ A 32 s.toNat + A 31 s.toNat ∧ A 33 s.toNat ≠ 0 ∧ ((e = A 32 s.toNat ∧ A1 = md_u A 34 s.toNat 0 ∧ (∀ j : Int, A 32 s.toNat ≤ j → j < A 32 s.toNat + A 31 s.toNat → mq_made A dr s j = A 35 j.toNat)) ∨ (A1 = mq_g (mq_g (md_u A 34 s.toNat 1) 36 (A 32 s.toNat).toNat (e - A 32 s.toNat).toNat (fun j => A 35 j)) 35 (A 32 s.toNat).toNat (e - A 32 s.toNat).toNat (fun j => mq_made A dr s (j : Int)) ∧ (∃ j : Int, A 32 s.toNat ≤ j ∧ j < A 32 s.toNat + A 31 s.toNat ∧ mq_made A dr s j ≠ A 35 j.toNat))) | _ => False, mq_c2 (fun mz lv sk h cu su hI => ?_) (fun mz lv sk h cu su hI => ?_), ?_⟩
  · obtain ⟨e, x, A1, rfl, rfl, rfl, rfl, rfl, rfl, p1, p2, p3, p4, p5⟩ := hI
    have e31 : A1 31 s.toNat = A 31 s.toNat := by rw [p3, md_u_t (by decide)]
    have e32 : A1 32 s.toNat = A 32 s.toNat := by rw [p3, md_u_t (by decide)]
    have e34 : A1 34 s.toNat = x := by rw [p3, md_u_s]
    have e35 : A1 35 e.toNat = A 35 e.toNat := by rw [p3, md_u_t (by decide)]
    have em : mq_made A1 dr s e = mq_made A dr s e := by
      refine mq_made_c ?_ ?_ ?_ e35 <;> rw [p3, md_u_t (by decide)]
    have eu : ∀ y : Int, md_u A1 34 s.toNat y = md_u A 34 s.toNat y := fun y => by rw [p3, md_u_u]
    rcases p5 with ⟨rfl, j, p6, p7, p8⟩ | ⟨rfl, p6⟩
    · repeat' first
        | (refine Exists.intro _ (And.intro ?_ (Exists.intro (e + 1) (Exists.intro (1) (Exists.intro (_) (And.intro rfl (And.intro rfl (And.intro rfl (And.intro rfl (And.intro rfl (And.intro rfl (?_))))))))))) <;> first | omega | exact ⟨by omega, by omega, by rw [h]; exact eu _, p4, Or.inl ⟨rfl, j, p6, by omega, p8⟩⟩)
        | (refine Exists.intro _ (And.intro ?_ (Exists.intro (_) (Exists.intro (_) (And.intro rfl (And.intro rfl (And.intro rfl (And.intro rfl (And.intro rfl (And.intro rfl (?_)))))))))) <;> first | omega | exact ⟨by omega, by omega, p4, Or.inr ⟨by rw [e32, p3, show (A 32 s.toNat - A 32 s.toNat).toNat = 0 by omega, mq_g_0, mq_g_0], j, p6, by omega, p8⟩⟩)
        | refine And.intro ?_ ?_
        | (intro h; try omega)
        | omega
        | exact Nat.le_of_ble_eq_true rfl
    · repeat' first
        | (refine Exists.intro _ (And.intro ?_ (Exists.intro (e + 1) (Exists.intro (1) (Exists.intro (_) (And.intro rfl (And.intro rfl (And.intro rfl (And.intro rfl (And.intro rfl (And.intro rfl (?_))))))))))) <;> first | omega | exact ⟨by omega, by omega, by rw [h]; exact eu _, p4, Or.inl ⟨rfl, e, by omega, by omega, by omega⟩⟩)
        | (refine Exists.intro _ (And.intro ?_ (Exists.intro (e + 1) (Exists.intro (0) (Exists.intro (_) (And.intro rfl (And.intro rfl (And.intro rfl (And.intro rfl (And.intro rfl (And.intro rfl (?_))))))))))) <;> first | omega | exact ⟨by omega, by omega, by rw [h]; exact eu _, p4, Or.inr ⟨rfl, fun j hj hj2 => by rcases (show j < e ∨ j = e by omega) with hd | rfl <;> first | exact p6 j hj hd | omega⟩⟩)
        | (refine Exists.intro _ (And.intro ?_ (Exists.intro (_) (Exists.intro (_) (And.intro rfl (And.intro rfl (And.intro rfl (And.intro rfl (And.intro rfl (And.intro rfl (?_)))))))))) <;> first | omega | exact ⟨by omega, by omega, p4, Or.inl ⟨e32, p3, fun j hj hj2 => p6 j hj (by omega)⟩⟩)
        | refine And.intro ?_ ?_
        | (intro h; try omega)
        | omega
        | exact Nat.le_of_ble_eq_true rfl
  · obtain ⟨e, A1, rfl, rfl, rfl, rfl, rfl, rfl, p1, p2, p4, ⟨p5, p6, p7⟩ | ⟨p6, p7⟩⟩ := hI
    · have e31 : A1 31 s.toNat = A 31 s.toNat := by rw [p6, md_u_t (by decide)]
      have e32 : A1 32 s.toNat = A 32 s.toNat := by rw [p6, md_u_t (by decide)]
      have e34 : A1 34 s.toNat = 0 := by rw [p6, md_u_s]
      repeat' first
        | (rw [p6]; exact h2 p4 p7)
        | refine And.intro ?_ ?_
        | (intro h; try omega)
        | omega
        | exact Nat.le_of_ble_eq_true rfl
    · have e31 : A1 31 s.toNat = A 31 s.toNat := by rw [p6, mq_g_t (by decide), mq_g_t (by decide), md_u_t (by decide)]
      have e32 : A1 32 s.toNat = A 32 s.toNat := by rw [p6, mq_g_t (by decide), mq_g_t (by decide), md_u_t (by decide)]
      have e34 : A1 34 s.toNat = 1 := by rw [p6, mq_g_t (by decide), mq_g_t (by decide), md_u_s]
      have e35 : A1 35 e.toNat = A 35 e.toNat := by rw [p6, mq_g_o (by omega), mq_g_t (by decide), md_u_t (by decide)]
      have em : ∀ X : mq_A, X = md_u A1 36 e.toNat (A1 35 e.toNat) → mq_made X dr s e = mq_made A dr s e := by
        intro X hX
        refine mq_made_c ?_ ?_ ?_ ?_
        · rw [hX, md_u_t (by decide), p6, mq_g_t (by decide), mq_g_t (by decide), md_u_t (by decide)]
        · rw [hX, md_u_t (by decide), p6, mq_g_t (by decide), mq_g_t (by decide), md_u_t (by decide)]
        · rw [hX, md_u_t (by decide), p6, mq_g_t (by decide), mq_g_t (by decide), md_u_t (by decide)]
        · rw [hX, md_u_t (by decide), e35]
      repeat' first
        | (have e9 : e = A 32 s.toNat + A 31 s.toNat := (by omega); rw [p6, e9, show (A 32 s.toNat + A 31 s.toNat - A 32 s.toNat).toNat = (A 31 s.toNat).toNat by omega]; exact h3 p4 p7)
        | (intro A3 e3; have e36 := em A3 e3)
        | (refine Exists.intro _ (And.intro ?_ (Exists.intro (e + 1) (Exists.intro (_) (And.intro rfl (And.intro rfl (And.intro rfl (And.intro rfl (And.intro rfl (And.intro rfl (?_)))))))))) <;> first | omega | (refine ⟨by omega, by omega, p4, Or.inr ⟨?_, p7⟩⟩; rw [h, e36, e3, e35, p6]; exact mq_g2 (by decide) (by omega) (by omega) (by omega) rfl (by show _ = mq_made A dr s _; rw [show ((e.toNat : Nat) : Int) = e by omega])))
        | refine And.intro ?_ ?_
        | (intro h; try omega)
        | omega
        | exact Nat.le_of_ble_eq_true rfl
  · repeat' first
      | (subst_vars; exact h1 (by assumption))
      | (refine Exists.intro _ (Exists.intro (_) (Exists.intro (0) (Exists.intro (_) (And.intro rfl (And.intro rfl (And.intro rfl (And.intro rfl (And.intro rfl (And.intro rfl (?_)))))))))) <;> first | omega | (refine ⟨?_, ?_, h0, h9, Or.inr ⟨rfl, fun j hj hj2 => ?_⟩⟩ <;> omega))
      | (intro A3 h0; have e33 : A3 33 s.toNat = A 33 s.toNat := (by rw [h0, md_u_t (by decide)]); have e32 : A3 32 s.toNat = A 32 s.toNat := (by rw [h0, md_u_t (by decide)]))
      | (intro h9; rw [e33] at h9)
      | refine And.intro ?_ ?_
      | (intro h; try omega)
      | omega
      | exact Nat.le_of_ble_eq_true rfl
end
section
/-! THE REFERENCE, 8: start -/
theorem mq_sp {A1 A4 : mq_A} {e m : Int} (he : 0 ≤ e) (h : A4 = md_u (md_u A1 35 e.toNat m) 36 e.toNat m) : (∀ t, t ≠ 35 → t ≠ 36 → A4 t = A1 t) ∧ (∀ j : Int, 0 ≤ j → j ≠ e → A4 35 j.toNat = A1 35 j.toNat ∧ A4 36 j.toNat = A1 36 j.toNat) ∧ A4 35 e.toNat = m ∧ A4 36 e.toNat = m := by
  subst h
  refine ⟨fun t h1 h2 => by rw [md_u_t h2, md_u_t h1], fun j h1 h2 => ⟨?_, ?_⟩, ?_, md_u_s⟩
  · rw [md_u_t (by decide), md_u_k (by omega)]
  · rw [md_u_k (by omega), md_u_t (by decide)]
  · rw [md_u_t (by decide), md_u_s]
/-- behind the drivers' first values -/
def mq_v0 (A : mq_A) (dr : Int) : mq_A := mq_g A 39 0 dr.toNat (fun d => A 35 (A 38 d).toNat)
def mq_sn (A V A1 : mq_A) (dr s e : Int) : Prop := ∀ j : Int, A 32 s.toNat ≤ j → j < e → A1 35 j.toNat = mq_made V dr s j ∧ A1 36 j.toNat = mq_made V dr s j
def mq_sd (A V A1 : mq_A) (dr sg : Int) : Prop := ∀ s : Int, 0 ≤ s → s < sg → mq_sn A V A1 dr s (A 32 s.toNat + A 31 s.toNat)
theorem mq_v0_t {A : mq_A} {dr : Int} {t : Nat} (h : t ≠ 39) : mq_v0 A dr t = A t := mq_g_t h
def sm_90 (as : List wi_V) (M : mq_H) (q : wi_Q1 mq_H) (_ : wi_Q2 mq_H) : Prop := mq_s as (mq_f M fun cd lm st sg el dr sz pr wc sp nw A B => 0 ≤ dr ∧ dr ≤ 512 ∧ 0 ≤ sg ∧ sg ≤ 200 ∧ 0 ≤ pr ∧ pr ≤ 64 ∧ (∀ d : Int, 0 ≤ d → d < dr → 0 ≤ A 38 d.toNat ∧ A 38 d.toNat < 512) ∧ (∀ s : Int, 0 ≤ s → s < sg → 0 ≤ A 32 s.toNat ∧ 0 ≤ A 31 s.toNat ∧ (A 32 s.toNat + A 31 s.toNat) ≤ 512) ∧ (∀ s : Int, 0 ≤ s → s + 1 < sg → (A 32 s.toNat + A 31 s.toNat) ≤ A 32 (s + 1).toNat) ∧ (st ≠ 0 → q none ([1, lm, st, sg, el, dr, sz, pr, wc, sp, nw], A, B)) ∧
  (st = 0 → ∀ A1 : mq_A, (∀ t, t ≠ 35 → t ≠ 36 → t ≠ 46 → A1 t = mq_v0 A dr t) → A1 46 = mq_g A 46 0 pr.toNat (fun _ => 0) 46 → mq_sd A (mq_v0 A dr) A1 dr sg → q none ([0, lm, 1, sg, el, dr, sz, pr, wc, sp, nw], A1, B)))
theorem mm_90 {l : Launch} {D : va_G} {aC : wm_Y} {b0 : Nat} (hl0 : l.stackTraces = false) : wm_sp l D aC b0 90 (wi_lf mq_Rl sm_90) := by
  refine wi_method mq_lw 90 (cx := fun id => if id = 92 then sm_92 else fun _ _ _ _ => False) (ids := ci_90) (tb := tb_90) (by decide +kernel) hl0 (wm_cxc (mm_92 hl0) oi_90 (fun h => wm_cxn h)) (wm_tb_ok tk_90) (by decide +kernel) [31, 64, 79, 134] 250 (fun as M q qt hs => ?_)
  obtain ⟨rfl, hs1⟩ := mq_s_e hs
  clear hs
  obtain ⟨cd, lm, st, sg, el, dr, sz, pr, wc, sp, nw, A, B, rfl, hs⟩ := mq_f_e hs1
  clear hs1
  obtain ⟨r1, r2, r3, r4, r5, r6, r7, r8, r9, h1, h2⟩ := hs
  refine ⟨rfl, fun mz pc lv sk h cu su => match pc with | 31 => ∃ d : Int, ∃ x : Option wi_V, lv = [some (wi_rf (some 11)), some (.inl (d)), x] ∧ sk = [] ∧ h = ([0, lm, 1, sg, el, dr, sz, pr, wc, sp, nw], mq_g A 39 0 d.toNat (fun d => A 35 (A 38 d).toNat), B) ∧ cu = 0 ∧ su = 0 ∧ mz = (3000000 - d).toNat ∧ 0 ≤ d ∧ d ≤ dr ∧ st = 0 | 64 => ∃ s : Int, ∃ s9 : Int, ∃ lo : Int, ∃ A1 : mq_A, ∃ x : Option wi_V, lv = [some (wi_rf (some 11)), some (.inl (s)), x] ∧ sk = [] ∧ h = ([0, lm, 1, sg, el, dr, sz, pr, wc, sp, nw], A1, B) ∧ cu = 0 ∧ su = 0 ∧ mz = (1000000 - 1000 * s).toNat ∧ s9 = s ∧ 0 ≤ s ∧ s ≤ sg ∧ st = 0 ∧ 0 ≤ lo ∧ (s < sg → lo ≤ A 32 s.toNat) ∧ (∀ t, t ≠ 35 → t ≠ 36 → A1 t = mq_v0 A dr t) ∧ (∀ s : Int, 0 ≤ s → s < s9 → (A 32 s.toNat + A 31 s.toNat) ≤ lo) ∧ (∀ j : Int, lo ≤ j → A1 35 j.toNat = A 35 j.toNat) ∧ mq_sd A (mq_v0 A dr) A1 dr s | 79 => ∃ s : Int, ∃ e : Int, ∃ A1 : mq_A, lv = [some (wi_rf (some 11)), some (.inl (s)), some (.inl (e))] ∧ sk = [] ∧ h = ([0, lm, 1, sg, el, dr, sz, pr, wc, sp, nw], A1, B) ∧ cu = 0 ∧ su = 0 ∧ mz = (1000000 - 1000 * s - 1 - (e - A 32 s.toNat)).toNat ∧ 0 ≤ s ∧ s < sg ∧ st = 0 ∧ A 32 s.toNat ≤ e ∧ e ≤ (A 32 s.toNat + A 31 s.toNat) ∧ (∀ t, t ≠ 35 → t ≠ 36 → A1 t = mq_v0 A dr t) ∧ (∀ s1 : Int, 0 ≤ s1 → s1 < s → A 32 s1.toNat + A 31 s1.toNat ≤ A 32 s.toNat) ∧ (∀ j : Int, e ≤ j → A1 35 j.toNat = A 35 j.toNat) ∧ mq_sd A (mq_v0 A dr) A1 dr s ∧ mq_sn A (mq_v0 A dr) A1 dr s e | 134 => ∃ p : Int, ∃ A1 : mq_A, ∃ x : Option wi_V, lv = [some (wi_rf (some 11)), some (.inl (p)), x] ∧ sk = [] ∧ h = ([0, lm, 1, sg, el, dr, sz, pr, wc, sp, nw], A1, B) ∧ cu = 0 ∧ su = 0 ∧ mz = (100 - p).toNat ∧ 0 ≤ p ∧ p ≤ pr ∧ st = 0 ∧ (∀ t, t ≠ 35 → t ≠ 36 → t ≠ 46 → A1 t = mq_v0 A dr t) ∧ A1 46 = mq_g A 46 0 p.toNat (fun _ => 0) 46 ∧ mq_sd A (mq_v0 A dr) A1 dr sg | _ => False, mq_c4 (fun mz lv sk h cu su hI => ?_) (fun mz lv sk h cu su hI => ?_) (fun mz lv sk h cu su hI => ?_) (fun mz lv sk h cu su hI => ?_), ?_⟩
  · obtain ⟨d, x, rfl, rfl, rfl, rfl, rfl, rfl, p1, p2, p3⟩ := hI
    have r10 := r7 d
    have e38 : (mq_g A 39 0 d.toNat (fun d => A 35 (A 38 d).toNat)) 38 d.toNat = A 38 d.toNat := by rw [mq_g_t (by decide)]
    have e35 : (mq_g A 39 0 d.toNat (fun d => A 35 (A 38 d).toNat)) 35 = A 35 := by rw [mq_g_t (by decide)]
    repeat' first
      | (refine Exists.intro _ (And.intro ?_ (Exists.intro (d + 1) (Exists.intro (_) (And.intro rfl (And.intro rfl (And.intro (mq_eA (by rw [h, e38, e35]; exact mq_g_s (by omega) (by omega) rfl)) (And.intro rfl (And.intro rfl (And.intro rfl (?_)))))))))) <;> first | omega | exact ⟨by omega, by omega, p3⟩)
      | (have ed : d = dr := (by omega); subst ed; refine Exists.intro _ (And.intro ?_ (Exists.intro (0) (Exists.intro (0) (Exists.intro (0) (Exists.intro (_) (Exists.intro (_) (And.intro rfl (And.intro rfl (And.intro rfl (And.intro rfl (And.intro rfl (And.intro rfl (?_))))))))))))) <;> first | omega | exact ⟨rfl, by omega, by omega, p3, by omega, (fun z => (r8 0 (by omega) (by omega)).1), fun t _ _ => rfl, fun s z1 z2 => by omega, fun j _ => (by rw [mq_g_t (by decide)]), fun s z1 z2 => by omega⟩)
      | refine And.intro ?_ ?_
      | (intro h; try omega)
      | omega
      | exact Nat.le_of_ble_eq_true rfl
  · obtain ⟨s, s9, lo, A1, x, rfl, rfl, rfl, rfl, rfl, rfl, rfl, p1, p2, p3, p4, p5, p6, p7, p8, p9⟩ := hI
    have r10 := r8 s9
    have e32 : A1 32 s9.toNat = A 32 s9.toNat := by rw [p6 32 (by decide) (by decide), mq_v0_t (by decide)]
    repeat' first
      | (refine Exists.intro _ (And.intro ?_ (Exists.intro (s9) (Exists.intro (_) (Exists.intro (_) (And.intro rfl (And.intro rfl (And.intro rfl (And.intro rfl (And.intro rfl (And.intro rfl (?_))))))))))) <;> first | omega | exact ⟨by omega, by omega, p3, by omega, by omega, p6, fun s1 z1 z2 => (by have := p7 s1 z1 z2; omega), fun j hj => p8 j (by omega), p9, fun j z1 z2 => by omega⟩)
      | (have ed : s9 = sg := (by omega); subst ed; refine Exists.intro _ (And.intro ?_ (Exists.intro (0) (Exists.intro (_) (Exists.intro (_) (And.intro rfl (And.intro rfl (And.intro rfl (And.intro rfl (And.intro rfl (And.intro rfl (?_))))))))))) <;> first | omega | exact ⟨by omega, by omega, p3, fun t z1 z2 z3 => p6 t z1 z2, (by rw [p6 46 (by decide) (by decide), mq_v0_t (by decide), show Int.toNat 0 = 0 from rfl, mq_g_0]), p9⟩)
      | refine And.intro ?_ ?_
      | (intro h; try omega)
      | omega
      | exact Nat.le_of_ble_eq_true rfl
  · obtain ⟨s, e, A1, rfl, rfl, rfl, rfl, rfl, rfl, p1, p2, p3, p4, p5, p6, p7, p8, p9, p10⟩ := hI
    have r10 := r8 s
    have r11 := r9 s
    have e31 : A1 31 s.toNat = A 31 s.toNat := by rw [p6 31 (by decide) (by decide), mq_v0_t (by decide)]
    have e32 : A1 32 s.toNat = A 32 s.toNat := by rw [p6 32 (by decide) (by decide), mq_v0_t (by decide)]
    have em : mq_made A1 dr s e = mq_made (mq_v0 A dr) dr s e := by
      refine mq_made_c (p6 38 (by decide) (by decide)) (p6 30 (by decide) (by decide)) (p6 39 (by decide) (by decide)) ?_
      rw [p8 e (by omega), mq_v0_t (by decide)]
    repeat' first
      | (intro A3 e3; have e35 : A3 35 e.toNat = mq_made (mq_v0 A dr) dr s e := (by rw [e3, md_u_s, em]))
      | (refine Exists.intro _ (And.intro ?_ (Exists.intro (s) (Exists.intro (e + 1) (Exists.intro (_) (And.intro rfl (And.intro rfl (And.intro rfl (And.intro rfl (And.intro rfl (And.intro rfl (?_))))))))))) <;> first | omega | (have k := mq_sp (A1 := A1) (A4 := _) (e := e) (m := mq_made (mq_v0 A dr) dr s e) (by omega) (h.trans (by rw [e35, e3, em])); exact ⟨p1, p2, p3, by omega, by omega, fun t z1 z2 => (k.1 t z1 z2).trans (p6 t z1 z2), p7, fun j hj => (k.2.1 j (by omega) (by omega)).1.trans (p8 j (by omega)),
        fun s1 z1 z2 j z3 z4 => (by have z5 := p7 s1 z1 z2; have z6 := r8 s1 z1 (by omega); rw [(k.2.1 j (by omega) (by omega)).1, (k.2.1 j (by omega) (by omega)).2]; exact p9 s1 z1 z2 j z3 z4),
        fun j z3 z4 => (by rcases (show j < e ∨ j = e by omega) with z5 | rfl; rw [(k.2.1 j (by omega) (by omega)).1, (k.2.1 j (by omega) (by omega)).2]; exact p10 j z3 z5; exact k.2.2)⟩))
      | (have ed : e = (A 32 s.toNat + A 31 s.toNat) := (by omega); subst ed; refine Exists.intro _ (And.intro ?_ (Exists.intro (s + 1) (Exists.intro (s + 1) (Exists.intro ((A 32 s.toNat + A 31 s.toNat)) (Exists.intro (_) (Exists.intro (_) (And.intro rfl (And.intro rfl (And.intro rfl (And.intro rfl (And.intro rfl (And.intro rfl (?_))))))))))))) <;> first | omega | exact ⟨rfl, by omega, by omega, p3, by omega, by omega, p6, fun s1 z1 z2 => (by rcases (show s1 < s ∨ s1 = s by omega) with z5 | rfl; have := p7 s1 z1 z5; omega; omega), p8, fun s1 z1 z2 => (by rcases (show s1 < s ∨ s1 = s by omega) with z5 | rfl; exact p9 s1 z1 z5; exact p10)⟩)
      | refine And.intro ?_ ?_
      | (intro h; try omega)
      | omega
      | exact Nat.le_of_ble_eq_true rfl
  · obtain ⟨p, A1, x, rfl, rfl, rfl, rfl, rfl, rfl, p1, p2, p3, p4, p5, p6⟩ := hI
    repeat' first
      | (have ed : p = pr := (by omega); subst ed; exact h2 p3 A1 p4 p5 p6)
      | (refine Exists.intro _ (And.intro ?_ (Exists.intro (p + 1) (Exists.intro (_) (Exists.intro (_) (And.intro rfl (And.intro rfl (And.intro rfl (And.intro rfl (And.intro rfl (And.intro rfl (?_))))))))))) <;> first | omega | exact ⟨by omega, by omega, p3, fun t z1 z2 z3 => (by rw [h, md_u_t z3]; exact p4 t z1 z2 z3), (by
        rw [h, ← mq_g_s (A := A) (t := 46) (lo := 0) (n := p.toNat) (v := fun _ => 0) (k := p.toNat) (x := 0) (m := (p + 1).toNat) (by omega) (by omega) rfl]
        funext k
        simp only [md_u]
        rw [p5]), fun s1 z1 z2 j z3 z4 => (by rw [h, md_u_t (by decide), md_u_t (by decide)]; exact p6 s1 z1 z2 j z3 z4)⟩)
      | refine And.intro ?_ ?_
      | (intro h; try omega)
      | omega
      | exact Nat.le_of_ble_eq_true rfl
  · repeat' first
      | exact h1 (by omega)
      | (refine Exists.intro _ (Exists.intro (0) (Exists.intro (_) (And.intro rfl (And.intro rfl (And.intro (mq_eA mq_g_0.symm) (And.intro rfl (And.intro rfl (And.intro rfl (?_))))))))) <;> first | omega | exact ⟨by omega, by omega, by assumption⟩)
      | refine And.intro ?_ ?_
      | (intro h; try omega)
      | omega
      | exact Nat.le_of_ble_eq_true rfl
end
section
/-! THE REFERENCE, 9: takeDue -/
theorem mq_row_c {A A' B B' : mq_A} {d : Int} : ∀ n : Nat, (∀ j : Nat, j < n → A' 40 j = A 40 j ∧ A' 42 j = A 42 j ∧ B' 41 j = B 41 j) → mq_row A' B' d n = mq_row A B d n
  | 0, _ => rfl
  | n + 1, h => by
    obtain ⟨h1, h2, h3⟩ := h n (by omega)
    simp only [mq_row]
    rw [h1, h2, h3, mq_row_c n (fun j hj => h j (by omega))]
def mq_tk (A B A1 B1 : mq_A) (nw kp i : Int) : Prop :=
  (∀ t, t ≠ 33 → t ≠ 39 → t ≠ 40 → t ≠ 42 → A1 t = A t) ∧ (∀ t, t ≠ 41 → B1 t = B t) ∧ (∀ j : Int, 0 ≤ j → kp ≤ j → A1 40 j.toNat = A 40 j.toNat ∧ A1 42 j.toNat = A 42 j.toNat ∧ B1 41 j.toNat = B 41 j.toNat) ∧
  (∀ d, mq_row A1 B1 d kp.toNat = (mq_row A B d i.toNat).filter (fun x => decide (nw < x.1))) ∧ (∀ d : Int, 0 ≤ d → A1 39 d.toNat = (mq_row A B d i.toNat).foldl (mq_va nw) (A 39 d.toNat)) ∧
  (∀ j : Int, 0 ≤ j → j < kp → ∃ j' : Int, 0 ≤ j' ∧ j' < i ∧ nw < B 41 j'.toNat ∧ A1 40 j.toNat = A 40 j'.toNat ∧ A1 42 j.toNat = A 42 j'.toNat ∧ B1 41 j.toNat = B 41 j'.toNat)
def mq_du (A B : mq_A) (nw i s : Int) : Prop := ∃ j : Int, 0 ≤ j ∧ j < i ∧ B 41 j.toNat ≤ nw ∧ A 32 s.toNat ≤ A 38 (A 40 j.toNat).toNat ∧ A 38 (A 40 j.toNat).toNat < A 32 s.toNat + A 31 s.toNat
def mq_ac (A B A1 : mq_A) (nw i s : Int) : Prop := (A1 33 s.toNat = 1 ∧ mq_du A B nw i s) ∨ (A1 33 s.toNat = 0 ∧ ¬ mq_du A B nw i s)
theorem mq_tk_due {A B A1 B1 : mq_A} {nw kp i : Int} (T : mq_tk A B A1 B1 nw kp i) (h0 : 0 ≤ i) (h1 : B 41 i.toNat ≤ nw) (h2 : 0 ≤ A 40 i.toNat) : mq_tk A B (md_u A1 39 (A 40 i.toNat).toNat (A 42 i.toNat)) B1 nw kp (i + 1) := by
  obtain ⟨t1, t2, t3, t4, t5, t6⟩ := T
  refine ⟨fun t a b c d => by rw [md_u_t b]; exact t1 t a b c d, t2, fun j a b => by rw [md_u_t (by decide), md_u_t (by decide)]; exact t3 j a b, fun d => ?_, fun d hd => ?_, fun j a b => ?_⟩
  · rw [mq_row_s h0, mq_row_c (A := A1) (B := B1) _ (fun j hj => by rw [md_u_t (by decide), md_u_t (by decide)]; exact ⟨rfl, rfl, rfl⟩), t4 d]
    split
    · rw [List.filter_append]
      rw [show List.filter (fun x : Int × Int => decide (nw < x.1)) [(B 41 i.toNat, A 42 i.toNat)] = [] from by
        rw [List.filter_cons_of_neg (by simp only [decide_eq_true_eq]; omega)]; rfl]
      rw [List.append_nil]
    · rfl
  · rw [mq_row_s h0]
    by_cases e : A 40 i.toNat = d
    · rw [if_pos e, List.foldl_append]
      simp only [List.foldl_cons, List.foldl_nil, mq_va]
      rw [if_pos h1, e, md_u_s]
    · rw [if_neg e, md_u_k (by omega)]
      exact t5 d hd
  · obtain ⟨j', a1, a2, a3⟩ := t6 j a b
    rw [md_u_t (by decide), md_u_t (by decide)]
    exact ⟨j', a1, by omega, a3⟩
theorem mq_tk_mv {A B A1 B1 : mq_A} {nw kp i : Int} (T : mq_tk A B A1 B1 nw kp i) (h0 : 0 ≤ kp) (h1 : kp ≤ i) (h2 : nw < B 41 i.toNat) : mq_tk A B (md_u (md_u A1 40 kp.toNat (A1 40 i.toNat)) 42 kp.toNat (A1 42 i.toNat)) (md_u B1 41 kp.toNat (B1 41 i.toNat)) nw (kp + 1) (i + 1) := by
  obtain ⟨t1, t2, t3, t4, t5, t6⟩ := T
  obtain ⟨e1, e2, e3⟩ := t3 i (by omega) h1
  have f40 : ∀ j : Nat, (md_u (md_u A1 40 kp.toNat (A1 40 i.toNat)) 42 kp.toNat (A1 42 i.toNat)) 40 j = if j = kp.toNat then A 40 i.toNat else A1 40 j := fun j => by
    rw [md_u_t (by decide)]; simp only [md_u, true_and]; rw [e1]
  have f42 : ∀ j : Nat, (md_u (md_u A1 40 kp.toNat (A1 40 i.toNat)) 42 kp.toNat (A1 42 i.toNat)) 42 j = if j = kp.toNat then A 42 i.toNat else A1 42 j := fun j => by
    simp only [md_u, true_and, e2]; split <;> simp
  have f41 : ∀ j : Nat, (md_u B1 41 kp.toNat (B1 41 i.toNat)) 41 j = if j = kp.toNat then B 41 i.toNat else B1 41 j := fun j => by
    simp only [md_u, true_and, e3]
  refine ⟨fun t a b c d => by rw [md_u_t d, md_u_t c]; exact t1 t a b c d, fun t a => by rw [md_u_t a]; exact t2 t a, fun j a b => ?_, fun d => ?_, fun d hd => ?_, fun j a b => ?_⟩
  · rw [f40, f42, f41, if_neg (by omega), if_neg (by omega), if_neg (by omega)]
    exact t3 j a (by omega)
  · rw [mq_row_s h0, mq_row_s (show 0 ≤ i by omega), mq_row_c (A := A1) (B := B1) _ (fun j hj => by rw [f40, f42, f41, if_neg (by omega), if_neg (by omega), if_neg (by omega)]; exact ⟨rfl, rfl, rfl⟩), t4 d, f40, f42, f41, if_pos rfl, if_pos rfl, if_pos rfl]
    split
    · rw [List.filter_append, List.filter_cons_of_pos (by simp only [decide_eq_true_eq]; omega)]
      rfl
    · rfl
  · rw [md_u_t (by decide), md_u_t (by decide), mq_row_s (show 0 ≤ i by omega), t5 d hd]
    split
    · rw [List.foldl_append]
      simp only [List.foldl_cons, List.foldl_nil]
      exact (if_neg (by show ¬ B 41 i.toNat ≤ nw; omega)).symm
    · rfl
  · rw [f40, f42, f41]
    rcases (show j < kp ∨ j = kp by omega) with hd | rfl
    · rw [if_neg (by omega), if_neg (by omega), if_neg (by omega)]
      obtain ⟨j', a1, a2, a3⟩ := t6 j a hd
      exact ⟨j', a1, by omega, a3⟩
    · rw [if_pos rfl, if_pos rfl, if_pos rfl]
      exact ⟨i, by omega, by omega, h2, rfl, rfl, rfl⟩
theorem mq_tk_33 {A B A1 A2 B1 : mq_A} {nw kp i : Int} (T : mq_tk A B A1 B1 nw kp i) (h : ∀ t, t ≠ 33 → A2 t = A1 t) : mq_tk A B A2 B1 nw kp i := by
  obtain ⟨t1, t2, t3, t4, t5, t6⟩ := T
  have h40 := h 40 (by decide)
  have h42 := h 42 (by decide)
  refine ⟨fun t a b c d => (h t a).trans (t1 t a b c d), t2, fun j a b => by rw [h40, h42]; exact t3 j a b, fun d => ?_, fun d hd => by rw [h 39 (by decide)]; exact t5 d hd, fun j a b => by rw [h40, h42]; exact t6 j a b⟩
  rw [mq_row_c (A := A1) (B := B1) _ (fun j hj => by rw [h40, h42]; exact ⟨rfl, rfl, rfl⟩)]
  exact t4 d
theorem mq_du_s {A B : mq_A} {nw i s : Int} (h : mq_du A B nw i s) : mq_du A B nw (i + 1) s := by
  obtain ⟨j, a, b, c⟩ := h
  exact ⟨j, a, by omega, c⟩
theorem mq_du_n {A B : mq_A} {nw i s : Int} (h : ¬ mq_du A B nw i s) (g : nw < B 41 i.toNat ∨ ¬ (A 32 s.toNat ≤ A 38 (A 40 i.toNat).toNat ∧ A 38 (A 40 i.toNat).toNat < A 32 s.toNat + A 31 s.toNat)) : ¬ mq_du A B nw (i + 1) s := by
  rintro ⟨j, a, b, c, d, e⟩
  rcases (show j < i ∨ j = i by omega) with hd | rfl
  · exact h ⟨j, a, hd, c, d, e⟩
  · rcases g with g | g
    · omega
    · exact g ⟨d, e⟩
theorem mq_ac_n {A B A1 A2 : mq_A} {nw i s : Int} (h : mq_ac A B A1 nw i s) (e : A2 33 s.toNat = A1 33 s.toNat) (g : nw < B 41 i.toNat) : mq_ac A B A2 nw (i + 1) s := by
  unfold mq_ac
  rw [e]
  rcases h with ⟨a, b⟩ | ⟨a, b⟩
  · exact Or.inl ⟨a, mq_du_s b⟩
  · exact Or.inr ⟨a, mq_du_n b (Or.inl g)⟩
def sm_107 (as : List wi_V) (M : mq_H) (q : wi_Q1 mq_H) (_ : wi_Q2 mq_H) : Prop := mq_s as (mq_f M fun cd lm st sg el dr sz pr wc sp nw A B => 0 ≤ sg ∧ sg ≤ 200 ∧ 0 ≤ sz ∧ sz ≤ 8192 ∧ (∀ s : Int, 0 ≤ s → s < sg → 0 ≤ A 32 s.toNat ∧ 0 ≤ A 31 s.toNat ∧ A 32 s.toNat + A 31 s.toNat ≤ 512) ∧ (∀ j : Int, 0 ≤ j → j < sz → 0 ≤ A 40 j.toNat ∧ A 40 j.toNat < 512) ∧
  ∀ (A1 B1 : mq_A) (kp : Int), 0 ≤ kp → kp ≤ sz → mq_tk A B A1 B1 nw kp sz → (∀ s : Int, 0 ≤ s → s < sg → mq_ac A B A1 nw sz s) → (∀ s : Int, sg ≤ s → A1 33 s.toNat = A 33 s.toNat) → q none ([cd, lm, st, sg, el, dr, kp, pr, wc, sp, nw], A1, B1))
theorem mm_107 {l : Launch} {D : va_G} {aC : wm_Y} {b0 : Nat} (hl0 : l.stackTraces = false) : wm_sp l D aC b0 107 (wi_lf mq_Rl sm_107) := by
  refine wi_method mq_lw 107 (cx := fun id => if id = 99 then sm_99 else fun _ _ _ _ => False) (ids := ci_107) (tb := tb_107) (by decide +kernel) hl0 (wm_cxc (mm_99 hl0) oi_107 (fun h => wm_cxn h)) (wm_tb_ok tk_107) (by decide +kernel) [2, 27, 68] 250 (fun as M q qt hs => ?_)
  obtain ⟨rfl, hs1⟩ := mq_s_e hs
  clear hs
  obtain ⟨cd, lm, st, sg, el, dr, sz, pr, wc, sp, nw, A, B, rfl, hs⟩ := mq_f_e hs1
  clear hs1
  obtain ⟨r1, r2, r3, r4, r5, r6, h1⟩ := hs
  refine ⟨rfl, fun mz pc lv sk h cu su => match pc with | 2 => ∃ s : Int, ∃ x2 : Option wi_V, ∃ x3 : Option wi_V, lv = [some (wi_rf (some 11)), some (.inl (s)), x2, x3] ∧ sk = [] ∧ h = ([cd, lm, st, sg, el, dr, sz, pr, wc, sp, nw], mq_g A 33 0 s.toNat (fun _ => 0), B) ∧ cu = 0 ∧ su = 0 ∧ mz = (30000000 - s).toNat ∧ 0 ≤ s ∧ s ≤ sg | 27 => ∃ kp : Int, ∃ i : Int, ∃ A1 : mq_A, ∃ B1 : mq_A, ∃ x3 : Option wi_V, lv = [some (wi_rf (some 11)), some (.inl (kp)), some (.inl (i)), x3] ∧ sk = [] ∧ h = ([cd, lm, st, sg, el, dr, sz, pr, wc, sp, nw], A1, B1) ∧ cu = 0 ∧ su = 0 ∧ mz = ((10000 - i) * 1000).toNat ∧ 0 ≤ kp ∧ kp ≤ i ∧ i ≤ sz ∧ mq_tk A B A1 B1 nw kp i ∧ (∀ s : Int, 0 ≤ s → s < sg → mq_ac A B A1 nw i s) ∧ (∀ s : Int, sg ≤ s → A1 33 s.toNat = A 33 s.toNat) | 68 => ∃ kp : Int, ∃ i : Int, ∃ A1 : mq_A, ∃ B1 : mq_A, ∃ s : Int, lv = [some (wi_rf (some 11)), some (.inl (kp)), some (.inl (i)), some (.inl (s))] ∧ sk = [] ∧ h = ([cd, lm, st, sg, el, dr, sz, pr, wc, sp, nw], A1, B1) ∧ cu = 0 ∧ su = 0 ∧ mz = ((10000 - i) * 1000 - 1 - s).toNat ∧ 0 ≤ kp ∧ kp ≤ i ∧ i < sz ∧ 0 ≤ s ∧ s ≤ sg ∧ B 41 i.toNat ≤ nw ∧ mq_tk A B A1 B1 nw kp (i + 1) ∧ (∀ s1 : Int, 0 ≤ s1 → s1 < s → mq_ac A B A1 nw (i + 1) s1) ∧ (∀ s1 : Int, s ≤ s1 → s1 < sg → mq_ac A B A1 nw i s1) ∧ (∀ s1 : Int, sg ≤ s1 → A1 33 s1.toNat = A 33 s1.toNat) | _ => False, mq_c3 (fun mz lv sk h cu su hI => ?_) (fun mz lv sk h cu su hI => ?_) (fun mz lv sk h cu su hI => ?_), ?_⟩
  · obtain ⟨s, x2, x3, rfl, rfl, rfl, rfl, rfl, rfl, p1, p2⟩ := hI
    repeat' first
      | (refine Exists.intro _ (And.intro ?_ (Exists.intro (s + 1) (Exists.intro (_) (Exists.intro (_) (And.intro rfl (And.intro rfl (And.intro (mq_eA (by rw [h]; exact mq_g_s (by omega) (by omega) rfl)) (And.intro rfl (And.intro rfl (And.intro rfl (?_))))))))))) <;> first | omega | exact ⟨by omega, by omega⟩)
      | (refine Exists.intro _ (And.intro ?_ (Exists.intro (0) (Exists.intro (0) (Exists.intro (_) (Exists.intro (_) (Exists.intro (_) (And.intro rfl (And.intro rfl (And.intro rfl (And.intro rfl (And.intro rfl (And.intro rfl (?_))))))))))))) <;> first | omega | exact ⟨by omega, by omega, by omega, ⟨fun t a b c d => mq_g_t a, fun t a => rfl, fun j a b => ⟨by rw [mq_g_t (by decide)], by rw [mq_g_t (by decide)], rfl⟩, fun d => rfl, fun d hd => (by rw [mq_g_t (by decide)]; rfl), fun j a b => by omega⟩, fun s1 a b => Or.inr ⟨mq_g_i (by omega) (by omega), fun ⟨j, c, d, _⟩ => by omega⟩, fun s1 a => mq_g_o (by omega)⟩)
      | refine And.intro ?_ ?_
      | (intro h; try omega)
      | omega
      | exact Nat.le_of_ble_eq_true rfl
  · obtain ⟨kp, i, A1, B1, x3, rfl, rfl, rfl, rfl, rfl, rfl, p1, p2, p3, p4, p5, p6⟩ := hI
    have r7 := r6 i
    obtain ⟨e40, e42, e41⟩ := p4.2.2.1 i (by omega) p2
    repeat' first
      | (have ed : i = sz := (by omega); subst ed; exact h1 A1 B1 kp p1 p2 p4 p5 p6)
      | (refine Exists.intro _ (And.intro ?_ (Exists.intro (kp) (Exists.intro (i) (Exists.intro (_) (Exists.intro (_) (Exists.intro (0) (And.intro rfl (And.intro rfl (And.intro rfl (And.intro rfl (And.intro rfl (And.intro rfl (?_))))))))))))) <;> first | omega | (rw [e40, e42] at h; exact ⟨p1, p2, by omega, by omega, by omega, by omega, (by rw [h]; exact mq_tk_due p4 (by omega) (by omega) (by omega)), fun s1 a b => by omega, fun s1 a b => (by unfold mq_ac; rw [h, md_u_t (by decide)]; exact p5 s1 a b), fun s1 a => (by rw [h, md_u_t (by decide)]; exact p6 s1 a)⟩))
      | (refine Exists.intro _ (And.intro ?_ (Exists.intro (kp + 1) (Exists.intro (i + 1) (Exists.intro (_) (Exists.intro (_) (Exists.intro (_) (And.intro rfl (And.intro rfl (And.intro rfl (And.intro rfl (And.intro rfl (And.intro rfl (?_))))))))))))) <;> first | omega | exact ⟨by omega, by omega, by omega, mq_tk_mv p4 p1 p2 (by omega), fun s1 a b => mq_ac_n (p5 s1 a b) (by rw [md_u_t (by decide), md_u_t (by decide)]) (by omega), fun s1 a => (by rw [md_u_t (by decide), md_u_t (by decide)]; exact p6 s1 a)⟩)
      | refine And.intro ?_ ?_
      | (intro h; try omega)
      | omega
      | exact Nat.le_of_ble_eq_true rfl
  · obtain ⟨kp, i, A1, B1, s, rfl, rfl, rfl, rfl, rfl, rfl, p1, p2, p3, p4, p5, p6, p7, p8, p9, p10⟩ := hI
    have r7 := r6 i
    have r8 := r5 s
    obtain ⟨e40, e42, e41⟩ := p7.2.2.1 i (by omega) p2
    have e38 : A1 38 (A1 40 i.toNat).toNat = A 38 (A 40 i.toNat).toNat := by rw [e40, p7.1 38 (by decide) (by decide) (by decide) (by decide)]
    have e32 : A1 32 s.toNat = A 32 s.toNat := by rw [p7.1 32 (by decide) (by decide) (by decide) (by decide)]
    have e31 : A1 31 s.toNat = A 31 s.toNat := by rw [p7.1 31 (by decide) (by decide) (by decide) (by decide)]
    have p11 := p9 s
    repeat' first
      | (have g9 : A1 33 s.toNat ≠ 0 := (by omega); (refine Exists.intro _ (And.intro ?_ (Exists.intro (kp) (Exists.intro (i) (Exists.intro (_) (Exists.intro (_) (Exists.intro (s + 1) (And.intro rfl (And.intro rfl (And.intro rfl (And.intro rfl (And.intro rfl (And.intro rfl (?_))))))))))))) <;> first | omega | exact ⟨p1, p2, p3, by omega, by omega, p6, mq_tk_33 p7 (fun t a => by rw [h, md_u_t a]), fun s1 a b => (by rcases (show s1 < s ∨ s1 = s by omega) with hd | rfl <;> first | (unfold mq_ac; rw [h, md_u_k (by omega)]; exact p8 s1 a hd) | (unfold mq_ac; rw [h, md_u_s]; have p12 := p11 (by omega) (by omega); unfold mq_ac at p12; exact Or.inl ⟨rfl, mq_du_s (p12.resolve_right (fun z => by omega)).2⟩)), fun s1 a b => (by unfold mq_ac; rw [h, md_u_k (by omega)]; exact p9 s1 (by omega) b), fun s1 a => (by rw [h, md_u_k (by omega)]; exact p10 s1 a)⟩))
      | (have g9 : (A 32 s.toNat ≤ A 38 (A 40 i.toNat).toNat ∧ A 38 (A 40 i.toNat).toNat < A 32 s.toNat + A 31 s.toNat) := (by omega); (refine Exists.intro _ (And.intro ?_ (Exists.intro (kp) (Exists.intro (i) (Exists.intro (_) (Exists.intro (_) (Exists.intro (s + 1) (And.intro rfl (And.intro rfl (And.intro rfl (And.intro rfl (And.intro rfl (And.intro rfl (?_))))))))))))) <;> first | omega | exact ⟨p1, p2, p3, by omega, by omega, p6, mq_tk_33 p7 (fun t a => by rw [h, md_u_t a]), fun s1 a b => (by rcases (show s1 < s ∨ s1 = s by omega) with hd | rfl <;> first | (unfold mq_ac; rw [h, md_u_k (by omega)]; exact p8 s1 a hd) | (unfold mq_ac; rw [h, md_u_s]; have p12 := p11 (by omega) (by omega); unfold mq_ac at p12; exact Or.inl ⟨rfl, i, by omega, by omega, p6, by omega, by omega⟩)), fun s1 a b => (by unfold mq_ac; rw [h, md_u_k (by omega)]; exact p9 s1 (by omega) b), fun s1 a => (by rw [h, md_u_k (by omega)]; exact p10 s1 a)⟩))
      | (have g9 : A1 33 s.toNat = 0 ∧ ¬ (A 32 s.toNat ≤ A 38 (A 40 i.toNat).toNat ∧ A 38 (A 40 i.toNat).toNat < A 32 s.toNat + A 31 s.toNat) := (by omega); (refine Exists.intro _ (And.intro ?_ (Exists.intro (kp) (Exists.intro (i) (Exists.intro (_) (Exists.intro (_) (Exists.intro (s + 1) (And.intro rfl (And.intro rfl (And.intro rfl (And.intro rfl (And.intro rfl (And.intro rfl (?_))))))))))))) <;> first | omega | exact ⟨p1, p2, p3, by omega, by omega, p6, mq_tk_33 p7 (fun t a => by rw [h, md_u_t a]), fun s1 a b => (by rcases (show s1 < s ∨ s1 = s by omega) with hd | rfl <;> first | (unfold mq_ac; rw [h, md_u_k (by omega)]; exact p8 s1 a hd) | (unfold mq_ac; rw [h, md_u_s]; have p12 := p11 (by omega) (by omega); unfold mq_ac at p12; exact Or.inr ⟨rfl, mq_du_n (p12.resolve_left (fun z => by omega)).2 (Or.inr (fun z => by omega))⟩)), fun s1 a b => (by unfold mq_ac; rw [h, md_u_k (by omega)]; exact p9 s1 (by omega) b), fun s1 a => (by rw [h, md_u_k (by omega)]; exact p10 s1 a)⟩))
      | (have ed : s = sg := (by omega); subst ed; refine Exists.intro _ (And.intro ?_ (Exists.intro (kp) (Exists.intro (i + 1) (Exists.intro (_) (Exists.intro (_) (Exists.intro (_) (And.intro rfl (And.intro rfl (And.intro rfl (And.intro rfl (And.intro rfl (And.intro rfl (?_))))))))))))) <;> first | omega | exact ⟨p1, by omega, by omega, p7, p8, p10⟩)
      | refine And.intro ?_ ?_
      | (intro h; try omega)
      | omega
      | exact Nat.le_of_ble_eq_true rfl
  · refine Exists.intro _ (Exists.intro (0) (Exists.intro (_) (Exists.intro (_) (And.intro rfl (And.intro rfl (And.intro (mq_eA mq_g_0.symm) (And.intro rfl (And.intro rfl (And.intro rfl (⟨by omega, by omega⟩))))))))))
end
section
/-! THE REFERENCE, 10: what assignOne does, in lists -/
/-- what is laid down for an element, as transactions -/
def mq_ns (A B : mq_A) (nw k : Int) : Nat → List (Int × Int)
  | 0 => []
  | w + 1 => mq_ns A B nw k w ++ [(nw + B 52 w, A 51 (64 * (w : Int) + k).toNat)]
/-- the earlier ones, with the marks that they have at first -/
def mq_om (bg li mo : Int) (R : List (Int × Int)) : List (Int × Int × Bool) := (R.filter (fun x => decide (x.1 < bg))).map (fun x => (x.1, x.2, decide (mo = 1 ∨ x.1 < bg - li)))
/-- which of them stay: a mark goes from one to the one before it -/
def mq_kp (c : Int) : List (Int × Int × Bool) → List (Int × Int) × Bool × Int
  | [] => ([], true, c)
  | x :: r => if x.2.2 = true ∨ ((mq_kp c r).2.1 = true ∧ x.2.1 = (mq_kp c r).2.2) then ((x.1, x.2.1) :: (mq_kp c r).1, true, x.2.1) else ((mq_kp c r).1, false, x.2.1)
/-- the marked ones of the first n -/
def mq_cl (A B : mq_A) : Nat → List (Int × Int)
  | 0 => []
  | n + 1 => if A 45 n ≠ 0 then mq_cl A B n ++ [(B 43 n, A 44 n)] else mq_cl A B n
def mq_cf (A B : mq_A) : Nat → Nat → List (Int × Int)
  | _, 0 => []
  | o, n + 1 => if A 45 o ≠ 0 then (B 43 o, A 44 o) :: mq_cf A B (o + 1) n else mq_cf A B (o + 1) n
theorem mq_cf_s {A B : mq_A} : ∀ (n o : Nat), mq_cf A B o (n + 1) = if A 45 (o + n) ≠ 0 then mq_cf A B o n ++ [(B 43 (o + n), A 44 (o + n))] else mq_cf A B o n
  | 0, o => by simp [mq_cf]
  | n + 1, o => by
    rw [mq_cf, mq_cf_s n (o + 1), mq_cf, show o + 1 + n = o + (n + 1) by omega]
    by_cases h1 : A 45 o ≠ 0 <;> by_cases h2 : A 45 (o + (n + 1)) ≠ 0 <;> simp [h1, h2]
theorem mq_cl_f {A B : mq_A} : ∀ n : Nat, mq_cl A B n = mq_cf A B 0 n
  | 0 => rfl
  | n + 1 => by rw [mq_cf_s, mq_cl, mq_cl_f n, Nat.zero_add]
theorem mq_cl_b {A B : mq_A} : ∀ n : Nat, (mq_cl A B n).length ≤ n
  | 0 => Nat.le_refl 0
  | n + 1 => by
    have := mq_cl_b (A := A) (B := B) n
    simp only [mq_cl]
    split
    · rw [List.length_append]; simp only [List.length_cons, List.length_nil]; omega
    · omega
theorem mq_cl_s {A B : mq_A} {i : Int} (h : 0 ≤ i) : mq_cl A B (i + 1).toNat = if A 45 i.toNat ≠ 0 then mq_cl A B i.toNat ++ [(B 43 i.toNat, A 44 i.toNat)] else mq_cl A B i.toNat := by
  rw [show (i + 1).toNat = i.toNat + 1 by omega]
  rfl
theorem mq_kp_f {A B : mq_A} {c : Int} : ∀ (X : List (Int × Int × Bool)) (o : Nat), (∀ j x, X[j]? = some x → B 43 (o + j) = x.1 ∧ A 44 (o + j) = x.2.1 ∧ (A 45 (o + j) ≠ 0 ↔ x.2.2 = true ∨ (A 45 (o + j + 1) ≠ 0 ∧ x.2.1 = A 44 (o + j + 1)))) → A 45 (o + X.length) ≠ 0 → A 44 (o + X.length) = c →
    (mq_kp c X).1 = mq_cf A B o X.length ∧ ((mq_kp c X).2.1 = true ↔ A 45 o ≠ 0) ∧ (mq_kp c X).2.2 = A 44 o
  | [], o, _, h1, h2 => by
    simp only [List.length_nil, Nat.add_zero] at h1 h2
    exact ⟨rfl, ⟨fun _ => h1, fun _ => rfl⟩, h2.symm⟩
  | x :: r, o, h, h1, h2 => by
    obtain ⟨i1, i2, i3⟩ := mq_kp_f (c := c) r (o + 1) (fun j y hy => by
      have := h (j + 1) y (by simpa using hy)
      rw [show o + 1 + j = o + (j + 1) by omega]
      exact this) (by rw [show o + 1 + r.length = o + (x :: r).length by rw [List.length_cons]; omega]; exact h1) (by rw [show o + 1 + r.length = o + (x :: r).length by rw [List.length_cons]; omega]; exact h2)
    obtain ⟨g1, g2, g3⟩ := h 0 x (by simp)
    rw [Nat.add_zero] at g1 g2 g3
    have e : (x.2.2 = true ∨ ((mq_kp c r).2.1 = true ∧ x.2.1 = (mq_kp c r).2.2)) ↔ A 45 o ≠ 0 := by rw [g3, i2, i3]
    by_cases hm : A 45 o ≠ 0
    · simp only [mq_kp, List.length_cons, mq_cf]
      rw [if_pos (e.mpr hm), if_pos hm, i1, g1, g2]
      exact ⟨rfl, ⟨fun _ => hm, fun _ => rfl⟩, rfl⟩
    · simp only [mq_kp, List.length_cons, mq_cf]
      rw [if_neg (fun z => hm (e.mp z)), if_neg hm, i1, g2]
      exact ⟨rfl, ⟨fun z => (by cases z), fun z => absurd z hm⟩, rfl⟩
/-- the scratch arrays hold X -/
def mq_s1 (A B A1 B1 : mq_A) (X : List (Int × Int × Bool)) (n : Int) : Prop :=
  (∀ t, t ≠ 44 → t ≠ 45 → A1 t = A t) ∧ (∀ t, t ≠ 43 → B1 t = B t) ∧ n = X.length ∧ ∀ (j : Nat) x, X[j]? = some x → B1 43 j = x.1 ∧ A1 44 j = x.2.1 ∧ A1 45 j = (if x.2.2 = true then 1 else 0)
theorem mq_s1_a {A B A1 B1 : mq_A} {X : List (Int × Int × Bool)} {n t v m : Int} {b : Bool} (h : mq_s1 A B A1 B1 X n) (hm : m = if b = true then 1 else 0) : mq_s1 A B (md_u (md_u A1 44 n.toNat v) 45 n.toNat m) (md_u B1 43 n.toNat t) (X ++ [(t, v, b)]) (n + 1) := by
  obtain ⟨h1, h2, h3, h4⟩ := h
  refine ⟨fun t a b => by rw [md_u_t b, md_u_t a]; exact h1 t a b, fun t a => by rw [md_u_t a]; exact h2 t a, by rw [List.length_append]; simp only [List.length_cons, List.length_nil]; omega, fun j x hx => ?_⟩
  by_cases e : j < X.length
  · rw [List.getElem?_append_left e] at hx
    rw [md_u_k (by omega), md_u_t (by decide), md_u_k (by omega), md_u_k (by omega), md_u_t (by decide)]
    exact h4 j x hx
  · rw [List.getElem?_append_right (by omega)] at hx
    have hj : j = n.toNat := by
      rcases Nat.lt_or_ge (j - X.length) 1 with g | g
      · omega
      · rw [List.getElem?_eq_none (by simpa using g)] at hx
        cases hx
    subst hj
    rw [show n.toNat - X.length = 0 by omega] at hx
    cases hx
    rw [md_u_s, md_u_t (by decide), md_u_s, md_u_s]
    exact ⟨rfl, rfl, hm⟩
def mq_s3 (A B A1 B1 : mq_A) (X : List (Int × Int × Bool)) (ol i : Int) : Prop :=
  (∀ t, t ≠ 44 → t ≠ 45 → A1 t = A t) ∧ (∀ t, t ≠ 43 → B1 t = B t) ∧ ∀ (j : Nat) x, X[j]? = some x → B1 43 j = x.1 ∧ A1 44 j = x.2.1 ∧ (((j : Int) ≤ i ∨ ol ≤ j) → A1 45 j = (if x.2.2 = true then 1 else 0)) ∧ (i < j → (j : Int) < ol → (A1 45 j = 0 ∨ A1 45 j = 1) ∧ (A1 45 j ≠ 0 ↔ x.2.2 = true ∨ (A1 45 (j + 1) ≠ 0 ∧ x.2.1 = A1 44 (j + 1))))
theorem mq_s3_0 {A B A1 B1 : mq_A} {X : List (Int × Int × Bool)} {n ol : Int} (h : mq_s1 A B A1 B1 X n) : mq_s3 A B A1 B1 X ol (ol - 1) := by
  obtain ⟨h1, h2, h3, h4⟩ := h
  refine ⟨h1, h2, fun j x hx => ?_⟩
  obtain ⟨a, b, c⟩ := h4 j x hx
  exact ⟨a, b, fun _ => c, fun z1 z2 => by omega⟩
theorem mq_s3_s {A B A1 B1 : mq_A} {X : List (Int × Int × Bool)} {ol i m : Int} (h : mq_s3 A B A1 B1 X ol i) (h0 : 0 ≤ i) (h9 : i < ol) (hm : (m = 1 ∧ (A1 45 i.toNat ≠ 0 ∨ (A1 45 (i + 1).toNat ≠ 0 ∧ A1 44 i.toNat = A1 44 (i + 1).toNat))) ∨ (m = 0 ∧ ¬ (A1 45 i.toNat ≠ 0 ∨ (A1 45 (i + 1).toNat ≠ 0 ∧ A1 44 i.toNat = A1 44 (i + 1).toNat)))) :
    mq_s3 A B (md_u A1 45 i.toNat m) B1 X ol (i - 1) := by
  obtain ⟨h1, h2, h4⟩ := h
  refine ⟨fun t a b => by rw [md_u_t b]; exact h1 t a b, h2, fun j x hx => ?_⟩
  obtain ⟨a, b, c, d⟩ := h4 j x hx
  rw [md_u_t (by decide)]
  refine ⟨a, b, fun z => ?_, fun z1 z2 => ?_⟩
  · rw [md_u_k (by omega)]
    exact c (by omega)
  · rcases (show i < j ∨ j = i.toNat by omega) with z3 | rfl
    · rw [md_u_k (by omega), md_u_k (by omega)]
      exact d z3 z2
    · rw [md_u_s, md_u_k (by omega)]
      have c1 := c (Or.inl (by omega))
      rw [show (i + 1).toNat = i.toNat + 1 by omega, c1, b] at hm
      refine ⟨by omega, ?_⟩
      rcases hm with ⟨rfl, z⟩ | ⟨rfl, z⟩
      · refine ⟨fun _ => ?_, fun _ => by decide⟩
        rcases z with z | z
        · left
          by_cases e : x.2.2 = true
          · exact e
          · rw [if_neg e] at z; exact absurd rfl z
        · exact Or.inr z
      · refine ⟨fun z9 => absurd rfl z9, fun z9 => absurd ?_ z⟩
        rcases z9 with z9 | z9
        · left; rw [if_pos z9]; decide
        · exact Or.inr z9
theorem mq_s3_e {A B A1 B1 : mq_A} {nw k c : Int} {X : List (Int × Int × Bool)} {N : List (Int × Int)} {ol : Int} (h : mq_s3 A B A1 B1 (X ++ N.map (fun x => (x.1, x.2, true))) ol (-1)) (ho : ol = X.length) (hc : (N[0]?).map (fun x => x.2) = some c) :
    mq_cl A1 B1 X.length = (mq_kp c X).1 ∧ ∀ w : Nat, w ≤ N.length → mq_cl A1 B1 (X.length + w) = (mq_kp c X).1 ++ N.take w := by
  obtain ⟨h1, h2, h4⟩ := h
  have e0 : mq_cl A1 B1 X.length = (mq_kp c X).1 := by
    cases hN : N[0]? with
    | none => rw [hN] at hc; cases hc
    | some y =>
      rw [hN] at hc
      have hc2 : y.2 = c := by simpa using hc
      have hy : (X ++ N.map (fun x => (x.1, x.2, true)))[X.length]? = some (y.1, y.2, true) := by
        rw [List.getElem?_append_right (Nat.le_refl _), Nat.sub_self, List.getElem?_map, hN]
        rfl
      obtain ⟨a, b, d, -⟩ := h4 X.length _ hy
      have d1 := d (Or.inr (by omega))
      rw [mq_cl_f]
      refine (mq_kp_f X 0 (fun j x hx => ?_) ?_ ?_).1.symm
      · have hl : j < X.length := by
          rcases Nat.lt_or_ge j X.length with g | g
          · exact g
          · rw [List.getElem?_eq_none g] at hx; cases hx
        obtain ⟨a1, b1, -, d2⟩ := h4 j x (by rw [List.getElem?_append_left hl]; exact hx)
        rw [Nat.zero_add]
        exact ⟨a1, b1, (d2 (by omega) (by omega)).2⟩
      · rw [Nat.zero_add, d1]; exact Int.one_ne_zero
      · rw [Nat.zero_add, b]; exact hc2
  refine ⟨e0, fun w => ?_⟩
  induction w with
  | zero => intro _; rw [Nat.add_zero, List.take_zero, List.append_nil]; exact e0
  | succ w ih =>
    intro hw
    have hy : (X ++ N.map (fun x => (x.1, x.2, true)))[X.length + w]? = some ((N[w]'(by omega)).1, (N[w]'(by omega)).2, true) := by
      rw [List.getElem?_append_right (by omega), show X.length + w - X.length = w by omega, List.getElem?_map, List.getElem?_eq_getElem (by omega)]
      rfl
    obtain ⟨a, b, d, -⟩ := h4 _ _ hy
    have d1 := d (Or.inr (by omega))
    rw [← Nat.add_assoc, mq_cl, if_pos (by rw [d1]; exact Int.one_ne_zero), ih (by omega), a, b, List.append_assoc, List.take_add_one, List.getElem?_eq_getElem (by omega)]
    rfl
end
section
/-! THE REFERENCE, 11: assignOne -/
theorem mq_row_w {A1 B1 : mq_A} {kp c v t d : Int} (h0 : 0 ≤ kp) : mq_row (md_u (md_u A1 40 kp.toNat c) 42 kp.toNat v) (md_u B1 41 kp.toNat t) d (kp + 1).toNat = if c = d then mq_row A1 B1 d kp.toNat ++ [(t, v)] else mq_row A1 B1 d kp.toNat := by
  rw [mq_row_s h0, mq_row_c (A := A1) (B := B1) _ (fun j hj => ⟨by rw [md_u_t (by decide), md_u_k (by omega)], by rw [md_u_k (by omega), md_u_t (by decide)], by rw [md_u_k (by omega)]⟩)]
  rw [md_u_t (by decide), md_u_s, md_u_s, md_u_s]
def mq_q4 (A B A1 B1 : mq_A) (d kp i : Int) : Prop :=
  (∀ t, t ≠ 40 → t ≠ 42 → A1 t = A t) ∧ (∀ t, t ≠ 41 → B1 t = B t) ∧ (∀ j : Int, 0 ≤ j → kp ≤ j → A1 40 j.toNat = A 40 j.toNat ∧ A1 42 j.toNat = A 42 j.toNat ∧ B1 41 j.toNat = B 41 j.toNat) ∧
  (∀ d', d' ≠ d → mq_row A1 B1 d' kp.toNat = mq_row A B d' i.toNat) ∧ mq_row A1 B1 d kp.toNat = [] ∧ (∀ j : Int, 0 ≤ j → j < kp → ∃ j' : Int, 0 ≤ j' ∧ j' < i ∧ A1 40 j.toNat = A 40 j'.toNat) ∧ kp + (mq_row A B d i.toNat).length = i
theorem mq_q4_0 {A B : mq_A} {d : Int} : mq_q4 A B A B d 0 0 :=
  ⟨fun _ _ _ => rfl, fun _ _ => rfl, fun _ _ _ => ⟨rfl, rfl, rfl⟩, fun _ _ => rfl, rfl, fun j a b => by omega, rfl⟩
theorem mq_q4_d {A B A1 B1 : mq_A} {d kp i : Int} (h : mq_q4 A B A1 B1 d kp i) (h0 : 0 ≤ i) (h1 : A 40 i.toNat = d) : mq_q4 A B A1 B1 d kp (i + 1) := by
  obtain ⟨t1, t2, t3, t4, t5, t6, t7⟩ := h
  refine ⟨t1, t2, t3, fun d' hd => ?_, t5, fun j a b => ?_, ?_⟩
  · rw [mq_row_s h0, if_neg (by omega)]
    exact t4 d' hd
  · obtain ⟨j', a1, a2, a3⟩ := t6 j a b
    exact ⟨j', a1, by omega, a3⟩
  · rw [mq_row_s h0, if_pos h1, List.length_append]
    simp only [List.length_cons, List.length_nil]
    omega
theorem mq_q4_m {A B A1 B1 : mq_A} {d kp i : Int} (h : mq_q4 A B A1 B1 d kp i) (h0 : 0 ≤ kp) (h2 : kp ≤ i) (h1 : A 40 i.toNat ≠ d) : mq_q4 A B (md_u (md_u A1 40 kp.toNat (A1 40 i.toNat)) 42 kp.toNat (A1 42 i.toNat)) (md_u B1 41 kp.toNat (B1 41 i.toNat)) d (kp + 1) (i + 1) := by
  obtain ⟨t1, t2, t3, t4, t5, t6, t7⟩ := h
  obtain ⟨e1, e2, e3⟩ := t3 i (by omega) h2
  refine ⟨fun t a b => by rw [md_u_t b, md_u_t a]; exact t1 t a b, fun t a => by rw [md_u_t a]; exact t2 t a, fun j a b => ?_, fun d' hd => ?_, ?_, fun j a b => ?_, ?_⟩
  · rw [md_u_t (by decide), md_u_k (by omega), md_u_k (by omega), md_u_t (by decide), md_u_k (by omega)]
    exact t3 j a (by omega)
  · rw [mq_row_w h0, mq_row_s (show 0 ≤ i by omega), e1, e2, e3, t4 d' hd]
  · rw [mq_row_w h0, e1, if_neg h1, t5]
  · rw [md_u_t (by decide)]
    rcases (show j < kp ∨ j = kp by omega) with hd | rfl
    · rw [md_u_k (by omega)]
      obtain ⟨j', a1, a2, a3⟩ := t6 j a hd
      exact ⟨j', a1, by omega, a3⟩
    · rw [md_u_s]
      exact ⟨i, by omega, by omega, e1⟩
  · rw [mq_row_s (show 0 ≤ i by omega), if_neg h1]
    omega
def mq_q5 (A B A1 B1 : mq_A) (d sz kp i : Int) : Prop :=
  (∀ t, t ≠ 40 → t ≠ 42 → A1 t = A t) ∧ (∀ t, t ≠ 41 → B1 t = B t) ∧ (∀ d', d' ≠ d → mq_row A1 B1 d' kp.toNat = mq_row A B d' sz.toNat) ∧ mq_row A1 B1 d kp.toNat = mq_cl A B i.toNat ∧
  (∀ j : Int, 0 ≤ j → j < kp → (∃ j' : Int, 0 ≤ j' ∧ j' < sz ∧ A1 40 j.toNat = A 40 j'.toNat) ∨ A1 40 j.toNat = d) ∧ kp + (mq_row A B d sz.toNat).length = sz + (mq_cl A B i.toNat).length
theorem mq_q5_0 {A B A1 B1 : mq_A} {d kp sz : Int} (h : mq_q4 A B A1 B1 d kp sz) : mq_q5 A B A1 B1 d sz kp 0 := by
  obtain ⟨t1, t2, t3, t4, t5, t6, t7⟩ := h
  exact ⟨t1, t2, t4, t5, fun j a b => Or.inl (t6 j a b), by rw [show (Int.toNat 0) = 0 from rfl]; simp only [mq_cl, List.length_nil]; omega⟩
theorem mq_q5_n {A B A1 B1 : mq_A} {d sz kp i : Int} (h : mq_q5 A B A1 B1 d sz kp i) (h0 : 0 ≤ i) (h1 : A 45 i.toNat = 0) : mq_q5 A B A1 B1 d sz kp (i + 1) := by
  obtain ⟨t1, t2, t4, t5, t6, t7⟩ := h
  refine ⟨t1, t2, t4, ?_, t6, ?_⟩ <;> rw [mq_cl_s h0, if_neg (fun z => z h1)] <;> assumption
theorem mq_q5_a {A B A1 B1 : mq_A} {d sz kp i : Int} (h : mq_q5 A B A1 B1 d sz kp i) (hk : 0 ≤ kp) (h0 : 0 ≤ i) (h1 : A 45 i.toNat ≠ 0) : mq_q5 A B (md_u (md_u A1 40 kp.toNat d) 42 kp.toNat (A 44 i.toNat)) (md_u B1 41 kp.toNat (B 43 i.toNat)) d sz (kp + 1) (i + 1) := by
  obtain ⟨t1, t2, t4, t5, t6, t7⟩ := h
  refine ⟨fun t a b => by rw [md_u_t b, md_u_t a]; exact t1 t a b, fun t a => by rw [md_u_t a]; exact t2 t a, fun d' hd => ?_, ?_, fun j a b => ?_, ?_⟩
  · rw [mq_row_w hk, if_neg (fun z => hd z.symm), t4 d' hd]
  · rw [mq_row_w hk, if_pos rfl, t5, mq_cl_s h0, if_pos h1]
  · rw [md_u_t (by decide)]
    rcases (show j < kp ∨ j = kp by omega) with hd | rfl
    · rw [md_u_k (by omega)]
      exact t6 j a hd
    · rw [md_u_s]
      exact Or.inr rfl
  · rw [mq_cl_s h0, if_pos h1, List.length_append]
    simp only [List.length_cons, List.length_nil]
    omega
theorem mq_ns_l {A B : mq_A} {nw k : Int} : ∀ n : Nat, (mq_ns A B nw k n).length = n
  | 0 => rfl
  | n + 1 => by simp only [mq_ns]; rw [List.length_append, mq_ns_l n]; rfl
theorem mq_ns_h {A B : mq_A} {nw k : Int} : ∀ n : Nat, 1 ≤ n → (mq_ns A B nw k n)[0]? = some (nw + B 52 0, A 51 (64 * ((0 : Nat) : Int) + k).toNat)
  | 0, h => by omega
  | 1, _ => rfl
  | n + 2, _ => by
    rw [mq_ns, List.getElem?_append_left (by rw [mq_ns_l]; omega)]
    exact mq_ns_h (n + 1) (by omega)
theorem mq_ns_s {A B : mq_A} {nw k w : Int} (h : 0 ≤ w) : mq_ns A B nw k (w + 1).toNat = mq_ns A B nw k w.toNat ++ [(nw + B 52 w.toNat, A 51 (64 * w + k).toNat)] := by
  rw [show (w + 1).toNat = w.toNat + 1 by omega, mq_ns, show ((w.toNat : Nat) : Int) = w by omega]
theorem mq_om_b {bg li mo : Int} {R : List (Int × Int)} : (mq_om bg li mo R).length ≤ R.length := by
  unfold mq_om
  rw [List.length_map]
  exact List.length_filter_le _ _
theorem mq_om_a {bg li mo : Int} {R : List (Int × Int)} {t v : Int} (h : t < bg) : mq_om bg li mo (R ++ [(t, v)]) = mq_om bg li mo R ++ [(t, v, decide (mo = 1 ∨ t < bg - li))] := by
  unfold mq_om
  rw [List.filter_append, List.map_append, List.filter_cons_of_pos (by simpa using h)]
  rfl
theorem mq_om_n {bg li mo : Int} {R : List (Int × Int)} {t v : Int} (h : bg ≤ t) : mq_om bg li mo (R ++ [(t, v)]) = mq_om bg li mo R := by
  unfold mq_om
  rw [List.filter_append, List.map_append, List.filter_cons_of_neg (by simp only [decide_eq_true_eq]; omega)]
  simp
theorem mq_row_e {A B A1 B1 : mq_A} {d : Int} {n : Nat} (h1 : A1 40 = A 40) (h2 : A1 42 = A 42) (h3 : B1 41 = B 41) : mq_row A1 B1 d n = mq_row A B d n := mq_row_c n (fun j _ => by rw [h1, h2, h3]; exact ⟨rfl, rfl, rfl⟩)
abbrev mq_tr (x : Int × Int) : Int × Int × Bool := (x.1, x.2, true)
def sm_98 (as : List wi_V) (M : mq_H) (q : wi_Q1 mq_H) (_ : wi_Q2 mq_H) : Prop := mq_sIIIJ as (fun d k mo li => mq_f M fun cd lm st sg el dr sz pr wc sp nw A B => 0 ≤ k ∧ k < 64 ∧ 1 ≤ wc ∧ wc ≤ 16 ∧ 0 ≤ sz ∧ sz + wc ≤ 8192 ∧ 0 ≤ nw ∧ nw ≤ 1152921504606846976 ∧ (∀ j : Int, 0 ≤ j → j < wc → 0 ≤ B 52 j.toNat ∧ B 52 j.toNat ≤ 1152921504606846976) ∧ (mo = 1 ∨ (0 ≤ li ∧ li ≤ (nw + B 52 (Int.toNat 0)))) ∧ ∀ (A1 B1 : mq_A) (kp : Int), (∀ t, t ≠ 40 → t ≠ 42 → t ≠ 44 → t ≠ 45 → A1 t = A t) → (∀ t, t ≠ 41 → t ≠ 43 → B1 t = B t) → 0 ≤ kp → kp + (mq_row A B d sz.toNat).length = sz + ((mq_kp (A 51 (64 * ((0 : Nat) : Int) + k).toNat) (mq_om (nw + B 52 (Int.toNat 0)) li mo (mq_row A B d sz.toNat))).1.length + wc) → (∀ d', d' ≠ d → mq_row A1 B1 d' kp.toNat = mq_row A B d' sz.toNat) → mq_row A1 B1 d kp.toNat = (mq_kp (A 51 (64 * ((0 : Nat) : Int) + k).toNat) (mq_om (nw + B 52 (Int.toNat 0)) li mo (mq_row A B d sz.toNat))).1 ++ (mq_ns A B nw k wc.toNat) →
  (∀ j : Int, 0 ≤ j → j < kp → (∃ j' : Int, 0 ≤ j' ∧ j' < sz ∧ A1 40 j.toNat = A 40 j'.toNat) ∨ A1 40 j.toNat = d) → q (some (.inl (((mq_row A B d sz.toNat).length : Int) - (mq_kp (A 51 (64 * ((0 : Nat) : Int) + k).toNat) (mq_om (nw + B 52 (Int.toNat 0)) li mo (mq_row A B d sz.toNat))).1.length))) ([cd, lm, st, sg, el, dr, kp, pr, wc, sp, nw], A1, B1))
theorem mm_98 {l : Launch} {D : va_G} {aC : wm_Y} {b0 : Nat} (hl0 : l.stackTraces = false) : wm_sp l D aC b0 98 (wi_lf mq_Rl sm_98) := by
  refine wi_method mq_lw 98 (cx := fun id => if id = 99 then sm_99 else fun _ _ _ _ => False) (ids := ci_98) (tb := tb_98) (by decide +kernel) hl0 (wm_cxc (mm_99 hl0) oi_98 (fun h => wm_cxn h)) (wm_tb_ok tk_98) (by decide +kernel) [22, 135, 205, 275, 318] 250 (fun as M q qt hs => ?_)
  obtain ⟨d, k, mo, li, rfl, hs1⟩ := mq_sIIIJ_e hs
  clear hs
  obtain ⟨cd, lm, st, sg, el, dr, sz, pr, wc, sp, nw, A, B, rfl, hs⟩ := mq_f_e hs1
  clear hs1
  obtain ⟨r1, r2, r3, r4, r5, r6, r7, r8, r9, r10, h1⟩ := hs
  have r11 := r9 0 (by omega) (by omega)
  refine ⟨rfl, fun mz pc lv sk h cu su => match pc with | 22 => ∃ n : Int, ∃ old : Int, ∃ i : Int, ∃ A1 : mq_A, ∃ B1 : mq_A, ∃ y1 : Option wi_V, ∃ y2 : Option wi_V, ∃ y3 : Option wi_V, lv = [some (wi_rf (some 11)), some (.inl (d)), some (.inl (k)), some (.inl (mo)), some (.inr (.inl (li))), none, some (.inr (.inl ((nw + B 52 (Int.toNat 0))))), none, some (.inl (n)), some (.inl (old)), some (.inl (i)), y1, y2, y3] ∧ sk = [] ∧ h = ([cd, lm, st, sg, el, dr, sz, pr, wc, sp, nw], A1, B1) ∧ cu = 0 ∧ su = 0 ∧ mz = (50000 - i).toNat ∧ 0 ≤ i ∧ i ≤ sz ∧ mq_s1 A B A1 B1 (mq_om (nw + B 52 (Int.toNat 0)) li mo (mq_row A B d i.toNat)) n ∧ old = (mq_row A B d i.toNat).length | 135 => ∃ n : Int, ∃ old : Int, ∃ ol : Int, ∃ w : Int, ∃ A1 : mq_A, ∃ B1 : mq_A, ∃ y2 : Option wi_V, ∃ y3 : Option wi_V, lv = [some (wi_rf (some 11)), some (.inl (d)), some (.inl (k)), some (.inl (mo)), some (.inr (.inl (li))), none, some (.inr (.inl ((nw + B 52 (Int.toNat 0))))), none, some (.inl (n)), some (.inl (old)), some (.inl (ol)), some (.inl (w)), y2, y3] ∧ sk = [] ∧ h = ([cd, lm, st, sg, el, dr, sz, pr, wc, sp, nw], A1, B1) ∧ cu = 0 ∧ su = 0 ∧ mz = (40000 - w).toNat ∧ 0 ≤ w ∧ w ≤ wc ∧ mq_s1 A B A1 B1 ((mq_om (nw + B 52 (Int.toNat 0)) li mo (mq_row A B d sz.toNat)) ++ (mq_ns A B nw k w.toNat).map mq_tr) n ∧ old = (mq_row A B d sz.toNat).length ∧ ol = (mq_om (nw + B 52 (Int.toNat 0)) li mo (mq_row A B d sz.toNat)).length | 205 => ∃ n : Int, ∃ old : Int, ∃ ol : Int, ∃ i : Int, ∃ A1 : mq_A, ∃ B1 : mq_A, ∃ y2 : Option wi_V, ∃ y3 : Option wi_V, lv = [some (wi_rf (some 11)), some (.inl (d)), some (.inl (k)), some (.inl (mo)), some (.inr (.inl (li))), none, some (.inr (.inl ((nw + B 52 (Int.toNat 0))))), none, some (.inl (n)), some (.inl (old)), some (.inl (ol)), some (.inl (i)), y2, y3] ∧ sk = [] ∧ h = ([cd, lm, st, sg, el, dr, sz, pr, wc, sp, nw], A1, B1) ∧ cu = 0 ∧ su = 0 ∧ mz = (20000 + i).toNat ∧ -1 ≤ i ∧ i < ol ∧ mq_s3 A B A1 B1 ((mq_om (nw + B 52 (Int.toNat 0)) li mo (mq_row A B d sz.toNat)) ++ (mq_ns A B nw k wc.toNat).map mq_tr) ol i ∧ old = (mq_row A B d sz.toNat).length ∧ ol = (mq_om (nw + B 52 (Int.toNat 0)) li mo (mq_row A B d sz.toNat)).length ∧ n = ol + wc | 275 => ∃ n : Int, ∃ old : Int, ∃ ol : Int, ∃ kp : Int, ∃ i : Int, ∃ A1 : mq_A, ∃ B1 : mq_A, ∃ A3 : mq_A, ∃ B3 : mq_A, ∃ y3 : Option wi_V, lv = [some (wi_rf (some 11)), some (.inl (d)), some (.inl (k)), some (.inl (mo)), some (.inr (.inl (li))), none, some (.inr (.inl ((nw + B 52 (Int.toNat 0))))), none, some (.inl (n)), some (.inl (old)), some (.inl (ol)), some (.inl (kp)), some (.inl (i)), y3] ∧ sk = [] ∧ h = ([cd, lm, st, sg, el, dr, sz, pr, wc, sp, nw], A1, B1) ∧ cu = 0 ∧ su = 0 ∧ mz = (18500 - i).toNat ∧ 0 ≤ i ∧ i ≤ sz ∧ 0 ≤ kp ∧ kp ≤ i ∧ mq_s3 A B A3 B3 ((mq_om (nw + B 52 (Int.toNat 0)) li mo (mq_row A B d sz.toNat)) ++ (mq_ns A B nw k wc.toNat).map mq_tr) ol (-1) ∧ mq_q4 A3 B3 A1 B1 d kp i ∧ old = (mq_row A B d sz.toNat).length ∧ ol = (mq_om (nw + B 52 (Int.toNat 0)) li mo (mq_row A B d sz.toNat)).length ∧ n = ol + wc | 318 => ∃ n : Int, ∃ old : Int, ∃ ol : Int, ∃ kp : Int, ∃ sy : Int, ∃ i : Int, ∃ A1 : mq_A, ∃ B1 : mq_A, ∃ A3 : mq_A, ∃ B3 : mq_A, lv = [some (wi_rf (some 11)), some (.inl (d)), some (.inl (k)), some (.inl (mo)), some (.inr (.inl (li))), none, some (.inr (.inl ((nw + B 52 (Int.toNat 0))))), none, some (.inl (n)), some (.inl (old)), some (.inl (ol)), some (.inl (kp)), some (.inl (sy)), some (.inl (i))] ∧ sk = [] ∧ h = ([cd, lm, st, sg, el, dr, sz, pr, wc, sp, nw], A1, B1) ∧ cu = 0 ∧ su = 0 ∧ mz = (9000 - i).toNat ∧ 0 ≤ i ∧ i ≤ n ∧ 0 ≤ kp ∧ mq_s3 A B A3 B3 ((mq_om (nw + B 52 (Int.toNat 0)) li mo (mq_row A B d sz.toNat)) ++ (mq_ns A B nw k wc.toNat).map mq_tr) ol (-1) ∧ mq_q5 A3 B3 A1 B1 d sz kp i ∧ old = (mq_row A B d sz.toNat).length ∧ ol = (mq_om (nw + B 52 (Int.toNat 0)) li mo (mq_row A B d sz.toNat)).length ∧ n = ol + wc ∧ (i ≤ ol → sy = (mq_cl A3 B3 i.toNat).length) ∧ (ol ≤ i → sy = (mq_cl A3 B3 ol.toNat).length) | _ => False, mq_c5 (fun mz lv sk h cu su hI => ?_) (fun mz lv sk h cu su hI => ?_) (fun mz lv sk h cu su hI => ?_) (fun mz lv sk h cu su hI => ?_) (fun mz lv sk h cu su hI => ?_), ?_⟩
  · obtain ⟨n, old, i, A1, B1, y1, y2, y3, rfl, rfl, rfl, rfl, rfl, rfl, p1, p2, p3, rfl⟩ := hI
    have b1 := mq_om_b (bg := (nw + B 52 (Int.toNat 0))) (li := li) (mo := mo) (R := mq_row A B d i.toNat)
    have b2 := mq_row_b (A := A) (B := B) (d := d) i.toNat
    have b3 := p3.2.2.1
    have e40 : A1 40 i.toNat = A 40 i.toNat := by rw [p3.1 40 (by decide) (by decide)]
    have e42 : A1 42 i.toNat = A 42 i.toNat := by rw [p3.1 42 (by decide) (by decide)]
    have e41 : B1 41 i.toNat = B 41 i.toNat := by rw [p3.2.1 41 (by decide)]
    have s1 : A 40 i.toNat ≠ d → mq_row A B d (i + 1).toNat = mq_row A B d i.toNat := fun z => by rw [mq_row_s p1, if_neg z]
    have s2 : A 40 i.toNat = d → mq_row A B d (i + 1).toNat = mq_row A B d i.toNat ++ [(B 41 i.toNat, A 42 i.toNat)] := fun z => by rw [mq_row_s p1, if_pos z]
    have s3 : A 40 i.toNat = d → ((mq_row A B d (i + 1).toNat).length : Int) = (mq_row A B d i.toNat).length + 1 := fun z => by rw [s2 z, List.length_append]; rfl
    have s4 : ∀ (m : Int) (A4 A5 B4 : mq_A), A 40 i.toNat = d → B 41 i.toNat < (nw + B 52 (Int.toNat 0)) → (m = 1 ∧ (mo = 1 ∨ B 41 i.toNat < (nw + B 52 (Int.toNat 0)) - li)) ∨ (m = 0 ∧ ¬ (mo = 1 ∨ B 41 i.toNat < (nw + B 52 (Int.toNat 0)) - li)) → B4 = md_u B1 43 n.toNat (B1 41 i.toNat) → A4 = md_u A1 44 n.toNat (A1 42 i.toNat) → A5 = md_u A4 45 n.toNat m → mq_s1 A B A5 B4 (mq_om (nw + B 52 (Int.toNat 0)) li mo (mq_row A B d (i + 1).toNat)) (n + 1) := by
      rintro m A4 A5 B4 z1 z2 z3 rfl rfl rfl
      rw [s2 z1, mq_om_a z2, e41, e42]
      refine mq_s1_a p3 ?_
      rcases z3 with ⟨rfl, z3⟩ | ⟨rfl, z3⟩
      · rw [if_pos (decide_eq_true z3)]
      · rw [if_neg (fun z => z3 (of_decide_eq_true z))]
    repeat' first
      | (intro B4 e4; have e47 : B4 41 i.toNat = B 41 i.toNat := (by rw [e4, md_u_t (by decide)]; exact e41))
      | (have g9 : A 40 i.toNat ≠ d := (by omega); refine Exists.intro _ (And.intro ?_ (Exists.intro (n) (Exists.intro (((mq_row A B d i.toNat).length : Int)) (Exists.intro (i + 1) (Exists.intro (_) (Exists.intro (_) (Exists.intro (_) (Exists.intro (_) (Exists.intro (_) (And.intro rfl (And.intro rfl (And.intro rfl (And.intro rfl (And.intro rfl (And.intro rfl (?_)))))))))))))))) <;> first | omega | exact ⟨by omega, by omega, (by rw [s1 g9]; exact p3), (by rw [s1 g9])⟩)
      | (have g9 : A 40 i.toNat = d ∧ (nw + B 52 (Int.toNat 0)) ≤ B 41 i.toNat := (by omega); refine Exists.intro _ (And.intro ?_ (Exists.intro (n) (Exists.intro (((mq_row A B d i.toNat).length : Int) + 1) (Exists.intro (i + 1) (Exists.intro (_) (Exists.intro (_) (Exists.intro (_) (Exists.intro (_) (Exists.intro (_) (And.intro rfl (And.intro rfl (And.intro rfl (And.intro rfl (And.intro rfl (And.intro rfl (?_)))))))))))))))) <;> first | omega | exact ⟨by omega, by omega, (by rw [s2 g9.1, mq_om_n g9.2]; exact p3), (s3 g9.1).symm⟩)
      | (have g9 : (mo = 1 ∨ B 41 i.toNat < (nw + B 52 (Int.toNat 0)) - li) := (by omega); refine Exists.intro _ (And.intro ?_ (Exists.intro (n + 1) (Exists.intro (((mq_row A B d i.toNat).length : Int) + 1) (Exists.intro (i + 1) (Exists.intro (_) (Exists.intro (_) (Exists.intro (_) (Exists.intro (_) (Exists.intro (_) (And.intro rfl (And.intro rfl (And.intro rfl (And.intro rfl (And.intro rfl (And.intro rfl (?_)))))))))))))))) <;> first | omega | exact ⟨by omega, by omega, s4 1 _ _ _ (by omega) (by omega) (by omega) (by assumption) (by assumption) (by assumption), (s3 (by omega)).symm⟩)
      | (have g9 : ¬ (mo = 1 ∨ B 41 i.toNat < (nw + B 52 (Int.toNat 0)) - li) := (by omega); refine Exists.intro _ (And.intro ?_ (Exists.intro (n + 1) (Exists.intro (((mq_row A B d i.toNat).length : Int) + 1) (Exists.intro (i + 1) (Exists.intro (_) (Exists.intro (_) (Exists.intro (_) (Exists.intro (_) (Exists.intro (_) (And.intro rfl (And.intro rfl (And.intro rfl (And.intro rfl (And.intro rfl (And.intro rfl (?_)))))))))))))))) <;> first | omega | exact ⟨by omega, by omega, s4 0 _ _ _ (by omega) (by omega) (by omega) (by assumption) (by assumption) (by assumption), (s3 (by omega)).symm⟩)
      | (have ed : i = sz := (by omega); subst ed; refine Exists.intro _ (And.intro ?_ (Exists.intro (n) (Exists.intro (_) (Exists.intro (n) (Exists.intro (0) (Exists.intro (_) (Exists.intro (_) (Exists.intro (_) (Exists.intro (_) (And.intro rfl (And.intro rfl (And.intro rfl (And.intro rfl (And.intro rfl (And.intro rfl (?_)))))))))))))))) <;> first | omega | exact ⟨by omega, by omega, (by show mq_s1 A B A1 B1 (_ ++ []) n; rw [List.append_nil]; exact p3), rfl, p3.2.2.1⟩)
      | refine And.intro ?_ ?_
      | (intro h; try omega)
      | omega
      | exact Nat.le_of_ble_eq_true rfl
  · obtain ⟨n, old, ol, w, A1, B1, y2, y3, rfl, rfl, rfl, rfl, rfl, rfl, p1, p2, p3, p4, p5⟩ := hI
    have b1 := mq_om_b (bg := (nw + B 52 (Int.toNat 0))) (li := li) (mo := mo) (R := mq_row A B d sz.toNat)
    have b2 := mq_row_b (A := A) (B := B) (d := d) sz.toNat
    have b3 : n = ol + w := by
      have := p3.2.2.1
      rw [List.length_append, List.length_map, mq_ns_l] at this
      omega
    have r12 := r9 w
    have e52 : B1 52 w.toNat = B 52 w.toNat := by rw [p3.2.1 52 (by decide)]
    have s4 : ∀ (A4 A5 B4 : mq_A), B4 = md_u B1 43 n.toNat (nw + B1 52 w.toNat) → A4 = md_u A1 44 n.toNat (A1 51 (64 * w + k).toNat) → A5 = md_u A4 45 n.toNat 1 → mq_s1 A B A5 B4 ((mq_om (nw + B 52 (Int.toNat 0)) li mo (mq_row A B d sz.toNat)) ++ (mq_ns A B nw k (w + 1).toNat).map mq_tr) (n + 1) := by
      rintro A4 A5 B4 rfl rfl rfl
      rw [mq_ns_s p1, List.map_append, ← List.append_assoc, e52, p3.1 51 (by decide) (by decide)]
      exact mq_s1_a p3 rfl
    repeat' first
      | (refine Exists.intro _ (And.intro ?_ (Exists.intro (n + 1) (Exists.intro (old) (Exists.intro (ol) (Exists.intro (w + 1) (Exists.intro (_) (Exists.intro (_) (Exists.intro (_) (Exists.intro (_) (And.intro rfl (And.intro rfl (And.intro rfl (And.intro rfl (And.intro rfl (And.intro rfl (?_)))))))))))))))) <;> first | omega | exact ⟨by omega, by omega, s4 _ _ _ (by assumption) (by assumption) (by assumption), p4, p5⟩)
      | (have ed : w = wc := (by omega); subst ed; refine Exists.intro _ (And.intro ?_ (Exists.intro (n) (Exists.intro (old) (Exists.intro (ol) (Exists.intro (ol - 1) (Exists.intro (_) (Exists.intro (_) (Exists.intro (_) (Exists.intro (_) (And.intro rfl (And.intro rfl (And.intro rfl (And.intro rfl (And.intro rfl (And.intro rfl (?_)))))))))))))))) <;> first | omega | exact ⟨by omega, by omega, mq_s3_0 p3, p4, p5, b3⟩)
      | refine And.intro ?_ ?_
      | (intro h; try omega)
      | omega
      | exact Nat.le_of_ble_eq_true rfl
  · obtain ⟨n, old, ol, i, A1, B1, y2, y3, rfl, rfl, rfl, rfl, rfl, rfl, p1, p2, p3, p4, p5, p6⟩ := hI
    have b1 := mq_om_b (bg := (nw + B 52 (Int.toNat 0))) (li := li) (mo := mo) (R := mq_row A B d sz.toNat)
    have b2 := mq_row_b (A := A) (B := B) (d := d) sz.toNat
    repeat' first
      | (have g9 : (A1 45 i.toNat ≠ 0 ∨ (A1 45 (i + 1).toNat ≠ 0 ∧ A1 44 i.toNat = A1 44 (i + 1).toNat)) := (by omega); refine Exists.intro _ (And.intro ?_ (Exists.intro (n) (Exists.intro (old) (Exists.intro (ol) (Exists.intro (i + -1) (Exists.intro (_) (Exists.intro (_) (Exists.intro (_) (Exists.intro (_) (And.intro rfl (And.intro rfl (And.intro rfl (And.intro rfl (And.intro rfl (And.intro rfl (?_)))))))))))))))) <;> first | omega | exact ⟨by omega, by omega, (by rw [h]; exact mq_s3_s p3 (by omega) p2 (Or.inl ⟨rfl, g9⟩)), p4, p5, p6⟩)
      | (have g9 : ¬ (A1 45 i.toNat ≠ 0 ∨ (A1 45 (i + 1).toNat ≠ 0 ∧ A1 44 i.toNat = A1 44 (i + 1).toNat)) := (by omega); refine Exists.intro _ (And.intro ?_ (Exists.intro (n) (Exists.intro (old) (Exists.intro (ol) (Exists.intro (i + -1) (Exists.intro (_) (Exists.intro (_) (Exists.intro (_) (Exists.intro (_) (And.intro rfl (And.intro rfl (And.intro rfl (And.intro rfl (And.intro rfl (And.intro rfl (?_)))))))))))))))) <;> first | omega | exact ⟨by omega, by omega, (by rw [h]; exact mq_s3_s p3 (by omega) p2 (Or.inr ⟨rfl, g9⟩)), p4, p5, p6⟩)
      | (have ed : i = -1 := (by omega); subst ed; refine Exists.intro _ (And.intro ?_ (Exists.intro (n) (Exists.intro (old) (Exists.intro (ol) (Exists.intro (0) (Exists.intro (0) (Exists.intro (_) (Exists.intro (_) (Exists.intro (A1) (Exists.intro (B1) (Exists.intro (_) (And.intro rfl (And.intro rfl (And.intro rfl (And.intro rfl (And.intro rfl (And.intro rfl (?_)))))))))))))))))) <;> first | omega | exact ⟨by omega, by omega, by omega, by omega, p3, mq_q4_0, p4, p5, p6⟩)
      | refine And.intro ?_ ?_
      | (intro h; try omega)
      | omega
      | exact Nat.le_of_ble_eq_true rfl
  · obtain ⟨n, old, ol, kp, i, A1, B1, A3, B3, y3, rfl, rfl, rfl, rfl, rfl, rfl, p1, p2, p3, p4, p5, p6, p7, p8, p9⟩ := hI
    have b1 := mq_om_b (bg := (nw + B 52 (Int.toNat 0))) (li := li) (mo := mo) (R := mq_row A B d sz.toNat)
    have b2 := mq_row_b (A := A) (B := B) (d := d) sz.toNat
    obtain ⟨e40, e42, e41⟩ := p6.2.2.1 i p1 p4
    repeat' first
      | (have g9 : A3 40 i.toNat = d := (by omega); refine Exists.intro _ (And.intro ?_ (Exists.intro (n) (Exists.intro (old) (Exists.intro (ol) (Exists.intro (kp) (Exists.intro (i + 1) (Exists.intro (_) (Exists.intro (_) (Exists.intro (A3) (Exists.intro (B3) (Exists.intro (_) (And.intro rfl (And.intro rfl (And.intro rfl (And.intro rfl (And.intro rfl (And.intro rfl (?_)))))))))))))))))) <;> first | omega | exact ⟨by omega, by omega, p3, by omega, p5, mq_q4_d p6 p1 g9, p7, p8, p9⟩)
      | (have g9 : A3 40 i.toNat ≠ d := (by omega); refine Exists.intro _ (And.intro ?_ (Exists.intro (n) (Exists.intro (old) (Exists.intro (ol) (Exists.intro (kp + 1) (Exists.intro (i + 1) (Exists.intro (_) (Exists.intro (_) (Exists.intro (A3) (Exists.intro (B3) (Exists.intro (_) (And.intro rfl (And.intro rfl (And.intro rfl (And.intro rfl (And.intro rfl (And.intro rfl (?_)))))))))))))))))) <;> first | omega | exact ⟨by omega, by omega, by omega, by omega, p5, mq_q4_m p6 p3 p4 g9, p7, p8, p9⟩)
      | (have ed : i = sz := (by omega); subst ed; refine Exists.intro _ (And.intro ?_ (Exists.intro (n) (Exists.intro (old) (Exists.intro (ol) (Exists.intro (kp) (Exists.intro (0) (Exists.intro (0) (Exists.intro (_) (Exists.intro (_) (Exists.intro (A3) (Exists.intro (B3) (And.intro rfl (And.intro rfl (And.intro rfl (And.intro rfl (And.intro rfl (And.intro rfl (?_)))))))))))))))))) <;> first | omega | exact ⟨by omega, by omega, p3, p5, mq_q5_0 p6, p7, p8, p9, fun _ => rfl, fun z => (by rw [show ol.toNat = 0 by omega]; rfl)⟩)
      | refine And.intro ?_ ?_
      | (intro h; try omega)
      | omega
      | exact Nat.le_of_ble_eq_true rfl
  · obtain ⟨n, old, ol, kp, sy, i, A1, B1, A3, B3, rfl, rfl, rfl, rfl, rfl, rfl, p1, p2, p3, p5, p6, p7, p8, p9, p10, p11⟩ := hI
    have b1 := mq_om_b (bg := (nw + B 52 (Int.toNat 0))) (li := li) (mo := mo) (R := mq_row A B d sz.toNat)
    have b2 := mq_row_b (A := A) (B := B) (d := d) sz.toNat
    have b3 := mq_cl_b (A := A3) (B := B3) i.toNat
    have b4 := mq_cl_b (A := A3) (B := B3) ol.toNat
    have b5 := p6.2.2.2.2.2
    have eR : ∀ d' m, mq_row A3 B3 d' m = mq_row A B d' m := fun d' m => mq_row_e (p5.1 40 (by decide) (by decide)) (p5.1 42 (by decide) (by decide)) (p5.2.1 41 (by decide))
    rw [eR] at b5
    have e45 : A1 45 i.toNat = A3 45 i.toNat := by rw [p6.1 45 (by decide) (by decide)]
    have e44 : A1 44 i.toNat = A3 44 i.toNat := by rw [p6.1 44 (by decide) (by decide)]
    have e43 : B1 43 i.toNat = B3 43 i.toNat := by rw [p6.2.1 43 (by decide)]
    have c1 : A3 45 i.toNat = 0 → mq_cl A3 B3 (i + 1).toNat = mq_cl A3 B3 i.toNat := fun z => by rw [mq_cl_s p1, if_neg (fun y => y z)]
    have c2 : A3 45 i.toNat ≠ 0 → ((mq_cl A3 B3 (i + 1).toNat).length : Int) = (mq_cl A3 B3 i.toNat).length + 1 := fun z => by rw [mq_cl_s p1, if_pos z, List.length_append]; rfl
    have c3 : (mq_cl A3 B3 ol.toNat).length ≤ (mq_cl A3 B3 i.toNat).length ∨ i < ol := by
      rcases Int.lt_or_le i ol with z | z
      · exact Or.inr z
      · left
        obtain ⟨m, hm⟩ : ∃ m : Nat, i.toNat = ol.toNat + m := ⟨i.toNat - ol.toNat, by omega⟩
        rw [hm]
        clear hm
        induction m with
        | zero => exact Nat.le_refl _
        | succ m ih =>
          rw [← Nat.add_assoc, mq_cl]
          split
          · rw [List.length_append]; omega
          · exact ih
    have s4 : ∀ (A4 A5 B4 : mq_A), A4 = md_u A1 40 kp.toNat d → B4 = md_u B1 41 kp.toNat (B1 43 i.toNat) → A5 = md_u A4 42 kp.toNat (A4 44 i.toNat) → A3 45 i.toNat ≠ 0 → mq_q5 A3 B3 A5 B4 d sz (kp + 1) (i + 1) := by
      rintro A4 A5 B4 rfl rfl rfl z
      rw [md_u_t (show (44 : Nat) ≠ 40 by decide), e44, e43]
      exact mq_q5_a p6 p3 p1 z
    have e46 : ∀ A4 B4 : mq_A, A4 = md_u A1 40 kp.toNat d → B4 = md_u B1 41 kp.toNat (B1 43 i.toNat) → True := fun _ _ _ _ => trivial
    have hX : ((mq_ns A B nw k wc.toNat)[0]?).map (fun x => x.2) = some (A 51 (64 * ((0 : Nat) : Int) + k).toNat) := by rw [mq_ns_h _ (by omega)]; rfl
    obtain ⟨k1, k2⟩ := mq_s3_e (nw := nw) (k := k) p5 p8 hX
    have k3 := k2 wc.toNat (by rw [mq_ns_l]; exact Nat.le_refl _)
    rw [List.take_of_length_le (by rw [mq_ns_l]; exact Nat.le_refl _)] at k3
    repeat' first
      | (have ed : i = n := (by omega); have k4 : mq_cl A3 B3 i.toNat = (mq_kp (A 51 (64 * ((0 : Nat) : Int) + k).toNat) (mq_om (nw + B 52 (Int.toNat 0)) li mo (mq_row A B d sz.toNat))).1 ++ (mq_ns A B nw k wc.toNat) := (by rw [ed, p9, p8, show ((((mq_om (nw + B 52 (Int.toNat 0)) li mo (mq_row A B d sz.toNat))).length : Int) + wc).toNat = ((mq_om (nw + B 52 (Int.toNat 0)) li mo (mq_row A B d sz.toNat))).length + wc.toNat by omega]; exact k3); have k5 : sy = (((mq_kp (A 51 (64 * ((0 : Nat) : Int) + k).toNat) (mq_om (nw + B 52 (Int.toNat 0)) li mo (mq_row A B d sz.toNat))).1).length : Int) := (by rw [p11 (by omega), p8, Int.toNat_natCast, k1]); rw [p7, k5]; refine h1 A1 B1 kp (fun t z1 z2 z3 z4 => (p6.1 t z1 z2).trans (p5.1 t z3 z4)) (fun t z1 z2 => (p6.2.1 t z1).trans (p5.2.1 t z2)) p3 ?_ (fun d' hd => (p6.2.2.1 d' hd).trans (eR d' _)) (p6.2.2.2.1.trans k4) (fun j a b => ?_); (rw [k4, List.length_append, mq_ns_l] at b5; omega); (rcases p6.2.2.2.2.1 j a b with ⟨j', a1, a2, a3⟩ | a1; exact Or.inl ⟨j', a1, a2, a3.trans (by rw [p5.1 40 (by decide) (by decide)])⟩; exact Or.inr a1))
      | (have g9 : A3 45 i.toNat = 0 := (by omega); refine Exists.intro _ (And.intro ?_ (Exists.intro (n) (Exists.intro (old) (Exists.intro (ol) (Exists.intro (kp) (Exists.intro (sy) (Exists.intro (i + 1) (Exists.intro (_) (Exists.intro (_) (Exists.intro (A3) (Exists.intro (B3) (And.intro rfl (And.intro rfl (And.intro rfl (And.intro rfl (And.intro rfl (And.intro rfl (?_)))))))))))))))))) <;> first | omega | exact ⟨by omega, by omega, p3, p5, mq_q5_n p6 p1 g9, p7, p8, p9, fun z => (by rw [c1 g9]; exact p10 (by omega)), fun z => (by rcases (show ol ≤ i ∨ ol = i + 1 by omega) with y | y; exact p11 y; rw [y, c1 g9]; exact p10 (by omega))⟩)
      | (have g9 : A3 45 i.toNat ≠ 0 ∧ i < ol := (by omega); refine Exists.intro _ (And.intro ?_ (Exists.intro (n) (Exists.intro (old) (Exists.intro (ol) (Exists.intro (kp + 1) (Exists.intro (sy + 1) (Exists.intro (i + 1) (Exists.intro (_) (Exists.intro (_) (Exists.intro (A3) (Exists.intro (B3) (And.intro rfl (And.intro rfl (And.intro rfl (And.intro rfl (And.intro rfl (And.intro rfl (?_)))))))))))))))))) <;> first | omega | exact ⟨by omega, by omega, by omega, p5, s4 _ _ _ (by assumption) (by assumption) (by assumption) g9.1, p7, p8, p9, fun z => (by have := c2 g9.1; have := p10 (by omega); omega), fun z => (by have y : ol = i + 1 := (by omega); have := c2 g9.1; have := p10 (by omega); rw [y]; omega)⟩)
      | (have g9 : A3 45 i.toNat ≠ 0 ∧ ol ≤ i := (by omega); refine Exists.intro _ (And.intro ?_ (Exists.intro (n) (Exists.intro (old) (Exists.intro (ol) (Exists.intro (kp + 1) (Exists.intro (sy) (Exists.intro (i + 1) (Exists.intro (_) (Exists.intro (_) (Exists.intro (A3) (Exists.intro (B3) (And.intro rfl (And.intro rfl (And.intro rfl (And.intro rfl (And.intro rfl (And.intro rfl (?_)))))))))))))))))) <;> first | omega | exact ⟨by omega, by omega, by omega, p5, s4 _ _ _ (by assumption) (by assumption) (by assumption) g9.1, p7, p8, p9, fun z => by omega, fun z => p11 g9.2⟩)
      | refine And.intro ?_ ?_
      | (intro h; try omega)
      | omega
      | exact Nat.le_of_ble_eq_true rfl
  · repeat' first
      | (refine Exists.intro _ (Exists.intro (0) (Exists.intro (0) (Exists.intro (0) (Exists.intro (_) (Exists.intro (_) (Exists.intro (_) (Exists.intro (_) (Exists.intro (_) (And.intro rfl (And.intro rfl (And.intro rfl (And.intro rfl (And.intro rfl (And.intro rfl (?_))))))))))))))) <;> first | omega | exact ⟨by omega, by omega, ⟨fun _ _ _ => rfl, fun _ _ => rfl, rfl, fun j x hx => by cases hx⟩, rfl⟩)
      | refine And.intro ?_ ?_
      | (intro h; try omega)
      | omega
      | exact Nat.le_of_ble_eq_true rfl
end
section
/-! THE REFERENCE, 12: assign -/
def mq_sum (g : Nat → Int) : Nat → Int
  | 0 => 0
  | n + 1 => mq_sum g n + g n
theorem mq_sum_c {g g' : Nat → Int} : ∀ n : Nat, (∀ j, j < n → g' j = g j) → mq_sum g' n = mq_sum g n
  | 0, _ => rfl
  | n + 1, h => by rw [mq_sum, mq_sum, h n (by omega), mq_sum_c n (fun j hj => h j (by omega))]
theorem mq_kp_b {c : Int} : ∀ X : List (Int × Int × Bool), (mq_kp c X).1.length ≤ X.length
  | [] => Nat.le_refl 0
  | x :: r => by
    have := mq_kp_b (c := c) r
    simp only [mq_kp]
    split
    · simp only [List.length_cons]; omega
    · simp only [List.length_cons]; omega
theorem mq_ns_c {A B A1 B1 : mq_A} {nw k : Int} (h1 : A1 51 = A 51) (h2 : B1 52 = B 52) : ∀ n : Nat, mq_ns A1 B1 nw k n = mq_ns A B nw k n
  | 0 => rfl
  | n + 1 => by rw [mq_ns, mq_ns, mq_ns_c h1 h2 n, h1, h2]
/-- those of a driver's transactions that stay when the element k of what is laid down is assigned; its new row -/
def mq_st1 (A B : mq_A) (nw sz li mo d k : Int) : List (Int × Int) := (mq_kp (A 51 (64 * ((0 : Nat) : Int) + k).toNat) (mq_om (nw + B 52 (Int.toNat 0)) li mo (mq_row A B d sz.toNat))).1
def mq_mt (A : mq_A) (dr p e0 d j : Int) : Prop := 0 ≤ d ∧ d < dr ∧ A 37 d.toNat = p ∧ A 38 d.toNat = e0 + j
/-- behind k elements -/
def mq_am (A B A1 B1 : mq_A) (nw dr wc sz li mo p e0 sz1 del k : Int) : Prop :=
  (∀ t, t ≠ 40 → t ≠ 42 → t ≠ 44 → t ≠ 45 → A1 t = A t) ∧ (∀ t, t ≠ 41 → t ≠ 43 → B1 t = B t) ∧ (0 ≤ sz1 ∧ sz1 + del = sz + k * wc ∧ 0 ≤ del ∧ del ≤ 8192 * k) ∧
  (∀ d, (∀ j : Int, 0 ≤ j → j < k → ¬ mq_mt A dr p e0 d j) → mq_row A1 B1 d sz1.toNat = mq_row A B d sz.toNat) ∧ (∀ j d : Int, 0 ≤ j → j < k → mq_mt A dr p e0 d j → mq_row A1 B1 d sz1.toNat = mq_st1 A B nw sz li mo d j ++ mq_ns A B nw j wc.toNat) ∧
  (∃ g : Nat → Int, (∀ j d : Int, 0 ≤ j → j < k → mq_mt A dr p e0 d j → g j.toNat = ((mq_row A B d sz.toNat).length : Int) - (mq_st1 A B nw sz li mo d j).length) ∧ del = mq_sum g k.toNat) ∧
  (∀ j : Int, 0 ≤ j → j < sz1 → (∃ j' : Int, 0 ≤ j' ∧ j' < sz ∧ A1 40 j.toNat = A 40 j'.toNat) ∨ (0 ≤ A1 40 j.toNat ∧ A1 40 j.toNat < dr))
theorem mq_am_0 {A B : mq_A} {nw dr wc sz li mo p e0 : Int} (h : 0 ≤ sz) : mq_am A B A B nw dr wc sz li mo p e0 sz 0 0 :=
  ⟨fun _ _ _ _ _ => rfl, fun _ _ _ => rfl, ⟨h, by rw [Int.zero_mul], by omega, by omega⟩, fun _ _ => rfl, fun j d a b => by omega, ⟨fun _ => 0, fun j d a b => by omega, rfl⟩, fun j a b => Or.inl ⟨j, a, b, rfl⟩⟩
theorem mq_am_s {A B A1 B1 A2 B2 : mq_A} {nw dr wc sz li mo p e0 sz1 del k d kp r : Int} (h : mq_am A B A1 B1 nw dr wc sz li mo p e0 sz1 del k) (hk : 0 ≤ k) (hs : sz1 ≤ 8192) (hm : mq_mt A dr p e0 d k) (hu : ∀ d1 d2 : Int, 0 ≤ d1 → d1 < dr → 0 ≤ d2 → d2 < dr → A 37 d1.toNat = A 37 d2.toNat → A 38 d1.toNat = A 38 d2.toNat → d1 = d2)
    (g1 : ∀ t, t ≠ 40 → t ≠ 42 → t ≠ 44 → t ≠ 45 → A2 t = A1 t) (g2 : ∀ t, t ≠ 41 → t ≠ 43 → B2 t = B1 t) (g3 : 0 ≤ kp) (g4 : kp + (mq_row A1 B1 d sz1.toNat).length = sz1 + ((mq_st1 A1 B1 nw sz1 li mo d k).length + wc)) (g5 : ∀ d', d' ≠ d → mq_row A2 B2 d' kp.toNat = mq_row A1 B1 d' sz1.toNat)
    (g6 : mq_row A2 B2 d kp.toNat = mq_st1 A1 B1 nw sz1 li mo d k ++ mq_ns A1 B1 nw k wc.toNat) (g7 : ∀ j : Int, 0 ≤ j → j < kp → (∃ j' : Int, 0 ≤ j' ∧ j' < sz1 ∧ A2 40 j.toNat = A1 40 j'.toNat) ∨ A2 40 j.toNat = d) (g8 : r = ((mq_row A1 B1 d sz1.toNat).length : Int) - (mq_st1 A1 B1 nw sz1 li mo d k).length) :
    mq_am A B A2 B2 nw dr wc sz li mo p e0 kp (del + r) (k + 1) := by
  obtain ⟨t1, t2, ⟨t3, t4, t5, t6⟩, t7, t8, ⟨g, t9, t10⟩, t11⟩ := h
  have hd : mq_row A1 B1 d sz1.toNat = mq_row A B d sz.toNat := by
    refine t7 d (fun j a b c => ?_)
    have := c.2.2.2
    have := hm.2.2.2
    omega
  have hst : mq_st1 A1 B1 nw sz1 li mo d k = mq_st1 A B nw sz li mo d k := by
    unfold mq_st1
    rw [hd, t1 51 (by decide) (by decide) (by decide) (by decide), t2 52 (by decide) (by decide)]
  have hns : mq_ns A1 B1 nw k wc.toNat = mq_ns A B nw k wc.toNat := mq_ns_c (t1 51 (by decide) (by decide) (by decide) (by decide)) (t2 52 (by decide) (by decide)) _
  rw [hst] at g4 g6 g8
  rw [hd] at g4 g8
  rw [hns] at g6
  have hb1 : (mq_st1 A B nw sz li mo d k).length ≤ (mq_row A B d sz.toNat).length := Nat.le_trans (mq_kp_b _) mq_om_b
  have hb2 : (mq_row A B d sz.toNat).length ≤ sz1.toNat := by rw [← hd]; exact mq_row_b _
  have huq : ∀ d', mq_mt A dr p e0 d' k → d' = d := fun d' z => hu d' d z.1 z.2.1 hm.1 hm.2.1 (z.2.2.1.trans hm.2.2.1.symm) (z.2.2.2.trans hm.2.2.2.symm)
  refine ⟨fun t a b c e => (g1 t a b c e).trans (t1 t a b c e), fun t a b => (g2 t a b).trans (t2 t a b), ⟨g3, ?_, by omega, by omega⟩, fun d' hd' => ?_, fun j d' a b c => ?_, ⟨fun m => if m = k.toNat then r else g m, fun j d' a b c => ?_, ?_⟩, fun j a b => ?_⟩
  · rw [Int.add_mul]
    omega
  · have hne : d' ≠ d := fun z => hd' k hk (by omega) (z ▸ hm)
    rw [g5 d' hne]
    exact t7 d' (fun j a b => hd' j a (by omega))
  · rcases (show j < k ∨ j = k by omega) with z | rfl
    · have hne : d' ≠ d := fun y => by
        have y1 := c.2.2.2
        have y2 := hm.2.2.2
        rw [y] at y1
        omega
      rw [g5 d' hne]
      exact t8 j d' a z c
    · rw [huq d' c]
      exact g6
  · rcases (show j < k ∨ j = k by omega) with z | rfl
    · show (if j.toNat = k.toNat then r else g j.toNat) = _
      rw [if_neg (by omega)]
      exact t9 j d' a z c
    · show (if j.toNat = j.toNat then r else g j.toNat) = _
      rw [if_pos rfl, huq d' c]
      exact g8
  · rw [show (k + 1).toNat = k.toNat + 1 by omega, mq_sum, if_pos rfl, mq_sum_c (g := g) _ (fun j hj => if_neg (by omega)), ← t10]
  · rcases g7 j a b with ⟨j', a1, a2, a3⟩ | a1
    · rw [a3]
      exact t11 j' a1 a2
    · rw [a1]
      exact Or.inr ⟨hm.1, hm.2.1⟩
def sm_97 (as : List wi_V) (M : mq_H) (q : wi_Q1 mq_H) (_ : wi_Q2 mq_H) : Prop := mq_sIIIIIJ as (fun p s f n mo li => mq_f M fun cd lm st sg el dr sz pr wc sp nw A B => sg ≤ 200 ∧ pr ≤ 64 ∧ 0 ≤ dr ∧ dr ≤ 512 ∧ 0 ≤ wc ∧ wc ≤ 16 ∧ 0 ≤ sz ∧ sz ≤ 8192 ∧ 0 ≤ nw ∧ nw ≤ 1152921504606846976 ∧ (∀ j : Int, 0 ≤ j → j < wc → 0 ≤ B 52 j.toNat ∧ B 52 j.toNat ≤ 1152921504606846976) ∧ (∀ s : Nat, (s : Int) < sg → 0 ≤ A 32 s ∧ A 32 s ≤ 512 ∧ A 31 s ≤ 64) ∧
  (∀ d1 d2 : Int, 0 ≤ d1 → d1 < dr → 0 ≤ d2 → d2 < dr → A 37 d1.toNat = A 37 d2.toNat → A 38 d1.toNat = A 38 d2.toNat → d1 = d2) ∧ ((∃ j : Nat, (j : Int) < dr ∧ A 37 j = p ∧ A 38 j = A 32 s.toNat) → ∀ k : Int, 0 ≤ k → k < A 31 s.toNat → ∃ j : Nat, (j : Int) < dr ∧ A 37 j = p ∧ A 38 j = A 32 s.toNat + k) ∧ (p < 0 ∨ pr ≤ p ∨ s < 0 ∨ sg ≤ s ∨ f < 0 ∨ n < 1 ∨ A 31 s.toNat ≤ f ∨ A 31 s.toNat - f < n → q (some (.inl 0)) ([1, lm, st, sg, el, dr, sz, pr, wc, sp, nw], A, B)) ∧ (0 ≤ p → p < pr → 0 ≤ s → s < sg → 0 ≤ f → 1 ≤ n → f < A 31 s.toNat → n ≤ A 31 s.toNat - f → A 46 p.toNat ≠ 0 ∨ ¬ (∃ j : Nat, (j : Int) < dr ∧ A 37 j = p ∧ A 38 j = A 32 s.toNat) ∨ wc = 0 → q (some (.inl 0)) ([2, lm, st, sg, el, dr, sz, pr, wc, sp, nw], A, B)) ∧ (0 ≤ p → p < pr → 0 ≤ s → s < sg → 0 ≤ f → 1 ≤ n → f < A 31 s.toNat → n ≤ A 31 s.toNat - f → A 46 p.toNat = 0 → (∃ j : Nat, (j : Int) < dr ∧ A 37 j = p ∧ A 38 j = A 32 s.toNat) → wc ≠ 0 → ¬ mq_good A B nw wc s n mo li → q (some (.inl 0)) ([3, lm, st, sg, el, dr, sz, pr, wc, sp, nw], A, B)) ∧ (0 ≤ p → p < pr → 0 ≤ s → s < sg → 0 ≤ f → 1 ≤ n → f < A 31 s.toNat → n ≤ A 31 s.toNat - f → A 46 p.toNat = 0 → (∃ j : Nat, (j : Int) < dr ∧ A 37 j = p ∧ A 38 j = A 32 s.toNat) → wc ≠ 0 → mq_good A B nw wc s n mo li → 8192 < sz + n * wc → q (some (.inl 0)) ([2, lm, st, sg, el, dr, sz, pr, wc, sp, nw], A, B)) ∧
  (0 ≤ p → p < pr → 0 ≤ s → s < sg → 0 ≤ f → 1 ≤ n → f < A 31 s.toNat → n ≤ A 31 s.toNat - f → A 46 p.toNat = 0 → (∃ j : Nat, (j : Int) < dr ∧ A 37 j = p ∧ A 38 j = A 32 s.toNat) → wc ≠ 0 → mq_good A B nw wc s n mo li → sz + n * wc ≤ 8192 → ∀ (A1 B1 : mq_A) (sz1 del : Int), mq_am A B A1 B1 nw dr wc sz (if mo = 0 then B 52 (Int.toNat 0) else li) mo p (A 32 s.toNat + f) sz1 del n → q (some (.inl del)) ([0, lm, st, sg, el, dr, sz1, pr, 0, sp, nw], A1, B1)))
theorem mm_97 {l : Launch} {D : va_G} {aC : wm_Y} {b0 : Nat} (hl0 : l.stackTraces = false) : wm_sp l D aC b0 97 (wi_lf mq_Rl sm_97) := by
  refine wi_method mq_lw 97 (cx := fun id => if id = 80 then sm_80 else if id = 81 then sm_81 else if id = 85 then sm_85 else if id = 96 then sm_96 else if id = 98 then sm_98 else fun _ _ _ _ => False) (ids := ci_97) (tb := tb_97) (by decide +kernel) hl0 (wm_cxc (mm_80 hl0) oi_97 (fun h => wm_cxc (mm_81 hl0) h (fun h => wm_cxc (mm_85 hl0) h (fun h => wm_cxc (mm_96 hl0) h (fun h => wm_cxc (mm_98 hl0) h (fun h => wm_cxn h)))))) (wm_tb_ok tk_97) (by decide +kernel) [176] 300 (fun as M q qt hs => ?_)
  obtain ⟨p, s, f, n, mo, li, rfl, hs1⟩ := mq_sIIIIIJ_e hs
  clear hs
  obtain ⟨cd, lm, st, sg, el, dr, sz, pr, wc, sp, nw, A, B, rfl, hs⟩ := mq_f_e hs1
  clear hs1
  obtain ⟨r1, r2, r3, r4, r5, r6, r7, r8, r9, r10, r11, r12, r13, r14, h1, h2, h3, h4, h5⟩ := hs
  have r15 := r12 s.toNat
  clear r12
  have hb : 1 ≤ n → n ≤ 64 → 0 ≤ n * wc ∧ n * wc ≤ 1024 := fun a b => ⟨Int.mul_nonneg (by omega) r5, by have := Int.mul_le_mul b r6 r5 (by omega); omega⟩
  refine ⟨rfl, fun mz pc lv sk h cu su => ∃ del : Int, ∃ k : Int, ∃ A1 : mq_A, ∃ B1 : mq_A, ∃ sz1 : Int, lv = [some (wi_rf (some 11)), some (.inl (p)), some (.inl (s)), some (.inl (f)), some (.inl (n)), some (.inl (mo)), some (.inr (.inl (li))), none, some (.inl (del)), some (.inl (k))] ∧ sk = [] ∧ h = ([0, lm, st, sg, el, dr, sz1, pr, wc, sp, nw], A1, B1) ∧ cu = 0 ∧ su = 0 ∧ mz = (100 - k).toNat ∧ 0 ≤ k ∧ k ≤ n ∧ 0 ≤ p ∧ p < pr ∧ 0 ≤ s ∧ s < sg ∧ 0 ≤ f ∧ 1 ≤ n ∧ f < A 31 s.toNat ∧ n ≤ A 31 s.toNat - f ∧  A 46 p.toNat = 0 ∧ (∃ j : Nat, (j : Int) < dr ∧ A 37 j = p ∧ A 38 j = A 32 s.toNat) ∧ wc ≠ 0 ∧ mq_good A B nw wc s n mo li ∧ sz + n * wc ≤ 8192 ∧ mq_am A B A1 B1 nw dr wc sz (if mo = 0 then B 52 (Int.toNat 0) else li) mo p (A 32 s.toNat + f) sz1 del k, mq_c1 (fun mz lv sk h cu su hI => ?_), ?_⟩
  · obtain ⟨del, k, A1, B1, sz1, rfl, rfl, rfl, rfl, rfl, rfl, p1, p2, p3, p4, p5, p6, p7, p8, p9, p10, p11, p12, p13, p14, p15, p16⟩ := hI
    obtain ⟨t1, t2, ⟨t3, t4, t5, t6⟩, t7, t8, t9, t11⟩ := id p16
    have e32 : A1 32 s.toNat = A 32 s.toNat := by rw [t1 32 (by decide) (by decide) (by decide) (by decide)]
    have e52 : B1 52 = B 52 := t2 52 (by decide) (by decide)
    have e37 : A1 37 = A 37 := t1 37 (by decide) (by decide) (by decide) (by decide)
    have e38 : A1 38 = A 38 := t1 38 (by decide) (by decide) (by decide) (by decide)
    have hkn : k < n → k * wc + wc ≤ n * wc := fun z => by
      have := Int.mul_le_mul_of_nonneg_right (show k + 1 ≤ n by omega) r5
      rw [Int.add_mul] at this
      omega
    have hk0 : 0 ≤ k * wc := Int.mul_nonneg p1 r5
    have hg := p14.1
    have hg4 := p14.2.2.2
    have r11b : ∀ j : Int, 0 ≤ j → j < wc → 0 ≤ B1 52 j.toNat ∧ B1 52 j.toNat ≤ 1152921504606846976 := by rw [e52]; exact r11
    have r16 := r11 0 (by omega) (by omega)
    have hli0 : ∀ x : Int, x = (if mo = 0 then B 52 (Int.toNat 0) else li) → mo = 1 ∨ (0 ≤ x ∧ x ≤ nw + B1 52 (Int.toNat 0)) := fun x hx => by
      rw [e52, hx]
      split <;> omega
    have hex : k < n → ¬ (∀ j : Nat, (j : Int) < dr → ¬ (A1 37 j = p ∧ A1 38 j = A1 32 s.toNat + f + k)) := fun z y => by
      obtain ⟨j, a, b, c⟩ := r14 p12 (f + k) (by omega) (by omega)
      refine y j a ?_
      rw [e37, e38, e32]
      exact ⟨b, by omega⟩
    have hrb : ∀ d : Int, (mq_row A1 B1 d sz1.toNat).length ≤ sz1.toNat := fun d => mq_row_b _
    have hkb : ∀ d x : Int, (mq_st1 A1 B1 nw sz1 x mo d k).length ≤ (mq_row A1 B1 d sz1.toNat).length := fun d x => Nat.le_trans (mq_kp_b _) mq_om_b
    have fin : ∀ (d x : Int) (A2 B2 : mq_A) (kp : Int), x = (if mo = 0 then B 52 (Int.toNat 0) else li) → k < n → 0 ≤ d → d < dr → A1 37 d.toNat = p → A1 38 d.toNat = A1 32 s.toNat + f + k → (∀ t, t ≠ 40 → t ≠ 42 → t ≠ 44 → t ≠ 45 → A2 t = A1 t) → (∀ t, t ≠ 41 → t ≠ 43 → B2 t = B1 t) → 0 ≤ kp → kp + (mq_row A1 B1 d sz1.toNat).length = sz1 + ((mq_st1 A1 B1 nw sz1 x mo d k).length + wc) → (∀ d', d' ≠ d → mq_row A2 B2 d' kp.toNat = mq_row A1 B1 d' sz1.toNat) →
        mq_row A2 B2 d kp.toNat = mq_st1 A1 B1 nw sz1 x mo d k ++ mq_ns A1 B1 nw k wc.toNat → (∀ j : Int, 0 ≤ j → j < kp → (∃ j' : Int, 0 ≤ j' ∧ j' < sz1 ∧ A2 40 j.toNat = A1 40 j'.toNat) ∨ A2 40 j.toNat = d) →
        mq_am A B A2 B2 nw dr wc sz (if mo = 0 then B 52 (Int.toNat 0) else li) mo p (A 32 s.toNat + f) kp (del + (((mq_row A1 B1 d sz1.toNat).length : Int) - (mq_st1 A1 B1 nw sz1 x mo d k).length)) (k + 1) ∧ 0 ≤ (((mq_row A1 B1 d sz1.toNat).length : Int) - (mq_st1 A1 B1 nw sz1 x mo d k).length) ∧ (((mq_row A1 B1 d sz1.toNat).length : Int) - (mq_st1 A1 B1 nw sz1 x mo d k).length) ≤ 8192 := by
      rintro d x A2 B2 kp rfl z0 z1 z2 z3 z4 g1 g2 g3 g4 g5 g6 g7
      have h8 := hrb d
      have h9 := hkb d (if mo = 0 then B 52 (Int.toNat 0) else li)
      rw [e37] at z3
      rw [e38, e32] at z4
      exact ⟨mq_am_s p16 p1 (by omega) ⟨z1, z2, z3, by omega⟩ r13 g1 g2 g3 g4 g5 g6 g7 rfl, by omega, by omega⟩
    repeat' first
      | refine And.intro ?_ ?_
      | (intro hn; exact absurd hn (hex (by omega)))
      | exact r11b
      | (refine hli0 _ ?_; rw [e52, if_pos (by omega)])
      | (refine hli0 _ ?_; rw [if_neg (by omega)])
      | (intro A2 B2 kp g1 g2 g3 g4 g5 g6 g7; obtain ⟨hx, hy, hz⟩ := fin _ (B1 52 (Int.toNat 0)) A2 B2 kp (by rw [e52, if_pos (by omega)]) (by omega) (by assumption) (by assumption) (by assumption) (by assumption) g1 g2 g3 g4 g5 g6 g7; unfold mq_st1 at hy hz)
      | (intro A2 B2 kp g1 g2 g3 g4 g5 g6 g7; obtain ⟨hx, hy, hz⟩ := fin _ (li) A2 B2 kp (by rw [if_neg (by omega)]) (by omega) (by assumption) (by assumption) (by assumption) (by assumption) g1 g2 g3 g4 g5 g6 g7; unfold mq_st1 at hy hz)
      | (intro h; try omega)
      | omega
      | (have ed : k = n := (by omega); subst ed; exact h5 p3 p4 p5 p6 p7 p8 p9 p10 p11 p12 p13 p14 p15 A1 B1 sz1 del p16)
      | (refine Exists.intro _ (And.intro ?_ (Exists.intro (_) (Exists.intro (k + 1) (Exists.intro (_) (Exists.intro (_) (Exists.intro (_) (And.intro rfl (And.intro rfl (And.intro rfl (And.intro rfl (And.intro rfl (And.intro rfl (?_))))))))))))) <;> first | omega | exact ⟨by omega, by omega, p3, p4, p5, p6, p7, p8, p9, p10, p11, p12, p13, p14, p15, hx⟩)
      | exact Nat.le_of_ble_eq_true rfl
  · repeat' first
      | refine And.intro ?_ ?_
      | exact r11
      | (intro r z1 z2 z3 z4; have hD : (∃ j : Nat, (j : Int) < dr ∧ A 37 j = p ∧ A 38 j = A 32 s.toNat) := ⟨r.toNat, by omega, z3, z4⟩)
      | (intro hn; have hN : ¬ (∃ j : Nat, (j : Int) < dr ∧ A 37 j = p ∧ A 38 j = A 32 s.toNat) := fun ⟨j, a, b, c⟩ => hn j a ⟨b, c⟩)
      | (intro hg; have hG : mq_good A B nw wc s n mo li := hg)
      | (intro hg; have hG : ¬ mq_good A B nw wc s n mo li := hg)
      | (intro h; try omega)
      | omega
      | exact h1 (by omega)
      | exact h2 (by omega) (by omega) (by omega) (by omega) (by omega) (by omega) (by omega) (by omega) (Or.inl (by omega))
      | exact h2 (by omega) (by omega) (by omega) (by omega) (by omega) (by omega) (by omega) (by omega) (Or.inr (Or.inr (by omega)))
      | exact h2 (by omega) (by omega) (by omega) (by omega) (by omega) (by omega) (by omega) (by omega) (Or.inr (Or.inl hN))
      | exact h3 (by omega) (by omega) (by omega) (by omega) (by omega) (by omega) (by omega) (by omega) (by omega) hD (by omega) hG
      | exact h4 (by omega) (by omega) (by omega) (by omega) (by omega) (by omega) (by omega) (by omega) (by omega) hD (by omega) hG (by omega)
      | (refine Exists.intro _ (Exists.intro (_) (Exists.intro (0) (Exists.intro (_) (Exists.intro (_) (Exists.intro (_) (And.intro rfl (And.intro rfl (And.intro rfl (And.intro rfl (And.intro rfl (And.intro rfl (?_)))))))))))) <;> first | omega | (exact ⟨by omega, by omega, by omega, by omega, by omega, by omega, by omega, by omega, by omega, by omega, by omega, hD, by omega, hG, by omega, mq_am_0 r7⟩))
      | exact Nat.le_of_ble_eq_true rfl
end
section
/-! THE REFERENCE, 13: cycle -/
def mq_in (A : mq_A) (s j : Int) : Prop := A 32 s.toNat ≤ j ∧ j < A 32 s.toNat + A 31 s.toNat
/-- what renew makes of a signal -/
def mq_rd (A A2 : mq_A) (dr s : Int) : Prop :=
  ((A 33 s.toNat = 0 ∨ ∀ j, mq_in A s j → mq_made A dr s j = A 35 j.toNat) ∧ A2 34 s.toNat = 0 ∧ ∀ j, mq_in A s j → A2 35 j.toNat = A 35 j.toNat ∧ A2 36 j.toNat = A 36 j.toNat) ∨
  (A 33 s.toNat ≠ 0 ∧ (∃ j, mq_in A s j ∧ mq_made A dr s j ≠ A 35 j.toNat) ∧ A2 34 s.toNat = 1 ∧ ∀ j, mq_in A s j → A2 35 j.toNat = mq_made A dr s j ∧ A2 36 j.toNat = A 35 j.toNat)
def mq_rc (A A2 : mq_A) (s : Int) : Prop := A2 34 s.toNat = A 34 s.toNat ∧ ∀ j, mq_in A s j → A2 35 j.toNat = A 35 j.toNat ∧ A2 36 j.toNat = A 36 j.toNat
def mq_rf (A A2 : mq_A) : Prop := ∀ t, t ≠ 34 → t ≠ 35 → t ≠ 36 → A2 t = A t
def mq_rw (A A2 : mq_A) (dr s : Int) : Prop := mq_rf A A2 ∧ (∀ s1 : Int, 0 ≤ s1 → s1 ≠ s → A2 34 s1.toNat = A 34 s1.toNat) ∧ (∀ j : Int, 0 ≤ j → ¬ mq_in A s j → A2 35 j.toNat = A 35 j.toNat ∧ A2 36 j.toNat = A 36 j.toNat) ∧ mq_rd A A2 dr s
theorem mq_rw_0 {A : mq_A} {dr s : Int} (hs : 0 ≤ s) (h : A 33 s.toNat = 0 ∨ ∀ j, mq_in A s j → mq_made A dr s j = A 35 j.toNat) : mq_rw A (md_u A 34 s.toNat 0) dr s := by
  refine ⟨fun t a _ _ => md_u_t a, fun s1 a b => md_u_k (by omega), fun j _ _ => ?_, Or.inl ⟨h, md_u_s, fun j _ => ?_⟩⟩ <;> rw [md_u_t (by decide), md_u_t (by decide)] <;> exact ⟨rfl, rfl⟩
theorem mq_rw_1 {A : mq_A} {dr s : Int} (hs : 0 ≤ s) (hF : 0 ≤ A 32 s.toNat) (h0 : A 33 s.toNat ≠ 0) (h : ∃ j, mq_in A s j ∧ mq_made A dr s j ≠ A 35 j.toNat) :
    mq_rw A (mq_g (mq_g (md_u A 34 s.toNat 1) 36 (A 32 s.toNat).toNat (A 31 s.toNat).toNat (fun j => A 35 j)) 35 (A 32 s.toNat).toNat (A 31 s.toNat).toNat (fun j => mq_made A dr s (j : Int))) dr s := by
  refine ⟨fun t a b c => by rw [mq_g_t b, mq_g_t c, md_u_t a], fun s1 a b => by rw [mq_g_t (by decide), mq_g_t (by decide)]; exact md_u_k (by omega), fun j a b => ?_, Or.inr ⟨h0, h, by rw [mq_g_t (by decide), mq_g_t (by decide), md_u_s], fun j a => ?_⟩⟩
  · unfold mq_in at b
    rw [mq_g_o (by omega), mq_g_t (by decide), mq_g_t (by decide), mq_g_o (by omega), md_u_t (by decide), md_u_t (by decide)]
    exact ⟨rfl, rfl⟩
  · unfold mq_in at a
    rw [mq_g_i (by omega) (by omega), mq_g_t (by decide), mq_g_i (by omega) (by omega), show ((j.toNat : Nat) : Int) = j by omega]
    exact ⟨rfl, rfl⟩
/-- behind the signals below s -/
def mq_rn (A A2 : mq_A) (dr sg s : Int) : Prop := mq_rf A A2 ∧ (∀ s1 : Int, 0 ≤ s1 → s1 < s → mq_rd A A2 dr s1) ∧ (∀ s1 : Int, s ≤ s1 → s1 < sg → mq_rc A A2 s1) ∧ ∀ s1 : Int, sg ≤ s1 → A2 34 s1.toNat = A 34 s1.toNat
theorem mq_rn_0 {A : mq_A} {dr sg : Int} : mq_rn A A dr sg 0 := ⟨fun _ _ _ _ => rfl, fun s1 a b => by omega, fun _ _ _ => ⟨rfl, fun _ _ => ⟨rfl, rfl⟩⟩, fun _ _ => rfl⟩
theorem mq_in_c {A A2 : mq_A} {s j : Int} (h : mq_rf A A2) : mq_in A2 s j ↔ mq_in A s j := by
  unfold mq_in
  rw [h 32 (by decide) (by decide) (by decide), h 31 (by decide) (by decide) (by decide)]
theorem mq_rn_m {A A2 : mq_A} {dr s j : Int} (h : mq_rf A A2) (g : mq_rc A A2 s) (hj : mq_in A s j) : mq_made A2 dr s j = mq_made A dr s j :=
  mq_made_c (h 38 (by decide) (by decide) (by decide)) (h 30 (by decide) (by decide) (by decide)) (h 39 (by decide) (by decide) (by decide)) (g.2 j hj).1
theorem mq_rn_s {A A2 A3 : mq_A} {dr sg s : Int} (h : mq_rn A A2 dr sg s) (h0 : 0 ≤ s) (h1 : s < sg) (w : mq_rw A2 A3 dr s) (hF : ∀ s1 : Int, 0 ≤ s1 → s1 < sg → 0 ≤ A 32 s1.toNat)
    (hd : ∀ s1 s2 : Int, 0 ≤ s1 → s1 < s2 → s2 < sg → A 32 s1.toNat + A 31 s1.toNat ≤ A 32 s2.toNat) : mq_rn A A3 dr sg (s + 1) := by
  obtain ⟨a1, a2, a3, a4⟩ := h
  obtain ⟨b1, b2, b3, b4⟩ := w
  have hfr : mq_rf A A3 := fun t x y z => (b1 t x y z).trans (a1 t x y z)
  have hout : ∀ s1 j : Int, 0 ≤ s1 → s1 < sg → s1 ≠ s → mq_in A s1 j → 0 ≤ j ∧ ¬ mq_in A2 s j := fun s1 j x1 x2 x3 x4 => by
    have y1 := hF s1 x1 x2
    rw [mq_in_c a1]
    unfold mq_in at x4 ⊢
    rcases (show s1 < s ∨ s < s1 by omega) with z | z
    · have := hd s1 s x1 z h1
      omega
    · have := hd s s1 h0 z x2
      omega
  refine ⟨hfr, fun s1 x1 x2 => ?_, fun s1 x1 x2 => ?_, fun s1 x1 => (b2 s1 (by omega) (by omega)).trans (a4 s1 x1)⟩
  · rcases (show s1 < s ∨ s1 = s by omega) with z | rfl
    · rcases a2 s1 x1 z with ⟨c1, c2, c3⟩ | ⟨c0, c1, c2, c3⟩
      · refine Or.inl ⟨c1, (b2 s1 x1 (by omega)).trans c2, fun j hj => ?_⟩
        obtain ⟨y1, y2⟩ := hout s1 j x1 (by omega) (by omega) hj
        rw [(b3 j y1 y2).1, (b3 j y1 y2).2]
        exact c3 j hj
      · refine Or.inr ⟨c0, c1, (b2 s1 x1 (by omega)).trans c2, fun j hj => ?_⟩
        obtain ⟨y1, y2⟩ := hout s1 j x1 (by omega) (by omega) hj
        rw [(b3 j y1 y2).1, (b3 j y1 y2).2]
        exact c3 j hj
    · have c := a3 s1 (Int.le_refl _) h1
      have e33 : A2 33 = A 33 := a1 33 (by decide) (by decide) (by decide)
      rcases b4 with ⟨c1, c2, c3⟩ | ⟨c0, c1, c2, c3⟩
      · refine Or.inl ⟨?_, c2, fun j hj => ?_⟩
        · rw [e33] at c1
          rcases c1 with c1 | c1
          · exact Or.inl c1
          · refine Or.inr (fun j hj => ?_)
            have := c1 j ((mq_in_c a1).mpr hj)
            rw [mq_rn_m a1 c hj, (c.2 j hj).1] at this
            exact this
        · rw [(c3 j ((mq_in_c a1).mpr hj)).1, (c3 j ((mq_in_c a1).mpr hj)).2]
          exact c.2 j hj
      · refine Or.inr ⟨by rw [← e33]; exact c0, ?_, c2, fun j hj => ?_⟩
        · obtain ⟨j, hj, hne⟩ := c1
          have hj := (mq_in_c a1).mp hj
          rw [mq_rn_m a1 c hj, (c.2 j hj).1] at hne
          exact ⟨j, hj, hne⟩
        · rw [(c3 j ((mq_in_c a1).mpr hj)).1, (c3 j ((mq_in_c a1).mpr hj)).2, mq_rn_m a1 c hj, (c.2 j hj).1]
          exact ⟨rfl, rfl⟩
  · have c := a3 s1 (by omega) x2
    refine ⟨(b2 s1 (by omega) (by omega)).trans c.1, fun j hj => ?_⟩
    obtain ⟨y1, y2⟩ := hout s1 j (by omega) x2 (by omega) hj
    rw [(b3 j y1 y2).1, (b3 j y1 y2).2]
    exact c.2 j hj
/-- what look makes of a process -/
def mq_hd (A : mq_A) (sg p : Int) : Prop := ∃ j : Int, 0 ≤ j ∧ j < sg ∧ A 34 j.toNat ≠ 0 ∧ A 49 (200 * p + j).toNat ≠ 0
def mq_lr (A B : mq_A) (nw sg p v : Int) : Prop := (A 46 p.toNat ≠ 1 ∧ v = A 46 p.toNat) ∨ (A 46 p.toNat = 1 ∧ B 48 p.toNat = nw ∧ v = 0) ∨ (A 46 p.toNat = 1 ∧ B 48 p.toNat ≠ nw ∧ mq_hd A sg p ∧ ((A 47 p.toNat ≠ 0 ∧ v = 2) ∨ (A 47 p.toNat = 0 ∧ v = 0))) ∨ (A 46 p.toNat = 1 ∧ B 48 p.toNat ≠ nw ∧ ¬ mq_hd A sg p ∧ v = 1)
def mq_ln2 (A B A3 : mq_A) (nw sg pr p : Int) : Prop := (∀ t, t ≠ 46 → A3 t = A t) ∧ (∀ p1 : Int, 0 ≤ p1 → p1 < p → mq_lr A B nw sg p1 (A3 46 p1.toNat)) ∧ ∀ p1 : Int, p ≤ p1 → A3 46 p1.toNat = A 46 p1.toNat
theorem mq_ln_0 {A B : mq_A} {nw sg pr : Int} : mq_ln2 A B A nw sg pr 0 := ⟨fun _ _ => rfl, fun p1 a b => by omega, fun _ _ => rfl⟩
theorem mq_ln_s {A B A3 A4 : mq_A} {nw sg pr p v : Int} (h : mq_ln2 A B A3 nw sg pr p) (h0 : 0 ≤ p) (h1 : A4 = md_u A3 46 p.toNat v) (h2 : mq_lr A B nw sg p v) : mq_ln2 A B A4 nw sg pr (p + 1) := by
  obtain ⟨a, b, c⟩ := h
  subst h1
  refine ⟨fun t z => (md_u_t z).trans (a t z), fun p1 z1 z2 => ?_, fun p1 z => (md_u_k (by omega)).trans (c p1 (by omega))⟩
  rcases (show p1 < p ∨ p1 = p by omega) with z | rfl
  · rw [md_u_k (by omega)]
    exact b p1 z1 z
  · rw [md_u_s]
    exact h2
theorem mq_ln_n {A B A3 : mq_A} {nw sg pr p : Int} (h : mq_ln2 A B A3 nw sg pr p) (h0 : 0 ≤ p) (h2 : mq_lr A B nw sg p (A 46 p.toNat)) : mq_ln2 A B A3 nw sg pr (p + 1) := by
  obtain ⟨a, b, c⟩ := h
  refine ⟨a, fun p1 z1 z2 => ?_, fun p1 z => c p1 (by omega)⟩
  rcases (show p1 < p ∨ p1 = p by omega) with z | rfl
  · exact b p1 z1 z
  · rw [c p1 (Int.le_refl _)]
    exact h2
def mq_cy (A B A1 B1 A2 A3 : mq_A) (t kp sz sg dr pr : Int) : Prop := (0 ≤ kp ∧ kp ≤ sz) ∧ mq_tk A B A1 B1 t kp sz ∧ (∀ s : Int, 0 ≤ s → s < sg → mq_ac A B A1 t sz s) ∧ (∀ s : Int, sg ≤ s → A1 33 s.toNat = A 33 s.toNat) ∧ mq_rn A1 A2 dr sg sg ∧ mq_ln2 A2 B1 A3 t sg pr pr
def sm_106 (as : List wi_V) (M : mq_H) (q : wi_Q1 mq_H) (_ : wi_Q2 mq_H) : Prop := mq_s as (mq_f M fun cd lm st sg el dr sz pr wc sp nw A B => 0 ≤ sg ∧ sg ≤ 200 ∧ 0 ≤ dr ∧ dr ≤ 512 ∧ 0 ≤ sz ∧ sz ≤ 8192 ∧ 0 ≤ pr ∧ pr ≤ 64 ∧ 0 ≤ sp ∧ sp ≤ 100000 ∧ (∀ j : Int, 0 ≤ j → j < sz → 0 ≤ B 41 j.toNat) ∧ (∀ j : Int, 0 ≤ j → j < pr → -1 ≤ B 48 j.toNat) ∧ (∀ s : Int, 0 ≤ s → s < sg → 0 ≤ A 32 s.toNat ∧ 0 ≤ A 31 s.toNat ∧ A 32 s.toNat + A 31 s.toNat ≤ 512) ∧
  (∀ j : Int, 0 ≤ j → j < sz → 0 ≤ A 40 j.toNat ∧ A 40 j.toNat < 512) ∧ (∀ s1 s2 : Int, 0 ≤ s1 → s1 < s2 → s2 < sg → A 32 s1.toNat + A 31 s1.toNat ≤ A 32 s2.toNat) ∧ (st = 0 ∨ (∃ j : Nat, (j : Int) < pr ∧ A 46 j = 0) ∨ (∃ j : Nat, (j : Int) < pr ∧ A 46 j = 2) → q (some (.inl 0)) ([1, lm, st, sg, el, dr, sz, pr, wc, sp, nw], A, B)) ∧ (st ≠ 0 → (∀ j : Nat, (j : Int) < pr → A 46 j ≠ 0) → (∀ j : Nat, (j : Int) < pr → A 46 j ≠ 2) → ∀ t : Int, mq_nx A B sz pr t → t = -1 → q (some (.inl 0)) ([0, lm, st, sg, el, dr, sz, pr, wc, sp, nw], A, B)) ∧ (st ≠ 0 → (∀ j : Nat, (j : Int) < pr → A 46 j ≠ 0) → (∀ j : Nat, (j : Int) < pr → A 46 j ≠ 2) → ∀ t : Int, mq_nx A B sz pr t → t ≠ -1 → t = nw → sp = lm → q (some (.inl 3)) ([0, lm, st, sg, el, dr, sz, pr, wc, sp, nw], A, B)) ∧
  (st ≠ 0 → (∀ j : Nat, (j : Int) < pr → A 46 j ≠ 0) → (∀ j : Nat, (j : Int) < pr → A 46 j ≠ 2) → ∀ t : Int, mq_nx A B sz pr t → t ≠ -1 → t = nw → sp ≠ lm → ∀ (A1 B1 A2 A3 : mq_A) (kp : Int), mq_cy A B A1 B1 A2 A3 t kp sz sg dr pr → q (some (.inl 2)) ([0, lm, st, sg, el, dr, kp, pr, wc, sp + 1, t], A3, B1)) ∧
  (st ≠ 0 → (∀ j : Nat, (j : Int) < pr → A 46 j ≠ 0) → (∀ j : Nat, (j : Int) < pr → A 46 j ≠ 2) → ∀ t : Int, mq_nx A B sz pr t → t ≠ -1 → t ≠ nw → ∀ (A1 B1 A2 A3 : mq_A) (kp : Int), mq_cy A B A1 B1 A2 A3 t kp sz sg dr pr → q (some (.inl 1)) ([0, lm, st, sg, el, dr, kp, pr, wc, 0, t], A3, B1)))
theorem mm_106 {l : Launch} {D : va_G} {aC : wm_Y} {b0 : Nat} (hl0 : l.stackTraces = false) : wm_sp l D aC b0 106 (wi_lf mq_Rl sm_106) := by
  refine wi_method mq_lw 106 (cx := fun id => if id = 104 then sm_104 else if id = 105 then sm_105 else if id = 107 then sm_107 else if id = 108 then sm_108 else if id = 109 then sm_109 else fun _ _ _ _ => False) (ids := ci_106) (tb := tb_106) (by decide +kernel) hl0 (wm_cxc (mm_104 hl0) oi_106 (fun h => wm_cxc (mm_105 hl0) h (fun h => wm_cxc (mm_107 hl0) h (fun h => wm_cxc (mm_108 hl0) h (fun h => wm_cxc (mm_109 hl0) h (fun h => wm_cxn h)))))) (wm_tb_ok tk_106) (by decide +kernel) [118, 142] 300 (fun as M q qt hs => ?_)
  obtain ⟨rfl, hs1⟩ := mq_s_e hs
  clear hs
  obtain ⟨cd, lm, st, sg, el, dr, sz, pr, wc, sp, nw, A, B, rfl, hs⟩ := mq_f_e hs1
  clear hs1
  obtain ⟨r1, r2, r3, r4, r5, r6, r7, r8, r9, r10, r11, r12, r13, r14, r15, h1, h2, h3, h4, h5⟩ := hs
  refine ⟨rfl, fun mz pc lv sk h cu su => match pc with | 118 => ∃ t : Int, ∃ x : Int, ∃ s : Int, ∃ sp1 : Int, ∃ kp : Int, ∃ A1 : mq_A, ∃ B1 : mq_A, ∃ A2 : mq_A, lv = [some (wi_rf (some 11)), some (.inr (.inl (t))), none, some (.inl (x)), some (.inl (s))] ∧ sk = [] ∧ h = ([0, lm, st, sg, el, dr, kp, pr, wc, sp1, t], A2, B1) ∧ cu = 0 ∧ su = 0 ∧ mz = (1000 - s).toNat ∧ 0 ≤ s ∧ s ≤ sg ∧ st ≠ 0 ∧ (∀ j : Nat, (j : Int) < pr → A 46 j ≠ 0) ∧ (∀ j : Nat, (j : Int) < pr → A 46 j ≠ 2) ∧ mq_nx A B sz pr t ∧ t ≠ -1 ∧ ((x = 1 ∧ t = nw ∧ sp ≠ lm ∧ sp1 = sp + 1) ∨ (x = 0 ∧ t ≠ nw ∧ sp1 = 0)) ∧ 0 ≤ kp ∧ kp ≤ sz ∧ mq_tk A B A1 B1 t kp sz ∧ (∀ s : Int, 0 ≤ s → s < sg → mq_ac A B A1 t sz s) ∧ (∀ s : Int, sg ≤ s → A1 33 s.toNat = A 33 s.toNat) ∧ mq_rn A1 A2 dr sg s | 142 => ∃ t : Int, ∃ x : Int, ∃ p : Int, ∃ sp1 : Int, ∃ kp : Int, ∃ A1 : mq_A, ∃ B1 : mq_A, ∃ A2 : mq_A, ∃ A3 : mq_A, lv = [some (wi_rf (some 11)), some (.inr (.inl (t))), none, some (.inl (x)), some (.inl (p))] ∧ sk = [] ∧ h = ([0, lm, st, sg, el, dr, kp, pr, wc, sp1, t], A3, B1) ∧ cu = 0 ∧ su = 0 ∧ mz = (100 - p).toNat ∧ 0 ≤ p ∧ p ≤ pr ∧ st ≠ 0 ∧ (∀ j : Nat, (j : Int) < pr → A 46 j ≠ 0) ∧ (∀ j : Nat, (j : Int) < pr → A 46 j ≠ 2) ∧ mq_nx A B sz pr t ∧ t ≠ -1 ∧ ((x = 1 ∧ t = nw ∧ sp ≠ lm ∧ sp1 = sp + 1) ∨ (x = 0 ∧ t ≠ nw ∧ sp1 = 0)) ∧ 0 ≤ kp ∧ kp ≤ sz ∧ mq_tk A B A1 B1 t kp sz ∧ (∀ s : Int, 0 ≤ s → s < sg → mq_ac A B A1 t sz s) ∧ (∀ s : Int, sg ≤ s → A1 33 s.toNat = A 33 s.toNat) ∧ mq_rn A1 A2 dr sg sg ∧ mq_ln2 A2 B1 A3 t sg pr p | _ => False, mq_c2 (fun mz lv sk h cu su hI => ?_) (fun mz lv sk h cu su hI => ?_), ?_⟩
  · obtain ⟨t, x, s, sp1, kp, A1, B1, A2, rfl, rfl, rfl, rfl, rfl, rfl, p1, p2, p3, p4, p5, p6, p7, p8, p9, p10, p11, p12, p13, p14⟩ := hI
    have e1 : ∀ t, t ≠ 33 → t ≠ 39 → t ≠ 40 → t ≠ 42 → A1 t = A t := p11.1
    have e32 : A2 32 s.toNat = A 32 s.toNat := by rw [p14.1 32 (by decide) (by decide) (by decide), e1 32 (by decide) (by decide) (by decide) (by decide)]
    have e31 : A2 31 s.toNat = A 31 s.toNat := by rw [p14.1 31 (by decide) (by decide) (by decide), e1 31 (by decide) (by decide) (by decide) (by decide)]
    have r16 := r13 s
    have nxt : ∀ A4 : mq_A, s < sg → mq_rw A2 A4 dr s → mq_rn A1 A4 dr sg (s + 1) := fun A4 z w => mq_rn_s p14 p1 z w (fun s1 y1 y2 => by rw [e1 32 (by decide) (by decide) (by decide) (by decide)]; exact (r13 s1 y1 y2).1) (fun s1 s2 y1 y2 y3 => by rw [e1 32 (by decide) (by decide) (by decide) (by decide), e1 31 (by decide) (by decide) (by decide) (by decide)]; exact r15 s1 s2 y1 y2 y3)
    repeat' first
      | refine And.intro ?_ ?_
      | (intro hA; have hA2 : ∀ j : Int, A2 32 s.toNat ≤ j → j < A2 32 s.toNat + A2 31 s.toNat → mq_made A2 dr s j = A2 35 j.toNat := hA)
      | (rintro ⟨j, j1, j2, j3⟩; have hE : ∃ j, mq_in A2 s j ∧ mq_made A2 dr s j ≠ A2 35 j.toNat := ⟨j, ⟨j1, j2⟩, j3⟩)
      | (intro h; try omega)
      | omega
      | (have hx := nxt _ (by omega) (mq_rw_0 p1 (by first | exact Or.inl (by assumption) | exact Or.inr (fun j hj => hA j hj.1 hj.2))); refine Exists.intro _ (And.intro ?_ (Exists.intro (t) (Exists.intro (x) (Exists.intro (s + 1) (Exists.intro (sp1) (Exists.intro (kp) (Exists.intro (A1) (Exists.intro (_) (Exists.intro (_) (And.intro rfl (And.intro rfl (And.intro rfl (And.intro rfl (And.intro rfl (And.intro rfl (?_)))))))))))))))) <;> first | omega | exact ⟨by omega, by omega, p3, p4, p5, p6, p7, p8, p9, p10, p11, p12, p13, hx⟩)
      | (have hx := nxt _ (by omega) (mq_rw_1 p1 (by omega) (by assumption) hE); refine Exists.intro _ (And.intro ?_ (Exists.intro (t) (Exists.intro (x) (Exists.intro (s + 1) (Exists.intro (sp1) (Exists.intro (kp) (Exists.intro (A1) (Exists.intro (_) (Exists.intro (_) (And.intro rfl (And.intro rfl (And.intro rfl (And.intro rfl (And.intro rfl (And.intro rfl (?_)))))))))))))))) <;> first | omega | exact ⟨by omega, by omega, p3, p4, p5, p6, p7, p8, p9, p10, p11, p12, p13, hx⟩)
      | (have ed : s = sg := (by omega); subst ed; refine Exists.intro _ (And.intro ?_ (Exists.intro (t) (Exists.intro (x) (Exists.intro (0) (Exists.intro (sp1) (Exists.intro (kp) (Exists.intro (A1) (Exists.intro (_) (Exists.intro (A2) (Exists.intro (_) (And.intro rfl (And.intro rfl (And.intro rfl (And.intro rfl (And.intro rfl (And.intro rfl (?_))))))))))))))))) <;> first | omega | exact ⟨by omega, by omega, p3, p4, p5, p6, p7, p8, p9, p10, p11, p12, p13, p14, mq_ln_0⟩)
      | exact Nat.le_of_ble_eq_true rfl
  · obtain ⟨t, x, p, sp1, kp, A1, B1, A2, A3, rfl, rfl, rfl, rfl, rfl, rfl, p1, p2, p3, p4, p5, p6, p7, p8, p9, p10, p11, p12, p13, p14, p15⟩ := hI
    have f46 : A3 46 p.toNat = A2 46 p.toNat := p15.2.2 p (Int.le_refl _)
    have f47 : A3 47 p.toNat = A2 47 p.toNat := by rw [p15.1 47 (by decide)]
    have f34 : A3 34 = A2 34 := p15.1 34 (by decide)
    have f49 : A3 49 = A2 49 := p15.1 49 (by decide)
    have cy : p = pr → mq_cy A B A1 B1 A2 A3 t kp sz sg dr pr := fun z => ⟨⟨p9, p10⟩, p11, p12, p13, p14, by rw [← z]; rw [← z] at p15; exact p15⟩
    repeat' first
      | refine And.intro ?_ ?_
      | (rintro ⟨j, j1, j2, j3, j4⟩; have hE : mq_hd A2 sg p := ⟨j, j1, j2, by rw [← f34]; exact j3, by rw [← f49]; exact j4⟩)
      | (intro hA; have hN : ¬ mq_hd A2 sg p := fun ⟨j, j1, j2, j3, j4⟩ => by have := hA j j1 j2; rw [f34, f49] at this; omega)
      | (intro h; try omega)
      | omega
      | exact h4 p3 p4 p5 t p6 p7 (by omega) (by omega) A1 B1 A2 A3 kp (cy (by omega))
      | exact h5 p3 p4 p5 t p6 p7 (by omega) A1 B1 A2 A3 kp (cy (by omega))
      | (have g9 : x = 1 ∧ sp1 = sp + 1 := (by omega); obtain ⟨rfl, rfl⟩ := g9; exact h4 p3 p4 p5 t p6 p7 (by omega) (by omega) A1 B1 A2 A3 kp (cy (by omega)))
      | (have g9 : x = 0 ∧ sp1 = 0 := (by omega); obtain ⟨rfl, rfl⟩ := g9; exact h5 p3 p4 p5 t p6 p7 (by omega) A1 B1 A2 A3 kp (cy (by omega)))
      | (have hx : mq_ln2 A2 B1 _ t sg pr (p + 1) := mq_ln_n p15 p1 (Or.inl ⟨by omega, rfl⟩); refine Exists.intro _ (And.intro ?_ (Exists.intro (t) (Exists.intro (x) (Exists.intro (p + 1) (Exists.intro (sp1) (Exists.intro (kp) (Exists.intro (A1) (Exists.intro (_) (Exists.intro (A2) (Exists.intro (_) (And.intro rfl (And.intro rfl (And.intro rfl (And.intro rfl (And.intro rfl (And.intro rfl (?_))))))))))))))))) <;> first | omega | exact ⟨by omega, by omega, p3, p4, p5, p6, p7, p8, p9, p10, p11, p12, p13, p14, hx⟩)
      | (have hx : mq_ln2 A2 B1 _ t sg pr (p + 1) := mq_ln_s p15 p1 rfl (Or.inr (Or.inl ⟨by omega, by assumption, rfl⟩)); refine Exists.intro _ (And.intro ?_ (Exists.intro (t) (Exists.intro (x) (Exists.intro (p + 1) (Exists.intro (sp1) (Exists.intro (kp) (Exists.intro (A1) (Exists.intro (_) (Exists.intro (A2) (Exists.intro (_) (And.intro rfl (And.intro rfl (And.intro rfl (And.intro rfl (And.intro rfl (And.intro rfl (?_))))))))))))))))) <;> first | omega | exact ⟨by omega, by omega, p3, p4, p5, p6, p7, p8, p9, p10, p11, p12, p13, p14, hx⟩)
      | (have hx : mq_ln2 A2 B1 _ t sg pr (p + 1) := mq_ln_s p15 p1 rfl (Or.inr (Or.inr (Or.inl ⟨by omega, by assumption, hE, Or.inl ⟨by omega, rfl⟩⟩))); refine Exists.intro _ (And.intro ?_ (Exists.intro (t) (Exists.intro (x) (Exists.intro (p + 1) (Exists.intro (sp1) (Exists.intro (kp) (Exists.intro (A1) (Exists.intro (_) (Exists.intro (A2) (Exists.intro (_) (And.intro rfl (And.intro rfl (And.intro rfl (And.intro rfl (And.intro rfl (And.intro rfl (?_))))))))))))))))) <;> first | omega | exact ⟨by omega, by omega, p3, p4, p5, p6, p7, p8, p9, p10, p11, p12, p13, p14, hx⟩)
      | (have hx : mq_ln2 A2 B1 _ t sg pr (p + 1) := mq_ln_s p15 p1 rfl (Or.inr (Or.inr (Or.inl ⟨by omega, by assumption, hE, Or.inr ⟨by omega, rfl⟩⟩))); refine Exists.intro _ (And.intro ?_ (Exists.intro (t) (Exists.intro (x) (Exists.intro (p + 1) (Exists.intro (sp1) (Exists.intro (kp) (Exists.intro (A1) (Exists.intro (_) (Exists.intro (A2) (Exists.intro (_) (And.intro rfl (And.intro rfl (And.intro rfl (And.intro rfl (And.intro rfl (And.intro rfl (?_))))))))))))))))) <;> first | omega | exact ⟨by omega, by omega, p3, p4, p5, p6, p7, p8, p9, p10, p11, p12, p13, p14, hx⟩)
      | (have hx : mq_ln2 A2 B1 _ t sg pr (p + 1) := mq_ln_n p15 p1 (Or.inr (Or.inr (Or.inr ⟨by omega, by assumption, hN, by omega⟩))); refine Exists.intro _ (And.intro ?_ (Exists.intro (t) (Exists.intro (x) (Exists.intro (p + 1) (Exists.intro (sp1) (Exists.intro (kp) (Exists.intro (A1) (Exists.intro (_) (Exists.intro (A2) (Exists.intro (_) (And.intro rfl (And.intro rfl (And.intro rfl (And.intro rfl (And.intro rfl (And.intro rfl (?_))))))))))))))))) <;> first | omega | exact ⟨by omega, by omega, p3, p4, p5, p6, p7, p8, p9, p10, p11, p12, p13, p14, hx⟩)
      | exact Nat.le_of_ble_eq_true rfl
  · repeat' first
      | refine And.intro ?_ ?_
      | exact r11
      | exact r12
      | exact r13
      | exact r14
      | (intro hE; have hE0 : (∃ j : Nat, (j : Int) < pr ∧ A 46 j = 0) := hE)
      | (intro hE; have hE2 : (∃ j : Nat, (j : Int) < pr ∧ A 46 j = 2) := hE)
      | (intro hE; have hN0 : (∀ j : Nat, (j : Int) < pr → A 46 j ≠ 0) := hE)
      | (intro hE; have hN2 : (∀ j : Nat, (j : Int) < pr → A 46 j ≠ 2) := hE)
      | (intro t hT0; have hT : mq_nx A B sz pr t := hT0)
      | (intro A1 B1 kp k1 k2 k3 k4 k5; have hK : mq_tk A B A1 B1 t kp sz := k3)
      | (intro h; try omega)
      | omega
      | exact h1 (Or.inl (by omega))
      | exact h1 (Or.inr (Or.inl hE0))
      | exact h1 (Or.inr (Or.inr hE2))
      | exact h2 (by assumption) hN0 hN2 _ hT (by omega)
      | exact h3 (by assumption) hN0 hN2 _ hT (by omega) (by omega) (by omega)
      | (refine Exists.intro _ (Exists.intro (t) (Exists.intro (1) (Exists.intro (0) (Exists.intro (sp + 1) (Exists.intro (kp) (Exists.intro (A1) (Exists.intro (B1) (Exists.intro (A1) (And.intro rfl (And.intro rfl (And.intro rfl (And.intro rfl (And.intro rfl (And.intro rfl (?_))))))))))))))) <;> first | omega | exact ⟨by omega, by omega, by assumption, hN0, hN2, hT, by assumption, by omega, k1, k2, k3, k4, k5, mq_rn_0⟩)
      | (refine Exists.intro _ (Exists.intro (t) (Exists.intro (0) (Exists.intro (0) (Exists.intro (0) (Exists.intro (kp) (Exists.intro (A1) (Exists.intro (B1) (Exists.intro (A1) (And.intro rfl (And.intro rfl (And.intro rfl (And.intro rfl (And.intro rfl (And.intro rfl (?_))))))))))))))) <;> first | omega | exact ⟨by omega, by omega, by assumption, hN0, hN2, hT, by assumption, by omega, k1, k2, k3, k4, k5, mq_rn_0⟩)
      | exact Nat.le_of_ble_eq_true rfl
end
section
/-! by program (wip/whole/gen_tabs.py): the methods of class, instruction by instruction -/
/-- CycleKernel.<init>(I)V -/
def tb_0 : wm_T := [(0, .aload_n 0, 0, 0, 0, 0), (1, .invokespecial 1, 0, 0, 9, 50), (4, .aload_n 0, 0, 0, 0, 0), (5, .sipush 200, 0, 0, 0, 0), (8, .anewarray 9, 20, 0, 0, 53), (11, .putfield 11, 2, 1, 2, 103), (14, .aload_n 0, 0, 0, 0, 0), (15, .bipush 64, 0, 0, 0, 0), (17, .anewarray 15, 21, 0, 0, 55), (20, .putfield 17, 2, 2, 2, 104), (23, .aload_n 0, 0, 0, 0, 0), (24, .new 21, 7, 2, 0, 57), (27, .dup, 0, 0, 0, 0), (28, .invokespecial 23, 63, 5, 0, 9999), (31, .putfield 24, 2, 3, 2, 105), (34, .aload_n 0, 0, 0, 0, 0), (35, .new 28, 10, 3, 0, 71), (38, .dup, 0, 0, 0, 0), (39, .invokespecial 30, 71, 8, 0, 9999), (42, .putfield 31, 2, 4, 2, 106), (45, .aload_n 0, 0, 0, 0, 0), (46, .new 35, 6, 1, 0, 91), (49, .dup, 0, 0, 0, 0), (50, .invokespecial 37, 57, 4, 0, 9999), (53, .putfield 38, 2, 5, 2, 107), (56, .aload_n 0, 0, 0, 0, 0), (57, .new 35, 6, 1, 0, 91), (60, .dup, 0, 0, 0, 0), (61, .invokespecial 37, 57, 4, 0, 9999), (64, .putfield 42, 2, 6, 2, 108), (67, .aload_n 0, 0, 0, 0, 0), (68, .iload_n 1, 0, 0, 0, 0), (69, .iconst 1, 0, 0, 0, 0), (70, .if_icmp .lt (13), 83, 0, 0, 0), (73, .iload_n 1, 0, 0, 0, 0), (74, .ldc 45, 100000, 0, 0, 101), (76, .if_icmp .gt (7), 83, 0, 0, 0), (79, .iload_n 1, 0, 0, 0, 0), (80, .goto (6), 86, 0, 0, 0), (83, .sipush 1000, 0, 0, 0, 0), (86, .putfield 46, 2, 0, 0, 102), (89, .return_, 0, 0, 0, 0)]
abbrev ci_0 : List Nat := [57, 63, 71]
theorem tk_0 : wm_tb (wm_mr 0) (wm_my 0).cls (wm_my 0).name (wm_mrt 0) ci_0 (wm_mb 0) tb_0 = true := by decide +kernel
theorem oi_0 : ci_0.all (wm_oib (wm_mr 0)) = true := by decide +kernel
/-- CycleKernel.signal(II)I -/
def tb_1 : wm_T := [(0, .iload_n 1, 0, 0, 0, 0), (1, .ifCond .lt (8), 9, 0, 0, 0), (4, .iload_n 1, 0, 0, 0, 0), (5, .iconst 2, 0, 0, 0, 0), (6, .if_icmp .le (13), 19, 0, 0, 0), (9, .new 50, 1, 6, 9, 209), (19, .iload_n 2, 0, 0, 0, 0), (20, .iconst 1, 0, 0, 0, 0), (21, .if_icmp .lt (18), 39, 0, 0, 0), (24, .iload_n 2, 0, 0, 0, 0), (25, .iload_n 1, 0, 0, 0, 0), (26, .iconst 1, 0, 0, 0, 0), (27, .if_icmp .ne (8), 35, 0, 0, 0), (30, .bipush 64, 0, 0, 0, 0), (32, .goto (4), 36, 0, 0, 0), (35, .iconst 1, 0, 0, 0, 0), (36, .if_icmp .le (13), 49, 0, 0, 0), (39, .new 50, 1, 6, 9, 209), (49, .aload_n 0, 0, 0, 0, 0), (50, .getfield 59, 2, 11, 0, 113), (53, .ifCond .ne (25), 78, 0, 0, 0), (56, .aload_n 0, 0, 0, 0, 0), (57, .getfield 63, 2, 7, 0, 109), (60, .sipush 200, 0, 0, 0, 0), (63, .if_icmp .ge (15), 78, 0, 0, 0), (66, .iload_n 2, 0, 0, 0, 0), (67, .sipush 512, 0, 0, 0, 0), (70, .aload_n 0, 0, 0, 0, 0), (71, .getfield 66, 2, 9, 0, 111), (74, .isub, 0, 0, 0, 0), (75, .if_icmp .le (13), 88, 0, 0, 0), (78, .new 69, 2, 6, 9, 278), (88, .aload_n 0, 0, 0, 0, 0), (89, .getfield 11, 2, 1, 2, 103), (92, .aload_n 0, 0, 0, 0, 0), (93, .getfield 63, 2, 7, 0, 109), (96, .new 9, 5, 6, 0, 53), (99, .dup, 0, 0, 0, 0), (100, .iload_n 1, 0, 0, 0, 0), (101, .iload_n 2, 0, 0, 0, 0), (102, .invokespecial 74, 48, 3, 0, 295), (105, .aastore, 20, 3, 0, 0), (106, .aload_n 0, 0, 0, 0, 0), (107, .dup, 0, 0, 0, 0), (108, .getfield 66, 2, 9, 0, 111), (111, .iload_n 2, 0, 0, 0, 0), (112, .iadd, 0, 0, 0, 0), (113, .putfield 66, 2, 9, 0, 111), (116, .aload_n 0, 0, 0, 0, 0), (117, .dup, 0, 0, 0, 0), (118, .getfield 63, 2, 7, 0, 109), (121, .dup_x1, 0, 0, 0, 0), (122, .iconst 1, 0, 0, 0, 0), (123, .iadd, 0, 0, 0, 0), (124, .putfield 63, 2, 7, 0, 109), (127, .ireturn, 0, 0, 0, 0)]
abbrev ci_1 : List Nat := [48]
theorem tk_1 : wm_tb (wm_mr 1) (wm_my 1).cls (wm_my 1).name (wm_mrt 1) ci_1 (wm_mb 1) tb_1 = true := by decide +kernel
theorem oi_1 : ci_1.all (wm_oib (wm_mr 1)) = true := by decide +kernel
/-- CycleKernel.process()I -/
def tb_2 : wm_T := [(0, .aload_n 0, 0, 0, 0, 0), (1, .getfield 59, 2, 11, 0, 113), (4, .ifCond .ne (12), 16, 0, 0, 0), (7, .aload_n 0, 0, 0, 0, 0), (8, .getfield 77, 2, 8, 0, 110), (11, .bipush 64, 0, 0, 0, 0), (13, .if_icmp .lt (13), 26, 0, 0, 0), (16, .new 69, 2, 6, 9, 278), (26, .aload_n 0, 0, 0, 0, 0), (27, .getfield 17, 2, 2, 2, 104), (30, .aload_n 0, 0, 0, 0, 0), (31, .getfield 77, 2, 8, 0, 110), (34, .new 15, 8, 4, 0, 55), (37, .dup, 0, 0, 0, 0), (38, .invokespecial 82, 66, 6, 0, 9999), (41, .aastore, 21, 6, 0, 0), (42, .aload_n 0, 0, 0, 0, 0), (43, .dup, 0, 0, 0, 0), (44, .getfield 77, 2, 8, 0, 110), (47, .dup_x1, 0, 0, 0, 0), (48, .iconst 1, 0, 0, 0, 0), (49, .iadd, 0, 0, 0, 0), (50, .putfield 77, 2, 8, 0, 110), (53, .ireturn, 0, 0, 0, 0)]
abbrev ci_2 : List Nat := [66]
theorem tk_2 : wm_tb (wm_mr 2) (wm_my 2).cls (wm_my 2).name (wm_mrt 2) ci_2 (wm_mb 2) tb_2 = true := by decide +kernel
theorem oi_2 : ci_2.all (wm_oib (wm_mr 2)) = true := by decide +kernel
/-- CycleKernel.drive(II)V -/
def tb_3 : wm_T := [(0, .aload_n 0, 0, 0, 0, 0), (1, .iload_n 1, 0, 0, 0, 0), (2, .invokevirtual 83, 25, 0, 0, 363), (5, .pop, 0, 0, 0, 0), (6, .aload_n 0, 0, 0, 0, 0), (7, .iload_n 2, 0, 0, 0, 0), (8, .invokevirtual 87, 26, 0, 0, 383), (11, .astore_n 3, 0, 0, 0, 0), (12, .aload_n 0, 0, 0, 0, 0), (13, .getfield 59, 2, 11, 0, 113), (16, .ifCond .eq (13), 29, 0, 0, 0), (19, .new 69, 2, 6, 9, 278), (29, .aload_n 3, 0, 0, 0, 0), (30, .iload_n 1, 0, 0, 0, 0), (31, .invokevirtual 93, 50, 3, 0, 389), (34, .ifnull (4), 38, 0, 0, 0), (37, .return_, 0, 0, 0, 0), (38, .aload_n 3, 0, 0, 0, 0), (39, .getfield 97, 5, 0, 0, 300), (42, .iconst 2, 0, 0, 0, 0), (43, .if_icmp .ne (20), 63, 0, 0, 0), (46, .aload_n 3, 0, 0, 0, 0), (47, .getfield 100, 5, 4, 2, 308), (50, .ifnull (13), 63, 0, 0, 0), (53, .new 69, 2, 6, 9, 278), (63, .aload_n 3, 0, 0, 0, 0), (64, .getfield 106, 5, 1, 0, 302), (67, .sipush 512, 0, 0, 0, 0), (70, .aload_n 0, 0, 0, 0, 0), (71, .getfield 109, 2, 10, 0, 112), (74, .isub, 0, 0, 0, 0), (75, .if_icmp .le (13), 88, 0, 0, 0), (78, .new 69, 2, 6, 9, 278), (88, .aload_n 3, 0, 0, 0, 0), (89, .new 114, 3, 3, 0, 395), (92, .dup, 0, 0, 0, 0), (93, .iload_n 1, 0, 0, 0, 0), (94, .aload_n 3, 0, 0, 0, 0), (95, .getfield 106, 5, 1, 0, 302), (98, .aload_n 0, 0, 0, 0, 0), (99, .getfield 24, 2, 3, 2, 105), (102, .aload_n 3, 0, 0, 0, 0), (103, .getfield 100, 5, 4, 2, 308), (106, .invokespecial 116, 36, 1, 0, 397), (109, .putfield 100, 5, 4, 2, 308), (112, .aload_n 0, 0, 0, 0, 0), (113, .dup, 0, 0, 0, 0), (114, .getfield 109, 2, 10, 0, 112), (117, .aload_n 3, 0, 0, 0, 0), (118, .getfield 106, 5, 1, 0, 302), (121, .iadd, 0, 0, 0, 0), (122, .putfield 109, 2, 10, 0, 112), (125, .return_, 0, 0, 0, 0)]
abbrev ci_3 : List Nat := [25, 26, 36, 50]
theorem tk_3 : wm_tb (wm_mr 3) (wm_my 3).cls (wm_my 3).name (wm_mrt 3) ci_3 (wm_mb 3) tb_3 = true := by decide +kernel
theorem oi_3 : ci_3.all (wm_oib (wm_mr 3)) = true := by decide +kernel
/-- CycleKernel.first(III)V -/
def tb_4 : wm_T := [(0, .aload_n 0, 0, 0, 0, 0), (1, .iload_n 1, 0, 0, 0, 0), (2, .invokevirtual 87, 26, 0, 0, 383), (5, .astore 4, 0, 0, 0, 0), (7, .aload 4, 0, 0, 0, 0), (9, .iload_n 2, 0, 0, 0, 0), (10, .iconst 1, 0, 0, 0, 0), (11, .invokestatic 119, 27, 0, 0, 440), (14, .aload 4, 0, 0, 0, 0), (16, .iload_n 3, 0, 0, 0, 0), (17, .invokevirtual 123, 49, 3, 0, 444), (20, .ifCond .ne (13), 33, 0, 0, 0), (23, .new 50, 1, 6, 9, 209), (33, .aload_n 0, 0, 0, 0, 0), (34, .getfield 59, 2, 11, 0, 113), (37, .ifCond .eq (13), 50, 0, 0, 0), (40, .new 69, 2, 6, 9, 278), (50, .aload 4, 0, 0, 0, 0), (52, .getfield 129, 5, 2, 2, 304), (55, .iload_n 2, 0, 0, 0, 0), (56, .iload_n 3, 0, 0, 0, 0), (57, .iastore, 26, 0, 0, 0), (58, .return_, 0, 0, 0, 0)]
abbrev ci_4 : List Nat := [26, 27, 49]
theorem tk_4 : wm_tb (wm_mr 4) (wm_my 4).cls (wm_my 4).name (wm_mrt 4) ci_4 (wm_mb 4) tb_4 = true := by decide +kernel
theorem oi_4 : ci_4.all (wm_oib (wm_mr 4)) = true := by decide +kernel
/-- CycleKernel.start()V -/
def tb_5 : wm_T := [(0, .aload_n 0, 0, 0, 0, 0), (1, .getfield 59, 2, 11, 0, 113), (4, .ifCond .eq (13), 17, 0, 0, 0), (7, .new 69, 2, 6, 9, 278), (17, .aload_n 0, 0, 0, 0, 0), (18, .iconst 1, 0, 0, 0, 0), (19, .putfield 59, 2, 11, 0, 113), (22, .iconst 0, 0, 0, 0, 0), (23, .istore_n 1, 0, 0, 0, 0), (24, .iload_n 1, 0, 0, 0, 0), (25, .aload_n 0, 0, 0, 0, 0), (26, .getfield 63, 2, 7, 0, 109), (29, .if_icmp .ge (18), 47, 0, 0, 0), (32, .aload_n 0, 0, 0, 0, 0), (33, .getfield 11, 2, 1, 2, 103), (36, .iload_n 1, 0, 0, 0, 0), (37, .aaload, 20, 0, 0, 0), (38, .invokevirtual 133, 51, 3, 0, 456), (41, .iinc 1 1, 0, 0, 0, 0), (44, .goto (-20), 24, 0, 0, 0), (47, .iconst 0, 0, 0, 0, 0), (48, .istore_n 1, 0, 0, 0, 0), (49, .iload_n 1, 0, 0, 0, 0), (50, .aload_n 0, 0, 0, 0, 0), (51, .getfield 77, 2, 8, 0, 110), (54, .if_icmp .ge (19), 73, 0, 0, 0), (57, .aload_n 0, 0, 0, 0, 0), (58, .getfield 17, 2, 2, 2, 104), (61, .iload_n 1, 0, 0, 0, 0), (62, .aaload, 21, 0, 0, 0), (63, .iconst 0, 0, 0, 0, 0), (64, .putfield 136, 8, 1, 0, 341), (67, .iinc 1 1, 0, 0, 0, 0), (70, .goto (-21), 49, 0, 0, 0), (73, .return_, 0, 0, 0, 0)]
abbrev ci_5 : List Nat := [51]
theorem tk_5 : wm_tb (wm_mr 5) (wm_my 5).cls (wm_my 5).name (wm_mrt 5) ci_5 (wm_mb 5) tb_5 = true := by decide +kernel
theorem oi_5 : ci_5.all (wm_oib (wm_mr 5)) = true := by decide +kernel
/-- CycleKernel.wave(J)V -/
def tb_6 : wm_T := [(0, .lload_n 1, 0, 0, 0, 0), (1, .lconst 0, 0, 0, 0, 0), (2, .lcmp, 0, 0, 0, 0), (3, .ifCond .lt (11), 14, 0, 0, 0), (6, .lload_n 1, 0, 0, 0, 0), (7, .ldc2_w 139, 1152921504606846976, 0, 0, 475), (10, .lcmp, 0, 0, 0, 0), (11, .ifCond .le (13), 24, 0, 0, 0), (14, .new 50, 1, 6, 9, 209), (24, .aload_n 0, 0, 0, 0, 0), (25, .getfield 31, 2, 4, 2, 106), (28, .getfield 143, 10, 2, 0, 81), (31, .bipush 16, 0, 0, 0, 0), (33, .if_icmp .lt (13), 46, 0, 0, 0), (36, .new 69, 2, 6, 9, 278), (46, .aload_n 0, 0, 0, 0, 0), (47, .getfield 31, 2, 4, 2, 106), (50, .lload_n 1, 0, 0, 0, 0), (51, .invokevirtual 148, 72, 8, 0, 478), (54, .return_, 0, 0, 0, 0)]
abbrev ci_6 : List Nat := [72]
theorem tk_6 : wm_tb (wm_mr 6) (wm_my 6).cls (wm_my 6).name (wm_mrt 6) ci_6 (wm_mb 6) tb_6 = true := by decide +kernel
theorem oi_6 : ci_6.all (wm_oib (wm_mr 6)) = true := by decide +kernel
/-- CycleKernel.put(II)V -/
def tb_7 : wm_T := [(0, .iload_n 1, 0, 0, 0, 0), (1, .ifCond .lt (9), 10, 0, 0, 0), (4, .iload_n 1, 0, 0, 0, 0), (5, .bipush 64, 0, 0, 0, 0), (7, .if_icmp .lt (13), 20, 0, 0, 0), (10, .new 152, 3, 6, 9, 367), (20, .aload_n 0, 0, 0, 0, 0), (21, .getfield 31, 2, 4, 2, 106), (24, .getfield 143, 10, 2, 0, 81), (27, .ifCond .ne (13), 40, 0, 0, 0), (30, .new 69, 2, 6, 9, 278), (40, .aload_n 0, 0, 0, 0, 0), (41, .getfield 31, 2, 4, 2, 106), (44, .iload_n 1, 0, 0, 0, 0), (45, .iload_n 2, 0, 0, 0, 0), (46, .invokevirtual 159, 73, 8, 0, 490), (49, .return_, 0, 0, 0, 0)]
abbrev ci_7 : List Nat := [73]
theorem tk_7 : wm_tb (wm_mr 7) (wm_my 7).cls (wm_my 7).name (wm_mrt 7) ci_7 (wm_mb 7) tb_7 = true := by decide +kernel
theorem oi_7 : ci_7.all (wm_oib (wm_mr 7)) = true := by decide +kernel
/-- CycleKernel.drop()V -/
def tb_8 : wm_T := [(0, .aload_n 0, 0, 0, 0, 0), (1, .getfield 31, 2, 4, 2, 106), (4, .iconst 0, 0, 0, 0, 0), (5, .putfield 143, 10, 2, 0, 81), (8, .aload_n 0, 0, 0, 0, 0), (9, .getfield 38, 2, 5, 2, 107), (12, .invokevirtual 162, 62, 4, 0, 149), (15, .return_, 0, 0, 0, 0)]
abbrev ci_8 : List Nat := [62]
theorem tk_8 : wm_tb (wm_mr 8) (wm_my 8).cls (wm_my 8).name (wm_mrt 8) ci_8 (wm_mb 8) tb_8 = true := by decide +kernel
theorem oi_8 : ci_8.all (wm_oib (wm_mr 8)) = true := by decide +kernel
/-- CycleKernel.assign(IIIIIJ)I -/
def tb_9 : wm_T := [(0, .aload_n 0, 0, 0, 0, 0), (1, .iload_n 1, 0, 0, 0, 0), (2, .invokevirtual 83, 25, 0, 0, 363), (5, .astore 8, 0, 0, 0, 0), (7, .aload_n 0, 0, 0, 0, 0), (8, .iload_n 2, 0, 0, 0, 0), (9, .invokevirtual 87, 26, 0, 0, 383), (12, .astore 9, 0, 0, 0, 0), (14, .aload 9, 0, 0, 0, 0), (16, .iload_n 3, 0, 0, 0, 0), (17, .iload 4, 0, 0, 0, 0), (19, .invokestatic 119, 27, 0, 0, 440), (22, .aload 9, 0, 0, 0, 0), (24, .iload_n 1, 0, 0, 0, 0), (25, .invokevirtual 93, 50, 3, 0, 389), (28, .astore 10, 0, 0, 0, 0), (30, .aload 8, 0, 0, 0, 0), (32, .getfield 136, 8, 1, 0, 341), (35, .ifCond .ne (18), 53, 0, 0, 0), (38, .aload 10, 0, 0, 0, 0), (40, .ifnull (13), 53, 0, 0, 0), (43, .aload_n 0, 0, 0, 0, 0), (44, .getfield 31, 2, 4, 2, 106), (47, .getfield 143, 10, 2, 0, 81), (50, .ifCond .ne (13), 63, 0, 0, 0), (53, .new 69, 2, 6, 9, 278), (63, .aload_n 0, 0, 0, 0, 0), (64, .iload 5, 0, 0, 0, 0), (66, .lload 6, 0, 0, 0, 0), (68, .invokevirtual 167, 28, 0, 0, 502), (71, .ifCond .eq (24), 95, 0, 0, 0), (74, .aload_n 0, 0, 0, 0, 0), (75, .invokevirtual 171, 29, 0, 0, 506), (78, .ifCond .eq (17), 95, 0, 0, 0), (81, .aload_n 0, 0, 0, 0, 0), (82, .getfield 31, 2, 4, 2, 106), (85, .aload 9, 0, 0, 0, 0), (87, .iload 4, 0, 0, 0, 0), (89, .invokevirtual 175, 77, 8, 0, 518), (92, .ifCond .ne (13), 105, 0, 0, 0), (95, .new 50, 1, 6, 9, 209), (105, .iload 4, 0, 0, 0, 0), (107, .aload_n 0, 0, 0, 0, 0), (108, .getfield 31, 2, 4, 2, 106), (111, .getfield 143, 10, 2, 0, 81), (114, .imul, 0, 0, 0, 0), (115, .sipush 8192, 0, 0, 0, 0), (118, .aload_n 0, 0, 0, 0, 0), (119, .getfield 24, 2, 3, 2, 105), (122, .getfield 181, 7, 0, 0, 64), (125, .isub, 0, 0, 0, 0), (126, .if_icmp .le (13), 139, 0, 0, 0), (129, .new 69, 2, 6, 9, 278), (139, .iload 5, 0, 0, 0, 0), (141, .ifCond .ne (15), 156, 0, 0, 0), (144, .aload_n 0, 0, 0, 0, 0), (145, .getfield 31, 2, 4, 2, 106), (148, .getfield 186, 10, 0, 2, 78), (151, .iconst 0, 0, 0, 0, 0), (152, .laload, 23, 0, 0, 0), (153, .goto (5), 158, 0, 0, 0), (156, .lload 6, 0, 0, 0, 0), (158, .lstore 11, 0, 0, 0, 0), (160, .iconst 0, 0, 0, 0, 0), (161, .istore 13, 0, 0, 0, 0), (163, .iconst 0, 0, 0, 0, 0), (164, .istore 14, 0, 0, 0, 0), (166, .iload 14, 0, 0, 0, 0), (168, .iload 4, 0, 0, 0, 0), (170, .if_icmp .ge (43), 213, 0, 0, 0), (173, .iload 13, 0, 0, 0, 0), (175, .aload_n 0, 0, 0, 0, 0), (176, .aload 10, 0, 0, 0, 0), (178, .getfield 190, 3, 1, 2, 423), (181, .iload_n 3, 0, 0, 0, 0), (182, .iload 14, 0, 0, 0, 0), (184, .iadd, 0, 0, 0, 0), (185, .aaload, 22, 0, 0, 0), (186, .iload 14, 0, 0, 0, 0), (188, .iload 5, 0, 0, 0, 0), (190, .iconst 1, 0, 0, 0, 0), (191, .if_icmp .eq (7), 198, 0, 0, 0), (194, .iconst 1, 0, 0, 0, 0), (195, .goto (4), 199, 0, 0, 0), (198, .iconst 0, 0, 0, 0, 0), (199, .lload 11, 0, 0, 0, 0), (201, .invokevirtual 194, 30, 0, 0, 529), (204, .iadd, 0, 0, 0, 0), (205, .istore 13, 0, 0, 0, 0), (207, .iinc 14 1, 0, 0, 0, 0), (210, .goto (-44), 166, 0, 0, 0), (213, .aload_n 0, 0, 0, 0, 0), (214, .getfield 31, 2, 4, 2, 106), (217, .iconst 0, 0, 0, 0, 0), (218, .putfield 143, 10, 2, 0, 81), (221, .iload 13, 0, 0, 0, 0), (223, .ireturn, 0, 0, 0, 0)]
abbrev ci_9 : List Nat := [25, 26, 27, 28, 29, 30, 50, 77]
theorem tk_9 : wm_tb (wm_mr 9) (wm_my 9).cls (wm_my 9).name (wm_mrt 9) ci_9 (wm_mb 9) tb_9 = true := by decide +kernel
theorem oi_9 : ci_9.all (wm_oib (wm_mr 9)) = true := by decide +kernel
/-- CycleKernel.on(I)V -/
def tb_10 : wm_T := [(0, .aload_n 0, 0, 0, 0, 0), (1, .iload_n 1, 0, 0, 0, 0), (2, .invokevirtual 87, 26, 0, 0, 383), (5, .pop, 0, 0, 0, 0), (6, .aload_n 0, 0, 0, 0, 0), (7, .getfield 38, 2, 5, 2, 107), (10, .iload_n 1, 0, 0, 0, 0), (11, .invokevirtual 198, 58, 4, 0, 593), (14, .return_, 0, 0, 0, 0)]
abbrev ci_10 : List Nat := [26, 58]
theorem tk_10 : wm_tb (wm_mr 10) (wm_my 10).cls (wm_my 10).name (wm_mrt 10) ci_10 (wm_mb 10) tb_10 = true := by decide +kernel
theorem oi_10 : ci_10.all (wm_oib (wm_mr 10)) = true := by decide +kernel
/-- CycleKernel.suspend(IZJ)V -/
def tb_11 : wm_T := [(0, .aload_n 0, 0, 0, 0, 0), (1, .iload_n 1, 0, 0, 0, 0), (2, .invokevirtual 83, 25, 0, 0, 363), (5, .astore 5, 0, 0, 0, 0), (7, .lload_n 3, 0, 0, 0, 0), (8, .ldc2_w 201, 18446744073709551615, 0, 0, 177), (11, .lcmp, 0, 0, 0, 0), (12, .ifCond .lt (16), 28, 0, 0, 0), (15, .lload_n 3, 0, 0, 0, 0), (16, .ldc2_w 139, 1152921504606846976, 0, 0, 475), (19, .aload_n 0, 0, 0, 0, 0), (20, .getfield 203, 2, 12, 1, 114), (23, .lsub, 0, 0, 0, 0), (24, .lcmp, 0, 0, 0, 0), (25, .ifCond .le (13), 38, 0, 0, 0), (28, .new 50, 1, 6, 9, 209), (38, .aload 5, 0, 0, 0, 0), (40, .getfield 136, 8, 1, 0, 341), (43, .ifCond .eq (13), 56, 0, 0, 0), (46, .new 69, 2, 6, 9, 278), (56, .aload 5, 0, 0, 0, 0), (58, .iconst 1, 0, 0, 0, 0), (59, .putfield 136, 8, 1, 0, 341), (62, .aload 5, 0, 0, 0, 0), (64, .iload_n 2, 0, 0, 0, 0), (65, .putfield 209, 8, 2, 0, 343), (68, .aload 5, 0, 0, 0, 0), (70, .lload_n 3, 0, 0, 0, 0), (71, .ldc2_w 201, 18446744073709551615, 0, 0, 177), (74, .lcmp, 0, 0, 0, 0), (75, .ifCond .ne (9), 84, 0, 0, 0), (78, .ldc2_w 201, 18446744073709551615, 0, 0, 177), (81, .goto (9), 90, 0, 0, 0), (84, .aload_n 0, 0, 0, 0, 0), (85, .getfield 203, 2, 12, 1, 114), (88, .lload_n 3, 0, 0, 0, 0), (89, .ladd, 0, 0, 0, 0), (90, .putfield 212, 8, 3, 1, 345), (93, .aload 5, 0, 0, 0, 0), (95, .getfield 215, 8, 0, 2, 339), (98, .aload_n 0, 0, 0, 0, 0), (99, .getfield 38, 2, 5, 2, 107), (102, .invokevirtual 216, 61, 4, 0, 605), (105, .aload_n 0, 0, 0, 0, 0), (106, .getfield 38, 2, 5, 2, 107), (109, .invokevirtual 162, 62, 4, 0, 149), (112, .return_, 0, 0, 0, 0)]
abbrev ci_11 : List Nat := [25, 61, 62]
theorem tk_11 : wm_tb (wm_mr 11) (wm_my 11).cls (wm_my 11).name (wm_mrt 11) ci_11 (wm_mb 11) tb_11 = true := by decide +kernel
theorem oi_11 : ci_11.all (wm_oib (wm_mr 11)) = true := by decide +kernel
/-- CycleKernel.end(I)V -/
def tb_12 : wm_T := [(0, .aload_n 0, 0, 0, 0, 0), (1, .iload_n 1, 0, 0, 0, 0), (2, .invokevirtual 83, 25, 0, 0, 363), (5, .astore_n 2, 0, 0, 0, 0), (6, .aload_n 2, 0, 0, 0, 0), (7, .invokevirtual 220, 67, 6, 0, 616), (10, .ifCond .ne (13), 23, 0, 0, 0), (13, .new 69, 2, 6, 9, 278), (23, .aload_n 2, 0, 0, 0, 0), (24, .iconst 3, 0, 0, 0, 0), (25, .putfield 136, 8, 1, 0, 341), (28, .return_, 0, 0, 0, 0)]
abbrev ci_12 : List Nat := [25, 67]
theorem tk_12 : wm_tb (wm_mr 12) (wm_my 12).cls (wm_my 12).name (wm_mrt 12) ci_12 (wm_mb 12) tb_12 = true := by decide +kernel
theorem oi_12 : ci_12.all (wm_oib (wm_mr 12)) = true := by decide +kernel
/-- CycleKernel.answer(IZ)V -/
def tb_13 : wm_T := [(0, .aload_n 0, 0, 0, 0, 0), (1, .iload_n 1, 0, 0, 0, 0), (2, .invokevirtual 83, 25, 0, 0, 363), (5, .astore_n 3, 0, 0, 0, 0), (6, .aload_n 3, 0, 0, 0, 0), (7, .getfield 136, 8, 1, 0, 341), (10, .iconst 2, 0, 0, 0, 0), (11, .if_icmp .eq (13), 24, 0, 0, 0), (14, .new 69, 2, 6, 9, 278), (24, .aload_n 3, 0, 0, 0, 0), (25, .iload_n 2, 0, 0, 0, 0), (26, .ifCond .eq (7), 33, 0, 0, 0), (29, .iconst 0, 0, 0, 0, 0), (30, .goto (4), 34, 0, 0, 0), (33, .iconst 1, 0, 0, 0, 0), (34, .putfield 136, 8, 1, 0, 341), (37, .return_, 0, 0, 0, 0)]
abbrev ci_13 : List Nat := [25]
theorem tk_13 : wm_tb (wm_mr 13) (wm_my 13).cls (wm_my 13).name (wm_mrt 13) ci_13 (wm_mb 13) tb_13 = true := by decide +kernel
theorem oi_13 : ci_13.all (wm_oib (wm_mr 13)) = true := by decide +kernel
/-- CycleKernel.cycle()I -/
def tb_14 : wm_T := [(0, .aload_n 0, 0, 0, 0, 0), (1, .getfield 59, 2, 11, 0, 113), (4, .ifCond .eq (10), 14, 0, 0, 0), (7, .aload_n 0, 0, 0, 0, 0), (8, .invokevirtual 227, 31, 0, 0, 636), (11, .ifCond .eq (13), 24, 0, 0, 0), (14, .new 69, 2, 6, 9, 278), (24, .aload_n 0, 0, 0, 0, 0), (25, .invokevirtual 232, 32, 0, 0, 173), (28, .lstore_n 1, 0, 0, 0, 0), (29, .lload_n 1, 0, 0, 0, 0), (30, .ldc2_w 201, 18446744073709551615, 0, 0, 177), (33, .lcmp, 0, 0, 0, 0), (34, .ifCond .ne (5), 39, 0, 0, 0), (37, .iconst 0, 0, 0, 0, 0), (38, .ireturn, 0, 0, 0, 0), (39, .lload_n 1, 0, 0, 0, 0), (40, .aload_n 0, 0, 0, 0, 0), (41, .getfield 203, 2, 12, 1, 114), (44, .lcmp, 0, 0, 0, 0), (45, .ifCond .ne (7), 52, 0, 0, 0), (48, .iconst 1, 0, 0, 0, 0), (49, .goto (4), 53, 0, 0, 0), (52, .iconst 0, 0, 0, 0, 0), (53, .istore_n 3, 0, 0, 0, 0), (54, .iload_n 3, 0, 0, 0, 0), (55, .ifCond .eq (16), 71, 0, 0, 0), (58, .aload_n 0, 0, 0, 0, 0), (59, .getfield 236, 2, 13, 0, 115), (62, .aload_n 0, 0, 0, 0, 0), (63, .getfield 46, 2, 0, 0, 102), (66, .if_icmp .lt (5), 71, 0, 0, 0), (69, .iconst 3, 0, 0, 0, 0), (70, .ireturn, 0, 0, 0, 0), (71, .aload_n 0, 0, 0, 0, 0), (72, .iload_n 3, 0, 0, 0, 0), (73, .ifCond .eq (12), 85, 0, 0, 0), (76, .aload_n 0, 0, 0, 0, 0), (77, .getfield 236, 2, 13, 0, 115), (80, .iconst 1, 0, 0, 0, 0), (81, .iadd, 0, 0, 0, 0), (82, .goto (4), 86, 0, 0, 0), (85, .iconst 0, 0, 0, 0, 0), (86, .putfield 236, 2, 13, 0, 115), (89, .aload_n 0, 0, 0, 0, 0), (90, .lload_n 1, 0, 0, 0, 0), (91, .putfield 203, 2, 12, 1, 114), (94, .aload_n 0, 0, 0, 0, 0), (95, .invokevirtual 239, 34, 0, 0, 641), (98, .aload_n 0, 0, 0, 0, 0), (99, .invokevirtual 242, 35, 0, 0, 661), (102, .iload_n 3, 0, 0, 0, 0), (103, .ifCond .eq (7), 110, 0, 0, 0), (106, .iconst 2, 0, 0, 0, 0), (107, .goto (4), 111, 0, 0, 0), (110, .iconst 1, 0, 0, 0, 0), (111, .ireturn, 0, 0, 0, 0)]
abbrev ci_14 : List Nat := [31, 32, 34, 35]
theorem tk_14 : wm_tb (wm_mr 14) (wm_my 14).cls (wm_my 14).name (wm_mrt 14) ci_14 (wm_mb 14) tb_14 = true := by decide +kernel
theorem oi_14 : ci_14.all (wm_oib (wm_mr 14)) = true := by decide +kernel
/-- CycleKernel.state(I)I -/
def tb_15 : wm_T := [(0, .aload_n 0, 0, 0, 0, 0), (1, .iload_n 1, 0, 0, 0, 0), (2, .invokevirtual 83, 25, 0, 0, 363), (5, .getfield 136, 8, 1, 0, 341), (8, .ireturn, 0, 0, 0, 0)]
abbrev ci_15 : List Nat := [25]
theorem tk_15 : wm_tb (wm_mr 15) (wm_my 15).cls (wm_my 15).name (wm_mrt 15) ci_15 (wm_mb 15) tb_15 = true := by decide +kernel
theorem oi_15 : ci_15.all (wm_oib (wm_mr 15)) = true := by decide +kernel
/-- CycleKernel.which(II)I -/
def tb_16 : wm_T := [(0, .iload_n 1, 0, 0, 0, 0), (1, .ifCond .lt (8), 9, 0, 0, 0), (4, .iload_n 1, 0, 0, 0, 0), (5, .iconst 3, 0, 0, 0, 0), (6, .if_icmp .le (13), 19, 0, 0, 0), (9, .new 50, 1, 6, 9, 209), (19, .iconst 0, 0, 0, 0, 0), (20, .istore_n 3, 0, 0, 0, 0), (21, .iconst 0, 0, 0, 0, 0), (22, .istore 4, 0, 0, 0, 0), (24, .iload 4, 0, 0, 0, 0), (26, .aload_n 0, 0, 0, 0, 0), (27, .getfield 77, 2, 8, 0, 110), (30, .if_icmp .ge (34), 64, 0, 0, 0), (33, .aload_n 0, 0, 0, 0, 0), (34, .getfield 17, 2, 2, 2, 104), (37, .iload 4, 0, 0, 0, 0), (39, .aaload, 21, 0, 0, 0), (40, .getfield 136, 8, 1, 0, 341), (43, .iload_n 1, 0, 0, 0, 0), (44, .if_icmp .ne (14), 58, 0, 0, 0), (47, .iload_n 3, 0, 0, 0, 0), (48, .iload_n 2, 0, 0, 0, 0), (49, .if_icmp .ne (6), 55, 0, 0, 0), (52, .iload 4, 0, 0, 0, 0), (54, .ireturn, 0, 0, 0, 0), (55, .iinc 3 1, 0, 0, 0, 0), (58, .iinc 4 1, 0, 0, 0, 0), (61, .goto (-37), 24, 0, 0, 0), (64, .iconst (-1), 0, 0, 0, 0), (65, .ireturn, 0, 0, 0, 0)]
abbrev ci_16 : List Nat := []
theorem tk_16 : wm_tb (wm_mr 16) (wm_my 16).cls (wm_my 16).name (wm_mrt 16) ci_16 (wm_mb 16) tb_16 = true := by decide +kernel
theorem oi_16 : ci_16.all (wm_oib (wm_mr 16)) = true := by decide +kernel
/-- CycleKernel.value(IIZ)I -/
def tb_17 : wm_T := [(0, .aload_n 0, 0, 0, 0, 0), (1, .iload_n 1, 0, 0, 0, 0), (2, .invokevirtual 87, 26, 0, 0, 383), (5, .astore 4, 0, 0, 0, 0), (7, .aload 4, 0, 0, 0, 0), (9, .iload_n 2, 0, 0, 0, 0), (10, .iconst 1, 0, 0, 0, 0), (11, .invokestatic 119, 27, 0, 0, 440), (14, .iload_n 3, 0, 0, 0, 0), (15, .ifCond .eq (13), 28, 0, 0, 0), (18, .aload 4, 0, 0, 0, 0), (20, .getfield 247, 5, 3, 2, 306), (23, .iload_n 2, 0, 0, 0, 0), (24, .iaload, 27, 0, 0, 0), (25, .goto (10), 35, 0, 0, 0), (28, .aload 4, 0, 0, 0, 0), (30, .getfield 129, 5, 2, 2, 304), (33, .iload_n 2, 0, 0, 0, 0), (34, .iaload, 26, 0, 0, 0), (35, .ireturn, 0, 0, 0, 0)]
abbrev ci_17 : List Nat := [26, 27]
theorem tk_17 : wm_tb (wm_mr 17) (wm_my 17).cls (wm_my 17).name (wm_mrt 17) ci_17 (wm_mb 17) tb_17 = true := by decide +kernel
theorem oi_17 : ci_17.all (wm_oib (wm_mr 17)) = true := by decide +kernel
/-- CycleKernel.marks(I)I -/
def tb_18 : wm_T := [(0, .aload_n 0, 0, 0, 0, 0), (1, .iload_n 1, 0, 0, 0, 0), (2, .invokevirtual 87, 26, 0, 0, 383), (5, .astore_n 2, 0, 0, 0, 0), (6, .aload_n 0, 0, 0, 0, 0), (7, .getfield 42, 2, 6, 2, 108), (10, .iload_n 1, 0, 0, 0, 0), (11, .invokevirtual 250, 59, 4, 0, 157), (14, .ifCond .eq (5), 19, 0, 0, 0), (17, .iconst 3, 0, 0, 0, 0), (18, .ireturn, 0, 0, 0, 0), (19, .aload_n 2, 0, 0, 0, 0), (20, .getfield 253, 5, 5, 0, 309), (23, .ifCond .eq (7), 30, 0, 0, 0), (26, .iconst 1, 0, 0, 0, 0), (27, .goto (4), 31, 0, 0, 0), (30, .iconst 0, 0, 0, 0, 0), (31, .ireturn, 0, 0, 0, 0)]
abbrev ci_18 : List Nat := [26, 59]
theorem tk_18 : wm_tb (wm_mr 18) (wm_my 18).cls (wm_my 18).name (wm_mrt 18) ci_18 (wm_mb 18) tb_18 = true := by decide +kernel
theorem oi_18 : ci_18.all (wm_oib (wm_mr 18)) = true := by decide +kernel
/-- CycleKernel.event(I)I -/
def tb_19 : wm_T := [(0, .iconst 0, 0, 0, 0, 0), (1, .istore_n 2, 0, 0, 0, 0), (2, .iconst 0, 0, 0, 0, 0), (3, .istore_n 3, 0, 0, 0, 0), (4, .iload_n 3, 0, 0, 0, 0), (5, .aload_n 0, 0, 0, 0, 0), (6, .getfield 63, 2, 7, 0, 109), (9, .if_icmp .ge (30), 39, 0, 0, 0), (12, .aload_n 0, 0, 0, 0, 0), (13, .getfield 42, 2, 6, 2, 108), (16, .iload_n 3, 0, 0, 0, 0), (17, .invokevirtual 250, 59, 4, 0, 157), (20, .ifCond .eq (13), 33, 0, 0, 0), (23, .iload_n 2, 0, 0, 0, 0), (24, .iload_n 1, 0, 0, 0, 0), (25, .if_icmp .ne (5), 30, 0, 0, 0), (28, .iload_n 3, 0, 0, 0, 0), (29, .ireturn, 0, 0, 0, 0), (30, .iinc 2 1, 0, 0, 0, 0), (33, .iinc 3 1, 0, 0, 0, 0), (36, .goto (-32), 4, 0, 0, 0), (39, .iconst (-1), 0, 0, 0, 0), (40, .ireturn, 0, 0, 0, 0)]
abbrev ci_19 : List Nat := [59]
theorem tk_19 : wm_tb (wm_mr 19) (wm_my 19).cls (wm_my 19).name (wm_mrt 19) ci_19 (wm_mb 19) tb_19 = true := by decide +kernel
theorem oi_19 : ci_19.all (wm_oib (wm_mr 19)) = true := by decide +kernel
/-- CycleKernel.now()J -/
def tb_20 : wm_T := [(0, .aload_n 0, 0, 0, 0, 0), (1, .getfield 203, 2, 12, 1, 114), (4, .lreturn, 0, 0, 0, 0)]
abbrev ci_20 : List Nat := []
theorem tk_20 : wm_tb (wm_mr 20) (wm_my 20).cls (wm_my 20).name (wm_mrt 20) ci_20 (wm_mb 20) tb_20 = true := by decide +kernel
theorem oi_20 : ci_20.all (wm_oib (wm_mr 20)) = true := by decide +kernel
/-- CycleKernel.step()I -/
def tb_21 : wm_T := [(0, .aload_n 0, 0, 0, 0, 0), (1, .getfield 236, 2, 13, 0, 115), (4, .ireturn, 0, 0, 0, 0)]
abbrev ci_21 : List Nat := []
theorem tk_21 : wm_tb (wm_mr 21) (wm_my 21).cls (wm_my 21).name (wm_mrt 21) ci_21 (wm_mb 21) tb_21 = true := by decide +kernel
theorem oi_21 : ci_21.all (wm_oib (wm_mr 21)) = true := by decide +kernel
/-- CycleKernel.next()J -/
def tb_22 : wm_T := [(0, .aload_n 0, 0, 0, 0, 0), (1, .invokevirtual 232, 32, 0, 0, 173), (4, .lreturn, 0, 0, 0, 0)]
abbrev ci_22 : List Nat := [32]
theorem tk_22 : wm_tb (wm_mr 22) (wm_my 22).cls (wm_my 22).name (wm_mrt 22) ci_22 (wm_mb 22) tb_22 = true := by decide +kernel
theorem oi_22 : ci_22.all (wm_oib (wm_mr 22)) = true := by decide +kernel
/-- CycleKernel.pending(III)I -/
def tb_23 : wm_T := [(0, .aload_n 0, 0, 0, 0, 0), (1, .iload_n 1, 0, 0, 0, 0), (2, .invokevirtual 83, 25, 0, 0, 363), (5, .pop, 0, 0, 0, 0), (6, .aload_n 0, 0, 0, 0, 0), (7, .iload_n 2, 0, 0, 0, 0), (8, .invokevirtual 87, 26, 0, 0, 383), (11, .astore 4, 0, 0, 0, 0), (13, .aload 4, 0, 0, 0, 0), (15, .iload_n 3, 0, 0, 0, 0), (16, .iconst 1, 0, 0, 0, 0), (17, .invokestatic 119, 27, 0, 0, 440), (20, .aload 4, 0, 0, 0, 0), (22, .iload_n 1, 0, 0, 0, 0), (23, .invokevirtual 93, 50, 3, 0, 389), (26, .astore 5, 0, 0, 0, 0), (28, .aload 5, 0, 0, 0, 0), (30, .ifnonnull (7), 37, 0, 0, 0), (33, .iconst (-1), 0, 0, 0, 0), (34, .goto (13), 47, 0, 0, 0), (37, .aload 5, 0, 0, 0, 0), (39, .getfield 190, 3, 1, 2, 423), (42, .iload_n 3, 0, 0, 0, 0), (43, .aaload, 22, 0, 0, 0), (44, .invokevirtual 256, 38, 2, 0, 709), (47, .ireturn, 0, 0, 0, 0)]
abbrev ci_23 : List Nat := [25, 26, 27, 38, 50]
theorem tk_23 : wm_tb (wm_mr 23) (wm_my 23).cls (wm_my 23).name (wm_mrt 23) ci_23 (wm_mb 23) tb_23 = true := by decide +kernel
theorem oi_23 : ci_23.all (wm_oib (wm_mr 23)) = true := by decide +kernel
/-- CycleKernel.projected(IIIJ)I -/
def tb_24 : wm_T := [(0, .aload_n 0, 0, 0, 0, 0), (1, .iload_n 1, 0, 0, 0, 0), (2, .invokevirtual 83, 25, 0, 0, 363), (5, .pop, 0, 0, 0, 0), (6, .aload_n 0, 0, 0, 0, 0), (7, .iload_n 2, 0, 0, 0, 0), (8, .invokevirtual 87, 26, 0, 0, 383), (11, .astore 6, 0, 0, 0, 0), (13, .aload 6, 0, 0, 0, 0), (15, .iload_n 3, 0, 0, 0, 0), (16, .iconst 1, 0, 0, 0, 0), (17, .invokestatic 119, 27, 0, 0, 440), (20, .lload 4, 0, 0, 0, 0), (22, .aload_n 0, 0, 0, 0, 0), (23, .getfield 203, 2, 12, 1, 114), (26, .lcmp, 0, 0, 0, 0), (27, .ifCond .ge (14), 41, 0, 0, 0), (30, .new 50, 1, 6, 9, 209), (41, .aload 6, 0, 0, 0, 0), (43, .iload_n 1, 0, 0, 0, 0), (44, .invokevirtual 93, 50, 3, 0, 389), (47, .astore 7, 0, 0, 0, 0), (49, .aload 7, 0, 0, 0, 0), (51, .ifnonnull (7), 58, 0, 0, 0), (54, .iconst 0, 0, 0, 0, 0), (55, .goto (15), 70, 0, 0, 0), (58, .aload 7, 0, 0, 0, 0), (60, .getfield 190, 3, 1, 2, 423), (63, .iload_n 3, 0, 0, 0, 0), (64, .aaload, 22, 0, 0, 0), (65, .lload 4, 0, 0, 0, 0), (67, .invokevirtual 264, 40, 2, 0, 721), (70, .ireturn, 0, 0, 0, 0)]
abbrev ci_24 : List Nat := [25, 26, 27, 40, 50]
theorem tk_24 : wm_tb (wm_mr 24) (wm_my 24).cls (wm_my 24).name (wm_mrt 24) ci_24 (wm_mb 24) tb_24 = true := by decide +kernel
theorem oi_24 : ci_24.all (wm_oib (wm_mr 24)) = true := by decide +kernel
/-- CycleKernel.taskOf(I)LCycleKernel$Task; -/
def tb_25 : wm_T := [(0, .iload_n 1, 0, 0, 0, 0), (1, .ifCond .lt (11), 12, 0, 0, 0), (4, .iload_n 1, 0, 0, 0, 0), (5, .aload_n 0, 0, 0, 0, 0), (6, .getfield 77, 2, 8, 0, 110), (9, .if_icmp .lt (14), 23, 0, 0, 0), (12, .new 152, 3, 6, 9, 367), (23, .aload_n 0, 0, 0, 0, 0), (24, .getfield 17, 2, 2, 2, 104), (27, .iload_n 1, 0, 0, 0, 0), (28, .aaload, 21, 0, 0, 0), (29, .areturn, 0, 0, 0, 0)]
abbrev ci_25 : List Nat := []
theorem tk_25 : wm_tb (wm_mr 25) (wm_my 25).cls (wm_my 25).name (wm_mrt 25) ci_25 (wm_mb 25) tb_25 = true := by decide +kernel
theorem oi_25 : ci_25.all (wm_oib (wm_mr 25)) = true := by decide +kernel
/-- CycleKernel.signalOf(I)LCycleKernel$Signal; -/
def tb_26 : wm_T := [(0, .iload_n 1, 0, 0, 0, 0), (1, .ifCond .lt (11), 12, 0, 0, 0), (4, .iload_n 1, 0, 0, 0, 0), (5, .aload_n 0, 0, 0, 0, 0), (6, .getfield 63, 2, 7, 0, 109), (9, .if_icmp .lt (14), 23, 0, 0, 0), (12, .new 152, 3, 6, 9, 367), (23, .aload_n 0, 0, 0, 0, 0), (24, .getfield 11, 2, 1, 2, 103), (27, .iload_n 1, 0, 0, 0, 0), (28, .aaload, 20, 0, 0, 0), (29, .areturn, 0, 0, 0, 0)]
abbrev ci_26 : List Nat := []
theorem tk_26 : wm_tb (wm_mr 26) (wm_my 26).cls (wm_my 26).name (wm_mrt 26) ci_26 (wm_mb 26) tb_26 = true := by decide +kernel
theorem oi_26 : ci_26.all (wm_oib (wm_mr 26)) = true := by decide +kernel
/-- CycleKernel.checkElements(LCycleKernel$Signal;II)V -/
def tb_27 : wm_T := [(0, .iload_n 1, 0, 0, 0, 0), (1, .ifCond .lt (26), 27, 0, 0, 0), (4, .iload_n 1, 0, 0, 0, 0), (5, .aload_n 0, 0, 0, 0, 0), (6, .getfield 106, 5, 1, 0, 302), (9, .if_icmp .ge (18), 27, 0, 0, 0), (12, .iload_n 2, 0, 0, 0, 0), (13, .iconst 1, 0, 0, 0, 0), (14, .if_icmp .lt (13), 27, 0, 0, 0), (17, .iload_n 2, 0, 0, 0, 0), (18, .aload_n 0, 0, 0, 0, 0), (19, .getfield 106, 5, 1, 0, 302), (22, .iload_n 1, 0, 0, 0, 0), (23, .isub, 0, 0, 0, 0), (24, .if_icmp .le (13), 37, 0, 0, 0), (27, .new 152, 3, 6, 9, 367), (37, .return_, 0, 0, 0, 0)]
abbrev ci_27 : List Nat := []
theorem tk_27 : wm_tb (wm_mr 27) (wm_my 27).cls (wm_my 27).name (wm_mrt 27) ci_27 (wm_mb 27) tb_27 = true := by decide +kernel
theorem oi_27 : ci_27.all (wm_oib (wm_mr 27)) = true := by decide +kernel
/-- CycleKernel.fitsMode(IJ)Z -/
def tb_28 : wm_T := [(0, .iload_n 1, 0, 0, 0, 0), (1, .iconst 2, 0, 0, 0, 0), (2, .if_icmp .ne (29), 31, 0, 0, 0), (5, .lload_n 2, 0, 0, 0, 0), (6, .lconst 0, 0, 0, 0, 0), (7, .lcmp, 0, 0, 0, 0), (8, .ifCond .lt (21), 29, 0, 0, 0), (11, .lload_n 2, 0, 0, 0, 0), (12, .aload_n 0, 0, 0, 0, 0), (13, .getfield 31, 2, 4, 2, 106), (16, .getfield 186, 10, 0, 2, 78), (19, .iconst 0, 0, 0, 0, 0), (20, .laload, 23, 0, 0, 0), (21, .lcmp, 0, 0, 0, 0), (22, .ifCond .gt (7), 29, 0, 0, 0), (25, .iconst 1, 0, 0, 0, 0), (26, .goto (4), 30, 0, 0, 0), (29, .iconst 0, 0, 0, 0, 0), (30, .ireturn, 1, 0, 0, 0), (31, .iload_n 1, 0, 0, 0, 0), (32, .ifCond .eq (8), 40, 0, 0, 0), (35, .iload_n 1, 0, 0, 0, 0), (36, .iconst 1, 0, 0, 0, 0), (37, .if_icmp .ne (7), 44, 0, 0, 0), (40, .iconst 1, 0, 0, 0, 0), (41, .goto (4), 45, 0, 0, 0), (44, .iconst 0, 0, 0, 0, 0), (45, .ireturn, 1, 0, 0, 0)]
abbrev ci_28 : List Nat := []
theorem tk_28 : wm_tb (wm_mr 28) (wm_my 28).cls (wm_my 28).name (wm_mrt 28) ci_28 (wm_mb 28) tb_28 = true := by decide +kernel
theorem oi_28 : ci_28.all (wm_oib (wm_mr 28)) = true := by decide +kernel
/-- CycleKernel.fitsTime()Z -/
def tb_29 : wm_T := [(0, .aload_n 0, 0, 0, 0, 0), (1, .getfield 31, 2, 4, 2, 106), (4, .invokevirtual 272, 76, 8, 0, 510), (7, .ifCond .eq (26), 33, 0, 0, 0), (10, .aload_n 0, 0, 0, 0, 0), (11, .getfield 31, 2, 4, 2, 106), (14, .invokevirtual 275, 75, 8, 0, 514), (17, .ldc2_w 139, 1152921504606846976, 0, 0, 475), (20, .aload_n 0, 0, 0, 0, 0), (21, .getfield 203, 2, 12, 1, 114), (24, .lsub, 0, 0, 0, 0), (25, .lcmp, 0, 0, 0, 0), (26, .ifCond .gt (7), 33, 0, 0, 0), (29, .iconst 1, 0, 0, 0, 0), (30, .goto (4), 34, 0, 0, 0), (33, .iconst 0, 0, 0, 0, 0), (34, .ireturn, 1, 0, 0, 0)]
abbrev ci_29 : List Nat := [75, 76]
theorem tk_29 : wm_tb (wm_mr 29) (wm_my 29).cls (wm_my 29).name (wm_mrt 29) ci_29 (wm_mb 29) tb_29 = true := by decide +kernel
theorem oi_29 : ci_29.all (wm_oib (wm_mr 29)) = true := by decide +kernel
/-- CycleKernel.assignElement(LCycleKernel$Row;IZJ)I -/
def tb_30 : wm_T := [(0, .aload_n 0, 0, 0, 0, 0), (1, .getfield 203, 2, 12, 1, 114), (4, .aload_n 0, 0, 0, 0, 0), (5, .getfield 31, 2, 4, 2, 106), (8, .getfield 186, 10, 0, 2, 78), (11, .iconst 0, 0, 0, 0, 0), (12, .laload, 23, 0, 0, 0), (13, .ladd, 0, 0, 0, 0), (14, .lstore 6, 0, 0, 0, 0), (16, .aload_n 1, 0, 0, 0, 0), (17, .lload 6, 0, 0, 0, 0), (19, .invokevirtual 278, 43, 2, 0, 533), (22, .istore 8, 0, 0, 0, 0), (24, .iload_n 3, 0, 0, 0, 0), (25, .ifCond .eq (26), 51, 0, 0, 0), (28, .iload 8, 0, 0, 0, 0), (30, .aload_n 1, 0, 0, 0, 0), (31, .lload 6, 0, 0, 0, 0), (33, .lload 4, 0, 0, 0, 0), (35, .lsub, 0, 0, 0, 0), (36, .aload_n 0, 0, 0, 0, 0), (37, .getfield 31, 2, 4, 2, 106), (40, .iconst 0, 0, 0, 0, 0), (41, .iload_n 2, 0, 0, 0, 0), (42, .invokevirtual 281, 74, 8, 0, 553), (45, .invokevirtual 285, 44, 2, 0, 554), (48, .iadd, 0, 0, 0, 0), (49, .istore 8, 0, 0, 0, 0), (51, .aload_n 1, 0, 0, 0, 0), (52, .lload 6, 0, 0, 0, 0), (54, .invokevirtual 289, 42, 2, 0, 558), (57, .astore 9, 0, 0, 0, 0), (59, .iconst 0, 0, 0, 0, 0), (60, .istore 10, 0, 0, 0, 0), (62, .iload 10, 0, 0, 0, 0), (64, .aload_n 0, 0, 0, 0, 0), (65, .getfield 31, 2, 4, 2, 106), (68, .getfield 143, 10, 2, 0, 81), (71, .if_icmp .ge (42), 113, 0, 0, 0), (74, .aload_n 1, 0, 0, 0, 0), (75, .aload 9, 0, 0, 0, 0), (77, .aload_n 0, 0, 0, 0, 0), (78, .getfield 203, 2, 12, 1, 114), (81, .aload_n 0, 0, 0, 0, 0), (82, .getfield 31, 2, 4, 2, 106), (85, .getfield 186, 10, 0, 2, 78), (88, .iload 10, 0, 0, 0, 0), (90, .laload, 23, 0, 0, 0), (91, .ladd, 0, 0, 0, 0), (92, .aload_n 0, 0, 0, 0, 0), (93, .getfield 31, 2, 4, 2, 106), (96, .iload 10, 0, 0, 0, 0), (98, .iload_n 2, 0, 0, 0, 0), (99, .invokevirtual 281, 74, 8, 0, 553), (102, .invokevirtual 293, 45, 2, 0, 559), (105, .astore 9, 0, 0, 0, 0), (107, .iinc 10 1, 0, 0, 0, 0), (110, .goto (-48), 62, 0, 0, 0), (113, .iload 8, 0, 0, 0, 0), (115, .ireturn, 0, 0, 0, 0)]
abbrev ci_30 : List Nat := [42, 43, 44, 45, 74]
theorem tk_30 : wm_tb (wm_mr 30) (wm_my 30).cls (wm_my 30).name (wm_mrt 30) ci_30 (wm_mb 30) tb_30 = true := by decide +kernel
theorem oi_30 : ci_30.all (wm_oib (wm_mr 30)) = true := by decide +kernel
/-- CycleKernel.isAnyBusy()Z -/
def tb_31 : wm_T := [(0, .iconst 0, 0, 0, 0, 0), (1, .istore_n 1, 0, 0, 0, 0), (2, .iload_n 1, 0, 0, 0, 0), (3, .aload_n 0, 0, 0, 0, 0), (4, .getfield 77, 2, 8, 0, 110), (7, .if_icmp .ge (23), 30, 0, 0, 0), (10, .aload_n 0, 0, 0, 0, 0), (11, .getfield 17, 2, 2, 2, 104), (14, .iload_n 1, 0, 0, 0, 0), (15, .aaload, 21, 0, 0, 0), (16, .invokevirtual 220, 67, 6, 0, 616), (19, .ifCond .eq (5), 24, 0, 0, 0), (22, .iconst 1, 0, 0, 0, 0), (23, .ireturn, 1, 0, 0, 0), (24, .iinc 1 1, 0, 0, 0, 0), (27, .goto (-25), 2, 0, 0, 0), (30, .iconst 0, 0, 0, 0, 0), (31, .ireturn, 1, 0, 0, 0)]
abbrev ci_31 : List Nat := [67]
theorem tk_31 : wm_tb (wm_mr 31) (wm_my 31).cls (wm_my 31).name (wm_mrt 31) ci_31 (wm_mb 31) tb_31 = true := by decide +kernel
theorem oi_31 : ci_31.all (wm_oib (wm_mr 31)) = true := by decide +kernel
/-- CycleKernel.nextTime()J -/
def tb_32 : wm_T := [(0, .ldc2_w 201, 18446744073709551615, 0, 0, 177), (3, .lstore_n 1, 0, 0, 0, 0), (4, .iconst 0, 0, 0, 0, 0), (5, .istore_n 3, 0, 0, 0, 0), (6, .iload_n 3, 0, 0, 0, 0), (7, .aload_n 0, 0, 0, 0, 0), (8, .getfield 63, 2, 7, 0, 109), (11, .if_icmp .ge (23), 34, 0, 0, 0), (14, .lload_n 1, 0, 0, 0, 0), (15, .aload_n 0, 0, 0, 0, 0), (16, .getfield 11, 2, 1, 2, 103), (19, .iload_n 3, 0, 0, 0, 0), (20, .aaload, 20, 0, 0, 0), (21, .invokevirtual 297, 52, 3, 0, 178), (24, .invokestatic 300, 33, 0, 0, 191), (27, .lstore_n 1, 0, 0, 0, 0), (28, .iinc 3 1, 0, 0, 0, 0), (31, .goto (-25), 6, 0, 0, 0), (34, .iconst 0, 0, 0, 0, 0), (35, .istore_n 3, 0, 0, 0, 0), (36, .iload_n 3, 0, 0, 0, 0), (37, .aload_n 0, 0, 0, 0, 0), (38, .getfield 77, 2, 8, 0, 110), (41, .if_icmp .ge (23), 64, 0, 0, 0), (44, .lload_n 1, 0, 0, 0, 0), (45, .aload_n 0, 0, 0, 0, 0), (46, .getfield 17, 2, 2, 2, 104), (49, .iload_n 3, 0, 0, 0, 0), (50, .aaload, 21, 0, 0, 0), (51, .invokevirtual 304, 68, 6, 0, 192), (54, .invokestatic 300, 33, 0, 0, 191), (57, .lstore_n 1, 0, 0, 0, 0), (58, .iinc 3 1, 0, 0, 0, 0), (61, .goto (-25), 36, 0, 0, 0), (64, .lload_n 1, 0, 0, 0, 0), (65, .lreturn, 0, 0, 0, 0)]
abbrev ci_32 : List Nat := [33, 52, 68]
theorem tk_32 : wm_tb (wm_mr 32) (wm_my 32).cls (wm_my 32).name (wm_mrt 32) ci_32 (wm_mb 32) tb_32 = true := by decide +kernel
theorem oi_32 : ci_32.all (wm_oib (wm_mr 32)) = true := by decide +kernel
/-- CycleKernel.sooner(JJ)J -/
def tb_33 : wm_T := [(0, .lload_n 0, 0, 0, 0, 0), (1, .ldc2_w 201, 18446744073709551615, 0, 0, 177), (4, .lcmp, 0, 0, 0, 0), (5, .ifCond .ne (5), 10, 0, 0, 0), (8, .lload_n 2, 0, 0, 0, 0), (9, .lreturn, 0, 0, 0, 0), (10, .lload_n 2, 0, 0, 0, 0), (11, .ldc2_w 201, 18446744073709551615, 0, 0, 177), (14, .lcmp, 0, 0, 0, 0), (15, .ifCond .eq (9), 24, 0, 0, 0), (18, .lload_n 0, 0, 0, 0, 0), (19, .lload_n 2, 0, 0, 0, 0), (20, .lcmp, 0, 0, 0, 0), (21, .ifCond .gt (7), 28, 0, 0, 0), (24, .lload_n 0, 0, 0, 0, 0), (25, .goto (4), 29, 0, 0, 0), (28, .lload_n 2, 0, 0, 0, 0), (29, .lreturn, 0, 0, 0, 0)]
abbrev ci_33 : List Nat := []
theorem tk_33 : wm_tb (wm_mr 33) (wm_my 33).cls (wm_my 33).name (wm_mrt 33) ci_33 (wm_mb 33) tb_33 = true := by decide +kernel
theorem oi_33 : ci_33.all (wm_oib (wm_mr 33)) = true := by decide +kernel
/-- CycleKernel.updateSignals()V -/
def tb_34 : wm_T := [(0, .aload_n 0, 0, 0, 0, 0), (1, .getfield 42, 2, 6, 2, 108), (4, .invokevirtual 162, 62, 4, 0, 149), (7, .iconst 0, 0, 0, 0, 0), (8, .istore_n 1, 0, 0, 0, 0), (9, .iload_n 1, 0, 0, 0, 0), (10, .aload_n 0, 0, 0, 0, 0), (11, .getfield 63, 2, 7, 0, 109), (14, .if_icmp .ge (50), 64, 0, 0, 0), (17, .aload_n 0, 0, 0, 0, 0), (18, .getfield 11, 2, 1, 2, 103), (21, .iload_n 1, 0, 0, 0, 0), (22, .aaload, 20, 0, 0, 0), (23, .astore_n 2, 0, 0, 0, 0), (24, .aload_n 2, 0, 0, 0, 0), (25, .aload_n 2, 0, 0, 0, 0), (26, .aload_n 0, 0, 0, 0, 0), (27, .getfield 203, 2, 12, 1, 114), (30, .invokevirtual 307, 53, 3, 0, 645), (33, .putfield 253, 5, 5, 0, 309), (36, .aload_n 2, 0, 0, 0, 0), (37, .getfield 253, 5, 5, 0, 309), (40, .ifCond .eq (18), 58, 0, 0, 0), (43, .aload_n 2, 0, 0, 0, 0), (44, .invokevirtual 311, 54, 3, 0, 657), (47, .ifCond .eq (11), 58, 0, 0, 0), (50, .aload_n 0, 0, 0, 0, 0), (51, .getfield 42, 2, 6, 2, 108), (54, .iload_n 1, 0, 0, 0, 0), (55, .invokevirtual 198, 58, 4, 0, 593), (58, .iinc 1 1, 0, 0, 0, 0), (61, .goto (-52), 9, 0, 0, 0), (64, .return_, 0, 0, 0, 0)]
abbrev ci_34 : List Nat := [53, 54, 58, 62]
theorem tk_34 : wm_tb (wm_mr 34) (wm_my 34).cls (wm_my 34).name (wm_mrt 34) ci_34 (wm_mb 34) tb_34 = true := by decide +kernel
theorem oi_34 : ci_34.all (wm_oib (wm_mr 34)) = true := by decide +kernel
/-- CycleKernel.wakeTasks()V -/
def tb_35 : wm_T := [(0, .iconst 0, 0, 0, 0, 0), (1, .istore_n 1, 0, 0, 0, 0), (2, .iload_n 1, 0, 0, 0, 0), (3, .aload_n 0, 0, 0, 0, 0), (4, .getfield 77, 2, 8, 0, 110), (7, .if_icmp .ge (36), 43, 0, 0, 0), (10, .aload_n 0, 0, 0, 0, 0), (11, .getfield 17, 2, 2, 2, 104), (14, .iload_n 1, 0, 0, 0, 0), (15, .aaload, 21, 0, 0, 0), (16, .astore_n 2, 0, 0, 0, 0), (17, .aload_n 2, 0, 0, 0, 0), (18, .getfield 136, 8, 1, 0, 341), (21, .iconst 1, 0, 0, 0, 0), (22, .if_icmp .ne (15), 37, 0, 0, 0), (25, .aload_n 2, 0, 0, 0, 0), (26, .aload_n 0, 0, 0, 0, 0), (27, .getfield 203, 2, 12, 1, 114), (30, .aload_n 0, 0, 0, 0, 0), (31, .getfield 42, 2, 6, 2, 108), (34, .invokevirtual 314, 69, 6, 0, 665), (37, .iinc 1 1, 0, 0, 0, 0), (40, .goto (-38), 2, 0, 0, 0), (43, .return_, 0, 0, 0, 0)]
abbrev ci_35 : List Nat := [69]
theorem tk_35 : wm_tb (wm_mr 35) (wm_my 35).cls (wm_my 35).name (wm_mrt 35) ci_35 (wm_mb 35) tb_35 = true := by decide +kernel
theorem oi_35 : ci_35.all (wm_oib (wm_mr 35)) = true := by decide +kernel
end
section
/-! THE CLASS's WORLD: heaps by tag, place and address, with whole numbers -/
abbrev wc_H : Type := (Nat → Nat) × (Nat → Nat) × wm_F Int × wm_F Int × wm_F (Option Nat) × Nat
/-- which fields are booleans -/
def wc_bl (a b : Nat) : Bool := match a with
  | 2 => b == 11
  | 5 => Nat.ble 5 b
  | 8 => b == 2
  | 11 => b == 2
  | _ => false
def wc_tb (b : Nat) (f : Nat → Prop) : Prop := match b with
  | 0 => f 2
  | 1 => f 3
  | 2 => f 4
  | 3 => f 5
  | 4 => f 6
  | 5 => f 7
  | 6 => f 8
  | 7 => f 9
  | 8 => f 10
  | 9 => f 11
  | _ => False
def wc_gf (c a b : Nat) (o : Option Nat) (tg ln : Nat → Nat) (I L : wm_F Int) (R : wm_F (Option Nat)) (n : Nat) (k : wi_Q1 wc_H) : Prop := match c with
  | 0 => ∃ q, o = some q ∧ tg q = a ∧ k (some (.inl (I a b q))) (tg, ln, I, L, R, n)
  | 1 => ∃ q, o = some q ∧ tg q = a ∧ k (some (.inr (.inl (L a b q)))) (tg, ln, I, L, R, n)
  | 2 => ∃ q, o = some q ∧ tg q = a ∧ ∃ v, R a b q = v ∧ k (some (wi_rf v)) (tg, ln, I, L, R, n)
  | _ => False
def wc_la (c a : Nat) (o : Option Nat) (j : Int) (tg ln : Nat → Nat) (I L : wm_F Int) (R : wm_F (Option Nat)) (n : Nat) (k : wi_Q1 wc_H) : Prop := match c with
  | 0 => ∃ q, o = some q ∧ tg q = a ∧ 0 ≤ j ∧ j < ln q ∧ k (some (.inl (I a j.toNat q))) (tg, ln, I, L, R, n)
  | 1 => ∃ q, o = some q ∧ tg q = a ∧ 0 ≤ j ∧ j < ln q ∧ k (some (.inr (.inl (L a j.toNat q)))) (tg, ln, I, L, R, n)
  | 2 => ∃ q, o = some q ∧ tg q = a ∧ 0 ≤ j ∧ j < ln q ∧ ∃ v, R a j.toNat q = v ∧ k (some (wi_rf v)) (tg, ln, I, L, R, n)
  | _ => False
def wc_h (ok : Nat → Bool) (code a b c : Nat) (as : List wi_V) (tg ln : Nat → Nat) (I L : wm_F Int) (R : wm_F (Option Nat)) (n : Nat) (k : wi_Q1 wc_H) : Prop := match code with
  | 0 => match as with
    | [.inr (.inr (.inl o))] => wc_gf c a b o tg ln I L R n k
    | _ => False
  | 1 => match as with
    | [.inr (.inr (.inl o)), .inl x] => if ok a = true ∧ c = 0 then (if wc_bl a b = true then ∃ q, o = some q ∧ tg q = a ∧ (x = 0 ∨ x = 1) ∧ ∀ I', I' = wm_up I a b q x → k none (tg, ln, I', L, R, n) else ∃ q, o = some q ∧ tg q = a ∧ ∀ I', I' = wm_up I a b q x → k none (tg, ln, I', L, R, n)) else False
    | [.inr (.inr (.inl o)), .inr (.inl x)] => if ok a = true ∧ c = 1 ∧ wc_bl a b = false then ∃ q, o = some q ∧ tg q = a ∧ ∀ L', L' = wm_up L a b q x → k none (tg, ln, I, L', R, n) else False
    | [.inr (.inr (.inl o)), .inr (.inr (.inl x))] => if ok a = true ∧ c = 2 ∧ wc_bl a b = false then ∃ q, o = some q ∧ tg q = a ∧ ∀ R', R' = wm_up R a b q x → k none (tg, ln, I, L, R', n) else False
    | _ => False
  | 2 => match as with
    | [.inr (.inr (.inl o))] => ∃ q, o = some q ∧ tg q = a ∧ ln q < 2147483648 ∧ k (some (.inl (ln q : Int))) (tg, ln, I, L, R, n)
    | _ => False
  | 3 => match as with
    | [.inr (.inr (.inl o)), .inl j] => wc_la c a o j tg ln I L R n k
    | _ => False
  | 4 => match as with
    | [.inr (.inr (.inl o)), .inl j, .inl x] => if ok a = true ∧ c = 0 then ∃ q, o = some q ∧ tg q = a ∧ 0 ≤ j ∧ j < ln q ∧ ∀ I', I' = wm_up I a j.toNat q x → k none (tg, ln, I', L, R, n) else False
    | [.inr (.inr (.inl o)), .inl j, .inr (.inl x)] => if ok a = true ∧ c = 1 then ∃ q, o = some q ∧ tg q = a ∧ 0 ≤ j ∧ j < ln q ∧ ∀ L', L' = wm_up L a j.toNat q x → k none (tg, ln, I, L', R, n) else False
    | [.inr (.inr (.inl o)), .inl j, .inr (.inr (.inl x))] => if ok a = true ∧ c = 2 then wc_tb b (fun t => ∃ q, o = some q ∧ tg q = a ∧ 0 ≤ j ∧ j < ln q ∧ (∀ v, x = some v → tg v = t) ∧ ∀ R', R' = wm_up R a j.toNat q x → k none (tg, ln, I, L, R', n)) else False
    | _ => False
  | 5 => match as with
    | [.inl m] => if ok a = true then ∀ tg' ln' I' L' R', tg' = (fun q => if q = n then a else tg q) → ln' = (fun q => if q = n then m.toNat else ln q) → I' = (fun t j q => if t = a ∧ q = n then 0 else I t j q) → L' = (fun t j q => if t = a ∧ q = n then 0 else L t j q) → R' = (fun t j q => if t = a ∧ q = n then none else R t j q) → k (some (wi_rf (some n))) (tg', ln', I', L', R', n + 1) else False
    | _ => False
  | 7 => match as with
    | [.inr (.inr (.inl x)), .inr (.inr (.inl y))] => (x = y → k (some (.inl 1)) (tg, ln, I, L, R, n)) ∧ (x ≠ y → k none (tg, ln, I, L, R, n))
    | _ => False
  | 8 => match as with
    | [.inr (.inr (.inl o))] => wc_tb b (fun t => ∃ q, o = some q ∧ tg q = t ∧ k none (tg, ln, I, L, R, n))
    | _ => False
  | 9 => match as with
    | [] => ∀ n', n ≤ n' → k none (tg, ln, I, L, R, n')
    | _ => False
  | _ => False
def wc_hp (ok : Nat → Bool) : wi_P wc_H := fun code a b c as h k => match h with
  | (tg, ln, I, L, R, n) => wc_h ok code a b c as tg ln I L R n k
/-- what a heap of whole numbers is to a heap; what stays since h0 -/
def wc_E (h : wc_H) (g : wm_H) : Prop := g.1 = h.1 ∧ g.2.1 = h.2.1 ∧ (∀ t k q, (g.2.2.1 t k q).toInt = h.2.2.1 t k q) ∧ (∀ t k q, (g.2.2.2.1 t k q).toInt = h.2.2.2.1 t k q) ∧ g.2.2.2.2.1 = h.2.2.2.2.1 ∧ g.2.2.2.2.2 = h.2.2.2.2.2
def wc_F (ok : Nat → Bool) (g0 g : wm_H) : Prop := (∀ q, g.1 q ≠ 0 → q < g.2.2.2.2.2) ∧ g0.2.2.2.2.2 ≤ g.2.2.2.2.2 ∧ (∀ q, q < g0.2.2.2.2.2 → g.1 q = g0.1 q ∧ g.2.1 q = g0.2.1 q) ∧ ∀ t, ok t = false → g.2.2.1 t = g0.2.2.1 t ∧ g.2.2.2.1 t = g0.2.2.2.1 t ∧ g.2.2.2.2.1 t = g0.2.2.2.2.1 t
def wc_Rl (ok : Nat → Bool) : wi_RL wc_H := fun ρ g0 h g => (∀ x, ρ x = x) ∧ wc_E h g ∧ wc_F ok g0 g
theorem wc_map {ρ : Nat → Nat} (h : ∀ x, ρ x = x) (o : Option Nat) : o.map ρ = o := by cases o <;> simp [h]
theorem wc_tb_e {b : Nat} {f : Nat → Prop} (h : wc_tb b f) : ∃ t, wm_tags t = some (.inl b) ∧ f t := by
  unfold wc_tb at h
  split at h <;> first
    | exact h.elim
    | exact ⟨_, rfl, h⟩
theorem wc_nb {a b ci : Nat} (h : wc_bl a b = false) (h1 : wm_tags a = some (.inl ci)) : wm_ty ci b ≠ .boolean := by
  unfold wm_tags at h1
  split at h1 <;> cases h1
  · show wd_t0 b ≠ .boolean
    unfold wd_t0
    split <;> first | (intro z; cases z; done) | cases h
  · show wd_t1 b ≠ .boolean
    unfold wd_t1
    split <;> (intro z; cases z)
  · show wd_t2 b ≠ .boolean
    unfold wd_t2
    split <;> (intro z; cases z)
  · show wd_t3 b ≠ .boolean
    unfold wd_t3
    split <;> first | (intro z; cases z; done) | (exfalso; have h9 : b < 5 := Nat.lt_of_not_le (fun y => by rw [show wc_bl 5 b = Nat.ble 5 b from rfl, Nat.ble_eq_true_of_le y] at h; cases h); rename_i a0 a1 a2 a3 a4; have b0 : b ≠ 0 := a0; have b1 : b ≠ 1 := a1; have b2 : b ≠ 2 := a2; have b3 : b ≠ 3 := a3; have b4 : b ≠ 4 := a4; omega)
  · show wd_t4 b ≠ .boolean
    unfold wd_t4
    split <;> (intro z; cases z)
  · show wd_t5 b ≠ .boolean
    unfold wd_t5
    split <;> (intro z; cases z)
  · show wd_t6 b ≠ .boolean
    unfold wd_t6
    split <;> first | (intro z; cases z; done) | cases h
  · show wd_t7 b ≠ .boolean
    unfold wd_t7
    split <;> (intro z; cases z)
  · show wd_t8 b ≠ .boolean
    unfold wd_t8
    split <;> (intro z; cases z)
  · show wd_t9 b ≠ .boolean
    unfold wd_t9
    split <;> first | (intro z; cases z; done) | cases h
theorem wc_wr_F {ok : Nat → Bool} {g0 g : wm_H} {a b q : Nat} {x : wm_V} (h : wc_F ok g0 g) (ha : ok a = true) : wc_F ok g0 (wm_wr g a b q x) := by
  obtain ⟨h1, h2, h3, h4⟩ := h
  have hne : ∀ t, ok t = false → t ≠ a := fun t z y => by rw [y, ha] at z; cases z
  rcases x with x | x | x
  · exact ⟨h1, h2, h3, fun t z => ⟨(wm_up_t (hne t z)).trans (h4 t z).1, (h4 t z).2⟩⟩
  · exact ⟨h1, h2, h3, fun t z => ⟨(h4 t z).1, (wm_up_t (hne t z)).trans (h4 t z).2.1, (h4 t z).2.2⟩⟩
  · exact ⟨h1, h2, h3, fun t z => ⟨(h4 t z).1, (h4 t z).2.1, (wm_up_t (hne t z)).trans (h4 t z).2.2⟩⟩
theorem wc_up_e {f : wm_F Int} {g : wm_F Int32} (h : ∀ t k q, (g t k q).toInt = f t k q) {a b p : Nat} {x : Int32} {y : Int} (e : x.toInt = y) : ∀ t k q, ((wm_up g a b p x) t k q).toInt = wm_up f a b p y t k q := by
  intro t k q
  simp only [wm_up]
  split
  · exact e
  · exact h t k q
theorem wc_up_l {f : wm_F Int} {g : wm_F Int64} (h : ∀ t k q, (g t k q).toInt = f t k q) {a b p : Nat} {x : Int64} {y : Int} (e : x.toInt = y) : ∀ t k q, ((wm_up g a b p x) t k q).toInt = wm_up f a b p y t k q := by
  intro t k q
  simp only [wm_up]
  split
  · exact e
  · exact h t k q
theorem wc_hk (ok : Nat → Bool) (ρ : Nat → Nat) (g0 : wm_H) : wi_hk ρ (wc_Rl ok ρ g0) (wc_hp ok) := by
  refine ⟨?_, ?_, ?_, ?_, ?_, ?_, ?_, ?_, ?_⟩
  · intro a b c o h k g d r
    obtain ⟨tg, ln, I, L, R, n⟩ := h
    obtain ⟨hρ, ⟨rfl, rfl, e3, e4, e5, e6⟩, F⟩ := r
    rw [wc_map hρ]
    replace d : wc_gf c a b o g.1 g.2.1 I L R n k := d
    unfold wc_gf at d
    split at d
    · obtain ⟨q, d1, d2, d3⟩ := d
      exact ⟨q, d1, d2, .inl _, ⟨_, rfl, e3 _ _ _⟩, d3⟩
    · obtain ⟨q, d1, d2, d3⟩ := d
      exact ⟨q, d1, d2, .inr (.inl _), ⟨_, rfl, e4 _ _ _⟩, d3⟩
    · obtain ⟨q, d1, d2, v, rfl, d3⟩ := d
      refine ⟨q, d1, d2, _, ?_, d3⟩
      show wm_wv g 2 a b q = _
      show (.inr (.inr (g.2.2.2.2.1 a _ q)) : wm_V) = _
      rw [wc_map hρ, e5]
    · exact d.elim
  · intro a b c o v x h k g d r hv
    obtain ⟨tg, ln, I, L, R, n⟩ := h
    obtain ⟨hρ, ⟨rfl, rfl, e3, e4, e5, e6⟩, F⟩ := r
    rw [wc_map hρ]
    rcases v with v | v | v | v
    · replace d : (if ok a = true ∧ c = 0 then (if wc_bl a b = true then ∃ q, o = some q ∧ g.1 q = a ∧ (v = 0 ∨ v = 1) ∧ ∀ I', I' = wm_up I a b q v → k none (g.1, g.2.1, I', L, R, n) else ∃ q, o = some q ∧ g.1 q = a ∧ ∀ I', I' = wm_up I a b q v → k none (g.1, g.2.1, I', L, R, n)) else False) := d
      obtain ⟨z, rfl, hz⟩ := hv
      split at d
      · next e =>
        obtain ⟨hok, rfl⟩ := e
        split at d
        · obtain ⟨q, d1, d2, d3, d4⟩ := d
          refine ⟨q, d1, d2, rfl, fun ci h1 h2 => ?_, (g.1, g.2.1, wm_up I a b q v, L, R, n), ⟨hρ, ⟨rfl, rfl, wc_up_e e3 hz, e4, e5, e6⟩, wc_wr_F F hok⟩, d4 _ rfl⟩
          rcases d3 with d3 | d3
          · left; congr 1; rw [← Int32.toInt_inj, hz, d3]; rfl
          · right; congr 1; rw [← Int32.toInt_inj, hz, d3]; rfl
        · next hb =>
          obtain ⟨q, d1, d2, d4⟩ := d
          exact ⟨q, d1, d2, rfl, fun ci h1 h2 => absurd h2 (wc_nb (by simpa using hb) h1), (g.1, g.2.1, wm_up I a b q v, L, R, n), ⟨hρ, ⟨rfl, rfl, wc_up_e e3 hz, e4, e5, e6⟩, wc_wr_F F hok⟩, d4 _ rfl⟩
      · exact d.elim
    · replace d : (if ok a = true ∧ c = 1 ∧ wc_bl a b = false then ∃ q, o = some q ∧ g.1 q = a ∧ ∀ L', L' = wm_up L a b q v → k none (g.1, g.2.1, I, L', R, n) else False) := d
      obtain ⟨z, rfl, hz⟩ := hv
      split at d
      · next e =>
        obtain ⟨hok, rfl, hb⟩ := e
        obtain ⟨q, d1, d2, d4⟩ := d
        exact ⟨q, d1, d2, rfl, fun ci h1 h2 => absurd h2 (wc_nb hb h1), (g.1, g.2.1, I, wm_up L a b q v, R, n), ⟨hρ, ⟨rfl, rfl, e3, wc_up_l e4 hz, e5, e6⟩, wc_wr_F F hok⟩, d4 _ rfl⟩
      · exact d.elim
    · replace d : (if ok a = true ∧ c = 2 ∧ wc_bl a b = false then ∃ q, o = some q ∧ g.1 q = a ∧ ∀ R', R' = wm_up R a b q v → k none (g.1, g.2.1, I, L, R', n) else False) := d
      cases (show x = .inr (.inr (v.map ρ)) from hv)
      rw [wc_map hρ]
      split at d
      · next e =>
        obtain ⟨hok, rfl, hb⟩ := e
        obtain ⟨q, d1, d2, d4⟩ := d
        refine ⟨q, d1, d2, rfl, fun ci h1 h2 => absurd h2 (wc_nb hb h1), (g.1, g.2.1, I, L, wm_up R a b q v, n), ⟨hρ, ⟨rfl, rfl, e3, e4, ?_, e6⟩, wc_wr_F F hok⟩, d4 _ rfl⟩
        show wm_up g.2.2.2.2.1 a b q v = wm_up R a b q v
        rw [e5]
      · exact d.elim
    · exact (show False from d).elim
  · intro a o h k g d r
    obtain ⟨tg, ln, I, L, R, n⟩ := h
    obtain ⟨hρ, ⟨rfl, rfl, e3, e4, e5, e6⟩, F⟩ := r
    rw [wc_map hρ]
    obtain ⟨q, d1, d2, d3, d4⟩ := d
    refine ⟨q, d1, d2, .inl _, ⟨_, rfl, ?_⟩, d4⟩
    unfold nI
    rw [Int32.toInt_ofNat']
    exact wi_b32 (by omega) (by omega)
  · intro a c o j h k g d r
    obtain ⟨tg, ln, I, L, R, n⟩ := h
    obtain ⟨hρ, ⟨rfl, rfl, e3, e4, e5, e6⟩, F⟩ := r
    rw [wc_map hρ]
    replace d : wc_la c a o j g.1 g.2.1 I L R n k := d
    unfold wc_la at d
    split at d
    · obtain ⟨q, d1, d2, d3, d4, d5⟩ := d
      exact ⟨q, d1, d2, d3, d4, .inl _, ⟨_, rfl, e3 _ _ _⟩, d5⟩
    · obtain ⟨q, d1, d2, d3, d4, d5⟩ := d
      exact ⟨q, d1, d2, d3, d4, .inr (.inl _), ⟨_, rfl, e4 _ _ _⟩, d5⟩
    · obtain ⟨q, d1, d2, d3, d4, v, rfl, d5⟩ := d
      refine ⟨q, d1, d2, d3, d4, _, ?_, d5⟩
      show wm_wv g 2 a _ q = _
      show (.inr (.inr (g.2.2.2.2.1 a _ q)) : wm_V) = _
      rw [wc_map hρ, e5]
    · exact d.elim
  · intro a b c o j v x h k g d r hv
    obtain ⟨tg, ln, I, L, R, n⟩ := h
    obtain ⟨hρ, ⟨rfl, rfl, e3, e4, e5, e6⟩, F⟩ := r
    rw [wc_map hρ]
    rcases v with v | v | v | v
    · replace d : (if ok a = true ∧ c = 0 then ∃ q, o = some q ∧ g.1 q = a ∧ 0 ≤ j ∧ j < g.2.1 q ∧ ∀ I', I' = wm_up I a j.toNat q v → k none (g.1, g.2.1, I', L, R, n) else False) := d
      obtain ⟨z, rfl, hz⟩ := hv
      split at d
      · next e =>
        obtain ⟨hok, rfl⟩ := e
        obtain ⟨q, d1, d2, d3, d4, d5⟩ := d
        exact ⟨q, d1, d2, d3, d4, (fun e => by cases e), (g.1, g.2.1, wm_up I a j.toNat q v, L, R, n), ⟨hρ, ⟨rfl, rfl, wc_up_e e3 hz, e4, e5, e6⟩, wc_wr_F F hok⟩, d5 _ rfl⟩
      · exact d.elim
    · replace d : (if ok a = true ∧ c = 1 then ∃ q, o = some q ∧ g.1 q = a ∧ 0 ≤ j ∧ j < g.2.1 q ∧ ∀ L', L' = wm_up L a j.toNat q v → k none (g.1, g.2.1, I, L', R, n) else False) := d
      obtain ⟨z, rfl, hz⟩ := hv
      split at d
      · next e =>
        obtain ⟨hok, rfl⟩ := e
        obtain ⟨q, d1, d2, d3, d4, d5⟩ := d
        exact ⟨q, d1, d2, d3, d4, (fun e => by cases e), (g.1, g.2.1, I, wm_up L a j.toNat q v, R, n), ⟨hρ, ⟨rfl, rfl, e3, wc_up_l e4 hz, e5, e6⟩, wc_wr_F F hok⟩, d5 _ rfl⟩
      · exact d.elim
    · replace d : (if ok a = true ∧ c = 2 then wc_tb b (fun t => ∃ q, o = some q ∧ g.1 q = a ∧ 0 ≤ j ∧ j < g.2.1 q ∧ (∀ u, v = some u → g.1 u = t) ∧ ∀ R', R' = wm_up R a j.toNat q v → k none (g.1, g.2.1, I, L, R', n)) else False) := d
      cases (show x = .inr (.inr (v.map ρ)) from hv)
      rw [wc_map hρ]
      split at d
      · next e =>
        obtain ⟨hok, rfl⟩ := e
        obtain ⟨t, ht, q, d1, d2, d3, d4, d5, d6⟩ := wc_tb_e d
        refine ⟨q, d1, d2, d3, d4, fun _ z hz => ?_, (g.1, g.2.1, I, L, wm_up R a j.toNat q v, n), ⟨hρ, ⟨rfl, rfl, e3, e4, ?_, e6⟩, wc_wr_F F hok⟩, d6 _ rfl⟩
        · rw [d5 z (by simpa using hz)]
          exact ht
        · show wm_up g.2.2.2.2.1 a j.toNat q v = wm_up R a j.toNat q v
          rw [e5]
      · exact d.elim
    · exact (show False from d).elim
  · intro a m h k g d r h0 h1
    obtain ⟨tg, ln, I, L, R, n⟩ := h
    obtain ⟨hρ, ⟨rfl, rfl, e3, e4, e5, e6⟩, F⟩ := r
    have e6 : g.2.2.2.2.2 = n := e6
    have e5 : g.2.2.2.2.1 = R := e5
    subst e6 e5
    replace d : (if ok a = true then ∀ tg' ln' I' L' R', tg' = (fun q => if q = g.2.2.2.2.2 then a else g.1 q) → ln' = (fun q => if q = g.2.2.2.2.2 then m.toNat else g.2.1 q) → I' = (fun t j q => if t = a ∧ q = g.2.2.2.2.2 then 0 else I t j q) → L' = (fun t j q => if t = a ∧ q = g.2.2.2.2.2 then 0 else L t j q) → R' = (fun t j q => if t = a ∧ q = g.2.2.2.2.2 then none else g.2.2.2.2.1 t j q) → k (some (wi_rf (some g.2.2.2.2.2))) (tg', ln', I', L', R', g.2.2.2.2.2 + 1) else False) := d
    split at d
    · next hok =>
      obtain ⟨f1, f2, f3, f4⟩ := F
      have hne : ∀ t, ok t = false → t ≠ a := fun t z y => by rw [y, hok] at z; cases z
      refine ⟨_, (_, _, (fun t j q => if t = a ∧ q = g.2.2.2.2.2 then 0 else I t j q), (fun t j q => if t = a ∧ q = g.2.2.2.2.2 then 0 else L t j q), _, _), ?_, ⟨hρ, ⟨rfl, rfl, fun t k q => ?_, fun t k q => ?_, rfl, rfl⟩, ⟨fun q hq => ?_, ?_, fun q hq => ?_, fun t ht => ?_⟩⟩, d _ _ _ _ _ rfl rfl rfl rfl rfl⟩
      · show _ = _
        rw [wc_map hρ]
      · show (if _ then _ else _ : Int32).toInt = if _ then _ else _
        split
        · rfl
        · exact e3 t k q
      · show (if _ then _ else _ : Int64).toInt = if _ then _ else _
        split
        · rfl
        · exact e4 t k q
      · by_cases e : q = g.2.2.2.2.2
        · rw [e]; exact Nat.lt_succ_self _
        · have : (wm_nw g a m.toNat).1 q = g.1 q := by simp [wm_nw, e]
          rw [this] at hq
          exact Nat.lt_succ_of_lt (f1 q hq)
      · exact Nat.le_succ_of_le f2
      · have e : q ≠ g.2.2.2.2.2 := by omega
        have e1 : (wm_nw g a m.toNat).1 q = g.1 q := by simp [wm_nw, e]
        have e2 : (wm_nw g a m.toNat).2.1 q = g.2.1 q := by simp [wm_nw, e]
        rw [e1, e2]
        exact f3 q hq
      · have hn := hne t ht
        refine ⟨Eq.trans ?_ (f4 t ht).1, Eq.trans ?_ (f4 t ht).2.1, Eq.trans ?_ (f4 t ht).2.2⟩ <;> funext j q <;> simp [wm_nw, hn]
    · exact d.elim
  · intro x y h k g d r
    obtain ⟨tg, ln, I, L, R, n⟩ := h
    obtain ⟨hρ, ⟨rfl, rfl, e3, e4, e5, e6⟩, F⟩ := r
    rw [wc_map hρ, wc_map hρ]
    exact d
  · intro b o h k g d r
    obtain ⟨tg, ln, I, L, R, n⟩ := h
    obtain ⟨hρ, ⟨rfl, rfl, e3, e4, e5, e6⟩, F⟩ := r
    rw [wc_map hρ]
    replace d : wc_tb b (fun t => ∃ q, o = some q ∧ g.1 q = t ∧ k none (g.1, g.2.1, I, L, R, n)) := d
    obtain ⟨t, ht, q, d1, d2, d3⟩ := wc_tb_e d
    exact ⟨q, d1, by rw [d2]; exact ht, d3⟩
  · intro h k g d r m hm
    obtain ⟨tg, ln, I, L, R, n⟩ := h
    obtain ⟨hρ, ⟨rfl, rfl, e3, e4, e5, e6⟩, f1, f2, f3, f4⟩ := r
    have e6 : g.2.2.2.2.2 = n := e6
    refine ⟨(g.1, g.2.1, I, L, R, m), ⟨hρ, ⟨rfl, rfl, e3, e4, e5, rfl⟩, ⟨fun q hq => Nat.lt_of_lt_of_le (f1 q hq) hm, Nat.le_trans f2 hm, f3, f4⟩⟩, d m (by rw [← e6]; exact hm)⟩
theorem wc_lw (ok : Nat → Bool) : wi_Lw (wc_Rl ok) (wc_hp ok) := by
  refine ⟨fun ρ g0 h g z => ?_, fun ρ g0 h g h2 g2 z1 z2 => ?_, wc_hk ok⟩
  · obtain ⟨hρ, E, f1, f2, f3, f4⟩ := z
    exact ⟨hρ, E, f1, Nat.le_refl _, fun _ _ => ⟨rfl, rfl⟩, fun _ _ => ⟨rfl, rfl, rfl⟩⟩
  · obtain ⟨hρ, E, f1, f2, f3, f4⟩ := z1
    obtain ⟨hρ2, E2, g1, g2', g3, g4⟩ := z2
    exact ⟨hρ2, E2, g1, Nat.le_trans f2 g2', fun q hq => ⟨(g3 q (by omega)).1.trans (f3 q hq).1, (g3 q (by omega)).2.trans (f3 q hq).2⟩, fun t ht => ⟨(g4 t ht).1.trans (f4 t ht).1, (g4 t ht).2.1.trans (f4 t ht).2.1, (g4 t ht).2.2.trans (f4 t ht).2.2⟩⟩
end
section
/-! BITS OF WORDS -/
def wc_bt (x : Int) (i : Nat) : Bool := (Int64.ofInt x).toBitVec.getLsbD i
theorem wc_sh : ∀ j : Nat, j < 64 → ((Int32.ofInt (j : Int)).toInt64 &&& 63).toBitVec.smod 64 = BitVec.ofNat 64 j := by decide +kernel
theorem wc_shl1 : ∀ j : Nat, j < 64 → ((Int64.ofInt 1) <<< ((Int32.ofInt (j : Int)).toInt64 &&& 63)).toBitVec = BitVec.twoPow 64 j := by decide +kernel
theorem wc_ix : ∀ k : Nat, k < 256 → (Int32.ofInt (k : Int) >>> (Int32.ofInt 6 &&& 31)).toInt = ((k / 64 : Nat) : Int) ∧ (Int32.ofInt (k : Int) &&& Int32.ofInt 63).toInt = ((k % 64 : Nat) : Int) := by decide +kernel
theorem wc_one : ∀ i : Nat, i < 64 → (1#64).getLsbD i = decide (i = 0) := by decide +kernel
theorem wc_and1 (y : BitVec 64) : y &&& 1#64 = 0#64 ↔ y.getLsbD 0 = false := by
  constructor
  · intro h
    have := congrArg (fun z => z.getLsbD 0) h
    simp only [BitVec.getLsbD_and, wc_one 0 (by decide), BitVec.getLsbD_zero] at this
    simpa using this
  · intro h
    refine BitVec.eq_of_getLsbD_eq (fun i hi => ?_)
    rw [BitVec.getLsbD_and, wc_one i hi, BitVec.getLsbD_zero]
    by_cases e : i = 0
    · rw [e, h]; rfl
    · simp [e]
theorem wc_has1 {x : Int} {j : Nat} (hj : j < 64) : (Int64.ofInt (Int64.ofInt x >>> ((Int32.ofInt (j : Int)).toInt64 &&& 63)).toInt &&& Int64.ofInt 1).toInt = 0 ↔ wc_bt x j = false := by
  rw [Int64.ofInt_toInt, show (0 : Int) = (0 : Int64).toInt from rfl, Int64.toInt_inj, ← Int64.toBitVec_inj, Int64.toBitVec_and, Int64.toBitVec_shiftRight, wc_sh j hj]
  show _ &&& 1#64 = 0#64 ↔ _
  rw [wc_and1]
  unfold wc_bt
  show ((Int64.ofInt x).toBitVec.sshiftRight (BitVec.ofNat 64 j).toNat).getLsbD 0 = false ↔ _
  rw [BitVec.getLsbD_sshiftRight, BitVec.toNat_ofNat, Nat.mod_eq_of_lt (by omega)]
  simp [hj]
theorem wc_add1 {x : Int} {i j : Nat} (hj : j < 64) (hi : i < 64) : wc_bt (Int64.ofInt x ||| Int64.ofInt ((Int64.ofInt 1) <<< ((Int32.ofInt (j : Int)).toInt64 &&& 63)).toInt).toInt i = (wc_bt x i || decide (i = j)) := by
  unfold wc_bt
  rw [Int64.ofInt_toInt, Int64.ofInt_toInt, Int64.toBitVec_or, wc_shl1 j hj, BitVec.getLsbD_or, BitVec.getLsbD_twoPow]
  simp [hi, hj, eq_comm]
theorem wc_meet {x y : Int} : (Int64.ofInt x &&& Int64.ofInt y).toInt = 0 ↔ ∀ i, i < 64 → ¬ (wc_bt x i = true ∧ wc_bt y i = true) := by
  rw [show (0 : Int) = (0 : Int64).toInt from rfl, Int64.toInt_inj, ← Int64.toBitVec_inj, Int64.toBitVec_and]
  show _ = 0#64 ↔ _
  constructor
  · intro h i hi hc
    have := congrArg (fun z => z.getLsbD i) h
    simp only [BitVec.getLsbD_and, BitVec.getLsbD_zero] at this
    unfold wc_bt at hc
    rw [hc.1, hc.2] at this
    cases this
  · intro h
    refine BitVec.eq_of_getLsbD_eq (fun i hi => ?_)
    rw [BitVec.getLsbD_and, BitVec.getLsbD_zero]
    have := h i hi
    unfold wc_bt at this
    cases h1 : (Int64.ofInt x).toBitVec.getLsbD i <;> cases h2 : (Int64.ofInt y).toBitVec.getLsbD i <;> simp_all
theorem wc_bt0 (i : Nat) : wc_bt 0 i = false := by
  unfold wc_bt
  show (0#64).getLsbD i = false
  exact BitVec.getLsbD_zero
/-- a set of signals: its words; what is in it -/
def wc_bi (L : wm_F Int) (w s : Nat) : Bool := wc_bt (L 25 (s / 64) w) (s % 64)
end
section
/-! THE CLASS, 1: sets of signals, processes -/
def wc_ok (a : Nat) : Bool := match a with
  | 0 => false
  | 1 => false
  | 11 => false
  | a => Nat.blt a 30
def wc_f (h : wc_H) (f : (Nat → Nat) → (Nat → Nat) → wm_F Int → wm_F Int → wm_F (Option Nat) → Nat → Prop) : Prop := match h with
  | (tg, ln, I, L, R, n) => f tg ln I L R n
/-- with a new cell n -/
def wc_nt (f : Nat → Nat) (n a : Nat) : Nat → Nat := fun q => if q = n then a else f q
def wc_nz (f : wm_F Int) (n a : Nat) : wm_F Int := fun t j q => if t = a ∧ q = n then 0 else f t j q
def wc_nn (f : wm_F (Option Nat)) (n a : Nat) : wm_F (Option Nat) := fun t j q => if t = a ∧ q = n then none else f t j q
def wc_sT (as : List wi_V) (f : Nat → Prop) : Prop := match as with
  | [.inr (.inr (.inl (some x0)))] => f x0
  | _ => False
theorem wc_sT_e {as : List wi_V} {f : Nat → Prop} (h : wc_sT as f) : ∃ x0, as = [.inr (.inr (.inl (some x0)))] ∧ f x0 := by
  unfold wc_sT at h
  split at h
  · exact ⟨_, rfl, h⟩
  · exact h.elim
def wc_sTI (as : List wi_V) (f : Nat → Int → Prop) : Prop := match as with
  | [.inr (.inr (.inl (some x0))), .inl x1] => f x0 x1
  | _ => False
theorem wc_sTI_e {as : List wi_V} {f : Nat → Int → Prop} (h : wc_sTI as f) : ∃ x0 x1, as = [.inr (.inr (.inl (some x0))), .inl x1] ∧ f x0 x1 := by
  unfold wc_sTI at h
  split at h
  · exact ⟨_, _, rfl, h⟩
  · exact h.elim
def wc_sTJ (as : List wi_V) (f : Nat → Int → Prop) : Prop := match as with
  | [.inr (.inr (.inl (some x0))), .inr (.inl x1)] => f x0 x1
  | _ => False
theorem wc_sTJ_e {as : List wi_V} {f : Nat → Int → Prop} (h : wc_sTJ as f) : ∃ x0 x1, as = [.inr (.inr (.inl (some x0))), .inr (.inl x1)] ∧ f x0 x1 := by
  unfold wc_sTJ at h
  split at h
  · exact ⟨_, _, rfl, h⟩
  · exact h.elim
def wc_sTT (as : List wi_V) (f : Nat → Nat → Prop) : Prop := match as with
  | [.inr (.inr (.inl (some x0))), .inr (.inr (.inl (some x1)))] => f x0 x1
  | _ => False
theorem wc_sTT_e {as : List wi_V} {f : Nat → Nat → Prop} (h : wc_sTT as f) : ∃ x0 x1, as = [.inr (.inr (.inl (some x0))), .inr (.inr (.inl (some x1)))] ∧ f x0 x1 := by
  unfold wc_sTT at h
  split at h
  · exact ⟨_, _, rfl, h⟩
  · exact h.elim
def wc_sTII (as : List wi_V) (f : Nat → Int → Int → Prop) : Prop := match as with
  | [.inr (.inr (.inl (some x0))), .inl x1, .inl x2] => f x0 x1 x2
  | _ => False
theorem wc_sTII_e {as : List wi_V} {f : Nat → Int → Int → Prop} (h : wc_sTII as f) : ∃ x0 x1 x2, as = [.inr (.inr (.inl (some x0))), .inl x1, .inl x2] ∧ f x0 x1 x2 := by
  unfold wc_sTII at h
  split at h
  · exact ⟨_, _, _, rfl, h⟩
  · exact h.elim
def wc_sTIJ (as : List wi_V) (f : Nat → Int → Int → Prop) : Prop := match as with
  | [.inr (.inr (.inl (some x0))), .inl x1, .inr (.inl x2)] => f x0 x1 x2
  | _ => False
theorem wc_sTIJ_e {as : List wi_V} {f : Nat → Int → Int → Prop} (h : wc_sTIJ as f) : ∃ x0 x1 x2, as = [.inr (.inr (.inl (some x0))), .inl x1, .inr (.inl x2)] ∧ f x0 x1 x2 := by
  unfold wc_sTIJ at h
  split at h
  · exact ⟨_, _, _, rfl, h⟩
  · exact h.elim
def wc_sTJI (as : List wi_V) (f : Nat → Int → Int → Prop) : Prop := match as with
  | [.inr (.inr (.inl (some x0))), .inr (.inl x1), .inl x2] => f x0 x1 x2
  | _ => False
theorem wc_sTJI_e {as : List wi_V} {f : Nat → Int → Int → Prop} (h : wc_sTJI as f) : ∃ x0 x1 x2, as = [.inr (.inr (.inl (some x0))), .inr (.inl x1), .inl x2] ∧ f x0 x1 x2 := by
  unfold wc_sTJI at h
  split at h
  · exact ⟨_, _, _, rfl, h⟩
  · exact h.elim
def wc_sTO (as : List wi_V) (f : Nat → Option Nat → Prop) : Prop := match as with
  | [.inr (.inr (.inl (some x0))), .inr (.inr (.inl x1))] => f x0 x1
  | _ => False
theorem wc_sTO_e {as : List wi_V} {f : Nat → Option Nat → Prop} (h : wc_sTO as f) : ∃ x0 x1, as = [.inr (.inr (.inl (some x0))), .inr (.inr (.inl x1))] ∧ f x0 x1 := by
  unfold wc_sTO at h
  split at h
  · exact ⟨_, _, rfl, h⟩
  · exact h.elim
def wc_sTOO (as : List wi_V) (f : Nat → Option Nat → Option Nat → Prop) : Prop := match as with
  | [.inr (.inr (.inl (some x0))), .inr (.inr (.inl x1)), .inr (.inr (.inl x2))] => f x0 x1 x2
  | _ => False
theorem wc_sTOO_e {as : List wi_V} {f : Nat → Option Nat → Option Nat → Prop} (h : wc_sTOO as f) : ∃ x0 x1 x2, as = [.inr (.inr (.inl (some x0))), .inr (.inr (.inl x1)), .inr (.inr (.inl x2))] ∧ f x0 x1 x2 := by
  unfold wc_sTOO at h
  split at h
  · exact ⟨_, _, _, rfl, h⟩
  · exact h.elim
def wc_sTJT (as : List wi_V) (f : Nat → Int → Nat → Prop) : Prop := match as with
  | [.inr (.inr (.inl (some x0))), .inr (.inl x1), .inr (.inr (.inl (some x2)))] => f x0 x1 x2
  | _ => False
theorem wc_sTJT_e {as : List wi_V} {f : Nat → Int → Nat → Prop} (h : wc_sTJT as f) : ∃ x0 x1 x2, as = [.inr (.inr (.inl (some x0))), .inr (.inl x1), .inr (.inr (.inl (some x2)))] ∧ f x0 x1 x2 := by
  unfold wc_sTJT at h
  split at h
  · exact ⟨_, _, _, rfl, h⟩
  · exact h.elim
def wc_sTTI (as : List wi_V) (f : Nat → Nat → Int → Prop) : Prop := match as with
  | [.inr (.inr (.inl (some x0))), .inr (.inr (.inl (some x1))), .inl x2] => f x0 x1 x2
  | _ => False
theorem wc_sTTI_e {as : List wi_V} {f : Nat → Nat → Int → Prop} (h : wc_sTTI as f) : ∃ x0 x1 x2, as = [.inr (.inr (.inl (some x0))), .inr (.inr (.inl (some x1))), .inl x2] ∧ f x0 x1 x2 := by
  unfold wc_sTTI at h
  split at h
  · exact ⟨_, _, _, rfl, h⟩
  · exact h.elim
def wc_sTOJI (as : List wi_V) (f : Nat → Option Nat → Int → Int → Prop) : Prop := match as with
  | [.inr (.inr (.inl (some x0))), .inr (.inr (.inl x1)), .inr (.inl x2), .inl x3] => f x0 x1 x2 x3
  | _ => False
theorem wc_sTOJI_e {as : List wi_V} {f : Nat → Option Nat → Int → Int → Prop} (h : wc_sTOJI as f) : ∃ x0 x1 x2 x3, as = [.inr (.inr (.inl (some x0))), .inr (.inr (.inl x1)), .inr (.inl x2), .inl x3] ∧ f x0 x1 x2 x3 := by
  unfold wc_sTOJI at h
  split at h
  · exact ⟨_, _, _, _, rfl, h⟩
  · exact h.elim
def wc_sTIIT (as : List wi_V) (f : Nat → Int → Int → Nat → Prop) : Prop := match as with
  | [.inr (.inr (.inl (some x0))), .inl x1, .inl x2, .inr (.inr (.inl (some x3)))] => f x0 x1 x2 x3
  | _ => False
theorem wc_sTIIT_e {as : List wi_V} {f : Nat → Int → Int → Nat → Prop} (h : wc_sTIIT as f) : ∃ x0 x1 x2 x3, as = [.inr (.inr (.inl (some x0))), .inl x1, .inl x2, .inr (.inr (.inl (some x3)))] ∧ f x0 x1 x2 x3 := by
  unfold wc_sTIIT at h
  split at h
  · exact ⟨_, _, _, _, rfl, h⟩
  · exact h.elim
def wc_sTIITO (as : List wi_V) (f : Nat → Int → Int → Nat → Option Nat → Prop) : Prop := match as with
  | [.inr (.inr (.inl (some x0))), .inl x1, .inl x2, .inr (.inr (.inl (some x3))), .inr (.inr (.inl x4))] => f x0 x1 x2 x3 x4
  | _ => False
theorem wc_sTIITO_e {as : List wi_V} {f : Nat → Int → Int → Nat → Option Nat → Prop} (h : wc_sTIITO as f) : ∃ x0 x1 x2 x3 x4, as = [.inr (.inr (.inl (some x0))), .inl x1, .inl x2, .inr (.inr (.inl (some x3))), .inr (.inr (.inl x4))] ∧ f x0 x1 x2 x3 x4 := by
  unfold wc_sTIITO at h
  split at h
  · exact ⟨_, _, _, _, _, rfl, h⟩
  · exact h.elim
def wc_sTIIII (as : List wi_V) (f : Nat → Int → Int → Int → Int → Prop) : Prop := match as with
  | [.inr (.inr (.inl (some x0))), .inl x1, .inl x2, .inl x3, .inl x4] => f x0 x1 x2 x3 x4
  | _ => False
theorem wc_sTIIII_e {as : List wi_V} {f : Nat → Int → Int → Int → Int → Prop} (h : wc_sTIIII as f) : ∃ x0 x1 x2 x3 x4, as = [.inr (.inr (.inl (some x0))), .inl x1, .inl x2, .inl x3, .inl x4] ∧ f x0 x1 x2 x3 x4 := by
  unfold wc_sTIIII at h
  split at h
  · exact ⟨_, _, _, _, _, rfl, h⟩
  · exact h.elim
def wc_sIIJ (as : List wi_V) (f : Int → Int → Int → Prop) : Prop := match as with
  | [.inl x0, .inl x1, .inr (.inl x2)] => f x0 x1 x2
  | _ => False
theorem wc_sIIJ_e {as : List wi_V} {f : Int → Int → Int → Prop} (h : wc_sIIJ as f) : ∃ x0 x1 x2, as = [.inl x0, .inl x1, .inr (.inl x2)] ∧ f x0 x1 x2 := by
  unfold wc_sIIJ at h
  split at h
  · exact ⟨_, _, _, rfl, h⟩
  · exact h.elim
def wc_sJJ (as : List wi_V) (f : Int → Int → Prop) : Prop := match as with
  | [.inr (.inl x0), .inr (.inl x1)] => f x0 x1
  | _ => False
theorem wc_sJJ_e {as : List wi_V} {f : Int → Int → Prop} (h : wc_sJJ as f) : ∃ x0 x1, as = [.inr (.inl x0), .inr (.inl x1)] ∧ f x0 x1 := by
  unfold wc_sJJ at h
  split at h
  · exact ⟨_, _, rfl, h⟩
  · exact h.elim
def wc_sTIII (as : List wi_V) (f : Nat → Int → Int → Int → Prop) : Prop := match as with
  | [.inr (.inr (.inl (some x0))), .inl x1, .inl x2, .inl x3] => f x0 x1 x2 x3
  | _ => False
theorem wc_sTIII_e {as : List wi_V} {f : Nat → Int → Int → Int → Prop} (h : wc_sTIII as f) : ∃ x0 x1 x2 x3, as = [.inr (.inr (.inl (some x0))), .inl x1, .inl x2, .inl x3] ∧ f x0 x1 x2 x3 := by
  unfold wc_sTIII at h
  split at h
  · exact ⟨_, _, _, _, rfl, h⟩
  · exact h.elim
def wc_sTIIIIIJ (as : List wi_V) (f : Nat → Int → Int → Int → Int → Int → Int → Prop) : Prop := match as with
  | [.inr (.inr (.inl (some x0))), .inl x1, .inl x2, .inl x3, .inl x4, .inl x5, .inr (.inl x6)] => f x0 x1 x2 x3 x4 x5 x6
  | _ => False
theorem wc_sTIIIIIJ_e {as : List wi_V} {f : Nat → Int → Int → Int → Int → Int → Int → Prop} (h : wc_sTIIIIIJ as f) : ∃ x0 x1 x2 x3 x4 x5 x6, as = [.inr (.inr (.inl (some x0))), .inl x1, .inl x2, .inl x3, .inl x4, .inl x5, .inr (.inl x6)] ∧ f x0 x1 x2 x3 x4 x5 x6 := by
  unfold wc_sTIIIIIJ at h
  split at h
  · exact ⟨_, _, _, _, _, _, _, rfl, h⟩
  · exact h.elim
def wc_sTIIIJ (as : List wi_V) (f : Nat → Int → Int → Int → Int → Prop) : Prop := match as with
  | [.inr (.inr (.inl (some x0))), .inl x1, .inl x2, .inl x3, .inr (.inl x4)] => f x0 x1 x2 x3 x4
  | _ => False
theorem wc_sTIIIJ_e {as : List wi_V} {f : Nat → Int → Int → Int → Int → Prop} (h : wc_sTIIIJ as f) : ∃ x0 x1 x2 x3 x4, as = [.inr (.inr (.inl (some x0))), .inl x1, .inl x2, .inl x3, .inr (.inl x4)] ∧ f x0 x1 x2 x3 x4 := by
  unfold wc_sTIIIJ at h
  split at h
  · exact ⟨_, _, _, _, _, rfl, h⟩
  · exact h.elim
def wc_sTIIJ (as : List wi_V) (f : Nat → Int → Int → Int → Prop) : Prop := match as with
  | [.inr (.inr (.inl (some x0))), .inl x1, .inl x2, .inr (.inl x3)] => f x0 x1 x2 x3
  | _ => False
theorem wc_sTIIJ_e {as : List wi_V} {f : Nat → Int → Int → Int → Prop} (h : wc_sTIIJ as f) : ∃ x0 x1 x2 x3, as = [.inr (.inr (.inl (some x0))), .inl x1, .inl x2, .inr (.inl x3)] ∧ f x0 x1 x2 x3 := by
  unfold wc_sTIIJ at h
  split at h
  · exact ⟨_, _, _, _, rfl, h⟩
  · exact h.elim
def wc_sTTIIJ (as : List wi_V) (f : Nat → Nat → Int → Int → Int → Prop) : Prop := match as with
  | [.inr (.inr (.inl (some x0))), .inr (.inr (.inl (some x1))), .inl x2, .inl x3, .inr (.inl x4)] => f x0 x1 x2 x3 x4
  | _ => False
theorem wc_sTTIIJ_e {as : List wi_V} {f : Nat → Nat → Int → Int → Int → Prop} (h : wc_sTTIIJ as f) : ∃ x0 x1 x2 x3 x4, as = [.inr (.inr (.inl (some x0))), .inr (.inr (.inl (some x1))), .inl x2, .inl x3, .inr (.inl x4)] ∧ f x0 x1 x2 x3 x4 := by
  unfold wc_sTTIIJ at h
  split at h
  · exact ⟨_, _, _, _, _, rfl, h⟩
  · exact h.elim
def sc_59 (as : List wi_V) (h : wc_H) (q : wi_Q1 wc_H) (qt : wi_Q2 wc_H) : Prop := wc_sTI as (fun x k => wc_f h fun tg ln I L R n => tg x = 6 ∧ ∃ w, R 6 0 x = some w ∧ tg w = 25 ∧ ln w = 4 ∧ 0 ≤ k ∧ k < 256 ∧ (wc_bi L w k.toNat = true → q (some (.inl 1)) (tg, ln, I, L, R, n)) ∧ (wc_bi L w k.toNat = false → q (some (.inl 0)) (tg, ln, I, L, R, n)))
theorem cm_59 {l : Launch} {D : va_G} {aC : wm_Y} {b0 : Nat} (hl0 : l.stackTraces = false) : wm_sp l D aC b0 59 (wi_lf (wc_Rl wc_ok) sc_59) := by
  refine wi_method (wc_lw wc_ok) 59 (cx := fun _ _ _ _ _ => False) (ids := ci_59) (tb := tb_59) (by decide +kernel) hl0 wm_cx0 (wm_tb_ok tk_59) (by decide +kernel) [] 250 (fun as h q qt hs => ?_)
  obtain ⟨x, k, rfl, hs1⟩ := wc_sTI_e hs
  clear hs
  obtain ⟨tg, ln, I, L, R, n⟩ := h
  have hs := id hs1
  clear hs1
  simp only [wc_f] at hs
  refine ⟨rfl, fun _ _ _ _ _ _ _ => False, mq_nc, ?_⟩
  obtain ⟨a1, w, a2, a3, a4, r1, r2, h1, h2⟩ := hs
  have hk : ((k.toNat : Nat) : Int) = k := by omega
  obtain ⟨e1, e2⟩ := wc_ix k.toNat (by omega)
  rw [hk] at e1 e2
  have key : (Int64.ofInt (Int64.ofInt (L 25 (Int32.ofInt k >>> (Int32.ofInt 6 &&& 31)).toInt.toNat w) >>> ((Int32.ofInt (Int32.ofInt k &&& Int32.ofInt 63).toInt).toInt64 &&& 63)).toInt &&& Int64.ofInt 1).toInt = 0 ↔ wc_bi L w k.toNat = false := by
    rw [e1, e2, Int.toNat_natCast]
    exact wc_has1 (by omega)
  repeat' first
    | refine And.intro ?_ ?_
    | refine Exists.intro _ (And.intro (show _ = _ from by assumption) ?_)
    | refine Exists.intro _ (And.intro rfl (And.intro (by assumption) ?_))
    | refine Exists.intro _ (And.intro rfl ?_)
    | (intro h; try omega)
    | omega
    | exact h1 (by rw [← Bool.not_eq_false, ← key]; assumption)
    | exact h2 (key.mp (by assumption))
    | exact Nat.le_of_ble_eq_true rfl
    | assumption
def sc_58 (as : List wi_V) (h : wc_H) (q : wi_Q1 wc_H) (qt : wi_Q2 wc_H) : Prop := wc_sTI as (fun x k => wc_f h fun tg ln I L R n => tg x = 6 ∧ ∃ w, R 6 0 x = some w ∧ tg w = 25 ∧ ln w = 4 ∧ 0 ≤ k ∧ k < 256 ∧ ∀ L1, (∀ t j y, t ≠ 25 ∨ y ≠ w → L1 t j y = L t j y) → (∀ s, s < 256 → wc_bi L1 w s = (wc_bi L w s || decide (s = k.toNat))) → q none (tg, ln, I, L1, R, n))
theorem cm_58 {l : Launch} {D : va_G} {aC : wm_Y} {b0 : Nat} (hl0 : l.stackTraces = false) : wm_sp l D aC b0 58 (wi_lf (wc_Rl wc_ok) sc_58) := by
  refine wi_method (wc_lw wc_ok) 58 (cx := fun _ _ _ _ _ => False) (ids := ci_58) (tb := tb_58) (by decide +kernel) hl0 wm_cx0 (wm_tb_ok tk_58) (by decide +kernel) [] 250 (fun as h q qt hs => ?_)
  obtain ⟨x, k, rfl, hs1⟩ := wc_sTI_e hs
  clear hs
  obtain ⟨tg, ln, I, L, R, n⟩ := h
  have hs := id hs1
  clear hs1
  simp only [wc_f] at hs
  refine ⟨rfl, fun _ _ _ _ _ _ _ => False, mq_nc, ?_⟩
  obtain ⟨a1, w, a2, a3, a4, r1, r2, h1⟩ := hs
  have hk : ((k.toNat : Nat) : Int) = k := by omega
  obtain ⟨e1, e2⟩ := wc_ix k.toNat (by omega)
  rw [hk] at e1 e2
  have key : ∀ L1, L1 = wm_up L 25 (Int32.ofInt k >>> (Int32.ofInt 6 &&& 31)).toInt.toNat w (Int64.ofInt (L 25 (Int32.ofInt k >>> (Int32.ofInt 6 &&& 31)).toInt.toNat w) ||| Int64.ofInt ((Int64.ofInt 1) <<< ((Int32.ofInt (Int32.ofInt k &&& Int32.ofInt 63).toInt).toInt64 &&& 63)).toInt).toInt → q none (tg, ln, I, L1, R, n) := by
    intro L1 e
    rw [e1, e2, Int.toNat_natCast] at e
    refine h1 L1 (fun t j y z => ?_) (fun s hs => ?_)
    · rw [e]
      rcases z with z | z
      · rw [wm_up_t z]
      · rw [wm_up_q z]
    · unfold wc_bi
      rw [e]
      by_cases z : s / 64 = k.toNat / 64
      · rw [z, wm_up_self, wc_add1 (by omega) (by omega)]
        congr 1
        have : (s % 64 = k.toNat % 64) ↔ (s = k.toNat) := by omega
        simp only [this]
      · rw [wm_up_k z]
        have : ¬ s = k.toNat := fun y => z (by rw [y])
        simp [this]
  repeat' first
    | refine And.intro ?_ ?_
    | refine Exists.intro _ (And.intro (show _ = _ from by assumption) ?_)
    | refine Exists.intro _ (And.intro rfl (And.intro (by assumption) ?_))
    | refine Exists.intro _ (And.intro rfl ?_)
    | (intro h; try omega)
    | omega
    | exact key _ rfl
    | (exact key _ (by assumption))
    | exact Nat.le_of_ble_eq_true rfl
    | assumption
def sc_60 (as : List wi_V) (h : wc_H) (q : wi_Q1 wc_H) (qt : wi_Q2 wc_H) : Prop := wc_sTT as (fun x y => wc_f h fun tg ln I L R n => tg x = 6 ∧ tg y = 6 ∧ ∃ w, R 6 0 x = some w ∧ tg w = 25 ∧ ln w = 4 ∧ ∃ v, R 6 0 y = some v ∧ tg v = 25 ∧ ln v = 4 ∧ ((∃ s : Nat, s < 256 ∧ wc_bi L w s = true ∧ wc_bi L v s = true) → q (some (.inl 1)) (tg, ln, I, L, R, n)) ∧ ((∀ s : Nat, s < 256 → ¬ (wc_bi L w s = true ∧ wc_bi L v s = true)) → q (some (.inl 0)) (tg, ln, I, L, R, n)))
theorem cm_60 {l : Launch} {D : va_G} {aC : wm_Y} {b0 : Nat} (hl0 : l.stackTraces = false) : wm_sp l D aC b0 60 (wi_lf (wc_Rl wc_ok) sc_60) := by
  refine wi_method (wc_lw wc_ok) 60 (cx := fun _ _ _ _ _ => False) (ids := ci_60) (tb := tb_60) (by decide +kernel) hl0 wm_cx0 (wm_tb_ok tk_60) (by decide +kernel) [2] 250 (fun as h q qt hs => ?_)
  obtain ⟨x, y, rfl, hs1⟩ := wc_sTT_e hs
  clear hs
  obtain ⟨tg, ln, I, L, R, n⟩ := h
  have hs := id hs1
  clear hs1
  simp only [wc_f] at hs
  obtain ⟨a1, b1, w, a2, a3, a4, v, b2, b3, b4, h1, h2⟩ := hs
  refine ⟨rfl, fun mz pc lv sk h cu su => ∃ i : Int, lv = [some (wi_rf (some x)), some (wi_rf (some y)), some (.inl (i))] ∧ sk = [] ∧ h = (tg, ln, I, L, R, n) ∧ cu = 0 ∧ su = 0 ∧ mz = (10 - i).toNat ∧ 0 ≤ i ∧ i ≤ 4 ∧ ∀ s : Nat, (s : Int) < 64 * i → ¬ (wc_bi L w s = true ∧ wc_bi L v s = true), mq_c1 (fun mz lv sk h cu su hI => ?_), ?_⟩
  · obtain ⟨i, rfl, rfl, rfl, rfl, rfl, rfl, p1, p2, p3⟩ := hI
    have k0 : (∀ j, j < 64 → ¬ (wc_bt (L 25 i.toNat w) j = true ∧ wc_bt (L 25 i.toNat v) j = true)) → ∀ s : Nat, (s : Int) < 64 * (i + 1) → ¬ (wc_bi L w s = true ∧ wc_bi L v s = true) := by
      intro z s hs
      by_cases e : (s : Int) < 64 * i
      · exact p3 s e
      · unfold wc_bi
        rw [show s / 64 = i.toNat by omega]
        exact z (s % 64) (by omega)
    have k1 : ¬ (∀ j, j < 64 → ¬ (wc_bt (L 25 i.toNat w) j = true ∧ wc_bt (L 25 i.toNat v) j = true)) → i < 4 → ∃ s : Nat, s < 256 ∧ wc_bi L w s = true ∧ wc_bi L v s = true := by
      intro z hi
      obtain ⟨j, z⟩ := Classical.not_forall.mp z
      obtain ⟨hj, z⟩ := Classical.not_imp.mp z
      have z := Classical.not_not.mp z
      refine ⟨64 * i.toNat + j, by omega, ?_⟩
      unfold wc_bi
      rw [show (64 * i.toNat + j) / 64 = i.toNat by omega, show (64 * i.toNat + j) % 64 = j by omega]
      exact z
    repeat' first
      | refine And.intro ?_ ?_
      | refine Exists.intro _ (And.intro (show _ = _ from by assumption) ?_)
      | refine Exists.intro _ (And.intro rfl (And.intro (by assumption) ?_))
      | refine Exists.intro _ (And.intro rfl ?_)
      | (intro h; try omega)
      | omega
      | exact h1 (k1 (fun z => absurd (wc_meet.mpr z) (by assumption)) (by omega))
      | exact h2 (fun s hs => p3 s (by omega))
      | (refine Exists.intro _ (And.intro ?_ (Exists.intro (i + 1) (And.intro rfl (And.intro rfl (And.intro rfl (And.intro rfl (And.intro rfl (And.intro rfl (?_))))))))) <;> first | omega | exact ⟨by omega, by omega, k0 (wc_meet.mp (by assumption))⟩)
      | exact Nat.le_of_ble_eq_true rfl
      | assumption
  · refine Exists.intro _ (Exists.intro (0) (And.intro rfl (And.intro rfl (And.intro rfl (And.intro rfl (And.intro rfl (And.intro rfl (⟨by omega, by omega, fun s hs => by omega⟩))))))))
def sc_61 (as : List wi_V) (h : wc_H) (q : wi_Q1 wc_H) (qt : wi_Q2 wc_H) : Prop := wc_sTT as (fun x y => wc_f h fun tg ln I L R n => tg x = 6 ∧ tg y = 6 ∧ ∃ w, R 6 0 x = some w ∧ tg w = 25 ∧ ln w = 4 ∧ ∃ v, R 6 0 y = some v ∧ tg v = 25 ∧ ln v = 4 ∧ w ≠ v ∧ ∀ L1, (∀ t j y, t ≠ 25 ∨ y ≠ w → L1 t j y = L t j y) → (∀ s, s < 256 → wc_bi L1 w s = wc_bi L v s) → q none (tg, ln, I, L1, R, n))
theorem cm_61 {l : Launch} {D : va_G} {aC : wm_Y} {b0 : Nat} (hl0 : l.stackTraces = false) : wm_sp l D aC b0 61 (wi_lf (wc_Rl wc_ok) sc_61) := by
  refine wi_method (wc_lw wc_ok) 61 (cx := fun _ _ _ _ _ => False) (ids := ci_61) (tb := tb_61) (by decide +kernel) hl0 wm_cx0 (wm_tb_ok tk_61) (by decide +kernel) [2] 250 (fun as h q qt hs => ?_)
  obtain ⟨x, y, rfl, hs1⟩ := wc_sTT_e hs
  clear hs
  obtain ⟨tg, ln, I, L, R, n⟩ := h
  have hs := id hs1
  clear hs1
  simp only [wc_f] at hs
  obtain ⟨a1, b1, w, a2, a3, a4, v, b2, b3, b4, hn, h1⟩ := hs
  refine ⟨rfl, fun mz pc lv sk h cu su => ∃ i : Int, ∃ L1 : wm_F Int, lv = [some (wi_rf (some x)), some (wi_rf (some y)), some (.inl (i))] ∧ sk = [] ∧ h = (tg, ln, I, L1, R, n) ∧ cu = 0 ∧ su = 0 ∧ mz = (10 - i).toNat ∧ 0 ≤ i ∧ i ≤ 4 ∧ ∀ t j y, L1 t j y = if t = 25 ∧ y = w ∧ (j : Int) < i then L 25 j v else L t j y, mq_c1 (fun mz lv sk h cu su hI => ?_), ?_⟩
  · obtain ⟨i, L1, rfl, rfl, rfl, rfl, rfl, rfl, p1, p2, p3⟩ := hI
    have k0 : ∀ L2, L2 = wm_up L1 25 i.toNat w (L1 25 i.toNat v) → ∀ t j y, L2 t j y = if t = 25 ∧ y = w ∧ (j : Int) < i + 1 then L 25 j v else L t j y := by
      intro L2 e t j y
      rw [e]
      simp only [wm_up]
      by_cases z : t = 25 ∧ j = i.toNat ∧ y = w
      · obtain ⟨rfl, rfl, rfl⟩ := z
        rw [if_pos ⟨rfl, rfl, rfl⟩, p3, if_neg (fun c => hn c.2.1.symm), if_pos ⟨rfl, rfl, by omega⟩]
      · rw [if_neg z, p3]
        by_cases c : t = 25 ∧ y = w ∧ (j : Int) < i
        · rw [if_pos c, if_pos ⟨c.1, c.2.1, by omega⟩]
        · rw [if_neg c, if_neg (fun d => c ⟨d.1, d.2.1, by have : j ≠ i.toNat := fun f => z ⟨d.1, f, d.2.1⟩; omega⟩)]
    repeat' first
      | refine And.intro ?_ ?_
      | refine Exists.intro _ (And.intro (show _ = _ from by assumption) ?_)
      | refine Exists.intro _ (And.intro rfl (And.intro (by assumption) ?_))
      | refine Exists.intro _ (And.intro rfl ?_)
      | (intro h; try omega)
      | omega
      | (have e9 : i = 4 := (by omega); subst e9; exact h1 L1 (fun t j y z => by rw [p3, if_neg (fun c => by rcases z with z | z; exact z c.1; exact z c.2.1)]) (fun s hs => by unfold wc_bi; rw [p3, if_pos ⟨rfl, rfl, by omega⟩]))
      | (refine Exists.intro _ (And.intro ?_ (Exists.intro (i + 1) (Exists.intro (_) (And.intro rfl (And.intro rfl (And.intro rfl (And.intro rfl (And.intro rfl (And.intro rfl (?_)))))))))) <;> first | omega | exact ⟨by omega, by omega, k0 _ (by assumption)⟩)
      | exact Nat.le_of_ble_eq_true rfl
      | assumption
  · refine Exists.intro _ (Exists.intro (0) (Exists.intro (_) (And.intro rfl (And.intro rfl (And.intro rfl (And.intro rfl (And.intro rfl (And.intro rfl (⟨by omega, by omega, fun t j y => by rw [if_neg (fun c => by omega)]⟩)))))))))
def sc_62 (as : List wi_V) (h : wc_H) (q : wi_Q1 wc_H) (qt : wi_Q2 wc_H) : Prop := wc_sT as (fun x => wc_f h fun tg ln I L R n => tg x = 6 ∧ ∃ w, R 6 0 x = some w ∧ tg w = 25 ∧ ln w = 4 ∧ ∀ L1, (∀ t j y, t ≠ 25 ∨ y ≠ w → L1 t j y = L t j y) → (∀ s, s < 256 → wc_bi L1 w s = false) → q none (tg, ln, I, L1, R, n))
theorem cm_62 {l : Launch} {D : va_G} {aC : wm_Y} {b0 : Nat} (hl0 : l.stackTraces = false) : wm_sp l D aC b0 62 (wi_lf (wc_Rl wc_ok) sc_62) := by
  refine wi_method (wc_lw wc_ok) 62 (cx := fun _ _ _ _ _ => False) (ids := ci_62) (tb := tb_62) (by decide +kernel) hl0 wm_cx0 (wm_tb_ok tk_62) (by decide +kernel) [2] 250 (fun as h q qt hs => ?_)
  obtain ⟨x, rfl, hs1⟩ := wc_sT_e hs
  clear hs
  obtain ⟨tg, ln, I, L, R, n⟩ := h
  have hs := id hs1
  clear hs1
  simp only [wc_f] at hs
  obtain ⟨a1, w, a2, a3, a4, h1⟩ := hs
  refine ⟨rfl, fun mz pc lv sk h cu su => ∃ i : Int, ∃ L1 : wm_F Int, lv = [some (wi_rf (some x)), some (.inl (i))] ∧ sk = [] ∧ h = (tg, ln, I, L1, R, n) ∧ cu = 0 ∧ su = 0 ∧ mz = (10 - i).toNat ∧ 0 ≤ i ∧ i ≤ 4 ∧ ∀ t j y, L1 t j y = if t = 25 ∧ y = w ∧ (j : Int) < i then 0 else L t j y, mq_c1 (fun mz lv sk h cu su hI => ?_), ?_⟩
  · obtain ⟨i, L1, rfl, rfl, rfl, rfl, rfl, rfl, p1, p2, p3⟩ := hI
    have k0 : ∀ L2, L2 = wm_up L1 25 i.toNat w 0 → ∀ t j y, L2 t j y = if t = 25 ∧ y = w ∧ (j : Int) < i + 1 then 0 else L t j y := by
      intro L2 e t j y
      rw [e]
      simp only [wm_up]
      by_cases z : t = 25 ∧ j = i.toNat ∧ y = w
      · obtain ⟨rfl, rfl, rfl⟩ := z
        rw [if_pos ⟨rfl, rfl, rfl⟩, if_pos ⟨rfl, rfl, by omega⟩]
      · rw [if_neg z, p3]
        by_cases c : t = 25 ∧ y = w ∧ (j : Int) < i
        · rw [if_pos c, if_pos ⟨c.1, c.2.1, by omega⟩]
        · rw [if_neg c, if_neg (fun d => c ⟨d.1, d.2.1, by have : j ≠ i.toNat := fun f => z ⟨d.1, f, d.2.1⟩; omega⟩)]
    repeat' first
      | refine And.intro ?_ ?_
      | refine Exists.intro _ (And.intro (show _ = _ from by assumption) ?_)
      | refine Exists.intro _ (And.intro rfl (And.intro (by assumption) ?_))
      | refine Exists.intro _ (And.intro rfl ?_)
      | (intro h; try omega)
      | omega
      | (have e9 : i = 4 := (by omega); subst e9; exact h1 L1 (fun t j y z => by rw [p3, if_neg (fun c => by rcases z with z | z; exact z c.1; exact z c.2.1)]) (fun s hs => by unfold wc_bi; rw [p3, if_pos ⟨rfl, rfl, by omega⟩]; exact wc_bt0 _))
      | (refine Exists.intro _ (And.intro ?_ (Exists.intro (i + 1) (Exists.intro (_) (And.intro rfl (And.intro rfl (And.intro rfl (And.intro rfl (And.intro rfl (And.intro rfl (?_)))))))))) <;> first | omega | exact ⟨by omega, by omega, k0 _ (by assumption)⟩)
      | exact Nat.le_of_ble_eq_true rfl
      | assumption
  · refine Exists.intro _ (Exists.intro (0) (Exists.intro (_) (And.intro rfl (And.intro rfl (And.intro rfl (And.intro rfl (And.intro rfl (And.intro rfl (⟨by omega, by omega, fun t j y => by rw [if_neg (fun c => by omega)]⟩)))))))))
def sc_67 (as : List wi_V) (h : wc_H) (q : wi_Q1 wc_H) (qt : wi_Q2 wc_H) : Prop := wc_sT as (fun x => wc_f h fun tg ln I L R n => tg x = 8 ∧ (I 8 1 x = 0 ∨ I 8 1 x = 2 → q (some (.inl 1)) (tg, ln, I, L, R, n)) ∧ (I 8 1 x ≠ 0 → I 8 1 x ≠ 2 → q (some (.inl 0)) (tg, ln, I, L, R, n)))
theorem cm_67 {l : Launch} {D : va_G} {aC : wm_Y} {b0 : Nat} (hl0 : l.stackTraces = false) : wm_sp l D aC b0 67 (wi_lf (wc_Rl wc_ok) sc_67) := by
  refine wi_method (wc_lw wc_ok) 67 (cx := fun _ _ _ _ _ => False) (ids := ci_67) (tb := tb_67) (by decide +kernel) hl0 wm_cx0 (wm_tb_ok tk_67) (by decide +kernel) [] 250 (fun as h q qt hs => ?_)
  obtain ⟨x, rfl, hs1⟩ := wc_sT_e hs
  clear hs
  obtain ⟨tg, ln, I, L, R, n⟩ := h
  have hs := id hs1
  clear hs1
  simp only [wc_f] at hs
  refine ⟨rfl, fun _ _ _ _ _ _ _ => False, mq_nc, ?_⟩
  obtain ⟨a1, h1, h2⟩ := hs
  repeat' first
    | refine And.intro ?_ ?_
    | refine Exists.intro _ (And.intro (show _ = _ from by assumption) ?_)
    | refine Exists.intro _ (And.intro rfl (And.intro (by assumption) ?_))
    | refine Exists.intro _ (And.intro rfl ?_)
    | (intro h; try omega)
    | omega
    | exact h1 (by omega)
    | exact h2 (by omega) (by omega)
    | exact Nat.le_of_ble_eq_true rfl
    | assumption
def sc_68 (as : List wi_V) (h : wc_H) (q : wi_Q1 wc_H) (qt : wi_Q2 wc_H) : Prop := wc_sT as (fun x => wc_f h fun tg ln I L R n => tg x = 8 ∧ (I 8 1 x = 1 ∨ I 8 1 x = 2 → q (some (.inr (.inl (L 8 3 x)))) (tg, ln, I, L, R, n)) ∧ (I 8 1 x ≠ 1 → I 8 1 x ≠ 2 → q (some (.inr (.inl (-1)))) (tg, ln, I, L, R, n)))
theorem cm_68 {l : Launch} {D : va_G} {aC : wm_Y} {b0 : Nat} (hl0 : l.stackTraces = false) : wm_sp l D aC b0 68 (wi_lf (wc_Rl wc_ok) sc_68) := by
  refine wi_method (wc_lw wc_ok) 68 (cx := fun _ _ _ _ _ => False) (ids := ci_68) (tb := tb_68) (by decide +kernel) hl0 wm_cx0 (wm_tb_ok tk_68) (by decide +kernel) [] 250 (fun as h q qt hs => ?_)
  obtain ⟨x, rfl, hs1⟩ := wc_sT_e hs
  clear hs
  obtain ⟨tg, ln, I, L, R, n⟩ := h
  have hs := id hs1
  clear hs1
  simp only [wc_f] at hs
  refine ⟨rfl, fun _ _ _ _ _ _ _ => False, mq_nc, ?_⟩
  obtain ⟨a1, h1, h2⟩ := hs
  repeat' first
    | refine And.intro ?_ ?_
    | refine Exists.intro _ (And.intro (show _ = _ from by assumption) ?_)
    | refine Exists.intro _ (And.intro rfl (And.intro (by assumption) ?_))
    | refine Exists.intro _ (And.intro rfl ?_)
    | (intro h; try omega)
    | omega
    | exact h1 (by omega)
    | exact h2 (by omega) (by omega)
    | exact Nat.le_of_ble_eq_true rfl
    | assumption
def sc_69 (as : List wi_V) (h : wc_H) (q : wi_Q1 wc_H) (qt : wi_Q2 wc_H) : Prop := wc_sTJT as (fun x t y => wc_f h fun tg ln I L R n => tg x = 8 ∧ tg y = 6 ∧ ∃ a, R 8 0 x = some a ∧ tg a = 6 ∧ ∃ w, R 6 0 a = some w ∧ tg w = 25 ∧ ln w = 4 ∧ ∃ v, R 6 0 y = some v ∧ tg v = 25 ∧ ln v = 4 ∧ (L 8 3 x = t → q none (tg, ln, wm_up I 8 1 x 0, L, R, n)) ∧ (L 8 3 x ≠ t → (∃ s : Nat, s < 256 ∧ wc_bi L w s = true ∧ wc_bi L v s = true) → (I 8 2 x ≠ 0 → q none (tg, ln, wm_up I 8 1 x 2, L, R, n)) ∧ (I 8 2 x = 0 → q none (tg, ln, wm_up I 8 1 x 0, L, R, n))) ∧ (L 8 3 x ≠ t → (∀ s : Nat, s < 256 → ¬ (wc_bi L w s = true ∧ wc_bi L v s = true)) → q none (tg, ln, I, L, R, n)))
theorem cm_69 {l : Launch} {D : va_G} {aC : wm_Y} {b0 : Nat} (hl0 : l.stackTraces = false) : wm_sp l D aC b0 69 (wi_lf (wc_Rl wc_ok) sc_69) := by
  refine wi_method (wc_lw wc_ok) 69 (cx := fun id => if id = 60 then sc_60 else fun _ _ _ _ => False) (ids := ci_69) (tb := tb_69) (by decide +kernel) hl0 (wm_cxc (cm_60 hl0) oi_69 (fun h => wm_cxn h)) (wm_tb_ok tk_69) (by decide +kernel) [] 250 (fun as h q qt hs => ?_)
  obtain ⟨x, t, y, rfl, hs1⟩ := wc_sTJT_e hs
  clear hs
  obtain ⟨tg, ln, I, L, R, n⟩ := h
  have hs := id hs1
  clear hs1
  simp only [wc_f] at hs
  refine ⟨rfl, fun _ _ _ _ _ _ _ => False, mq_nc, ?_⟩
  obtain ⟨a1, b1, a, c1, c2, w, a2, a3, a4, v, b2, b3, b4, h1, h2, h3⟩ := hs
  repeat' first
    | refine And.intro ?_ ?_
    | (intro hM1; have hM : (∃ s : Nat, s < 256 ∧ wc_bi L w s = true ∧ wc_bi L v s = true) := hM1)
    | (intro hM1; have hM : (∀ s : Nat, s < 256 → ¬ (wc_bi L w s = true ∧ wc_bi L v s = true)) := hM1)
    | refine Exists.intro _ (And.intro (show _ = _ from by assumption) ?_)
    | refine Exists.intro _ (And.intro rfl (And.intro (by assumption) ?_))
    | refine Exists.intro _ (And.intro rfl ?_)
    | (intro h; try omega)
    | omega
    | (subst_vars; exact h1 rfl)
    | exact h1 (by assumption)
    | (rename_i hI; rw [h]; exact h1 (by assumption))
    | (rw [h]; exact (h2 (by assumption) hM).1 (by assumption))
    | (rw [h]; exact (h2 (by assumption) hM).2 (by assumption))
    | exact h3 (by assumption) hM
    | exact Nat.le_of_ble_eq_true rfl
    | assumption
end
section
/-! THE CLASS, 2: values laid down, constructors -/
def sc_49 (as : List wi_V) (h : wc_H) (q : wi_Q1 wc_H) (qt : wi_Q2 wc_H) : Prop := wc_sTI as (fun x v => wc_f h fun tg ln I L R n => tg x = 5 ∧ (I 5 0 x = 2 ∨ (0 ≤ v ∧ v ≤ 8) → q (some (.inl 1)) (tg, ln, I, L, R, n)) ∧ (I 5 0 x ≠ 2 → v < 0 ∨ 8 < v → q (some (.inl 0)) (tg, ln, I, L, R, n)))
theorem cm_49 {l : Launch} {D : va_G} {aC : wm_Y} {b0 : Nat} (hl0 : l.stackTraces = false) : wm_sp l D aC b0 49 (wi_lf (wc_Rl wc_ok) sc_49) := by
  refine wi_method (wc_lw wc_ok) 49 (cx := fun _ _ _ _ _ => False) (ids := ci_49) (tb := tb_49) (by decide +kernel) hl0 wm_cx0 (wm_tb_ok tk_49) (by decide +kernel) [] 250 (fun as h q qt hs => ?_)
  obtain ⟨x, v, rfl, hs1⟩ := wc_sTI_e hs
  clear hs
  obtain ⟨tg, ln, I, L, R, n⟩ := h
  have hs := id hs1
  clear hs1
  simp only [wc_f] at hs
  refine ⟨rfl, fun _ _ _ _ _ _ _ => False, mq_nc, ?_⟩
  obtain ⟨a1, h1, h2⟩ := hs
  repeat' first
    | refine And.intro ?_ ?_
    | refine Exists.intro _ (And.intro (show _ = _ from by assumption) ?_)
    | refine Exists.intro _ (And.intro rfl (And.intro (by assumption) ?_))
    | refine Exists.intro _ (And.intro rfl ?_)
    | (intro h; try omega)
    | omega
    | exact h1 (by omega)
    | exact h2 (by omega) (by omega)
    | exact Nat.le_of_ble_eq_true rfl
    | assumption
def sc_74 (as : List wi_V) (h : wc_H) (q : wi_Q1 wc_H) (qt : wi_Q2 wc_H) : Prop := wc_sTII as (fun x i k => wc_f h fun tg ln I L R n => tg x = 10 ∧ ∃ d, R 10 0 x = some d ∧ tg d = 23 ∧ ln d = 16 ∧ ∃ e, R 10 1 x = some e ∧ tg e = 24 ∧ ln e = 1024 ∧ 0 ≤ i ∧ i < 16 ∧ 0 ≤ k ∧ k < 64 ∧ q (some (.inl (I 24 (i * 64 + k).toNat e))) (tg, ln, I, L, R, n))
theorem cm_74 {l : Launch} {D : va_G} {aC : wm_Y} {b0 : Nat} (hl0 : l.stackTraces = false) : wm_sp l D aC b0 74 (wi_lf (wc_Rl wc_ok) sc_74) := by
  refine wi_method (wc_lw wc_ok) 74 (cx := fun _ _ _ _ _ => False) (ids := ci_74) (tb := tb_74) (by decide +kernel) hl0 wm_cx0 (wm_tb_ok tk_74) (by decide +kernel) [] 250 (fun as h q qt hs => ?_)
  obtain ⟨x, i, k, rfl, hs1⟩ := wc_sTII_e hs
  clear hs
  obtain ⟨tg, ln, I, L, R, n⟩ := h
  have hs := id hs1
  clear hs1
  simp only [wc_f] at hs
  refine ⟨rfl, fun _ _ _ _ _ _ _ => False, mq_nc, ?_⟩
  obtain ⟨a1, d, a2, a3, a4, e, a5, a6, a7, r1, r2, r3, r4, h1⟩ := hs
  repeat' first
    | refine And.intro ?_ ?_
    | refine Exists.intro _ (And.intro (show _ = _ from by assumption) ?_)
    | refine Exists.intro _ (And.intro rfl (And.intro (by assumption) ?_))
    | refine Exists.intro _ (And.intro rfl ?_)
    | (intro h; try omega)
    | omega
    | exact h1
    | exact Nat.le_of_ble_eq_true rfl
    | assumption
def sc_75 (as : List wi_V) (h : wc_H) (q : wi_Q1 wc_H) (qt : wi_Q2 wc_H) : Prop := wc_sT as (fun x => wc_f h fun tg ln I L R n => tg x = 10 ∧ ∃ d, R 10 0 x = some d ∧ tg d = 23 ∧ ln d = 16 ∧ ∃ e, R 10 1 x = some e ∧ tg e = 24 ∧ ln e = 1024 ∧ 1 ≤ I 10 2 x ∧ I 10 2 x ≤ 16 ∧ q (some (.inr (.inl (L 23 (I 10 2 x - 1).toNat d)))) (tg, ln, I, L, R, n))
theorem cm_75 {l : Launch} {D : va_G} {aC : wm_Y} {b0 : Nat} (hl0 : l.stackTraces = false) : wm_sp l D aC b0 75 (wi_lf (wc_Rl wc_ok) sc_75) := by
  refine wi_method (wc_lw wc_ok) 75 (cx := fun _ _ _ _ _ => False) (ids := ci_75) (tb := tb_75) (by decide +kernel) hl0 wm_cx0 (wm_tb_ok tk_75) (by decide +kernel) [] 250 (fun as h q qt hs => ?_)
  obtain ⟨x, rfl, hs1⟩ := wc_sT_e hs
  clear hs
  obtain ⟨tg, ln, I, L, R, n⟩ := h
  have hs := id hs1
  clear hs1
  simp only [wc_f] at hs
  refine ⟨rfl, fun _ _ _ _ _ _ _ => False, mq_nc, ?_⟩
  obtain ⟨a1, d, a2, a3, a4, e, a5, a6, a7, r1, r2, h1⟩ := hs
  repeat' first
    | refine And.intro ?_ ?_
    | refine Exists.intro _ (And.intro (show _ = _ from by assumption) ?_)
    | refine Exists.intro _ (And.intro rfl (And.intro (by assumption) ?_))
    | refine Exists.intro _ (And.intro rfl ?_)
    | (intro h; try omega)
    | omega
    | exact h1
    | exact Nat.le_of_ble_eq_true rfl
    | assumption
def sc_73 (as : List wi_V) (h : wc_H) (q : wi_Q1 wc_H) (qt : wi_Q2 wc_H) : Prop := wc_sTII as (fun x k v => wc_f h fun tg ln I L R n => tg x = 10 ∧ ∃ d, R 10 0 x = some d ∧ tg d = 23 ∧ ln d = 16 ∧ ∃ e, R 10 1 x = some e ∧ tg e = 24 ∧ ln e = 1024 ∧ 1 ≤ I 10 2 x ∧ I 10 2 x ≤ 16 ∧ 0 ≤ k ∧ k < 64 ∧ q none (tg, ln, wm_up I 24 ((I 10 2 x - 1) * 64 + k).toNat e v, L, R, n))
theorem cm_73 {l : Launch} {D : va_G} {aC : wm_Y} {b0 : Nat} (hl0 : l.stackTraces = false) : wm_sp l D aC b0 73 (wi_lf (wc_Rl wc_ok) sc_73) := by
  refine wi_method (wc_lw wc_ok) 73 (cx := fun _ _ _ _ _ => False) (ids := ci_73) (tb := tb_73) (by decide +kernel) hl0 wm_cx0 (wm_tb_ok tk_73) (by decide +kernel) [] 250 (fun as h q qt hs => ?_)
  obtain ⟨x, k, v, rfl, hs1⟩ := wc_sTII_e hs
  clear hs
  obtain ⟨tg, ln, I, L, R, n⟩ := h
  have hs := id hs1
  clear hs1
  simp only [wc_f] at hs
  refine ⟨rfl, fun _ _ _ _ _ _ _ => False, mq_nc, ?_⟩
  obtain ⟨a1, d, a2, a3, a4, e, a5, a6, a7, r1, r2, r3, r4, h1⟩ := hs
  repeat' first
    | refine And.intro ?_ ?_
    | refine Exists.intro _ (And.intro (show _ = _ from by assumption) ?_)
    | refine Exists.intro _ (And.intro rfl (And.intro (by assumption) ?_))
    | refine Exists.intro _ (And.intro rfl ?_)
    | (intro h; try omega)
    | omega
    | (rw [h]; exact h1)
    | exact Nat.le_of_ble_eq_true rfl
    | assumption
def sc_76 (as : List wi_V) (h : wc_H) (q : wi_Q1 wc_H) (qt : wi_Q2 wc_H) : Prop := wc_sT as (fun x => wc_f h fun tg ln I L R n => tg x = 10 ∧ ∃ d, R 10 0 x = some d ∧ tg d = 23 ∧ ln d = 16 ∧ ∃ e, R 10 1 x = some e ∧ tg e = 24 ∧ ln e = 1024 ∧ I 10 2 x ≤ 16 ∧ ((∀ j : Int, 1 ≤ j → j < I 10 2 x → L 23 (j - 1).toNat d < L 23 j.toNat d) → q (some (.inl 1)) (tg, ln, I, L, R, n)) ∧ (¬ (∀ j : Int, 1 ≤ j → j < I 10 2 x → L 23 (j - 1).toNat d < L 23 j.toNat d) → q (some (.inl 0)) (tg, ln, I, L, R, n)))
theorem cm_76 {l : Launch} {D : va_G} {aC : wm_Y} {b0 : Nat} (hl0 : l.stackTraces = false) : wm_sp l D aC b0 76 (wi_lf (wc_Rl wc_ok) sc_76) := by
  refine wi_method (wc_lw wc_ok) 76 (cx := fun _ _ _ _ _ => False) (ids := ci_76) (tb := tb_76) (by decide +kernel) hl0 wm_cx0 (wm_tb_ok tk_76) (by decide +kernel) [2] 250 (fun as h q qt hs => ?_)
  obtain ⟨x, rfl, hs1⟩ := wc_sT_e hs
  clear hs
  obtain ⟨tg, ln, I, L, R, n⟩ := h
  have hs := id hs1
  clear hs1
  simp only [wc_f] at hs
  obtain ⟨a1, d, a2, a3, a4, e, a5, a6, a7, r1, h1, h2⟩ := hs
  refine ⟨rfl, fun mz pc lv sk h cu su => ∃ i : Int, lv = [some (wi_rf (some x)), some (.inl (i))] ∧ sk = [] ∧ h = (tg, ln, I, L, R, n) ∧ cu = 0 ∧ su = 0 ∧ mz = (20 - i).toNat ∧ 1 ≤ i ∧ (i = 1 ∨ i ≤ I 10 2 x) ∧ (∀ j : Int, 1 ≤ j → j < i → L 23 (j - 1).toNat d < L 23 j.toNat d), mq_c1 (fun mz lv sk h cu su hI => ?_), ?_⟩
  · obtain ⟨i, rfl, rfl, rfl, rfl, rfl, rfl, p1, p2, p3⟩ := hI
    repeat' first
      | refine And.intro ?_ ?_
      | refine Exists.intro _ (And.intro (show _ = _ from by assumption) ?_)
      | refine Exists.intro _ (And.intro rfl (And.intro (by assumption) ?_))
      | refine Exists.intro _ (And.intro rfl ?_)
      | (intro h; try omega)
      | omega
      | exact h1 (fun j z1 z2 => p3 j z1 (by omega))
      | exact h2 (fun z => by have := z i (by omega) (by omega); omega)
      | (refine Exists.intro _ (And.intro ?_ (Exists.intro (i + 1) (And.intro rfl (And.intro rfl (And.intro rfl (And.intro rfl (And.intro rfl (And.intro rfl (?_))))))))) <;> first | omega | exact ⟨by omega, by omega, fun j z1 z2 => by rcases (show j < i ∨ j = i by omega) with z | rfl <;> first | exact p3 j z1 z | omega⟩)
      | exact Nat.le_of_ble_eq_true rfl
      | assumption
  · refine Exists.intro _ (Exists.intro (1) (And.intro rfl (And.intro rfl (And.intro rfl (And.intro rfl (And.intro rfl (And.intro rfl (⟨by omega, by omega, fun j z1 z2 => by omega⟩))))))))
def sc_77 (as : List wi_V) (h : wc_H) (q : wi_Q1 wc_H) (qt : wi_Q2 wc_H) : Prop := wc_sTTI as (fun x y m => wc_f h fun tg ln I L R n => tg x = 10 ∧ ∃ d, R 10 0 x = some d ∧ tg d = 23 ∧ ln d = 16 ∧ ∃ e, R 10 1 x = some e ∧ tg e = 24 ∧ ln e = 1024 ∧ tg y = 5 ∧ I 10 2 x ≤ 16 ∧ 0 ≤ m ∧ m ≤ 64 ∧ ((∀ i : Int, 0 ≤ i → i < I 10 2 x → ∀ k : Int, 0 ≤ k → k < m → (I 5 0 y = 2 ∨ (0 ≤ I 24 (i * 64 + k).toNat e ∧ I 24 (i * 64 + k).toNat e ≤ 8))) → q (some (.inl 1)) (tg, ln, I, L, R, n)) ∧ (¬ (∀ i : Int, 0 ≤ i → i < I 10 2 x → ∀ k : Int, 0 ≤ k → k < m → (I 5 0 y = 2 ∨ (0 ≤ I 24 (i * 64 + k).toNat e ∧ I 24 (i * 64 + k).toNat e ≤ 8))) → q (some (.inl 0)) (tg, ln, I, L, R, n)))
theorem cm_77 {l : Launch} {D : va_G} {aC : wm_Y} {b0 : Nat} (hl0 : l.stackTraces = false) : wm_sp l D aC b0 77 (wi_lf (wc_Rl wc_ok) sc_77) := by
  refine wi_method (wc_lw wc_ok) 77 (cx := fun id => if id = 49 then sc_49 else if id = 74 then sc_74 else fun _ _ _ _ => False) (ids := ci_77) (tb := tb_77) (by decide +kernel) hl0 (wm_cxc (cm_49 hl0) oi_77 (fun h => wm_cxc (cm_74 hl0) h (fun h => wm_cxn h))) (wm_tb_ok tk_77) (by decide +kernel) [2, 13] 250 (fun as h q qt hs => ?_)
  obtain ⟨x, y, m, rfl, hs1⟩ := wc_sTTI_e hs
  clear hs
  obtain ⟨tg, ln, I, L, R, n⟩ := h
  have hs := id hs1
  clear hs1
  simp only [wc_f] at hs
  obtain ⟨a1, d, a2, a3, a4, e, a5, a6, a7, a8, r1, r2, r3, h1, h2⟩ := hs
  refine ⟨rfl, fun mz pc lv sk h cu su => match pc with | 2 => ∃ i : Int, ∃ z : Option wi_V, lv = [some (wi_rf (some x)), some (wi_rf (some y)), some (.inl (m)), some (.inl (i)), z] ∧ sk = [] ∧ h = (tg, ln, I, L, R, n) ∧ cu = 0 ∧ su = 0 ∧ mz = ((20 - i) * 100).toNat ∧ 0 ≤ i ∧ (i = 0 ∨ i ≤ I 10 2 x) ∧ (∀ i1 : Int, 0 ≤ i1 → i1 < i → ∀ k : Int, 0 ≤ k → k < m → (I 5 0 y = 2 ∨ (0 ≤ I 24 (i1 * 64 + k).toNat e ∧ I 24 (i1 * 64 + k).toNat e ≤ 8))) | 13 => ∃ i : Int, ∃ k : Int, lv = [some (wi_rf (some x)), some (wi_rf (some y)), some (.inl (m)), some (.inl (i)), some (.inl (k))] ∧ sk = [] ∧ h = (tg, ln, I, L, R, n) ∧ cu = 0 ∧ su = 0 ∧ mz = ((20 - i) * 100 - 1 - k).toNat ∧ 0 ≤ i ∧ i < I 10 2 x ∧ 0 ≤ k ∧ k ≤ m ∧ (∀ i1 : Int, 0 ≤ i1 → i1 < i → ∀ k : Int, 0 ≤ k → k < m → (I 5 0 y = 2 ∨ (0 ≤ I 24 (i1 * 64 + k).toNat e ∧ I 24 (i1 * 64 + k).toNat e ≤ 8))) ∧ ∀ k1 : Int, 0 ≤ k1 → k1 < k → (I 5 0 y = 2 ∨ (0 ≤ I 24 (i * 64 + k1).toNat e ∧ I 24 (i * 64 + k1).toNat e ≤ 8)) | _ => False, mq_c2 (fun mz lv sk h cu su hI => ?_) (fun mz lv sk h cu su hI => ?_), ?_⟩
  · obtain ⟨i, z, rfl, rfl, rfl, rfl, rfl, rfl, p1, p2, p3⟩ := hI
    repeat' first
      | refine And.intro ?_ ?_
      | refine Exists.intro _ (And.intro (show _ = _ from by assumption) ?_)
      | refine Exists.intro _ (And.intro rfl (And.intro (by assumption) ?_))
      | refine Exists.intro _ (And.intro rfl ?_)
      | (intro h; try omega)
      | omega
      | exact h1 (fun i1 z1 z2 => p3 i1 z1 (by omega))
      | (refine Exists.intro _ (And.intro ?_ (Exists.intro (i) (Exists.intro (0) (And.intro rfl (And.intro rfl (And.intro rfl (And.intro rfl (And.intro rfl (And.intro rfl (?_)))))))))) <;> first | omega | exact ⟨by omega, by omega, by omega, by omega, p3, fun k1 z1 z2 => by omega⟩)
      | exact Nat.le_of_ble_eq_true rfl
      | assumption
  · obtain ⟨i, k, rfl, rfl, rfl, rfl, rfl, rfl, p1, p2, p3, p4, p5, p6⟩ := hI
    repeat' first
      | refine And.intro ?_ ?_
      | refine Exists.intro _ (And.intro (show _ = _ from by assumption) ?_)
      | refine Exists.intro _ (And.intro rfl (And.intro (by assumption) ?_))
      | refine Exists.intro _ (And.intro rfl ?_)
      | (intro h; try omega)
      | omega
      | exact h2 (fun z => by have := z i (by omega) (by omega) k (by omega) (by omega); omega)
      | (refine Exists.intro _ (And.intro ?_ (Exists.intro (i) (Exists.intro (k + 1) (And.intro rfl (And.intro rfl (And.intro rfl (And.intro rfl (And.intro rfl (And.intro rfl (?_)))))))))) <;> first | omega | exact ⟨by omega, by omega, by omega, by omega, p5, fun k1 z1 z2 => by rcases (show k1 < k ∨ k1 = k by omega) with z | rfl <;> first | exact p6 k1 z1 z | omega⟩)
      | (have ed : k = m := (by omega); subst ed; refine Exists.intro _ (And.intro ?_ (Exists.intro (i + 1) (Exists.intro (_) (And.intro rfl (And.intro rfl (And.intro rfl (And.intro rfl (And.intro rfl (And.intro rfl (?_)))))))))) <;> first | omega | exact ⟨by omega, by omega, fun i1 z1 z2 => by rcases (show i1 < i ∨ i1 = i by omega) with z | rfl <;> first | exact p5 i1 z1 z | exact p6⟩)
      | exact Nat.le_of_ble_eq_true rfl
      | assumption
  · refine Exists.intro _ (Exists.intro (0) (Exists.intro (_) (And.intro rfl (And.intro rfl (And.intro rfl (And.intro rfl (And.intro rfl (And.intro rfl (⟨by omega, by omega, fun i1 z1 z2 => by omega⟩)))))))))
def sc_72 (as : List wi_V) (h : wc_H) (q : wi_Q1 wc_H) (qt : wi_Q2 wc_H) : Prop := wc_sTJ as (fun x w => wc_f h fun tg ln I L R n => tg x = 10 ∧ ∃ d, R 10 0 x = some d ∧ tg d = 23 ∧ ln d = 16 ∧ ∃ e, R 10 1 x = some e ∧ tg e = 24 ∧ ln e = 1024 ∧ 0 ≤ I 10 2 x ∧ I 10 2 x < 16 ∧ ∀ I1, (∀ t j y, ¬ (t = 10 ∧ j = 2 ∧ y = x) → ¬ (t = 24 ∧ y = e ∧ (64 * I 10 2 x).toNat ≤ j ∧ j < (64 * I 10 2 x).toNat + 64) → I1 t j y = I t j y) → (∀ j, (64 * I 10 2 x).toNat ≤ j → j < (64 * I 10 2 x).toNat + 64 → I1 24 j e = 0) → I1 10 2 x = I 10 2 x + 1 → q none (tg, ln, I1, wm_up L 23 (I 10 2 x).toNat d w, R, n))
theorem cm_72 {l : Launch} {D : va_G} {aC : wm_Y} {b0 : Nat} (hl0 : l.stackTraces = false) : wm_sp l D aC b0 72 (wi_lf (wc_Rl wc_ok) sc_72) := by
  refine wi_method (wc_lw wc_ok) 72 (cx := fun _ _ _ _ _ => False) (ids := ci_72) (tb := tb_72) (by decide +kernel) hl0 wm_cx0 (wm_tb_ok tk_72) (by decide +kernel) [21] 250 (fun as h q qt hs => ?_)
  obtain ⟨x, w, rfl, hs1⟩ := wc_sTJ_e hs
  clear hs
  obtain ⟨tg, ln, I, L, R, n⟩ := h
  have hs := id hs1
  clear hs1
  simp only [wc_f] at hs
  obtain ⟨a1, d, a2, a3, a4, e, a5, a6, a7, r1, r2, h1⟩ := hs
  refine ⟨rfl, fun mz pc lv sk h cu su => ∃ k : Int, ∃ I1 : wm_F Int, lv = [some (wi_rf (some x)), some (.inr (.inl (w))), none, some (.inl (I 10 2 x * 64)), some (.inl (k))] ∧ sk = [] ∧ h = (tg, ln, I1, wm_up L 23 (I 10 2 x).toNat d w, R, n) ∧ cu = 0 ∧ su = 0 ∧ mz = (100 - k).toNat ∧ 0 ≤ k ∧ k ≤ 64 ∧ (∀ t j y, ¬ (t = 24 ∧ y = e ∧ (64 * I 10 2 x).toNat ≤ j ∧ j < (64 * I 10 2 x).toNat + k.toNat) → I1 t j y = I t j y) ∧ ∀ j, (64 * I 10 2 x).toNat ≤ j → j < (64 * I 10 2 x).toNat + k.toNat → I1 24 j e = 0, mq_c1 (fun mz lv sk h cu su hI => ?_), ?_⟩
  · obtain ⟨k, I1, rfl, rfl, rfl, rfl, rfl, rfl, p1, p2, p3, p4⟩ := hI
    have e10 : I1 10 2 x = I 10 2 x := p3 10 2 x (fun z => by omega)
    have k0 : ∀ I2, I2 = wm_up I1 24 (I 10 2 x * 64 + k).toNat e 0 → (∀ t j y, ¬ (t = 24 ∧ y = e ∧ (64 * I 10 2 x).toNat ≤ j ∧ j < (64 * I 10 2 x).toNat + (k + 1).toNat) → I2 t j y = I t j y) ∧ ∀ j, (64 * I 10 2 x).toNat ≤ j → j < (64 * I 10 2 x).toNat + (k + 1).toNat → I2 24 j e = 0 := by
      rintro I2 rfl
      refine ⟨fun t j y z => ?_, fun j z1 z2 => ?_⟩
      · by_cases c : t = 24 ∧ j = (I 10 2 x * 64 + k).toNat ∧ y = e
        · exact absurd ⟨c.1, c.2.2, by omega, by omega⟩ z
        · simp only [wm_up]
          rw [if_neg c]
          exact p3 t j y (fun z9 => z ⟨z9.1, z9.2.1, z9.2.2.1, by omega⟩)
      · by_cases c : j = (I 10 2 x * 64 + k).toNat
        · rw [c, wm_up_self]
        · rw [wm_up_k c]
          exact p4 j z1 (by omega)
    have k1 : k = 64 → ∀ I2, I2 = wm_up I1 10 2 x (I1 10 2 x + 1) → q none (tg, ln, I2, wm_up L 23 (I 10 2 x).toNat d w, R, n) := by
      rintro rfl I2 rfl
      refine h1 _ (fun t j y z1 z2 => ?_) (fun j z1 z2 => ?_) ?_
      · simp only [wm_up]
        rw [if_neg z1]
        exact p3 t j y z2
      · rw [wm_up_t (by decide)]
        exact p4 j z1 z2
      · rw [wm_up_self, e10]
    repeat' first
      | refine And.intro ?_ ?_
      | refine Exists.intro _ (And.intro (show _ = _ from by assumption) ?_)
      | refine Exists.intro _ (And.intro rfl (And.intro (by assumption) ?_))
      | refine Exists.intro _ (And.intro rfl ?_)
      | (intro h; try omega)
      | omega
      | exact k1 (by omega) _ (by assumption)
      | (have kk := k0 _ (by assumption); refine Exists.intro _ (And.intro ?_ (Exists.intro (k + 1) (Exists.intro (_) (And.intro rfl (And.intro rfl (And.intro rfl (And.intro rfl (And.intro rfl (And.intro rfl (?_)))))))))) <;> first | omega | exact ⟨by omega, by omega, kk.1, kk.2⟩)
      | exact Nat.le_of_ble_eq_true rfl
      | assumption
  · repeat' first
      | refine And.intro ?_ ?_
      | refine Exists.intro _ (And.intro (show _ = _ from by assumption) ?_)
      | refine Exists.intro _ (And.intro rfl (And.intro (by assumption) ?_))
      | refine Exists.intro _ (And.intro rfl ?_)
      | (intro h; try omega)
      | omega
      | (refine Exists.intro _ (Exists.intro (0) (Exists.intro (_) (And.intro rfl (And.intro rfl (And.intro (by rw [h]) (And.intro rfl (And.intro rfl (And.intro rfl (?_))))))))) <;> first | omega | exact ⟨by omega, by omega, fun t j y z => rfl, fun j z1 z2 => by omega⟩)
      | exact Nat.le_of_ble_eq_true rfl
      | assumption
def sc_63 (as : List wi_V) (h : wc_H) (q : wi_Q1 wc_H) (qt : wi_Q2 wc_H) : Prop := wc_sT as (fun x => wc_f h fun tg ln I L R n => q none (tg, ln, I, L, R, n))
theorem cm_63 {l : Launch} {D : va_G} {aC : wm_Y} {b0 : Nat} (hl0 : l.stackTraces = false) : wm_sp l D aC b0 63 (wi_lf (wc_Rl wc_ok) sc_63) := by
  refine wi_method (wc_lw wc_ok) 63 (cx := fun _ _ _ _ _ => False) (ids := ci_63) (tb := tb_63) (by decide +kernel) hl0 wm_cx0 (wm_tb_ok tk_63) (by decide +kernel) [] 250 (fun as h q qt hs => ?_)
  obtain ⟨x, rfl, hs1⟩ := wc_sT_e hs
  clear hs
  obtain ⟨tg, ln, I, L, R, n⟩ := h
  have hs := id hs1
  clear hs1
  simp only [wc_f] at hs
  refine ⟨rfl, fun _ _ _ _ _ _ _ => False, mq_nc, ?_⟩
  repeat' first
    | refine And.intro ?_ ?_
    | refine Exists.intro _ (And.intro (show _ = _ from by assumption) ?_)
    | refine Exists.intro _ (And.intro rfl (And.intro (by assumption) ?_))
    | refine Exists.intro _ (And.intro rfl ?_)
    | (intro h; try omega)
    | omega
    | exact hs
    | exact Nat.le_of_ble_eq_true rfl
    | assumption
def sc_70 (as : List wi_V) (h : wc_H) (q : wi_Q1 wc_H) (qt : wi_Q2 wc_H) : Prop := wc_sT as (fun x => wc_f h fun tg ln I L R n => q none (tg, ln, I, L, R, n))
theorem cm_70 {l : Launch} {D : va_G} {aC : wm_Y} {b0 : Nat} (hl0 : l.stackTraces = false) : wm_sp l D aC b0 70 (wi_lf (wc_Rl wc_ok) sc_70) := by
  refine wi_method (wc_lw wc_ok) 70 (cx := fun _ _ _ _ _ => False) (ids := ci_70) (tb := tb_70) (by decide +kernel) hl0 wm_cx0 (wm_tb_ok tk_70) (by decide +kernel) [] 250 (fun as h q qt hs => ?_)
  obtain ⟨x, rfl, hs1⟩ := wc_sT_e hs
  clear hs
  obtain ⟨tg, ln, I, L, R, n⟩ := h
  have hs := id hs1
  clear hs1
  simp only [wc_f] at hs
  refine ⟨rfl, fun _ _ _ _ _ _ _ => False, mq_nc, ?_⟩
  repeat' first
    | refine And.intro ?_ ?_
    | refine Exists.intro _ (And.intro (show _ = _ from by assumption) ?_)
    | refine Exists.intro _ (And.intro rfl (And.intro (by assumption) ?_))
    | refine Exists.intro _ (And.intro rfl ?_)
    | (intro h; try omega)
    | omega
    | exact hs
    | exact Nat.le_of_ble_eq_true rfl
    | assumption
def sc_37 (as : List wi_V) (h : wc_H) (q : wi_Q1 wc_H) (qt : wi_Q2 wc_H) : Prop := wc_sTO as (fun x s => wc_f h fun tg ln I L R n => tg x = 4 ∧ q none (tg, ln, I, L, wm_up R 4 0 x s, n))
theorem cm_37 {l : Launch} {D : va_G} {aC : wm_Y} {b0 : Nat} (hl0 : l.stackTraces = false) : wm_sp l D aC b0 37 (wi_lf (wc_Rl wc_ok) sc_37) := by
  refine wi_method (wc_lw wc_ok) 37 (cx := fun _ _ _ _ _ => False) (ids := ci_37) (tb := tb_37) (by decide +kernel) hl0 wm_cx0 (wm_tb_ok tk_37) (by decide +kernel) [] 250 (fun as h q qt hs => ?_)
  obtain ⟨x, s, rfl, hs1⟩ := wc_sTO_e hs
  clear hs
  obtain ⟨tg, ln, I, L, R, n⟩ := h
  have hs := id hs1
  clear hs1
  simp only [wc_f] at hs
  refine ⟨rfl, fun _ _ _ _ _ _ _ => False, mq_nc, ?_⟩
  obtain ⟨a1, h1⟩ := hs
  repeat' first
    | refine And.intro ?_ ?_
    | refine Exists.intro _ (And.intro (show _ = _ from by assumption) ?_)
    | refine Exists.intro _ (And.intro rfl (And.intro (by assumption) ?_))
    | refine Exists.intro _ (And.intro rfl ?_)
    | (intro h; try omega)
    | omega
    | (rw [h]; exact h1)
    | exact Nat.le_of_ble_eq_true rfl
    | assumption
def sc_57 (as : List wi_V) (h : wc_H) (q : wi_Q1 wc_H) (qt : wi_Q2 wc_H) : Prop := wc_sT as (fun x => wc_f h fun tg ln I L R n => tg x = 6 ∧ x < n ∧ q none (wc_nt tg n 25, wc_nt ln n 4, wc_nz I n 25, wc_nz L n 25, wm_up (wc_nn R n 25) 6 0 x (some n), n + 1))
theorem cm_57 {l : Launch} {D : va_G} {aC : wm_Y} {b0 : Nat} (hl0 : l.stackTraces = false) : wm_sp l D aC b0 57 (wi_lf (wc_Rl wc_ok) sc_57) := by
  refine wi_method (wc_lw wc_ok) 57 (cx := fun _ _ _ _ _ => False) (ids := ci_57) (tb := tb_57) (by decide +kernel) hl0 wm_cx0 (wm_tb_ok tk_57) (by decide +kernel) [] 250 (fun as h q qt hs => ?_)
  obtain ⟨x, rfl, hs1⟩ := wc_sT_e hs
  clear hs
  obtain ⟨tg, ln, I, L, R, n⟩ := h
  have hs := id hs1
  clear hs1
  simp only [wc_f] at hs
  refine ⟨rfl, fun _ _ _ _ _ _ _ => False, mq_nc, ?_⟩
  obtain ⟨a1, a2, h1⟩ := hs
  repeat' first
    | refine And.intro ?_ ?_
    | (intro tg1 ln1 I1 L1 R1 e1 e2 e3 e4 e5; have b1 : tg1 x = 6 := (by rw [e1]; show (if x = n then _ else _) = _; rw [if_neg (by omega)]; assumption))
    | refine Exists.intro _ (And.intro (show _ = _ from by assumption) ?_)
    | refine Exists.intro _ (And.intro rfl (And.intro (by assumption) ?_))
    | refine Exists.intro _ (And.intro rfl ?_)
    | (intro h; try omega)
    | omega
    | (subst_vars; exact h1)
    | exact Nat.le_of_ble_eq_true rfl
    | assumption
def sc_71 (as : List wi_V) (h : wc_H) (q : wi_Q1 wc_H) (qt : wi_Q2 wc_H) : Prop := wc_sT as (fun x => wc_f h fun tg ln I L R n => tg x = 10 ∧ x < n ∧ q none (wc_nt (wc_nt tg n 23) (n + 1) 24, wc_nt (wc_nt ln n 16) (n + 1) 1024, wc_nz (wc_nz I n 23) (n + 1) 24, wc_nz (wc_nz L n 23) (n + 1) 24, wm_up (wc_nn (wm_up (wc_nn R n 23) 10 0 x (some n)) (n + 1) 24) 10 1 x (some (n + 1)), n + 1 + 1))
theorem cm_71 {l : Launch} {D : va_G} {aC : wm_Y} {b0 : Nat} (hl0 : l.stackTraces = false) : wm_sp l D aC b0 71 (wi_lf (wc_Rl wc_ok) sc_71) := by
  refine wi_method (wc_lw wc_ok) 71 (cx := fun _ _ _ _ _ => False) (ids := ci_71) (tb := tb_71) (by decide +kernel) hl0 wm_cx0 (wm_tb_ok tk_71) (by decide +kernel) [] 250 (fun as h q qt hs => ?_)
  obtain ⟨x, rfl, hs1⟩ := wc_sT_e hs
  clear hs
  obtain ⟨tg, ln, I, L, R, n⟩ := h
  have hs := id hs1
  clear hs1
  simp only [wc_f] at hs
  refine ⟨rfl, fun _ _ _ _ _ _ _ => False, mq_nc, ?_⟩
  obtain ⟨a1, a2, h1⟩ := hs
  repeat' first
    | refine And.intro ?_ ?_
    | (intro tg1 ln1 I1 L1 R1 e1 e2 e3 e4 e5; have b1 : tg1 x = 10 := (by rw [e1]; show (if x = n then _ else _) = _; rw [if_neg (by omega)]; assumption))
    | (intro tg1 ln1 I1 L1 R1 e1 e2 e3 e4 e5; have b1 : tg1 x = 10 := (by rw [e1]; show (if x = n + 1 then _ else _) = _; rw [if_neg (by omega)]; assumption))
    | refine Exists.intro _ (And.intro (show _ = _ from by assumption) ?_)
    | refine Exists.intro _ (And.intro rfl (And.intro (by assumption) ?_))
    | refine Exists.intro _ (And.intro rfl ?_)
    | (intro h; try omega)
    | omega
    | (subst_vars; exact h1)
    | exact Nat.le_of_ble_eq_true rfl
    | assumption
def sc_48 (as : List wi_V) (h : wc_H) (q : wi_Q1 wc_H) (qt : wi_Q2 wc_H) : Prop := wc_sTII as (fun x c m => wc_f h fun tg ln I L R n => tg x = 5 ∧ x < n ∧ 0 ≤ m ∧ m ≤ 64 ∧ q none (wc_nt (wc_nt tg n 26) (n + 1) 27, wc_nt (wc_nt ln n m.toNat) (n + 1) m.toNat, wc_nz (wc_nz (wm_up (wm_up I 5 0 x c) 5 1 x m) n 26) (n + 1) 27, wc_nz (wc_nz L n 26) (n + 1) 27, wm_up (wc_nn (wm_up (wc_nn R n 26) 5 2 x (some n)) (n + 1) 27) 5 3 x (some (n + 1)), n + 1 + 1))
theorem cm_48 {l : Launch} {D : va_G} {aC : wm_Y} {b0 : Nat} (hl0 : l.stackTraces = false) : wm_sp l D aC b0 48 (wi_lf (wc_Rl wc_ok) sc_48) := by
  refine wi_method (wc_lw wc_ok) 48 (cx := fun _ _ _ _ _ => False) (ids := ci_48) (tb := tb_48) (by decide +kernel) hl0 wm_cx0 (wm_tb_ok tk_48) (by decide +kernel) [] 250 (fun as h q qt hs => ?_)
  obtain ⟨x, c, m, rfl, hs1⟩ := wc_sTII_e hs
  clear hs
  obtain ⟨tg, ln, I, L, R, n⟩ := h
  have hs := id hs1
  clear hs1
  simp only [wc_f] at hs
  refine ⟨rfl, fun _ _ _ _ _ _ _ => False, mq_nc, ?_⟩
  obtain ⟨a1, a2, r1, r2, h1⟩ := hs
  repeat' first
    | refine And.intro ?_ ?_
    | (intro tg1 ln1 I1 L1 R1 e1 e2 e3 e4 e5; have b1 : tg1 x = 5 := (by rw [e1]; show (if x = n then _ else _) = _; rw [if_neg (by omega)]; assumption))
    | (intro tg1 ln1 I1 L1 R1 e1 e2 e3 e4 e5; have b1 : tg1 x = 5 := (by rw [e1]; show (if x = n + 1 then _ else _) = _; rw [if_neg (by omega)]; assumption))
    | refine Exists.intro _ (And.intro (show _ = _ from by assumption) ?_)
    | refine Exists.intro _ (And.intro rfl (And.intro (by assumption) ?_))
    | refine Exists.intro _ (And.intro rfl ?_)
    | (intro h; try omega)
    | omega
    | (subst_vars; exact h1)
    | (show _ ≤ wm_ms 48; simp only [wm_ms]; omega)
    | (simp only [wm_mr, wm_mc, wm_ms]; omega)
    | exact Nat.le_of_ble_eq_true rfl
    | assumption
def sc_66 (as : List wi_V) (h : wc_H) (q : wi_Q1 wc_H) (qt : wi_Q2 wc_H) : Prop := wc_sT as (fun x => wc_f h fun tg ln I L R n => tg x = 8 ∧ x < n ∧ q none (wc_nt (wc_nt tg n 6) (n + 1) 25, wc_nt (wc_nt ln n 0) (n + 1) 4, wm_up (wc_nz (wc_nz I n 6) (n + 1) 25) 8 1 x 1, wm_up (wc_nz (wc_nz L n 6) (n + 1) 25) 8 3 x (-1), wm_up (wm_up (wc_nn (wc_nn R n 6) (n + 1) 25) 6 0 n (some (n + 1))) 8 0 x (some n), n + 1 + 1))
theorem cm_66 {l : Launch} {D : va_G} {aC : wm_Y} {b0 : Nat} (hl0 : l.stackTraces = false) : wm_sp l D aC b0 66 (wi_lf (wc_Rl wc_ok) sc_66) := by
  refine wi_method (wc_lw wc_ok) 66 (cx := fun id => if id = 57 then sc_57 else fun _ _ _ _ => False) (ids := ci_66) (tb := tb_66) (by decide +kernel) hl0 (wm_cxc (cm_57 hl0) oi_66 (fun h => wm_cxn h)) (wm_tb_ok tk_66) (by decide +kernel) [] 250 (fun as h q qt hs => ?_)
  obtain ⟨x, rfl, hs1⟩ := wc_sT_e hs
  clear hs
  obtain ⟨tg, ln, I, L, R, n⟩ := h
  have hs := id hs1
  clear hs1
  simp only [wc_f] at hs
  refine ⟨rfl, fun _ _ _ _ _ _ _ => False, mq_nc, ?_⟩
  obtain ⟨a1, a2, h1⟩ := hs
  repeat' first
    | refine And.intro ?_ ?_
    | (intro tg1 ln1 I1 L1 R1 e1 e2 e3 e4 e5; have b2 : tg1 n = 6 := (by rw [e1]; exact if_pos rfl); have b1 : wc_nt tg1 (n + 1) 25 x = 8 := (by rw [e1]; show (if x = n + 1 then _ else (if x = n then _ else _)) = _; rw [if_neg (by omega), if_neg (by omega)]; assumption))
    | refine Exists.intro _ (And.intro (show _ = _ from by assumption) ?_)
    | refine Exists.intro _ (And.intro rfl (And.intro (by assumption) ?_))
    | refine Exists.intro _ (And.intro rfl ?_)
    | (intro h; try omega)
    | omega
    | (subst_vars; exact h1)
    | exact Nat.le_of_ble_eq_true rfl
    | assumption
end
section
/-! THE CLASS, 3: chains of transactions -/
def wc_ch (R : wm_F (Option Nat)) : Option Nat → List Nat → Prop
  | x, [] => x = none
  | x, a :: r => x = some a ∧ wc_ch R (R 9 2 a) r
def wc_sg (R : wm_F (Option Nat)) : Option Nat → List Nat → Option Nat → Prop
  | x, [], y => x = y
  | x, a :: r, y => x = some a ∧ wc_sg R (R 9 2 a) r y
theorem wc_ch_h {R : wm_F (Option Nat)} : ∀ {l : List Nat} {x : Option Nat}, wc_ch R x l → x = l.head?
  | [], _, h => h
  | _ :: _, _, h => h.1
theorem wc_ch_c {R R' : wm_F (Option Nat)} : ∀ {l : List Nat} {x : Option Nat}, wc_ch R x l → (∀ a ∈ l, R' 9 2 a = R 9 2 a) → wc_ch R' x l
  | [], _, h, _ => h
  | a :: r, _, h, g => ⟨h.1, wc_ch_c (by rw [g a List.mem_cons_self]; exact h.2) (fun b hb => g b (List.mem_cons_of_mem _ hb))⟩
theorem wc_sg_c {R R' : wm_F (Option Nat)} : ∀ {l : List Nat} {x y : Option Nat}, wc_sg R x l y → (∀ a ∈ l, R' 9 2 a = R 9 2 a) → wc_sg R' x l y
  | [], _, _, h, _ => h
  | a :: r, _, _, h, g => ⟨h.1, wc_sg_c (by rw [g a List.mem_cons_self]; exact h.2) (fun b hb => g b (List.mem_cons_of_mem _ hb))⟩
theorem wc_ch_s {R : wm_F (Option Nat)} : ∀ {A : List Nat} {B : List Nat} {x : Option Nat}, wc_ch R x (A ++ B) → ∃ y, wc_sg R x A y ∧ wc_ch R y B
  | [], _, x, h => ⟨x, rfl, h⟩
  | a :: r, B, x, h => by
    obtain ⟨y, h1, h2⟩ := wc_ch_s (A := r) h.2
    exact ⟨y, ⟨h.1, h1⟩, h2⟩
theorem wc_ch_j {R : wm_F (Option Nat)} : ∀ {A : List Nat} {B : List Nat} {x y : Option Nat}, wc_sg R x A y → wc_ch R y B → wc_ch R x (A ++ B)
  | [], _, _, _, h, g => by cases (show _ = _ from h); exact g
  | a :: r, B, x, y, h, g => ⟨h.1, wc_ch_j (A := r) h.2 g⟩
theorem wc_sg_e {R : wm_F (Option Nat)} : ∀ {A : List Nat} {b : Nat} {x y : Option Nat}, wc_sg R x (A ++ [b]) y → wc_sg R x A (some b) ∧ R 9 2 b = y
  | [], b, x, y, h => ⟨h.1, h.2⟩
  | a :: r, b, x, y, h => by
    obtain ⟨h1, h2⟩ := wc_sg_e (A := r) h.2
    exact ⟨⟨h.1, h1⟩, h2⟩
theorem wc_sg_a {R : wm_F (Option Nat)} : ∀ {A : List Nat} {b : Nat} {x y : Option Nat}, wc_sg R x A (some b) → R 9 2 b = y → wc_sg R x (A ++ [b]) y
  | [], b, x, y, h, g => ⟨h, g⟩
  | a :: r, b, x, y, h, g => ⟨h.1, wc_sg_a (A := r) h.2 g⟩
def wc_cn (I L : wm_F Int) (l : List Nat) : List (Int × Int) := l.map (fun a => (L 9 0 a, I 9 1 a))
theorem wc_cn_c {I L I' L' : wm_F Int} {l : List Nat} (h : ∀ a ∈ l, L' 9 0 a = L 9 0 a ∧ I' 9 1 a = I 9 1 a) : wc_cn I' L' l = wc_cn I L l :=
  List.map_congr_left (fun a ha => by rw [(h a ha).1, (h a ha).2])
/-- a row x of the store s: its chain cs; the idle chain ids -/
def wc_rs (h : wc_H) (x s : Nat) (cs ids : List Nat) : Prop := h.1 x = 4 ∧ h.2.2.2.2.1 4 0 x = some s ∧ h.1 s = 7 ∧ wc_ch h.2.2.2.2.1 (h.2.2.2.2.1 4 1 x) cs ∧ wc_ch h.2.2.2.2.1 (h.2.2.2.2.1 7 1 s) ids ∧ (cs ++ ids).Nodup ∧ ∀ a ∈ cs ++ ids, h.1 a = 9 ∧ a < h.2.2.2.2.2
/-- what a row's method may change -/
def wc_ro (h h' : wc_H) (x s : Nat) (X : List Nat) : Prop :=
  h.2.2.2.2.2 ≤ h'.2.2.2.2.2 ∧ (∀ a, a < h.2.2.2.2.2 → h'.1 a = h.1 a ∧ h'.2.1 a = h.2.1 a) ∧ (∀ a, h.2.2.2.2.2 ≤ a → a < h'.2.2.2.2.2 → h'.1 a = 9) ∧
  (∀ t k a, ¬ (t = 7 ∧ k = 0 ∧ a = s) → ¬ (t = 4 ∧ k = 2 ∧ a = x) → ¬ (t = 9 ∧ (a ∈ X ∨ h.2.2.2.2.2 ≤ a)) → h'.2.2.1 t k a = h.2.2.1 t k a) ∧ (∀ t k a, ¬ (t = 9 ∧ (a ∈ X ∨ h.2.2.2.2.2 ≤ a)) → h'.2.2.2.1 t k a = h.2.2.2.1 t k a) ∧
  (∀ t k a, ¬ (t = 7 ∧ k = 1 ∧ a = s) → ¬ (t = 4 ∧ k = 1 ∧ a = x) → ¬ (t = 9 ∧ (a ∈ X ∨ h.2.2.2.2.2 ≤ a)) → h'.2.2.2.2.1 t k a = h.2.2.2.2.1 t k a)
theorem wc_ro_rf {h : wc_H} {x s : Nat} {X : List Nat} : wc_ro h h x s X := ⟨Nat.le_refl _, fun _ _ => ⟨rfl, rfl⟩, fun a h1 h2 => by omega, fun _ _ _ _ _ _ => rfl, fun _ _ _ _ => rfl, fun _ _ _ _ _ _ => rfl⟩
theorem wc_ro_tr {h h1 h2 : wc_H} {x s : Nat} {X Y : List Nat} (a : wc_ro h h1 x s X) (b : wc_ro h1 h2 x s Y) (hY : ∀ y ∈ Y, y ∈ X ∨ h.2.2.2.2.2 ≤ y) : wc_ro h h2 x s X := by
  obtain ⟨a1, a2, a3, a4, a5, a6⟩ := a
  obtain ⟨b1, b2, b3, b4, b5, b6⟩ := b
  have hz : ∀ t y, ¬ (t = 9 ∧ (y ∈ X ∨ h.2.2.2.2.2 ≤ y)) → ¬ (t = 9 ∧ (y ∈ Y ∨ h1.2.2.2.2.2 ≤ y)) := by
    rintro t y z ⟨z1, z2 | z2⟩
    · exact z ⟨z1, hY y z2⟩
    · exact z ⟨z1, Or.inr (by omega)⟩
  refine ⟨Nat.le_trans a1 b1, fun y hy => ⟨(b2 y (by omega)).1.trans (a2 y hy).1, (b2 y (by omega)).2.trans (a2 y hy).2⟩, fun y y1 y2 => ?_, fun t k y z1 z2 z3 => (b4 t k y z1 z2 (hz t y z3)).trans (a4 t k y z1 z2 z3), fun t k y z => (b5 t k y (hz t y z)).trans (a5 t k y z), fun t k y z1 z2 z3 => (b6 t k y z1 z2 (hz t y z3)).trans (a6 t k y z1 z2 z3)⟩
  rcases Nat.lt_or_ge y h1.2.2.2.2.2 with c | c
  · rw [(b2 y c).1]
    exact a3 y y1 c
  · exact b3 y c y2
def sc_39 (as : List wi_V) (h : wc_H) (q : wi_Q1 wc_H) (qt : wi_Q2 wc_H) : Prop := wc_sT as (fun x => wc_f h fun tg ln I L R n => tg x = 4 ∧ (R 4 1 x = none → q (some (.inr (.inl (-1)))) (tg, ln, I, L, R, n)) ∧ ∀ a, R 4 1 x = some a → tg a = 9 ∧ q (some (.inr (.inl (L 9 0 a)))) (tg, ln, I, L, R, n))
theorem cm_39 {l : Launch} {D : va_G} {aC : wm_Y} {b0 : Nat} (hl0 : l.stackTraces = false) : wm_sp l D aC b0 39 (wi_lf (wc_Rl wc_ok) sc_39) := by
  refine wi_method (wc_lw wc_ok) 39 (cx := fun _ _ _ _ _ => False) (ids := ci_39) (tb := tb_39) (by decide +kernel) hl0 wm_cx0 (wm_tb_ok tk_39) (by decide +kernel) [] 250 (fun as h q qt hs => ?_)
  obtain ⟨x, rfl, hs1⟩ := wc_sT_e hs
  clear hs
  obtain ⟨tg, ln, I, L, R, n⟩ := h
  have hs := id hs1
  clear hs1
  simp only [wc_f] at hs
  refine ⟨rfl, fun _ _ _ _ _ _ _ => False, mq_nc, ?_⟩
  obtain ⟨a1, h1, h2⟩ := hs
  cases hx : R 4 1 x with
  | none =>
    have h1 := h1 hx
    repeat' first
      | refine And.intro ?_ ?_
      | (intro q9 (e9 : (_ : Option Nat) = some q9); cases e9)
      | (intro (e9 : (some _ : Option Nat) = none); cases e9)
      | (intro (e9 : (none : Option Nat) = none); clear e9)
      | refine Exists.intro _ (And.intro (show _ = _ from by assumption) ?_)
      | refine Exists.intro _ (And.intro rfl (And.intro (by assumption) ?_))
      | refine Exists.intro _ (And.intro rfl ?_)
      | (intro h; try omega)
      | omega
      | exact h1
      | exact Nat.le_of_ble_eq_true rfl
      | assumption
  | some a =>
    obtain ⟨b1, h2⟩ := h2 a hx
    repeat' first
      | refine And.intro ?_ ?_
      | (intro q9 (e9 : (_ : Option Nat) = some q9); cases e9)
      | (intro (e9 : (some _ : Option Nat) = none); cases e9)
      | (intro (e9 : (none : Option Nat) = none); clear e9)
      | refine Exists.intro _ (And.intro (show _ = _ from by assumption) ?_)
      | refine Exists.intro _ (And.intro rfl (And.intro (by assumption) ?_))
      | refine Exists.intro _ (And.intro rfl ?_)
      | (intro h; try omega)
      | omega
      | exact h2
      | exact Nat.le_of_ble_eq_true rfl
      | assumption
def sc_38 (as : List wi_V) (h : wc_H) (q : wi_Q1 wc_H) (qt : wi_Q2 wc_H) : Prop := wc_sT as (fun x => wc_f h fun tg ln I L R n => tg x = 4 ∧ ∃ cs, wc_ch R (R 4 1 x) cs ∧ (∀ a ∈ cs, tg a = 9) ∧ cs.length ≤ 100000 ∧ q (some (.inl (cs.length : Int))) (tg, ln, I, L, R, n))
theorem cm_38 {l : Launch} {D : va_G} {aC : wm_Y} {b0 : Nat} (hl0 : l.stackTraces = false) : wm_sp l D aC b0 38 (wi_lf (wc_Rl wc_ok) sc_38) := by
  refine wi_method (wc_lw wc_ok) 38 (cx := fun _ _ _ _ _ => False) (ids := ci_38) (tb := tb_38) (by decide +kernel) hl0 wm_cx0 (wm_tb_ok tk_38) (by decide +kernel) [7] 250 (fun as h q qt hs => ?_)
  obtain ⟨x, rfl, hs1⟩ := wc_sT_e hs
  clear hs
  obtain ⟨tg, ln, I, L, R, n⟩ := h
  have hs := id hs1
  clear hs1
  simp only [wc_f] at hs
  obtain ⟨a1, cs, c1, c2, r1, h1⟩ := hs
  refine ⟨rfl, fun mz pc lv sk h cu su => ∃ v : Option Nat, ∃ r : List Nat, ∃ c : Int, lv = [some (wi_rf (some x)), some (.inl (c)), some (wi_rf (v))] ∧ sk = [] ∧ h = (tg, ln, I, L, R, n) ∧ cu = 0 ∧ su = 0 ∧ mz = r.length ∧ wc_ch R v r ∧ (∀ a ∈ r, tg a = 9) ∧ 0 ≤ c ∧ c + r.length = cs.length, mq_c1 (fun mz lv sk h cu su hI => ?_), ?_⟩
  · obtain ⟨v, r, c, rfl, rfl, rfl, rfl, rfl, rfl, p1, p2, p3, p4⟩ := hI
    cases r with
    | nil =>
      cases (show v = none from p1)
      have e9 : c = cs.length := by simpa using p4
      subst e9
      repeat' first
        | refine And.intro ?_ ?_
        | (intro q9 (e9 : (_ : Option Nat) = some q9); cases e9)
        | (intro (e9 : (some _ : Option Nat) = none); cases e9)
        | (intro (e9 : (none : Option Nat) = none); clear e9)
        | refine Exists.intro _ (And.intro (show _ = _ from by assumption) ?_)
        | refine Exists.intro _ (And.intro rfl (And.intro (by assumption) ?_))
        | refine Exists.intro _ (And.intro rfl ?_)
        | (intro h; try omega)
        | omega
        | exact h1
        | exact Nat.le_of_ble_eq_true rfl
        | assumption
    | cons a r =>
      obtain ⟨rfl, p1⟩ := p1
      have b1 := p2 a List.mem_cons_self
      rw [List.length_cons] at p4
      repeat' first
        | refine And.intro ?_ ?_
        | (intro q9 (e9 : (_ : Option Nat) = some q9); cases e9)
        | (intro (e9 : (some _ : Option Nat) = none); cases e9)
        | (intro (e9 : (none : Option Nat) = none); clear e9)
        | refine Exists.intro _ (And.intro (show _ = _ from by assumption) ?_)
        | refine Exists.intro _ (And.intro rfl (And.intro (by assumption) ?_))
        | refine Exists.intro _ (And.intro rfl ?_)
        | (intro h; try omega)
        | omega
        | (refine Exists.intro _ (And.intro ?_ (Exists.intro (_) (Exists.intro (r) (Exists.intro (c + 1) (And.intro rfl (And.intro rfl (And.intro rfl (And.intro rfl (And.intro rfl (And.intro rfl (?_))))))))))) <;> first | exact Nat.lt_succ_self _ | exact ⟨p1, fun b hb => p2 b (List.mem_cons_of_mem _ hb), by omega, by omega⟩)
        | exact Nat.le_of_ble_eq_true rfl
        | assumption
  · repeat' first
      | refine And.intro ?_ ?_
      | refine Exists.intro _ (And.intro (show _ = _ from by assumption) ?_)
      | refine Exists.intro _ (And.intro rfl (And.intro (by assumption) ?_))
      | refine Exists.intro _ (And.intro rfl ?_)
      | (intro h; try omega)
      | omega
      | (refine Exists.intro _ (Exists.intro (_) (Exists.intro (cs) (Exists.intro (0) (And.intro rfl (And.intro rfl (And.intro rfl (And.intro rfl (And.intro rfl (And.intro rfl (?_)))))))))) <;> exact ⟨c1, c2, by omega, by omega⟩)
      | exact Nat.le_of_ble_eq_true rfl
      | assumption
def wc_va (t : Int) : Int → List (Int × Int) → Int
  | v, [] => v
  | v, y :: r => if y.1 ≤ t then wc_va t y.2 r else v
def sc_40 (as : List wi_V) (h : wc_H) (q : wi_Q1 wc_H) (qt : wi_Q2 wc_H) : Prop := wc_sTJ as (fun x t => wc_f h fun tg ln I L R n => tg x = 4 ∧ ∃ cs, wc_ch R (R 4 1 x) cs ∧ (∀ a ∈ cs, tg a = 9) ∧ q (some (.inl (wc_va t (I 4 2 x) (wc_cn I L cs)))) (tg, ln, I, L, R, n))
theorem cm_40 {l : Launch} {D : va_G} {aC : wm_Y} {b0 : Nat} (hl0 : l.stackTraces = false) : wm_sp l D aC b0 40 (wi_lf (wc_Rl wc_ok) sc_40) := by
  refine wi_method (wc_lw wc_ok) 40 (cx := fun _ _ _ _ _ => False) (ids := ci_40) (tb := tb_40) (by decide +kernel) hl0 wm_cx0 (wm_tb_ok tk_40) (by decide +kernel) [11] 250 (fun as h q qt hs => ?_)
  obtain ⟨x, t, rfl, hs1⟩ := wc_sTJ_e hs
  clear hs
  obtain ⟨tg, ln, I, L, R, n⟩ := h
  have hs := id hs1
  clear hs1
  simp only [wc_f] at hs
  obtain ⟨a1, cs, c1, c2, h1⟩ := hs
  refine ⟨rfl, fun mz pc lv sk h cu su => ∃ v : Option Nat, ∃ r : List Nat, ∃ c : Int, lv = [some (wi_rf (some x)), some (.inr (.inl (t))), none, some (.inl (c)), some (wi_rf (v))] ∧ sk = [] ∧ h = (tg, ln, I, L, R, n) ∧ cu = 0 ∧ su = 0 ∧ mz = r.length ∧ wc_ch R v r ∧ (∀ a ∈ r, tg a = 9) ∧ wc_va t c (wc_cn I L r) = wc_va t (I 4 2 x) (wc_cn I L cs), mq_c1 (fun mz lv sk h cu su hI => ?_), ?_⟩
  · obtain ⟨v, r, c, rfl, rfl, rfl, rfl, rfl, rfl, p1, p2, p3⟩ := hI
    have key : ∀ z, z = wc_va t (I 4 2 x) (wc_cn I L cs) → q (some (.inl z)) (tg, ln, I, L, R, n) := fun z e => by rw [e]; exact h1
    cases r with
    | nil =>
      cases (show v = none from p1)
      repeat' first
        | refine And.intro ?_ ?_
        | (intro q9 (e9 : (_ : Option Nat) = some q9); cases e9)
        | (intro (e9 : (some _ : Option Nat) = none); cases e9)
        | (intro (e9 : (none : Option Nat) = none); clear e9)
        | refine Exists.intro _ (And.intro (show _ = _ from by assumption) ?_)
        | refine Exists.intro _ (And.intro rfl (And.intro (by assumption) ?_))
        | refine Exists.intro _ (And.intro rfl ?_)
        | (intro h; try omega)
        | omega
        | exact key _ p3
        | exact Nat.le_of_ble_eq_true rfl
        | assumption
    | cons a r =>
      obtain ⟨rfl, p1⟩ := p1
      have b1 := p2 a List.mem_cons_self
      have k1 : L 9 0 a ≤ t → wc_va t (I 9 1 a) (wc_cn I L r) = wc_va t (I 4 2 x) (wc_cn I L cs) := fun z => by rw [← p3]; exact (if_pos z).symm
      have k2 : t < L 9 0 a → c = wc_va t (I 4 2 x) (wc_cn I L cs) := fun z => by rw [← p3]; exact (if_neg (by show ¬ L 9 0 a ≤ t; omega)).symm
      repeat' first
        | refine And.intro ?_ ?_
        | (intro q9 (e9 : (_ : Option Nat) = some q9); cases e9)
        | (intro (e9 : (some _ : Option Nat) = none); cases e9)
        | (intro (e9 : (none : Option Nat) = none); clear e9)
        | refine Exists.intro _ (And.intro (show _ = _ from by assumption) ?_)
        | refine Exists.intro _ (And.intro rfl (And.intro (by assumption) ?_))
        | refine Exists.intro _ (And.intro rfl ?_)
        | (intro h; try omega)
        | omega
        | exact key _ (k2 (by omega))
        | (refine Exists.intro _ (And.intro ?_ (Exists.intro (_) (Exists.intro (r) (Exists.intro (_) (And.intro rfl (And.intro rfl (And.intro rfl (And.intro rfl (And.intro rfl (And.intro rfl (?_))))))))))) <;> first | exact Nat.lt_succ_self _ | exact ⟨p1, fun b hb => p2 b (List.mem_cons_of_mem _ hb), k1 (by omega)⟩)
        | exact Nat.le_of_ble_eq_true rfl
        | assumption
  · repeat' first
      | refine And.intro ?_ ?_
      | refine Exists.intro _ (And.intro (show _ = _ from by assumption) ?_)
      | refine Exists.intro _ (And.intro rfl (And.intro (by assumption) ?_))
      | refine Exists.intro _ (And.intro rfl ?_)
      | (intro h; try omega)
      | omega
      | (refine Exists.intro _ (Exists.intro (_) (Exists.intro (cs) (Exists.intro (_) (And.intro rfl (And.intro rfl (And.intro rfl (And.intro rfl (And.intro rfl (And.intro rfl (?_)))))))))) <;> exact ⟨c1, c2, rfl⟩)
      | exact Nat.le_of_ble_eq_true rfl
      | assumption
def sc_42 (as : List wi_V) (h : wc_H) (q : wi_Q1 wc_H) (qt : wi_Q2 wc_H) : Prop := wc_sTJ as (fun x t => wc_f h fun tg ln I L R n => tg x = 4 ∧ ∃ cs, wc_ch R (R 4 1 x) cs ∧ (∀ a ∈ cs, tg a = 9) ∧ q (some (wi_rf (cs.takeWhile (fun a => decide (L 9 0 a < t))).getLast?)) (tg, ln, I, L, R, n))
theorem cm_42 {l : Launch} {D : va_G} {aC : wm_Y} {b0 : Nat} (hl0 : l.stackTraces = false) : wm_sp l D aC b0 42 (wi_lf (wc_Rl wc_ok) sc_42) := by
  refine wi_method (wc_lw wc_ok) 42 (cx := fun _ _ _ _ _ => False) (ids := ci_42) (tb := tb_42) (by decide +kernel) hl0 wm_cx0 (wm_tb_ok tk_42) (by decide +kernel) [8] 250 (fun as h q qt hs => ?_)
  obtain ⟨x, t, rfl, hs1⟩ := wc_sTJ_e hs
  clear hs
  obtain ⟨tg, ln, I, L, R, n⟩ := h
  have hs := id hs1
  clear hs1
  simp only [wc_f] at hs
  obtain ⟨a1, cs, c1, c2, h1⟩ := hs
  refine ⟨rfl, fun mz pc lv sk h cu su => ∃ v : Option Nat, ∃ f : Option Nat, ∃ P : List Nat, ∃ r : List Nat, lv = [some (wi_rf (some x)), some (.inr (.inl (t))), none, some (wi_rf (f)), some (wi_rf (v))] ∧ sk = [] ∧ h = (tg, ln, I, L, R, n) ∧ cu = 0 ∧ su = 0 ∧ mz = r.length ∧ wc_ch R v r ∧ (∀ a ∈ r, tg a = 9) ∧ cs = P ++ r ∧ (∀ a ∈ P, L 9 0 a < t) ∧ f = P.getLast?, mq_c1 (fun mz lv sk h cu su hI => ?_), ?_⟩
  · obtain ⟨v, f, P, r, rfl, rfl, rfl, rfl, rfl, rfl, p1, p2, p3, p4, rfl⟩ := hI
    have key : ∀ z, z = (cs.takeWhile (fun a => decide (L 9 0 a < t))).getLast? → q (some (wi_rf z)) (tg, ln, I, L, R, n) := fun z e => by rw [e]; exact h1
    have kP : (P ++ r).takeWhile (fun a => decide (L 9 0 a < t)) = P ++ r.takeWhile (fun a => decide (L 9 0 a < t)) := List.takeWhile_append_of_pos (fun a ha => decide_eq_true (p4 a ha))
    cases r with
    | nil =>
      cases (show v = none from p1)
      have k1 : P.getLast? = (cs.takeWhile (fun a => decide (L 9 0 a < t))).getLast? := by rw [p3, kP, List.takeWhile_nil, List.append_nil]
      repeat' first
        | refine And.intro ?_ ?_
        | (intro q9 (e9 : (_ : Option Nat) = some q9); cases e9)
        | (intro (e9 : (some _ : Option Nat) = none); cases e9)
        | (intro (e9 : (none : Option Nat) = none); clear e9)
        | refine Exists.intro _ (And.intro (show _ = _ from by assumption) ?_)
        | refine Exists.intro _ (And.intro rfl (And.intro (by assumption) ?_))
        | refine Exists.intro _ (And.intro rfl ?_)
        | (intro h; try omega)
        | omega
        | exact key _ k1
        | exact Nat.le_of_ble_eq_true rfl
        | assumption
    | cons a r =>
      obtain ⟨rfl, p1⟩ := p1
      have b1 := p2 a List.mem_cons_self
      have k2 : t ≤ L 9 0 a → P.getLast? = (cs.takeWhile (fun a => decide (L 9 0 a < t))).getLast? := fun z => by rw [p3, kP, List.takeWhile_cons_of_neg (by simp only [decide_eq_true_eq]; omega), List.append_nil]
      repeat' first
        | refine And.intro ?_ ?_
        | (intro q9 (e9 : (_ : Option Nat) = some q9); cases e9)
        | (intro (e9 : (some _ : Option Nat) = none); cases e9)
        | (intro (e9 : (none : Option Nat) = none); clear e9)
        | refine Exists.intro _ (And.intro (show _ = _ from by assumption) ?_)
        | refine Exists.intro _ (And.intro rfl (And.intro (by assumption) ?_))
        | refine Exists.intro _ (And.intro rfl ?_)
        | (intro h; try omega)
        | omega
        | exact key _ (k2 (by omega))
        | (refine Exists.intro _ (And.intro ?_ (Exists.intro (_) (Exists.intro (_) (Exists.intro (P ++ [a]) (Exists.intro (r) (And.intro rfl (And.intro rfl (And.intro rfl (And.intro rfl (And.intro rfl (And.intro rfl (?_)))))))))))) <;> first | exact Nat.lt_succ_self _ | exact ⟨p1, fun b hb => p2 b (List.mem_cons_of_mem _ hb), by rw [p3, List.append_assoc]; rfl, fun b hb => by rcases List.mem_append.mp hb with z | z; exact p4 b z; cases List.mem_singleton.mp z; omega, by rw [List.getLast?_append]; rfl⟩)
        | exact Nat.le_of_ble_eq_true rfl
        | assumption
  · repeat' first
      | refine And.intro ?_ ?_
      | refine Exists.intro _ (And.intro (show _ = _ from by assumption) ?_)
      | refine Exists.intro _ (And.intro rfl (And.intro (by assumption) ?_))
      | refine Exists.intro _ (And.intro rfl ?_)
      | (intro h; try omega)
      | omega
      | (refine Exists.intro _ (Exists.intro (_) (Exists.intro (_) (Exists.intro ([]) (Exists.intro (cs) (And.intro rfl (And.intro rfl (And.intro rfl (And.intro rfl (And.intro rfl (And.intro rfl (?_))))))))))) <;> exact ⟨c1, c2, rfl, fun a ha => (by cases ha), rfl⟩)
      | exact Nat.le_of_ble_eq_true rfl
      | assumption
def sc_47 (as : List wi_V) (h : wc_H) (q : wi_Q1 wc_H) (qt : wi_Q2 wc_H) : Prop := wc_sTOO as (fun x b k => wc_f h fun tg ln I L R n => tg x = 4 ∧ (b = none → q none (tg, ln, I, L, wm_up R 4 1 x k, n)) ∧ (∀ c, b = some c → tg c = 9 ∧ q none (tg, ln, I, L, wm_up R 9 2 c k, n)))
theorem cm_47 {l : Launch} {D : va_G} {aC : wm_Y} {b0 : Nat} (hl0 : l.stackTraces = false) : wm_sp l D aC b0 47 (wi_lf (wc_Rl wc_ok) sc_47) := by
  refine wi_method (wc_lw wc_ok) 47 (cx := fun _ _ _ _ _ => False) (ids := ci_47) (tb := tb_47) (by decide +kernel) hl0 wm_cx0 (wm_tb_ok tk_47) (by decide +kernel) [] 250 (fun as h q qt hs => ?_)
  obtain ⟨x, b, k, rfl, hs1⟩ := wc_sTOO_e hs
  clear hs
  obtain ⟨tg, ln, I, L, R, n⟩ := h
  have hs := id hs1
  clear hs1
  simp only [wc_f] at hs
  refine ⟨rfl, fun _ _ _ _ _ _ _ => False, mq_nc, ?_⟩
  obtain ⟨a1, h1, h2⟩ := hs
  cases b with
  | none =>
    have h1 := h1 rfl
    repeat' first
      | refine And.intro ?_ ?_
      | (intro q9 (e9 : (_ : Option Nat) = some q9); cases e9)
      | (intro (e9 : (some _ : Option Nat) = none); cases e9)
      | (intro (e9 : (none : Option Nat) = none); clear e9)
      | refine Exists.intro _ (And.intro (show _ = _ from by assumption) ?_)
      | refine Exists.intro _ (And.intro rfl (And.intro (by assumption) ?_))
      | refine Exists.intro _ (And.intro rfl ?_)
      | (intro h; try omega)
      | omega
      | (rw [h]; exact h1)
      | exact Nat.le_of_ble_eq_true rfl
      | assumption
  | some c =>
    obtain ⟨b1, h2⟩ := h2 c rfl
    repeat' first
      | refine And.intro ?_ ?_
      | (intro q9 (e9 : (_ : Option Nat) = some q9); cases e9)
      | (intro (e9 : (some _ : Option Nat) = none); cases e9)
      | (intro (e9 : (none : Option Nat) = none); clear e9)
      | refine Exists.intro _ (And.intro (show _ = _ from by assumption) ?_)
      | refine Exists.intro _ (And.intro rfl (And.intro (by assumption) ?_))
      | refine Exists.intro _ (And.intro rfl ?_)
      | (intro h; try omega)
      | omega
      | (rw [h]; exact h2)
      | exact Nat.le_of_ble_eq_true rfl
      | assumption
def sc_65 (as : List wi_V) (h : wc_H) (q : wi_Q1 wc_H) (qt : wi_Q2 wc_H) : Prop := wc_sTT as (fun s a => wc_f h fun tg ln I L R n => tg s = 7 ∧ tg a = 9 ∧ -2147483648 < I 7 0 s ∧ I 7 0 s ≤ 100000 ∧ q none (tg, ln, wm_up I 7 0 s (I 7 0 s - 1), L, wm_up (wm_up R 9 2 a (R 7 1 s)) 7 1 s (some a), n))
theorem cm_65 {l : Launch} {D : va_G} {aC : wm_Y} {b0 : Nat} (hl0 : l.stackTraces = false) : wm_sp l D aC b0 65 (wi_lf (wc_Rl wc_ok) sc_65) := by
  refine wi_method (wc_lw wc_ok) 65 (cx := fun _ _ _ _ _ => False) (ids := ci_65) (tb := tb_65) (by decide +kernel) hl0 wm_cx0 (wm_tb_ok tk_65) (by decide +kernel) [] 250 (fun as h q qt hs => ?_)
  obtain ⟨s, a, rfl, hs1⟩ := wc_sTT_e hs
  clear hs
  obtain ⟨tg, ln, I, L, R, n⟩ := h
  have hs := id hs1
  clear hs1
  simp only [wc_f] at hs
  refine ⟨rfl, fun _ _ _ _ _ _ _ => False, mq_nc, ?_⟩
  obtain ⟨a1, a2, r1, r2, h1⟩ := hs
  repeat' first
    | refine And.intro ?_ ?_
    | (intro q9 (e9 : (_ : Option Nat) = some q9); cases e9)
    | (intro (e9 : (some _ : Option Nat) = none); cases e9)
    | (intro (e9 : (none : Option Nat) = none); clear e9)
    | refine Exists.intro _ (And.intro (show _ = _ from by assumption) ?_)
    | refine Exists.intro _ (And.intro rfl (And.intro (by assumption) ?_))
    | refine Exists.intro _ (And.intro rfl ?_)
    | (intro h; try omega)
    | omega
    | (subst_vars; exact h1)
    | exact Nat.le_of_ble_eq_true rfl
    | assumption
def sc_64 (as : List wi_V) (h : wc_H) (q : wi_Q1 wc_H) (qt : wi_Q2 wc_H) : Prop := wc_sTJI as (fun s t v => wc_f h fun tg ln I L R n => tg s = 7 ∧ s < n ∧ 0 ≤ I 7 0 s ∧ I 7 0 s ≤ 100000 ∧ (R 7 1 s = none → q (some (wi_rf (some n))) (wc_nt tg n 9, wc_nt ln n 0, wm_up (wm_up (wc_nz I n 9) 9 1 n v) 7 0 s (I 7 0 s + 1), wm_up (wc_nz L n 9) 9 0 n t, wm_up (wc_nn R n 9) 9 2 n none, n + 1)) ∧ (∀ a, R 7 1 s = some a → tg a = 9 ∧ q (some (wi_rf (some a))) (tg, ln, wm_up (wm_up I 9 1 a v) 7 0 s (I 7 0 s + 1), wm_up L 9 0 a t, wm_up (wm_up R 7 1 s (R 9 2 a)) 9 2 a none, n)))
theorem cm_64 {l : Launch} {D : va_G} {aC : wm_Y} {b0 : Nat} (hl0 : l.stackTraces = false) : wm_sp l D aC b0 64 (wi_lf (wc_Rl wc_ok) sc_64) := by
  refine wi_method (wc_lw wc_ok) 64 (cx := fun id => if id = 70 then sc_70 else fun _ _ _ _ => False) (ids := ci_64) (tb := tb_64) (by decide +kernel) hl0 (wm_cxc (cm_70 hl0) oi_64 (fun h => wm_cxn h)) (wm_tb_ok tk_64) (by decide +kernel) [] 250 (fun as h q qt hs => ?_)
  obtain ⟨s, t, v, rfl, hs1⟩ := wc_sTJI_e hs
  clear hs
  obtain ⟨tg, ln, I, L, R, n⟩ := h
  have hs := id hs1
  clear hs1
  simp only [wc_f] at hs
  refine ⟨rfl, fun _ _ _ _ _ _ _ => False, mq_nc, ?_⟩
  obtain ⟨a1, a2, r1, r2, h1, h2⟩ := hs
  cases hx : R 7 1 s with
  | none =>
    have h1 := h1 hx
    repeat' first
      | refine And.intro ?_ ?_
      | (intro q9 (e9 : (_ : Option Nat) = some q9); cases e9)
      | (intro (e9 : (some _ : Option Nat) = none); cases e9)
      | (intro (e9 : (none : Option Nat) = none); clear e9)
      | (intro tg1 ln1 I1 L1 R1 e1 e2 e3 e4 e5; have b1 : tg1 s = 7 := (by rw [e1]; show (if s = n then _ else _) = _; rw [if_neg (by omega)]; assumption); have b2 : tg1 n = 9 := (by rw [e1]; exact if_pos rfl))
      | (intro I9 (e9 : I9 = wm_up I1 9 1 n v); have e10 : I9 7 0 s = I 7 0 s := (by rw [e9, wm_up_t (by decide), e3]; exact if_neg (fun z => by omega)))
      | refine Exists.intro _ (And.intro (show _ = _ from by assumption) ?_)
      | refine Exists.intro _ (And.intro rfl (And.intro (by assumption) ?_))
      | refine Exists.intro _ (And.intro rfl ?_)
      | (intro h; try omega)
      | omega
      | (subst_vars; rw [show (wm_up (wc_nz I n 9) 9 1 n v) 7 0 s = I 7 0 s by rw [wm_up_t (by decide)]; exact if_neg (fun z => by omega)]; exact h1)
      | (subst_vars; exact h1)
      | exact Nat.le_of_ble_eq_true rfl
      | assumption
  | some a =>
    obtain ⟨b1, h2⟩ := h2 a hx
    repeat' first
      | refine And.intro ?_ ?_
      | (intro q9 (e9 : (_ : Option Nat) = some q9); cases e9)
      | (intro (e9 : (some _ : Option Nat) = none); cases e9)
      | (intro (e9 : (none : Option Nat) = none); clear e9)
      | (intro I9 (e9 : I9 = wm_up I 9 1 a v); have e10 : I9 7 0 s = I 7 0 s := (by rw [e9, wm_up_t (by decide)]))
      | refine Exists.intro _ (And.intro (show _ = _ from by assumption) ?_)
      | refine Exists.intro _ (And.intro rfl (And.intro (by assumption) ?_))
      | refine Exists.intro _ (And.intro rfl ?_)
      | (intro h; try omega)
      | omega
      | (subst_vars; rw [show (wm_up I 9 1 a v) 7 0 s = I 7 0 s by rw [wm_up_t (by decide)]]; exact h2)
      | (subst_vars; exact h2)
      | exact Nat.le_of_ble_eq_true rfl
      | assumption
end
section
/-! THE CLASS, 4: rows -/
def sc_46 (as : List wi_V) (h : wc_H) (q : wi_Q1 wc_H) (qt : wi_Q2 wc_H) : Prop := wc_sTOO as (fun x b k => wc_f h fun tg ln I L R n => ∃ s P D K ids, wc_rs (tg, ln, I, L, R, n) x s (P ++ D ++ K) ids ∧ b = P.getLast? ∧ k = K.head? ∧ (D.length : Int) ≤ I 7 0 s ∧ I 7 0 s ≤ 100000 ∧ ∀ I1 R1, wc_rs (tg, ln, I1, L, R1, n) x s (P ++ K) (D.reverse ++ ids) → wc_ro (tg, ln, I, L, R, n) (tg, ln, I1, L, R1, n) x s (P ++ D ++ K ++ ids) → I1 7 0 s = I 7 0 s - D.length → (∀ t j a, ¬ (t = 7 ∧ j = 0 ∧ a = s) → I1 t j a = I t j a) → q (some (.inl (D.length : Int))) (tg, ln, I1, L, R1, n))
theorem cm_46 {l : Launch} {D : va_G} {aC : wm_Y} {b0 : Nat} (hl0 : l.stackTraces = false) : wm_sp l D aC b0 46 (wi_lf (wc_Rl wc_ok) sc_46) := by
  refine wi_method (wc_lw wc_ok) 46 (cx := fun id => if id = 47 then sc_47 else if id = 65 then sc_65 else fun _ _ _ _ => False) (ids := ci_46) (tb := tb_46) (by decide +kernel) hl0 (wm_cxc (cm_47 hl0) oi_46 (fun h => wm_cxc (cm_65 hl0) h (fun h => wm_cxn h))) (wm_tb_ok tk_46) (by decide +kernel) [19] 250 (fun as h q qt hs => ?_)
  obtain ⟨x, b, k, rfl, hs1⟩ := wc_sTOO_e hs
  clear hs
  obtain ⟨tg, ln, I, L, R, n⟩ := h
  have hs := id hs1
  clear hs1
  simp only [wc_f] at hs
  obtain ⟨s, P, D9, K, ids, hr, rfl, rfl, r1, r2, h1⟩ := hs
  obtain ⟨a1, a2, a3, a4, a5, a6, a7⟩ := id hr
  simp only at a1 a2 a3 a4 a5 a7
  have hnd := List.nodup_append.mp a6
  have hmem : ∀ a ∈ P ++ D9 ++ K ++ ids, tg a = 9 := fun a ha => (a7 a ha).1
  have hxs : x ≠ s := fun z => by rw [z, a3] at a1; cases a1
  have hs9 : ∀ a ∈ P ++ D9 ++ K ++ ids, a ≠ s := fun a ha z => by have := hmem a ha; rw [z, a3] at this; cases this
  have hx9 : ∀ a ∈ P ++ D9 ++ K ++ ids, a ≠ x := fun a ha z => by have := hmem a ha; rw [z, a1] at this; cases this
  refine ⟨rfl, fun mz pc lv sk h cu su => ∃ Dd : List Nat, ∃ Dr : List Nat, ∃ I1 : wm_F Int, ∃ R1 : wm_F (Option Nat), ∃ y5 : Option wi_V, lv = [some (wi_rf (some x)), some (wi_rf (P.getLast?)), some (wi_rf (K.head?)), some (.inl ((Dd.length : Int))), some (wi_rf ((Dr ++ K).head?)), y5] ∧ sk = [] ∧ h = (tg, ln, I1, L, R1, n) ∧ cu = 0 ∧ su = 0 ∧ mz = Dr.length ∧ D9 = Dd ++ Dr ∧ wc_ch R1 (Dr ++ K).head? (Dr ++ K) ∧ wc_ch R1 (R1 7 1 s) (Dd.reverse ++ ids) ∧ (∀ t j a, ¬ (t = 9 ∧ j = 2 ∧ a ∈ Dd) → ¬ (t = 7 ∧ j = 1 ∧ a = s) → R1 t j a = R t j a) ∧ I1 7 0 s = I 7 0 s - Dd.length ∧ (∀ t j a, ¬ (t = 7 ∧ j = 0 ∧ a = s) → I1 t j a = I t j a), mq_c1 (fun mz lv sk h cu su hI => ?_), ?_⟩
  · obtain ⟨Dd, Dr, I1, R1, y5, rfl, rfl, rfl, rfl, rfl, rfl, rfl, p2, p3, p4, p5, p6⟩ := hI
    have f40 : R1 4 0 x = some s := by rw [p4 4 0 x (fun z => by omega) (fun z => by omega)]; exact a2
    have hl : ((Dd ++ Dr).length : Int) = Dd.length + Dr.length := by rw [List.length_append]; omega
    cases Dr with
    | nil =>
      simp only [List.append_nil, List.nil_append] at p2 hmem hs9 hx9 h1 a4 a6 r1 hr
      have hsub : ∀ a, a ∈ P ++ K ++ (Dd.reverse ++ ids) → a ∈ P ++ Dd ++ K ++ ids := fun a ha => by
        simp only [List.mem_append, List.mem_reverse] at ha ⊢
        rcases ha with (z | z) | z | z
        · exact Or.inl (Or.inl (Or.inl z))
        · exact Or.inl (Or.inr z)
        · exact Or.inl (Or.inl (Or.inr z))
        · exact Or.inr z
      have hnd2 : (P ++ K ++ (Dd.reverse ++ ids)).Nodup := by
        refine List.Perm.nodup_iff ?_ |>.mp a6
        have e1 : (P ++ Dd ++ K ++ ids).Perm (P ++ (K ++ (Dd ++ ids))) := by
          rw [List.append_assoc, List.append_assoc]
          refine List.Perm.append_left P ?_
          rw [← List.append_assoc, ← List.append_assoc]
          exact List.Perm.append_right ids List.perm_append_comm
        refine e1.trans ?_
        rw [List.append_assoc]
        exact List.Perm.append_left P (List.Perm.append_left K (List.Perm.append_right ids (List.reverse_perm Dd).symm))
      have fin : ∀ R3, wc_ch R3 (R3 4 1 x) (P ++ K) → (∀ t j a, ¬ (t = 9 ∧ j = 2 ∧ a ∈ P) → ¬ (t = 4 ∧ j = 1 ∧ a = x) → R3 t j a = R1 t j a) → q (some (.inl (Dd.length : Int))) (tg, ln, I1, L, R3, n) := by
        intro R3 c1 c2
        have d71 : R3 7 1 s = R1 7 1 s := c2 7 1 s (fun z => by omega) (fun z => by omega)
        have dch : wc_ch R3 (R3 7 1 s) (Dd.reverse ++ ids) := by
          rw [d71]
          refine wc_ch_c p3 (fun a ha => c2 9 2 a (fun z => ?_) (fun z => by omega))
          have := (List.nodup_append.mp hnd2).2.2 a (List.mem_append_left _ z.2.2) a ha
          exact this rfl
        refine h1 I1 R3 ⟨a1, ?_, a3, c1, dch, hnd2, fun a ha => ⟨hmem a (hsub a ha), (a7 a (by simpa using hsub a ha)).2⟩⟩ ⟨Nat.le_refl _, fun _ _ => ⟨rfl, rfl⟩, fun a z1 z2 => absurd z1 (Nat.not_le.mpr z2), fun t j a z1 z2 z3 => p6 t j a z1, fun _ _ _ _ => rfl, fun t j a z1 z2 z3 => ?_⟩ p5 p6
        · show R3 4 0 x = some s
          rw [c2 4 0 x (fun z => by omega) (fun z => by omega)]
          exact f40
        · show R3 t j a = R t j a
          rw [c2 t j a (fun z => z3 ⟨z.1, Or.inl (by simp only [List.mem_append]; exact Or.inl (Or.inl (Or.inl z.2.2)))⟩) z2]
          exact p4 t j a (fun z => z3 ⟨z.1, Or.inl (by simp only [List.mem_append]; exact Or.inl (Or.inl (Or.inr z.2.2)))⟩) z1
      have nxt : ∀ Y : wm_F (Option Nat) → Prop, True := fun _ => trivial
      rcases List.eq_nil_or_concat P with rfl | ⟨P', c, rfl⟩
      · have f1 : q (some (.inl (Dd.length : Int))) (tg, ln, I1, L, wm_up R1 4 1 x K.head?, n) := by
          refine fin _ ?_ (fun t j a z1 z2 => by simp only [wm_up]; rw [if_neg z2])
          rw [wm_up_self]
          exact wc_ch_c p2 (fun a ha => by rw [wm_up_t (by decide)])
        cases K with
        | nil =>
          repeat' first
            | refine And.intro ?_ ?_
            | (intro q9 (e9 : (_ : Option Nat) = some q9); cases e9)
            | (intro (e9 : (some _ : Option Nat) = none); cases e9)
            | (intro (e9 : (none : Option Nat) = none); clear e9)
            | (intro (e9 : (_ : Option Nat) ≠ _); exact absurd rfl e9)
            | (intro (e9 : (some _ : Option Nat) = some _); clear e9)
            | refine Exists.intro _ (And.intro (show _ = _ from by assumption) ?_)
            | refine Exists.intro _ (And.intro rfl (And.intro (by assumption) ?_))
            | refine Exists.intro _ (And.intro rfl ?_)
            | (intro h; try omega)
            | omega
            | exact f1
            | exact Nat.le_of_ble_eq_true rfl
            | assumption
        | cons d K =>
          repeat' first
            | refine And.intro ?_ ?_
            | (intro q9 (e9 : (_ : Option Nat) = some q9); cases e9)
            | (intro (e9 : (some _ : Option Nat) = none); cases e9)
            | (intro (e9 : (none : Option Nat) = none); clear e9)
            | (intro (e9 : (_ : Option Nat) ≠ _); exact absurd rfl e9)
            | (intro (e9 : (some _ : Option Nat) = some _); clear e9)
            | refine Exists.intro _ (And.intro (show _ = _ from by assumption) ?_)
            | refine Exists.intro _ (And.intro rfl (And.intro (by assumption) ?_))
            | refine Exists.intro _ (And.intro rfl ?_)
            | (intro h; try omega)
            | omega
            | exact f1
            | exact Nat.le_of_ble_eq_true rfl
            | assumption
      · simp only [List.concat_eq_append] at *
        have b1 : tg c = 9 := hmem c (by simp)
        have hlast : (P' ++ [c]).getLast? = some c := by simp
        have hcP : c ∉ P' := fun z => by
          have := (List.nodup_append.mp (List.nodup_append.mp (List.nodup_append.mp (List.nodup_append.mp a6).1).1).1).2.2 c z c (by simp)
          exact this rfl
        have hcK : c ∉ K := fun z => by
          have := (List.nodup_append.mp (List.nodup_append.mp hnd2).1).2.2 c (by simp) c z
          exact this rfl
        have f1 : q (some (.inl (Dd.length : Int))) (tg, ln, I1, L, wm_up R1 9 2 c K.head?, n) := by
          refine fin _ ?_ (fun t j a z1 z2 => by simp only [wm_up]; rw [if_neg (fun z => z1 ⟨z.1, z.2.1, by rw [z.2.2]; simp⟩)])
          rw [wm_up_t (by decide), p4 4 1 x (fun z => by omega) (fun z => by omega)]
          rw [List.append_assoc, List.append_assoc] at a4
          obtain ⟨y, g1, g2⟩ := wc_ch_s (A := P' ++ [c]) (by rw [List.append_assoc]; simpa using a4)
          obtain ⟨g3, g4⟩ := wc_sg_e g1
          refine wc_ch_j (wc_sg_a (wc_sg_c g3 (fun a ha => ?_)) wm_up_self) (wc_ch_c p2 (fun a ha => ?_))
          · rw [wm_up_q (show a ≠ c from fun z => hcP (z ▸ ha)), p4 9 2 a (fun z => ?_) (fun z => by omega)]
            have := (List.nodup_append.mp (List.nodup_append.mp (List.nodup_append.mp a6).1).1).2.2 a (by simp [ha]) a z.2.2
            exact this rfl
          · exact wm_up_q (show a ≠ c from fun z => hcK (z ▸ ha))
        cases K with
        | nil =>
          repeat' first
            | refine And.intro ?_ ?_
            | (intro q9 (e9 : (_ : Option Nat) = some q9); cases e9)
            | (intro (e9 : (some _ : Option Nat) = none); cases e9)
            | (intro (e9 : (none : Option Nat) = none); clear e9)
            | (intro (e9 : (_ : Option Nat) ≠ _); exact absurd rfl e9)
            | (intro (e9 : (some _ : Option Nat) = some _); clear e9)
            | (rw [hlast])
            | refine Exists.intro _ (And.intro (show _ = _ from by assumption) ?_)
            | refine Exists.intro _ (And.intro rfl (And.intro (by assumption) ?_))
            | refine Exists.intro _ (And.intro rfl ?_)
            | (intro h; try omega)
            | omega
            | exact f1
            | exact Nat.le_of_ble_eq_true rfl
            | assumption
        | cons d K =>
          repeat' first
            | refine And.intro ?_ ?_
            | (intro q9 (e9 : (_ : Option Nat) = some q9); cases e9)
            | (intro (e9 : (some _ : Option Nat) = none); cases e9)
            | (intro (e9 : (none : Option Nat) = none); clear e9)
            | (intro (e9 : (_ : Option Nat) ≠ _); exact absurd rfl e9)
            | (intro (e9 : (some _ : Option Nat) = some _); clear e9)
            | (rw [hlast])
            | refine Exists.intro _ (And.intro (show _ = _ from by assumption) ?_)
            | refine Exists.intro _ (And.intro rfl (And.intro (by assumption) ?_))
            | refine Exists.intro _ (And.intro rfl ?_)
            | (intro h; try omega)
            | omega
            | exact f1
            | exact Nat.le_of_ble_eq_true rfl
            | assumption
    | cons a Dr =>
      have b1 : tg a = 9 := hmem a (by simp)
      have hne : (some a : Option Nat) ≠ K.head? := by
        intro z
        cases K with
        | nil => cases z
        | cons d K =>
          cases z
          have := (List.nodup_append.mp (List.nodup_append.mp a6).1).2.2 a (by simp) a (by simp)
          exact this rfl
      replace p2 : wc_ch R1 (R1 9 2 a) (Dr ++ K) := p2.2
      have hh := wc_ch_h p2
      have haD : a ∉ Dr ++ K := fun z => by
        have e1 : P ++ (Dd ++ a :: Dr) ++ K = (P ++ Dd ++ [a]) ++ (Dr ++ K) := by simp
        have a8 := (List.nodup_append.mp a6).1
        rw [e1] at a8
        exact (List.nodup_append.mp a8).2.2 a (by simp) a z rfl
      have haI : a ∉ Dd.reverse ++ ids := fun z => by
        rcases List.mem_append.mp z with z | z
        · have a8 := (List.nodup_append.mp (List.nodup_append.mp (List.nodup_append.mp a6).1).1).2.1
          exact (List.nodup_append.mp a8).2.2 a (List.mem_reverse.mp z) a (by simp) rfl
        · exact (List.nodup_append.mp a6).2.2 a (by simp) a z rfl
      have has : a ≠ s := hs9 a (by simp)
      have r3 : I1 7 0 s ≤ 100000 ∧ 1 ≤ I1 7 0 s := by
        rw [p5]
        simp only [List.length_append, List.length_cons] at r1 hl
        omega
      have fin : ∀ (R3 : wm_F (Option Nat)) (I3 : wm_F Int), R3 = wm_up (wm_up R1 9 2 a (R1 7 1 s)) 7 1 s (some a) → I3 = wm_up I1 7 0 s (I1 7 0 s - 1) → Dd ++ a :: Dr = (Dd ++ [a]) ++ Dr ∧ wc_ch R3 (Dr ++ K).head? (Dr ++ K) ∧ wc_ch R3 (R3 7 1 s) ((Dd ++ [a]).reverse ++ ids) ∧ (∀ t j y, ¬ (t = 9 ∧ j = 2 ∧ y ∈ Dd ++ [a]) → ¬ (t = 7 ∧ j = 1 ∧ y = s) → R3 t j y = R t j y) ∧ I3 7 0 s = I 7 0 s - (Dd ++ [a]).length ∧ (∀ t j y, ¬ (t = 7 ∧ j = 0 ∧ y = s) → I3 t j y = I t j y) := by
        rintro R3 I3 rfl rfl
        refine ⟨by simp, ?_, ?_, fun t j y z1 z2 => ?_, ?_, fun t j y z => ?_⟩
        · rw [← hh]
          refine wc_ch_c p2 (fun y hy => ?_)
          rw [wm_up_t (by decide), wm_up_q (show y ≠ a from fun z => haD (z ▸ hy))]
        · rw [wm_up_self]
          have e2 : (Dd ++ [a]).reverse ++ ids = a :: (Dd.reverse ++ ids) := by simp
          rw [e2]
          refine ⟨rfl, ?_⟩
          rw [wm_up_t (by decide), wm_up_self]
          refine wc_ch_c p3 (fun y hy => ?_)
          rw [wm_up_t (by decide), wm_up_q (show y ≠ a from fun z => haI (z ▸ hy))]
        · simp only [wm_up]
          rw [if_neg z2, if_neg (fun z => z1 ⟨z.1, z.2.1, by rw [z.2.2]; simp⟩)]
          exact p4 t j y (fun z => z1 ⟨z.1, z.2.1, List.mem_append_left _ z.2.2⟩) z2
        · rw [wm_up_self, p5, List.length_append]
          simp only [List.length_cons, List.length_nil]
          omega
        · simp only [wm_up]
          rw [if_neg z]
          exact p6 t j y z
      repeat' first
        | refine And.intro ?_ ?_
        | (intro q9 (e9 : (_ : Option Nat) = some q9); cases e9)
        | (intro (e9 : (some _ : Option Nat) = none); cases e9)
        | (intro (e9 : (none : Option Nat) = none); clear e9)
        | (intro (e9 : (_ : Option Nat) ≠ _); exact absurd rfl e9)
        | (intro (e9 : (some _ : Option Nat) = some _); clear e9)
        | (intro e9; exact absurd e9 hne)
        | refine Exists.intro _ (And.intro (show _ = _ from by assumption) ?_)
        | refine Exists.intro _ (And.intro rfl (And.intro (by assumption) ?_))
        | refine Exists.intro _ (And.intro rfl ?_)
        | (intro h; try omega)
        | omega
        | (obtain ⟨g1, g2, g3, g4, g5, g6⟩ := fin _ _ rfl rfl; refine Exists.intro _ (And.intro ?_ (Exists.intro (Dd ++ [a]) (Exists.intro (Dr) (Exists.intro (_) (Exists.intro (_) (Exists.intro (_) (And.intro (by rw [List.length_append]; rfl) (And.intro rfl (And.intro rfl (And.intro rfl (And.intro rfl (And.intro rfl (?_))))))))))))) <;> first | exact Nat.lt_succ_self _ | exact ⟨g1, g2, g3, g4, g5, g6⟩)
        | exact Nat.le_of_ble_eq_true rfl
        | assumption
  · have hh := wc_ch_h a4
    have g0 : ∀ v, v = (D9 ++ K).head? → wc_ch R v (D9 ++ K) → True := fun _ _ _ => trivial
    rcases List.eq_nil_or_concat P with rfl | ⟨P', c, rfl⟩
    · rw [List.nil_append] at a4 hh
      repeat' first
        | refine And.intro ?_ ?_
        | (intro q9 (e9 : (_ : Option Nat) = some q9); cases e9)
        | (intro (e9 : (some _ : Option Nat) = none); cases e9)
        | (intro (e9 : (none : Option Nat) = none); clear e9)
        | (intro (e9 : (_ : Option Nat) ≠ _); exact absurd rfl e9)
        | (intro (e9 : (some _ : Option Nat) = some _); clear e9)
        | refine Exists.intro _ (And.intro (show _ = _ from by assumption) ?_)
        | refine Exists.intro _ (And.intro rfl (And.intro (by assumption) ?_))
        | refine Exists.intro _ (And.intro rfl ?_)
        | (intro h; try omega)
        | omega
        | (refine Exists.intro _ (Exists.intro ([]) (Exists.intro (D9) (Exists.intro (_) (Exists.intro (_) (Exists.intro (_) (And.intro (by rw [← hh]; rfl) (And.intro rfl (And.intro rfl (And.intro rfl (And.intro rfl (And.intro rfl (?_)))))))))))) <;> exact ⟨rfl, (by rw [← hh]; exact a4), a5, fun t j a _ _ => rfl, by simp, fun t j a _ => rfl⟩)
        | exact Nat.le_of_ble_eq_true rfl
        | assumption
    · simp only [List.concat_eq_append] at *
      have b1 : tg c = 9 := hmem c (by simp)
      have hlast : (P' ++ [c]).getLast? = some c := by simp
      rw [List.append_assoc] at a4
      obtain ⟨y, g1, g2⟩ := wc_ch_s (A := P' ++ [c]) a4
      obtain ⟨g3, g4⟩ := wc_sg_e g1
      have g5 := wc_ch_h g2
      rw [g5] at g4 g2
      repeat' first
        | refine And.intro ?_ ?_
        | (intro q9 (e9 : (_ : Option Nat) = some q9); cases e9)
        | (intro (e9 : (some _ : Option Nat) = none); cases e9)
        | (intro (e9 : (none : Option Nat) = none); clear e9)
        | (intro (e9 : (_ : Option Nat) ≠ _); exact absurd rfl e9)
        | (intro (e9 : (some _ : Option Nat) = some _); clear e9)
        | (rw [hlast])
        | refine Exists.intro _ (And.intro (show _ = _ from by assumption) ?_)
        | refine Exists.intro _ (And.intro rfl (And.intro (by assumption) ?_))
        | refine Exists.intro _ (And.intro rfl ?_)
        | (intro h; try omega)
        | omega
        | (refine Exists.intro _ (Exists.intro ([]) (Exists.intro (D9) (Exists.intro (_) (Exists.intro (_) (Exists.intro (_) (And.intro (by rw [← hlast]; rfl) (And.intro rfl (And.intro rfl (And.intro rfl (And.intro rfl (And.intro rfl (?_)))))))))))) <;> exact ⟨rfl, g2, a5, fun t j a _ _ => rfl, by simp, fun t j a _ => rfl⟩)
        | exact Nat.le_of_ble_eq_true rfl
        | assumption
end
section
/-! THE CLASS, 5: rows, further -/
def sc_43 (as : List wi_V) (h : wc_H) (q : wi_Q1 wc_H) (qt : wi_Q2 wc_H) : Prop := wc_sTJ as (fun x t => wc_f h fun tg ln I L R n => ∃ s cs ids, wc_rs (tg, ln, I, L, R, n) x s cs ids ∧ (cs.length : Int) ≤ I 7 0 s ∧ I 7 0 s ≤ 100000 ∧ ∀ I1 R1, wc_rs (tg, ln, I1, L, R1, n) x s (cs.takeWhile (fun a => decide (L 9 0 a < t))) ((cs.dropWhile (fun a => decide (L 9 0 a < t))).reverse ++ ids) → wc_ro (tg, ln, I, L, R, n) (tg, ln, I1, L, R1, n) x s (cs ++ ids) → I1 7 0 s = I 7 0 s - (cs.dropWhile (fun a => decide (L 9 0 a < t))).length → (∀ t j a, ¬ (t = 7 ∧ j = 0 ∧ a = s) → I1 t j a = I t j a) → q (some (.inl ((cs.dropWhile (fun a => decide (L 9 0 a < t))).length : Int))) (tg, ln, I1, L, R1, n))
theorem cm_43 {l : Launch} {D : va_G} {aC : wm_Y} {b0 : Nat} (hl0 : l.stackTraces = false) : wm_sp l D aC b0 43 (wi_lf (wc_Rl wc_ok) sc_43) := by
  refine wi_method (wc_lw wc_ok) 43 (cx := fun id => if id = 42 then sc_42 else if id = 46 then sc_46 else fun _ _ _ _ => False) (ids := ci_43) (tb := tb_43) (by decide +kernel) hl0 (wm_cxc (cm_42 hl0) oi_43 (fun h => wm_cxc (cm_46 hl0) h (fun h => wm_cxn h))) (wm_tb_ok tk_43) (by decide +kernel) [] 250 (fun as h q qt hs => ?_)
  obtain ⟨x, t, rfl, hs1⟩ := wc_sTJ_e hs
  clear hs
  obtain ⟨tg, ln, I, L, R, n⟩ := h
  have hs := id hs1
  clear hs1
  simp only [wc_f] at hs
  refine ⟨rfl, fun _ _ _ _ _ _ _ => False, mq_nc, ?_⟩
  obtain ⟨s, cs, ids, hr, r1, r2, h1⟩ := hs
  obtain ⟨a1, a2, a3, a4, a5, a6, a7⟩ := id hr
  simp only at a1 a2 a3 a4 a5 a7
  have e0 : cs.takeWhile (fun a => decide (L 9 0 a < t)) ++ cs.dropWhile (fun a => decide (L 9 0 a < t)) = cs := List.takeWhile_append_dropWhile
  have e1 : cs.takeWhile (fun a => decide (L 9 0 a < t)) ++ cs.dropWhile (fun a => decide (L 9 0 a < t)) ++ [] = cs := by rw [List.append_nil]; exact e0
  have r3 : ((cs.dropWhile (fun a => decide (L 9 0 a < t))).length : Int) ≤ I 7 0 s := by
    have := congrArg List.length e0
    rw [List.length_append] at this
    omega
  have hq : ∀ I1 R1, wc_rs (tg, ln, I1, L, R1, n) x s (cs.takeWhile (fun a => decide (L 9 0 a < t)) ++ []) ((cs.dropWhile (fun a => decide (L 9 0 a < t))).reverse ++ ids) → wc_ro (tg, ln, I, L, R, n) (tg, ln, I1, L, R1, n) x s (cs.takeWhile (fun a => decide (L 9 0 a < t)) ++ cs.dropWhile (fun a => decide (L 9 0 a < t)) ++ [] ++ ids) → I1 7 0 s = I 7 0 s - (cs.dropWhile (fun a => decide (L 9 0 a < t))).length → (∀ t j a, ¬ (t = 7 ∧ j = 0 ∧ a = s) → I1 t j a = I t j a) → q (some (.inl ((cs.dropWhile (fun a => decide (L 9 0 a < t))).length : Int))) (tg, ln, I1, L, R1, n) := fun I1 R1 z1 z2 z3 z4 => by
    rw [List.append_nil] at z1
    rw [e1] at z2
    exact h1 I1 R1 z1 z2 z3 z4
  repeat' first
    | refine And.intro ?_ ?_
    | refine Exists.intro cs (And.intro a4 (And.intro (fun a ha => (a7 a (List.mem_append_left _ ha)).1) ?_))
    | refine Exists.intro s (Exists.intro (cs.takeWhile (fun a => decide (L 9 0 a < t))) (Exists.intro (cs.dropWhile (fun a => decide (L 9 0 a < t))) (Exists.intro [] (Exists.intro ids (And.intro (by rw [e1]; exact hr) (And.intro rfl (And.intro rfl (And.intro r3 (And.intro r2 ?_)))))))))
    | (intro I1 R1 z1 z2 z3 z4; have hz := hq I1 R1 z1 z2 z3 z4)
    | exact hz
    | refine Exists.intro _ (And.intro (show _ = _ from by assumption) ?_)
    | refine Exists.intro _ (And.intro rfl (And.intro (by assumption) ?_))
    | refine Exists.intro _ (And.intro rfl ?_)
    | (intro h; try omega)
    | omega
    | exact a4
    | exact hr
    | exact Nat.le_of_ble_eq_true rfl
    | assumption
def sc_44 (as : List wi_V) (h : wc_H) (q : wi_Q1 wc_H) (qt : wi_Q2 wc_H) : Prop := wc_sTJI as (fun x t c => wc_f h fun tg ln I L R n => ∃ s cs ids, wc_rs (tg, ln, I, L, R, n) x s cs ids ∧ (cs.length : Int) ≤ I 7 0 s ∧ I 7 0 s ≤ 100000 ∧ ∀ D K I1 R1, cs.dropWhile (fun a => decide (L 9 0 a < t)) = D ++ K → (∀ a ∈ K, I 9 1 a = c) → (∀ b, D.getLast? = some b → I 9 1 b ≠ c) → wc_rs (tg, ln, I1, L, R1, n) x s (cs.takeWhile (fun a => decide (L 9 0 a < t)) ++ K) (D.reverse ++ ids) → wc_ro (tg, ln, I, L, R, n) (tg, ln, I1, L, R1, n) x s (cs ++ ids) → I1 7 0 s = I 7 0 s - D.length → (∀ t j a, ¬ (t = 7 ∧ j = 0 ∧ a = s) → I1 t j a = I t j a) → q (some (.inl (D.length : Int))) (tg, ln, I1, L, R1, n))
theorem cm_44 {l : Launch} {D : va_G} {aC : wm_Y} {b0 : Nat} (hl0 : l.stackTraces = false) : wm_sp l D aC b0 44 (wi_lf (wc_Rl wc_ok) sc_44) := by
  refine wi_method (wc_lw wc_ok) 44 (cx := fun id => if id = 42 then sc_42 else if id = 46 then sc_46 else fun _ _ _ _ => False) (ids := ci_44) (tb := tb_44) (by decide +kernel) hl0 (wm_cxc (cm_42 hl0) oi_44 (fun h => wm_cxc (cm_46 hl0) h (fun h => wm_cxn h))) (wm_tb_ok tk_44) (by decide +kernel) [30] 250 (fun as h q qt hs => ?_)
  obtain ⟨x, t, c, rfl, hs1⟩ := wc_sTJI_e hs
  clear hs
  obtain ⟨tg, ln, I, L, R, n⟩ := h
  have hs := id hs1
  clear hs1
  simp only [wc_f] at hs
  obtain ⟨s, cs, ids, hr, r1, r2, h1⟩ := hs
  obtain ⟨a1, a2, a3, a4, a5, a6, a7⟩ := id hr
  simp only at a1 a2 a3 a4 a5 a7
  have e0 : cs.takeWhile (fun a => decide (L 9 0 a < t)) ++ cs.dropWhile (fun a => decide (L 9 0 a < t)) = cs := List.takeWhile_append_dropWhile
  have m9 : ∀ a ∈ cs, tg a = 9 := fun a ha => (a7 a (List.mem_append_left _ ha)).1
  have mT : ∀ a ∈ cs.takeWhile (fun a => decide (L 9 0 a < t)), a ∈ cs := fun a ha => e0 ▸ List.mem_append_left _ ha
  have mD : ∀ a ∈ cs.dropWhile (fun a => decide (L 9 0 a < t)), a ∈ cs := fun a ha => e0 ▸ List.mem_append_right _ ha
  obtain ⟨y, g1, g2⟩ := wc_ch_s (A := cs.takeWhile (fun a => decide (L 9 0 a < t))) (B := cs.dropWhile (fun a => decide (L 9 0 a < t))) (by rw [e0]; exact a4)
  have g3 := wc_ch_h g2
  refine ⟨rfl, fun mz pc lv sk h cu su => ∃ D : List Nat, ∃ K : List Nat, ∃ r : List Nat, lv = [some (wi_rf (some x)), some (.inr (.inl (t))), none, some (.inl (c)), some (wi_rf ((cs.takeWhile (fun a => decide (L 9 0 a < t))).getLast?)), some (wi_rf ((K ++ r).head?)), some (wi_rf (r.head?))] ∧ sk = [] ∧ h = (tg, ln, I, L, R, n) ∧ cu = 0 ∧ su = 0 ∧ mz = r.length ∧ cs.dropWhile (fun a => decide (L 9 0 a < t)) = D ++ K ++ r ∧ wc_ch R r.head? r ∧ (∀ a ∈ K, I 9 1 a = c) ∧ (∀ b, D.getLast? = some b → I 9 1 b ≠ c), mq_c1 (fun mz lv sk h cu su hI => ?_), ?_⟩
  · obtain ⟨D9, K, r, rfl, rfl, rfl, rfl, rfl, rfl, p1, p2, p3, p4⟩ := hI
    cases r with
    | nil =>
      rw [List.append_nil] at p1
      have e1 : cs.takeWhile (fun a => decide (L 9 0 a < t)) ++ D9 ++ K = cs := by rw [List.append_assoc, ← p1]; exact e0
      have r3 : (D9.length : Int) ≤ I 7 0 s := by
        have := congrArg List.length e1
        rw [List.length_append, List.length_append] at this
        omega
      repeat' first
        | refine And.intro ?_ ?_
        | refine Exists.intro s (Exists.intro (cs.takeWhile (fun a => decide (L 9 0 a < t))) (Exists.intro D9 (Exists.intro K (Exists.intro ids (And.intro (by rw [e1]; exact hr) (And.intro rfl (And.intro (by rw [List.append_nil]) (And.intro r3 (And.intro r2 ?_)))))))))
        | (intro I1 R1 z1 z2 z3 z4; rw [e1] at z2; have hz := h1 D9 K I1 R1 p1 p3 p4 z1 z2 z3 z4)
        | exact hz
        | (intro q9 (e9 : (_ : Option Nat) = some q9); cases e9)
        | (intro (e9 : (some _ : Option Nat) = none); cases e9)
        | (intro (e9 : (none : Option Nat) = none); clear e9)
        | (intro (e9 : (_ : Option Nat) ≠ _); exact absurd rfl e9)
        | (intro (e9 : (some _ : Option Nat) = some _); clear e9)
        | refine Exists.intro _ (And.intro (show _ = _ from by assumption) ?_)
        | refine Exists.intro _ (And.intro rfl (And.intro (by assumption) ?_))
        | refine Exists.intro _ (And.intro rfl ?_)
        | (intro h; try omega)
        | omega
        | exact hz
        | exact Nat.le_of_ble_eq_true rfl
        | assumption
    | cons a r =>
      have b1 : tg a = 9 := m9 a (mD a (by rw [p1]; simp))
      replace p2 : wc_ch R (R 9 2 a) r := p2.2
      have hh := wc_ch_h p2
      rw [hh] at p2
      repeat' first
        | refine And.intro ?_ ?_
        | (intro q9 (e9 : (_ : Option Nat) = some q9); cases e9)
        | (intro (e9 : (some _ : Option Nat) = none); cases e9)
        | (intro (e9 : (none : Option Nat) = none); clear e9)
        | (intro (e9 : (_ : Option Nat) ≠ _); exact absurd rfl e9)
        | (intro (e9 : (some _ : Option Nat) = some _); clear e9)
        | refine Exists.intro _ (And.intro (show _ = _ from by assumption) ?_)
        | refine Exists.intro _ (And.intro rfl (And.intro (by assumption) ?_))
        | refine Exists.intro _ (And.intro rfl ?_)
        | (intro h; try omega)
        | omega
        | (have g9 : I 9 1 a ≠ c := (by assumption); refine Exists.intro _ (And.intro ?_ (Exists.intro (D9 ++ K ++ [a]) (Exists.intro ([]) (Exists.intro (r) (And.intro rfl (And.intro rfl (And.intro rfl (And.intro rfl (And.intro rfl (And.intro rfl (?_))))))))))) <;> first | exact Nat.lt_succ_self _ | exact ⟨by rw [p1]; simp, p2, fun b hb => (by cases hb), fun b hb => (by rw [List.getLast?_append] at hb; simp at hb; rw [← hb]; exact g9)⟩)
        | (have g9 : I 9 1 a = c := (by assumption); refine Exists.intro _ (And.intro ?_ (Exists.intro (D9) (Exists.intro (K ++ [a]) (Exists.intro (r) (And.intro (by rw [List.append_assoc]; rfl) (And.intro rfl (And.intro rfl (And.intro rfl (And.intro rfl (And.intro rfl (?_))))))))))) <;> first | exact Nat.lt_succ_self _ | exact ⟨by rw [p1]; simp, p2, fun b hb => (by rcases List.mem_append.mp hb with z | z; exact p3 b z; rw [List.mem_singleton.mp z]; exact g9), p4⟩)
        | exact Nat.le_of_ble_eq_true rfl
        | assumption
  · rcases List.eq_nil_or_concat (cs.takeWhile (fun a => decide (L 9 0 a < t))) with hP | ⟨P', p, hP⟩
    · have hl : (cs.takeWhile (fun a => decide (L 9 0 a < t))).getLast? = none := by rw [hP]; rfl
      have hy : R 4 1 x = y := by rw [hP] at g1; exact g1
      rw [g3] at g2 hy
      repeat' first
        | refine And.intro ?_ ?_
        | refine Exists.intro cs (And.intro a4 (And.intro m9 ?_))
        | (rw [hl])
        | (intro q9 (e9 : (_ : Option Nat) = some q9); cases e9)
        | (intro (e9 : (some _ : Option Nat) = none); cases e9)
        | (intro (e9 : (none : Option Nat) = none); clear e9)
        | (intro (e9 : (_ : Option Nat) ≠ _); exact absurd rfl e9)
        | (intro (e9 : (some _ : Option Nat) = some _); clear e9)
        | refine Exists.intro _ (And.intro (show _ = _ from by assumption) ?_)
        | refine Exists.intro _ (And.intro rfl (And.intro (by assumption) ?_))
        | refine Exists.intro _ (And.intro rfl ?_)
        | (intro h; try omega)
        | omega
        | (refine Exists.intro _ (Exists.intro ([]) (Exists.intro ([]) (Exists.intro (cs.dropWhile (fun a => decide (L 9 0 a < t))) (And.intro (by rw [hl]; rfl) (And.intro rfl (And.intro rfl (And.intro rfl (And.intro rfl (And.intro rfl (?_)))))))))) <;> exact ⟨rfl, g2, fun a ha => (by cases ha), fun b hb => (by cases hb)⟩)
        | (refine Exists.intro _ (Exists.intro ([]) (Exists.intro ([]) (Exists.intro (cs.dropWhile (fun a => decide (L 9 0 a < t))) (And.intro rfl (And.intro rfl (And.intro rfl (And.intro rfl (And.intro rfl (And.intro rfl (?_)))))))))) <;> exact ⟨rfl, g2, fun a ha => (by cases ha), fun b hb => (by cases hb)⟩)
        | exact Nat.le_of_ble_eq_true rfl
        | assumption
    · rw [List.concat_eq_append] at hP
      have hl : (cs.takeWhile (fun a => decide (L 9 0 a < t))).getLast? = some p := by rw [hP]; simp
      have b1 : tg p = 9 := m9 p (mT p (by rw [hP]; simp))
      rw [hP] at g1
      obtain ⟨g4, g5⟩ := wc_sg_e g1
      rw [g3] at g2 g5
      repeat' first
        | refine And.intro ?_ ?_
        | refine Exists.intro cs (And.intro a4 (And.intro m9 ?_))
        | (rw [hl])
        | (intro q9 (e9 : (_ : Option Nat) = some q9); cases e9)
        | (intro (e9 : (some _ : Option Nat) = none); cases e9)
        | (intro (e9 : (none : Option Nat) = none); clear e9)
        | (intro (e9 : (_ : Option Nat) ≠ _); exact absurd rfl e9)
        | (intro (e9 : (some _ : Option Nat) = some _); clear e9)
        | refine Exists.intro _ (And.intro (show _ = _ from by assumption) ?_)
        | refine Exists.intro _ (And.intro rfl (And.intro (by assumption) ?_))
        | refine Exists.intro _ (And.intro rfl ?_)
        | (intro h; try omega)
        | omega
        | (refine Exists.intro _ (Exists.intro ([]) (Exists.intro ([]) (Exists.intro (cs.dropWhile (fun a => decide (L 9 0 a < t))) (And.intro (by rw [hl]; rfl) (And.intro rfl (And.intro rfl (And.intro rfl (And.intro rfl (And.intro rfl (?_)))))))))) <;> exact ⟨rfl, g2, fun a ha => (by cases ha), fun b hb => (by cases hb)⟩)
        | (refine Exists.intro _ (Exists.intro ([]) (Exists.intro ([]) (Exists.intro (cs.dropWhile (fun a => decide (L 9 0 a < t))) (And.intro rfl (And.intro rfl (And.intro rfl (And.intro rfl (And.intro rfl (And.intro rfl (?_)))))))))) <;> exact ⟨rfl, g2, fun a ha => (by cases ha), fun b hb => (by cases hb)⟩)
        | exact Nat.le_of_ble_eq_true rfl
        | assumption
end
section
/-! THE CLASS, 6: takeDue and addBehind of rows -/
def sc_41 (as : List wi_V) (h : wc_H) (q : wi_Q1 wc_H) (qt : wi_Q2 wc_H) : Prop := wc_sTJ as (fun x t => wc_f h fun tg ln I L R n => ∃ s cs ids, wc_rs (tg, ln, I, L, R, n) x s cs ids ∧ (cs.length : Int) ≤ I 7 0 s ∧ I 7 0 s ≤ 100000 ∧ ∀ I1 R1, wc_rs (tg, ln, I1, L, R1, n) x s (cs.dropWhile (fun a => decide (L 9 0 a ≤ t))) ((cs.takeWhile (fun a => decide (L 9 0 a ≤ t))).reverse ++ ids) → wc_ro (tg, ln, I, L, R, n) (tg, ln, I1, L, R1, n) x s (cs ++ ids) → I1 7 0 s = I 7 0 s - (cs.takeWhile (fun a => decide (L 9 0 a ≤ t))).length → I1 4 2 x = wc_va t (I 4 2 x) (wc_cn I L cs) → (∀ t j a, ¬ (t = 7 ∧ j = 0 ∧ a = s) → ¬ (t = 4 ∧ j = 2 ∧ a = x) → I1 t j a = I t j a) → (cs.takeWhile (fun a => decide (L 9 0 a ≤ t)) ≠ [] → q (some (.inl 1)) (tg, ln, I1, L, R1, n)) ∧ (cs.takeWhile (fun a => decide (L 9 0 a ≤ t)) = [] → q (some (.inl 0)) (tg, ln, I1, L, R1, n)))
theorem cm_41 {l : Launch} {D : va_G} {aC : wm_Y} {b0 : Nat} (hl0 : l.stackTraces = false) : wm_sp l D aC b0 41 (wi_lf (wc_Rl wc_ok) sc_41) := by
  refine wi_method (wc_lw wc_ok) 41 (cx := fun id => if id = 40 then sc_40 else if id = 46 then sc_46 else fun _ _ _ _ => False) (ids := ci_41) (tb := tb_41) (by decide +kernel) hl0 (wm_cxc (cm_40 hl0) oi_41 (fun h => wm_cxc (cm_46 hl0) h (fun h => wm_cxn h))) (wm_tb_ok tk_41) (by decide +kernel) [14] 250 (fun as h q qt hs => ?_)
  obtain ⟨x, t, rfl, hs1⟩ := wc_sTJ_e hs
  clear hs
  obtain ⟨tg, ln, I, L, R, n⟩ := h
  have hs := id hs1
  clear hs1
  simp only [wc_f] at hs
  obtain ⟨s, cs, ids, hr, r1, r2, h1⟩ := hs
  obtain ⟨a1, a2, a3, a4, a5, a6, a7⟩ := id hr
  simp only at a1 a2 a3 a4 a5 a7
  have e0 : cs.takeWhile (fun a => decide (L 9 0 a ≤ t)) ++ cs.dropWhile (fun a => decide (L 9 0 a ≤ t)) = cs := List.takeWhile_append_dropWhile
  have m9 : ∀ a ∈ cs, tg a = 9 := fun a ha => (a7 a (List.mem_append_left _ ha)).1
  have hxs : x ≠ s := fun z => by rw [z, a3] at a1; cases a1
  refine ⟨rfl, fun mz pc lv sk h cu su => ∃ D : List Nat, ∃ r : List Nat, ∃ I2 : wm_F Int, lv = [some (wi_rf (some x)), some (.inr (.inl (t))), none, some (wi_rf (r.head?))] ∧ sk = [] ∧ h = (tg, ln, I2, L, R, n) ∧ cu = 0 ∧ su = 0 ∧ mz = r.length ∧ cs = D ++ r ∧ wc_ch R r.head? r ∧ (∀ a ∈ D, L 9 0 a ≤ t) ∧ I2 = wm_up I 4 2 x (wc_va t (I 4 2 x) (wc_cn I L cs)), mq_c1 (fun mz lv sk h cu su hI => ?_), ?_⟩
  · obtain ⟨D9, r, I2, rfl, rfl, rfl, rfl, rfl, rfl, p1, p2, p3, p4⟩ := hI
    have i70 : I2 7 0 s = I 7 0 s := by rw [p4, wm_up_t (by decide)]
    have hr2 : wc_rs (tg, ln, I2, L, R, n) x s (([] : List Nat) ++ D9 ++ r) ids := by rw [List.nil_append, ← p1]; exact hr
    have r3 : (D9.length : Int) ≤ I2 7 0 s := by
      rw [p1, List.length_append] at r1
      omega
    have r4 : I2 7 0 s ≤ 100000 := by omega
    have eT : ∀ z : r = [] ∨ (∃ a r', r = a :: r' ∧ t < L 9 0 a), cs.takeWhile (fun a => decide (L 9 0 a ≤ t)) = D9 ∧ cs.dropWhile (fun a => decide (L 9 0 a ≤ t)) = r := by
      intro z
      have e1 : r.takeWhile (fun a => decide (L 9 0 a ≤ t)) = [] := by
        rcases z with rfl | ⟨a, r', rfl, z⟩
        · rfl
        · rw [List.takeWhile_cons_of_neg (by simp only [decide_eq_true_eq]; omega)]
      have e2 : cs.takeWhile (fun a => decide (L 9 0 a ≤ t)) = D9 := by rw [p1, List.takeWhile_append_of_pos (fun a ha => decide_eq_true (p3 a ha)), e1, List.append_nil]
      have e3 := e0
      rw [e2] at e3
      exact ⟨e2, List.append_cancel_left (e3.trans p1)⟩
    have fin : (r = [] ∨ (∃ a r', r = a :: r' ∧ t < L 9 0 a)) → ∀ I1 R1, wc_rs (tg, ln, I1, L, R1, n) x s (([] : List Nat) ++ r) (D9.reverse ++ ids) → wc_ro (tg, ln, I2, L, R, n) (tg, ln, I1, L, R1, n) x s (([] : List Nat) ++ D9 ++ r ++ ids) → I1 7 0 s = I2 7 0 s - D9.length → (∀ t j a, ¬ (t = 7 ∧ j = 0 ∧ a = s) → I1 t j a = I2 t j a) → (D9 ≠ [] → q (some (.inl 1)) (tg, ln, I1, L, R1, n)) ∧ (D9 = [] → q (some (.inl 0)) (tg, ln, I1, L, R1, n)) := by
      intro z I1 R1 z1 z2 z3 z4
      obtain ⟨e1, e2⟩ := eT z
      have hz := h1 I1 R1
      rw [e1, e2] at hz
      rw [List.nil_append] at z1 z2
      rw [← p1] at z2
      refine hz z1 ⟨z2.1, z2.2.1, z2.2.2.1, fun t j a y1 y2 y3 => ?_, z2.2.2.2.2.1, z2.2.2.2.2.2⟩ (by rw [z3, i70]) ?_ (fun t j a y1 y2 => ?_)
      · show I1 t j a = I t j a
        rw [z4 t j a y1, p4]
        simp only [wm_up]
        rw [if_neg y2]
      · rw [z4 4 2 x (fun y => by omega), p4, wm_up_self]
      · rw [z4 t j a y1, p4]
        simp only [wm_up]
        rw [if_neg y2]
    cases r with
    | nil =>
      have fin := fin (Or.inl rfl)
      repeat' first
        | refine And.intro ?_ ?_
        | refine Exists.intro s (Exists.intro [] (Exists.intro D9 (Exists.intro ([]) (Exists.intro ids (And.intro hr2 (And.intro rfl (And.intro rfl (And.intro r3 (And.intro r4 ?_)))))))))
        | (intro I1 R1 z1 z2 z3 z4; obtain ⟨hz1, hz2⟩ := fin I1 R1 z1 z2 z3 z4)
        | (intro q9 (e9 : (_ : Option Nat) = some q9); cases e9)
        | (intro (e9 : (some _ : Option Nat) = none); cases e9)
        | (intro (e9 : (none : Option Nat) = none); clear e9)
        | (intro (e9 : (_ : Option Nat) ≠ _); exact absurd rfl e9)
        | (intro (e9 : (some _ : Option Nat) = some _); clear e9)
        | refine Exists.intro _ (And.intro (show _ = _ from by assumption) ?_)
        | refine Exists.intro _ (And.intro rfl (And.intro (by assumption) ?_))
        | refine Exists.intro _ (And.intro rfl ?_)
        | (intro h; try omega)
        | omega
        | exact hz1 (fun y => absurd (by rw [y]; rfl : ((D9.length : Nat) : Int) = 0) (by omega))
        | exact hz2 (List.eq_nil_of_length_eq_zero (by omega))
        | exact Nat.le_of_ble_eq_true rfl
        | assumption
    | cons a r =>
      have b1 : tg a = 9 := m9 a (by rw [p1]; simp)
      replace p2 : wc_ch R (R 9 2 a) r := p2.2
      have hh := wc_ch_h p2
      rw [hh] at p2
      have fin2 : t < L 9 0 a → _ := fun z => fin (Or.inr ⟨a, r, rfl, z⟩)
      repeat' first
        | refine And.intro ?_ ?_
        | refine Exists.intro s (Exists.intro [] (Exists.intro D9 (Exists.intro (a :: r) (Exists.intro ids (And.intro hr2 (And.intro rfl (And.intro rfl (And.intro r3 (And.intro r4 ?_)))))))))
        | (intro I1 R1 z1 z2 z3 z4; obtain ⟨hz1, hz2⟩ := fin2 (by omega) I1 R1 z1 z2 z3 z4)
        | (intro q9 (e9 : (_ : Option Nat) = some q9); cases e9)
        | (intro (e9 : (some _ : Option Nat) = none); cases e9)
        | (intro (e9 : (none : Option Nat) = none); clear e9)
        | (intro (e9 : (_ : Option Nat) ≠ _); exact absurd rfl e9)
        | (intro (e9 : (some _ : Option Nat) = some _); clear e9)
        | refine Exists.intro _ (And.intro (show _ = _ from by assumption) ?_)
        | refine Exists.intro _ (And.intro rfl (And.intro (by assumption) ?_))
        | refine Exists.intro _ (And.intro rfl ?_)
        | (intro h; try omega)
        | omega
        | (refine Exists.intro _ (And.intro ?_ (Exists.intro (D9 ++ [a]) (Exists.intro (r) (Exists.intro (_) (And.intro rfl (And.intro rfl (And.intro rfl (And.intro rfl (And.intro rfl (And.intro rfl (?_))))))))))) <;> first | exact Nat.lt_succ_self _ | exact ⟨by rw [p1]; simp, p2, fun b hb => (by rcases List.mem_append.mp hb with z | z; exact p3 b z; rw [List.mem_singleton.mp z]; omega), p4⟩)
        | exact hz1 (fun y => absurd (by rw [y]; rfl : ((D9.length : Nat) : Int) = 0) (by omega))
        | exact hz2 (List.eq_nil_of_length_eq_zero (by omega))
        | exact Nat.le_of_ble_eq_true rfl
        | assumption
  · repeat' first
      | refine And.intro ?_ ?_
      | refine Exists.intro cs (And.intro a4 (And.intro m9 ?_))
      | refine Exists.intro _ (And.intro rfl (And.intro (by assumption) (Exists.intro _ (And.intro (wc_ch_h a4) ?_))))
      | refine Exists.intro _ (And.intro (show _ = _ from by assumption) ?_)
      | refine Exists.intro _ (And.intro rfl (And.intro (by assumption) ?_))
      | refine Exists.intro _ (And.intro rfl ?_)
      | (intro h; try omega)
      | omega
      | (refine Exists.intro _ (Exists.intro ([]) (Exists.intro (cs) (Exists.intro (_) (And.intro rfl (And.intro rfl (And.intro rfl (And.intro rfl (And.intro rfl (And.intro rfl (?_)))))))))) <;> exact ⟨rfl, (by rw [← wc_ch_h a4]; exact a4), fun a ha => (by cases ha), h⟩)
      | exact Nat.le_of_ble_eq_true rfl
      | assumption
/-- behind a transaction taken from the store -/
def wc_tk (h h2 : wc_H) (x s a : Nat) (cs ids ids' : List Nat) (t v : Int) : Prop :=
  h2.1 a = 9 ∧ a < h2.2.2.2.2.2 ∧ h2.2.2.2.2.1 9 2 a = none ∧ wc_ch h2.2.2.2.2.1 (h2.2.2.2.2.1 7 1 s) ids' ∧ (a ∈ ids ∨ h.2.2.2.2.2 ≤ a) ∧ (∀ b ∈ ids', b ∈ ids) ∧ (a :: ids').Nodup ∧ h2.2.2.2.1 9 0 a = t ∧ h2.2.2.1 9 1 a = v ∧ h2.2.2.1 7 0 s = h.2.2.1 7 0 s + 1 ∧
  h.2.2.2.2.2 ≤ h2.2.2.2.2.2 ∧ (∀ b, b < h.2.2.2.2.2 → h2.1 b = h.1 b ∧ h2.2.1 b = h.2.1 b) ∧ (∀ b, h.2.2.2.2.2 ≤ b → b < h2.2.2.2.2.2 → h2.1 b = 9) ∧ (∀ t k b, ¬ (t = 7 ∧ k = 0 ∧ b = s) → ¬ (t = 9 ∧ b = a) → h2.2.2.1 t k b = h.2.2.1 t k b) ∧ (∀ t k b, ¬ (t = 9 ∧ b = a) → h2.2.2.2.1 t k b = h.2.2.2.1 t k b) ∧ (∀ t k b, ¬ (t = 7 ∧ k = 1 ∧ b = s) → ¬ (t = 9 ∧ b = a) → h2.2.2.2.2.1 t k b = h.2.2.2.2.1 t k b)
theorem wc_tk_n {tg ln : Nat → Nat} {I L : wm_F Int} {R : wm_F (Option Nat)} {n x s : Nat} {cs : List Nat} {t v : Int} (hr : wc_rs (tg, ln, I, L, R, n) x s cs []) (hs : s < n) :
    wc_tk (tg, ln, I, L, R, n) (wc_nt tg n 9, wc_nt ln n 0, wm_up (wm_up (wc_nz I n 9) 9 1 n v) 7 0 s (I 7 0 s + 1), wm_up (wc_nz L n 9) 9 0 n t, wm_up (wc_nn R n 9) 9 2 n none, n + 1) x s n cs [] [] t v := by
  obtain ⟨a1, a2, a3, a4, a5, a6, a7⟩ := hr
  have hsn : s ≠ n := by omega
  refine ⟨if_pos rfl, Nat.lt_succ_self _, wm_up_self, ?_, Or.inr (Nat.le_refl _), fun b hb => hb, by simp, wm_up_self, ?_, wm_up_self, Nat.le_succ _, fun b hb => ⟨if_neg (Nat.ne_of_lt hb), if_neg (Nat.ne_of_lt hb)⟩, fun b b1 b2 => if_pos (Nat.le_antisymm (Nat.le_of_lt_succ b2) b1), fun t k b z1 z2 => ?_, fun t k b z => ?_, fun t k b z1 z2 => ?_⟩
  · show wm_up (wc_nn R n 9) 9 2 n none 7 1 s = none
    rw [wm_up_t (by decide)]
    show (if 7 = 9 ∧ s = n then none else R 7 1 s) = none
    rw [if_neg (fun z => by omega)]
    exact a5
  · show wm_up (wm_up (wc_nz I n 9) 9 1 n v) 7 0 s (I 7 0 s + 1) 9 1 n = v
    rw [wm_up_t (by decide), wm_up_self]
  · show wm_up (wm_up (wc_nz I n 9) 9 1 n v) 7 0 s (I 7 0 s + 1) t k b = I t k b
    simp only [wm_up]
    rw [if_neg z1, if_neg (fun z => z2 ⟨z.1, z.2.2⟩)]
    exact if_neg z2
  · show wm_up (wc_nz L n 9) 9 0 n _ t k b = L t k b
    simp only [wm_up]
    rw [if_neg (fun y => z ⟨y.1, y.2.2⟩)]
    exact if_neg z
  · show wm_up (wc_nn R n 9) 9 2 n none t k b = R t k b
    simp only [wm_up]
    rw [if_neg (fun y => z2 ⟨y.1, y.2.2⟩)]
    exact if_neg z2
theorem wc_tk_o {tg ln : Nat → Nat} {I L : wm_F Int} {R : wm_F (Option Nat)} {n x s a : Nat} {cs ids : List Nat} {t v : Int} (hr : wc_rs (tg, ln, I, L, R, n) x s cs (a :: ids)) :
    wc_tk (tg, ln, I, L, R, n) (tg, ln, wm_up (wm_up I 9 1 a v) 7 0 s (I 7 0 s + 1), wm_up L 9 0 a t, wm_up (wm_up R 7 1 s (R 9 2 a)) 9 2 a none, n) x s a cs (a :: ids) ids t v := by
  obtain ⟨a1, a2, a3, a4, a5, a6, a7⟩ := hr
  have h9 := a7 a (by simp)
  have hnd := (List.nodup_append.mp a6).2.1
  refine ⟨h9.1, h9.2, wm_up_self, ?_, Or.inl List.mem_cons_self, fun b hb => List.mem_cons_of_mem _ hb, hnd, wm_up_self, ?_, wm_up_self, Nat.le_refl _, fun b hb => ⟨rfl, rfl⟩, fun b b1 b2 => absurd b1 (Nat.not_le.mpr b2), fun t k b z1 z2 => ?_, fun t k b z => ?_, fun t k b z1 z2 => ?_⟩
  · show wc_ch (wm_up (wm_up R 7 1 s (R 9 2 a)) 9 2 a none) (wm_up (wm_up R 7 1 s (R 9 2 a)) 9 2 a none 7 1 s) ids
    rw [wm_up_t (by decide), wm_up_self]
    refine wc_ch_c a5.2 (fun b hb => ?_)
    rw [wm_up_q (show b ≠ a from fun z => (List.nodup_cons.mp hnd).1 (z ▸ hb)), wm_up_t (by decide)]
  · show wm_up (wm_up I 9 1 a v) 7 0 s (I 7 0 s + 1) 9 1 a = v
    rw [wm_up_t (by decide), wm_up_self]
  · show wm_up (wm_up I 9 1 a v) 7 0 s (I 7 0 s + 1) t k b = I t k b
    simp only [wm_up]
    rw [if_neg z1, if_neg (fun z => z2 ⟨z.1, z.2.2⟩)]
  · show wm_up L 9 0 a _ t k b = L t k b
    simp only [wm_up]
    rw [if_neg (fun y => z ⟨y.1, y.2.2⟩)]
  · show wm_up (wm_up R 7 1 s (R 9 2 a)) 9 2 a none t k b = R t k b
    simp only [wm_up]
    rw [if_neg (fun y => z2 ⟨y.1, y.2.2⟩), if_neg z1]
/-- what adding behind gives -/
def wc_ab (h h3 : wc_H) (x s a : Nat) (cs ids ids' : List Nat) (t v : Int) : Prop := wc_rs h3 x s (cs ++ [a]) ids' ∧ wc_ro h h3 x s (cs ++ ids) ∧ (∀ b ∈ cs, h3.2.2.2.1 9 0 b = h.2.2.2.1 9 0 b ∧ h3.2.2.1 9 1 b = h.2.2.1 9 1 b) ∧ h3.2.2.2.1 9 0 a = t ∧ h3.2.2.1 9 1 a = v ∧ h3.2.2.1 7 0 s = h.2.2.1 7 0 s + 1 ∧ h3.2.2.1 4 2 x = h.2.2.1 4 2 x ∧ (∀ b ∈ ids', b ∈ ids) ∧ (a ∈ ids ∨ h.2.2.2.2.2 ≤ a)
theorem wc_ab_j {h h2 : wc_H} {x s a : Nat} {cs ids ids' : List Nat} {t v : Int} (hr : wc_rs h x s cs ids) (hxn : x < h.2.2.2.2.2) (hsn : s < h.2.2.2.2.2) (k : wc_tk h h2 x s a cs ids ids' t v) {R3 : wm_F (Option Nat)}
    (hj : (cs = [] ∧ R3 = wm_up h2.2.2.2.2.1 4 1 x (some a)) ∨ ∃ P c, cs = P ++ [c] ∧ R3 = wm_up h2.2.2.2.2.1 9 2 c (some a)) : wc_ab h (h2.1, h2.2.1, h2.2.2.1, h2.2.2.2.1, R3, h2.2.2.2.2.2) x s a cs ids ids' t v := by
  obtain ⟨a1, a2, a3, a4, a5, a6, a7⟩ := hr
  obtain ⟨k1, k2, k3, k4, k5, k6, k7, k8, k9, k10, k11, k12, k13, k14, k15, k16⟩ := k
  have hac : a ∉ cs := fun z => by
    rcases k5 with y | y
    · exact (List.nodup_append.mp a6).2.2 a z a y rfl
    · have := (a7 a (List.mem_append_left _ z)).2
      omega
  have hxa : x ≠ a := fun z => by
    rcases k5 with y | y
    · have := (a7 a (List.mem_append_right _ y)).1
      rw [← z, a1] at this
      cases this
    · omega
  have hsa : s ≠ a := fun z => by
    rcases k5 with y | y
    · have := (a7 a (List.mem_append_right _ y)).1
      rw [← z, a3] at this
      cases this
    · omega
  have q9 : ∀ b ∈ cs, h2.2.2.2.2.1 9 2 b = h.2.2.2.2.1 9 2 b := fun b hb => k16 9 2 b (fun z => by omega) (fun z => hac (z.2 ▸ hb))
  have hch : wc_ch h2.2.2.2.2.1 (h2.2.2.2.2.1 4 1 x) cs := by
    rw [k16 4 1 x (fun z => by omega) (fun z => by omega)]
    exact wc_ch_c a4 q9
  have hcs9 : ∀ b ∈ cs, b ∉ ids' := fun b hb z => (List.nodup_append.mp a6).2.2 b hb b (k6 b z) rfl
  have f3 : ∀ t k b, ¬ (t = 4 ∧ k = 1 ∧ b = x) → ¬ (t = 9 ∧ k = 2 ∧ b ∈ cs) → R3 t k b = h2.2.2.2.2.1 t k b := by
    rcases hj with ⟨-, rfl⟩ | ⟨P, c, rfl, rfl⟩
    · intro t k b z1 z2
      simp only [wm_up]
      rw [if_neg z1]
    · intro t k b z1 z2
      simp only [wm_up]
      rw [if_neg (fun z => z2 ⟨z.1, z.2.1, by rw [z.2.2]; simp⟩)]
  have hch3 : wc_ch R3 (R3 4 1 x) (cs ++ [a]) := by
    have r9 : R3 9 2 a = none := by rw [f3 9 2 a (fun z => by omega) (fun z => hac z.2.2)]; exact k3
    rcases hj with ⟨rfl, rfl⟩ | ⟨P, c, rfl, rfl⟩
    · rw [wm_up_self]
      exact ⟨rfl, r9⟩
    · rw [wm_up_t (by decide)]
      obtain ⟨y, g1, g2⟩ := wc_ch_s (A := P ++ [c]) (B := []) (by rw [List.append_nil]; exact hch)
      obtain ⟨g3, g4⟩ := wc_sg_e g1
      have hcP : c ∉ P := fun z => (List.nodup_append.mp (List.nodup_append.mp a6).1).2.2 c z c (by simp) rfl
      exact wc_ch_j (wc_sg_a (wc_sg_c g3 (fun b hb => wm_up_q (show b ≠ c from fun z => hcP (z ▸ hb)))) wm_up_self) ⟨rfl, r9⟩
  refine ⟨⟨(k12 x hxn).1.trans a1, ?_, (k12 s hsn).1.trans a3, hch3, ?_, ?_, fun b hb => ?_⟩, ⟨k11, k12, k13, fun t j b z1 z2 z3 => k14 t j b z1 (fun z => z3 ⟨z.1, ?_⟩), fun t j b z => k15 t j b (fun y => z ⟨y.1, ?_⟩), fun t j b z1 z2 z3 => ?_⟩, fun b hb => ⟨k15 9 0 b (fun z => hac (z.2 ▸ hb)), k14 9 1 b (fun z => by omega) (fun z => hac (z.2 ▸ hb))⟩, k8, k9, k10, k14 4 2 x (fun z => by omega) (fun z => by omega), k6, k5⟩
  · show R3 4 0 x = some s
    rw [f3 4 0 x (fun z => by omega) (fun z => by omega), k16 4 0 x (fun z => by omega) (fun z => by omega)]
    exact a2
  · show wc_ch R3 (R3 7 1 s) ids'
    rw [f3 7 1 s (fun z => by omega) (fun z => by omega)]
    exact wc_ch_c k4 (fun b hb => f3 9 2 b (fun z => by omega) (fun z => hcs9 b z.2.2 hb))
  · rw [List.append_assoc]
    refine List.nodup_append.mpr ⟨(List.nodup_append.mp a6).1, k7, fun b hb c hc => ?_⟩
    rcases List.mem_cons.mp hc with z | z
    · exact fun y => hac (z ▸ y ▸ hb)
    · exact fun y => hcs9 b hb (y ▸ z)
  · have hb2 : b ∈ cs ++ ids ∨ b = a := by
      simp only [List.mem_append, List.mem_singleton] at hb ⊢
      rcases hb with (z | z) | z
      · exact Or.inl (Or.inl z)
      · exact Or.inr z
      · exact Or.inl (Or.inr (k6 b z))
    rcases hb2 with z | rfl
    · have y := a7 b z
      exact ⟨(k12 b y.2).1.trans y.1, Nat.lt_of_lt_of_le y.2 k11⟩
    · exact ⟨k1, k2⟩
  · rcases k5 with y | y
    · exact Or.inl (z.2 ▸ List.mem_append_right _ y)
    · exact Or.inr (z.2 ▸ y)
  · rcases k5 with w | w
    · exact Or.inl (y.2 ▸ List.mem_append_right _ w)
    · exact Or.inr (y.2 ▸ w)
  · show R3 t j b = h.2.2.2.2.1 t j b
    rw [f3 t j b z2 (fun z => z3 ⟨z.1, Or.inl (List.mem_append_left _ z.2.2)⟩)]
    refine k16 t j b z1 (fun z => z3 ⟨z.1, ?_⟩)
    rcases k5 with y | y
    · exact Or.inl (z.2 ▸ List.mem_append_right _ y)
    · exact Or.inr (z.2 ▸ y)
def sc_45 (as : List wi_V) (h : wc_H) (q : wi_Q1 wc_H) (qt : wi_Q2 wc_H) : Prop := wc_sTOJI as (fun x b t v => wc_f h fun tg ln I L R n => ∃ s cs ids, wc_rs (tg, ln, I, L, R, n) x s cs ids ∧ b = cs.getLast? ∧ x < n ∧ s < n ∧ 0 ≤ I 7 0 s ∧ I 7 0 s < 100000 ∧ ∀ a ids' h3, wc_ab (tg, ln, I, L, R, n) h3 x s a cs ids ids' t v → q (some (wi_rf (some a))) h3)
theorem cm_45 {l : Launch} {D : va_G} {aC : wm_Y} {b0 : Nat} (hl0 : l.stackTraces = false) : wm_sp l D aC b0 45 (wi_lf (wc_Rl wc_ok) sc_45) := by
  refine wi_method (wc_lw wc_ok) 45 (cx := fun id => if id = 47 then sc_47 else if id = 64 then sc_64 else fun _ _ _ _ => False) (ids := ci_45) (tb := tb_45) (by decide +kernel) hl0 (wm_cxc (cm_47 hl0) oi_45 (fun h => wm_cxc (cm_64 hl0) h (fun h => wm_cxn h))) (wm_tb_ok tk_45) (by decide +kernel) [] 250 (fun as h q qt hs => ?_)
  obtain ⟨x, b, t, v, rfl, hs1⟩ := wc_sTOJI_e hs
  clear hs
  obtain ⟨tg, ln, I, L, R, n⟩ := h
  have hs := id hs1
  clear hs1
  simp only [wc_f] at hs
  refine ⟨rfl, fun _ _ _ _ _ _ _ => False, mq_nc, ?_⟩
  obtain ⟨s, cs, ids, hr, rfl, r1, r2, r3, r4, h1⟩ := hs
  obtain ⟨a1, a2, a3, a4, a5, a6, a7⟩ := id hr
  simp only at a1 a2 a3 a4 a5 a7
  have fin : ∀ (a : Nat) (ids' : List Nat) (tg2 ln2 : Nat → Nat) (I2 L2 : wm_F Int) (R2 R3 : wm_F (Option Nat)) (n2 : Nat), wc_tk (tg, ln, I, L, R, n) (tg2, ln2, I2, L2, R2, n2) x s a cs ids ids' t v → ((cs = [] ∧ R3 = wm_up R2 4 1 x (some a)) ∨ ∃ P c, cs = P ++ [c] ∧ R3 = wm_up R2 9 2 c (some a)) → q (some (wi_rf (some a))) (tg2, ln2, I2, L2, R3, n2) := fun a ids' tg2 ln2 I2 L2 R2 R3 n2 k hj => h1 a ids' _ (wc_ab_j hr r1 r2 k hj)
  cases ids with
  | nil =>
    have i0 : R 7 1 s = none := a5
    have kk := wc_tk_n (t := t) (v := v) hr r2
    have x4 : wc_nt tg n 9 x = 4 := (if_neg (Nat.ne_of_lt r1)).trans a1
    rcases List.eq_nil_or_concat cs with rfl | ⟨P, c, rfl⟩
    · have f1 := fin _ _ _ _ _ _ _ _ _ kk (Or.inl ⟨rfl, rfl⟩)
      repeat' first
        | refine And.intro ?_ ?_
        | (intro q9 (e9 : (_ : Option Nat) = some q9); cases e9)
        | (intro (e9 : (some _ : Option Nat) = none); cases e9)
        | (intro (e9 : (none : Option Nat) = none); clear e9)
        | (intro (e9 : (_ : Option Nat) ≠ _); exact absurd rfl e9)
        | (intro (e9 : (some _ : Option Nat) = some _); clear e9)
        | (intro q9 e9; exact absurd (i0.symm.trans e9) (by intro z; cases z))
        | refine Exists.intro _ (And.intro (show _ = _ from by assumption) ?_)
        | refine Exists.intro _ (And.intro rfl (And.intro (by assumption) ?_))
        | refine Exists.intro _ (And.intro rfl ?_)
        | (intro h; try omega)
        | omega
        | exact f1
        | exact Nat.le_of_ble_eq_true rfl
        | assumption
    · rw [List.concat_eq_append] at *
      have hl : (P ++ [c]).getLast? = some c := by simp
      have c9 : wc_nt tg n 9 c = 9 := (if_neg (Nat.ne_of_lt (a7 c (by simp)).2)).trans (a7 c (by simp)).1
      have f1 := fin _ _ _ _ _ _ _ _ _ kk (Or.inr ⟨P, c, rfl, rfl⟩)
      repeat' first
        | refine And.intro ?_ ?_
        | (intro q9 (e9 : (_ : Option Nat) = some q9); cases e9)
        | (intro (e9 : (some _ : Option Nat) = none); cases e9)
        | (intro (e9 : (none : Option Nat) = none); clear e9)
        | (intro (e9 : (_ : Option Nat) ≠ _); exact absurd rfl e9)
        | (intro (e9 : (some _ : Option Nat) = some _); clear e9)
        | (rw [hl])
        | (intro q9 e9; exact absurd (i0.symm.trans e9) (by intro z; cases z))
        | refine Exists.intro _ (And.intro (show _ = _ from by assumption) ?_)
        | refine Exists.intro _ (And.intro rfl (And.intro (by assumption) ?_))
        | refine Exists.intro _ (And.intro rfl ?_)
        | (intro h; try omega)
        | omega
        | exact f1
        | exact Nat.le_of_ble_eq_true rfl
        | assumption
  | cons a ids =>
    have i0 : R 7 1 s = some a := a5.1
    have b9 : tg a = 9 := (a7 a (by simp)).1
    have kk := wc_tk_o (t := t) (v := v) hr
    rcases List.eq_nil_or_concat cs with rfl | ⟨P, c, rfl⟩
    · have f1 := fin _ _ _ _ _ _ _ _ _ kk (Or.inl ⟨rfl, rfl⟩)
      repeat' first
        | refine And.intro ?_ ?_
        | (intro q9 (e9 : (_ : Option Nat) = some q9); cases e9)
        | (intro (e9 : (some _ : Option Nat) = none); cases e9)
        | (intro (e9 : (none : Option Nat) = none); clear e9)
        | (intro (e9 : (_ : Option Nat) ≠ _); exact absurd rfl e9)
        | (intro (e9 : (some _ : Option Nat) = some _); clear e9)
        | (intro (e9 : R 7 1 s = none); exact absurd (i0.symm.trans e9) (by intro z; cases z))
        | (intro q9 (e9 : R 7 1 s = some q9); cases i0.symm.trans e9)
        | refine Exists.intro _ (And.intro (show _ = _ from by assumption) ?_)
        | refine Exists.intro _ (And.intro rfl (And.intro (by assumption) ?_))
        | refine Exists.intro _ (And.intro rfl ?_)
        | (intro h; try omega)
        | omega
        | exact f1
        | exact Nat.le_of_ble_eq_true rfl
        | assumption
    · rw [List.concat_eq_append] at *
      have hl : (P ++ [c]).getLast? = some c := by simp
      have c9 : tg c = 9 := (a7 c (by simp)).1
      have f1 := fin _ _ _ _ _ _ _ _ _ kk (Or.inr ⟨P, c, rfl, rfl⟩)
      repeat' first
        | refine And.intro ?_ ?_
        | (intro q9 (e9 : (_ : Option Nat) = some q9); cases e9)
        | (intro (e9 : (some _ : Option Nat) = none); cases e9)
        | (intro (e9 : (none : Option Nat) = none); clear e9)
        | (intro (e9 : (_ : Option Nat) ≠ _); exact absurd rfl e9)
        | (intro (e9 : (some _ : Option Nat) = some _); clear e9)
        | (rw [hl])
        | (intro (e9 : R 7 1 s = none); exact absurd (i0.symm.trans e9) (by intro z; cases z))
        | (intro q9 (e9 : R 7 1 s = some q9); cases i0.symm.trans e9)
        | refine Exists.intro _ (And.intro (show _ = _ from by assumption) ?_)
        | refine Exists.intro _ (And.intro rfl (And.intro (by assumption) ?_))
        | refine Exists.intro _ (And.intro rfl ?_)
        | (intro h; try omega)
        | omega
        | exact f1
        | exact Nat.le_of_ble_eq_true rfl
        | assumption
end
section
/-! THE CLASS, 7: sooner, a new driver, the chain of drivers -/
def sc_33 (as : List wi_V) (h : wc_H) (q : wi_Q1 wc_H) (qt : wi_Q2 wc_H) : Prop := wc_sJJ as (fun a b => wc_f h fun tg ln I L R n => (a = -1 → q (some (.inr (.inl b))) (tg, ln, I, L, R, n)) ∧ (a ≠ -1 → b = -1 ∨ a ≤ b → q (some (.inr (.inl a))) (tg, ln, I, L, R, n)) ∧ (a ≠ -1 → b ≠ -1 → b < a → q (some (.inr (.inl b))) (tg, ln, I, L, R, n)))
theorem cm_33 {l : Launch} {D : va_G} {aC : wm_Y} {b0 : Nat} (hl0 : l.stackTraces = false) : wm_sp l D aC b0 33 (wi_lf (wc_Rl wc_ok) sc_33) := by
  refine wi_method (wc_lw wc_ok) 33 (cx := fun _ _ _ _ _ => False) (ids := ci_33) (tb := tb_33) (by decide +kernel) hl0 wm_cx0 (wm_tb_ok tk_33) (by decide +kernel) [] 250 (fun as h q qt hs => ?_)
  obtain ⟨a, b, rfl, hs1⟩ := wc_sJJ_e hs
  clear hs
  obtain ⟨tg, ln, I, L, R, n⟩ := h
  have hs := id hs1
  clear hs1
  simp only [wc_f] at hs
  refine ⟨rfl, fun _ _ _ _ _ _ _ => False, mq_nc, ?_⟩
  obtain ⟨h1, h2, h3⟩ := hs
  repeat' first
    | refine And.intro ?_ ?_
    | refine Exists.intro _ (And.intro (show _ = _ from by assumption) ?_)
    | refine Exists.intro _ (And.intro rfl (And.intro (by assumption) ?_))
    | refine Exists.intro _ (And.intro rfl ?_)
    | (intro h; try omega)
    | omega
    | exact h1 (by omega)
    | exact h2 (by omega) (by omega)
    | exact h3 (by omega) (by omega) (by omega)
    | exact Nat.le_of_ble_eq_true rfl
    | assumption
/-- a new driver with i rows so far -/
def wc_dn (h h' : wc_H) (x : Nat) (p : Int) (m : Nat) (st : Nat) (oth : Option Nat) (i : Nat) : Prop :=
  h'.2.2.2.2.2 = h.2.2.2.2.2 + 1 + i ∧ (∀ q, q < h.2.2.2.2.2 → h'.1 q = h.1 q ∧ h'.2.1 q = h.2.1 q) ∧ h'.1 h.2.2.2.2.2 = 22 ∧ h'.2.1 h.2.2.2.2.2 = m ∧ (∀ k, k < i → h'.1 (h.2.2.2.2.2 + 1 + k) = 4) ∧
  h'.2.2.2.2.1 3 1 x = some h.2.2.2.2.2 ∧ h'.2.2.2.2.1 3 2 x = oth ∧ h'.2.2.1 3 0 x = p ∧
  (∀ k, k < i → h'.2.2.2.2.1 22 k h.2.2.2.2.2 = some (h.2.2.2.2.2 + 1 + k) ∧ h'.2.2.2.2.1 4 0 (h.2.2.2.2.2 + 1 + k) = some st ∧ h'.2.2.2.2.1 4 1 (h.2.2.2.2.2 + 1 + k) = none ∧ h'.2.2.1 4 2 (h.2.2.2.2.2 + 1 + k) = 0) ∧
  (∀ t j q, q < h.2.2.2.2.2 → ¬ (t = 3 ∧ q = x) → h'.2.2.1 t j q = h.2.2.1 t j q ∧ h'.2.2.2.1 t j q = h.2.2.2.1 t j q ∧ h'.2.2.2.2.1 t j q = h.2.2.2.2.1 t j q)
theorem wc_dn_0 {tg ln : Nat → Nat} {I L : wm_F Int} {R : wm_F (Option Nat)} {n x : Nat} {p : Int} {m st : Nat} {oth : Option Nat} (hx : x < n) :
    wc_dn (tg, ln, I, L, R, n) (wc_nt tg n 22, wc_nt ln n m, wc_nz (wm_up I 3 0 x p) n 22, wc_nz L n 22, wm_up (wc_nn (wm_up R 3 2 x oth) n 22) 3 1 x (some n), n + 1) x p m st oth 0 := by
  refine ⟨rfl, fun q hq => ⟨if_neg (Nat.ne_of_lt hq), if_neg (Nat.ne_of_lt hq)⟩, if_pos rfl, if_pos rfl, fun k hk => absurd hk (Nat.not_lt_zero _), wm_up_self, ?_, ?_, fun k hk => absurd hk (Nat.not_lt_zero _), fun t j q hq z => ⟨?_, ?_, ?_⟩⟩
  · show wm_up (wc_nn (wm_up R 3 2 x oth) n 22) 3 1 x (some n) 3 2 x = oth
    rw [wm_up_k (by decide)]
    show (if 3 = 22 ∧ x = n then none else wm_up R 3 2 x oth 3 2 x) = oth
    rw [if_neg (fun y => absurd y.1 (by decide)), wm_up_self]
  · show (if 3 = 22 ∧ x = n then 0 else wm_up I 3 0 x p 3 0 x) = p
    rw [if_neg (fun y => absurd y.1 (by decide)), wm_up_self]
  · show (if t = 22 ∧ q = n then 0 else wm_up I 3 0 x p t j q) = I t j q
    rw [if_neg (fun y => absurd y.2 (Nat.ne_of_lt hq))]
    exact if_neg (fun y => z ⟨y.1, y.2.2⟩)
  · show (if t = 22 ∧ q = n then 0 else L t j q) = L t j q
    rw [if_neg (fun y => absurd y.2 (Nat.ne_of_lt hq))]
  · show (if t = 3 ∧ j = 1 ∧ q = x then some n else if t = 22 ∧ q = n then none else wm_up R 3 2 x oth t j q) = R t j q
    rw [if_neg (fun y => z ⟨y.1, y.2.2⟩), if_neg (fun y => absurd y.2 (Nat.ne_of_lt hq))]
    exact if_neg (fun y => z ⟨y.1, y.2.2⟩)
theorem wc_dn_s {h : wc_H} {tg ln : Nat → Nat} {I L : wm_F Int} {R : wm_F (Option Nat)} {n x : Nat} {p : Int} {m st : Nat} {oth : Option Nat} {i : Nat} (hx : x < h.2.2.2.2.2) (d : wc_dn h (tg, ln, I, L, R, n) x p m st oth i) :
    wc_dn h (wc_nt tg n 4, wc_nt ln n 0, wc_nz I n 4, wc_nz L n 4, wm_up (wm_up (wc_nn R n 4) 4 0 n (some st)) 22 i h.2.2.2.2.2 (some n), n + 1) x p m st oth (i + 1) := by
  obtain ⟨d1, d2, d3, d4, d5, d6, d7, d8, d9, d10⟩ := d
  simp only at d1 d2 d3 d4 d5 d6 d7 d8 d9 d10
  have eR : ∀ t j q, ¬ (t = 22 ∧ j = i ∧ q = h.2.2.2.2.2) → q ≠ n → wm_up (wm_up (wc_nn R n 4) 4 0 n (some st)) 22 i h.2.2.2.2.2 (some n) t j q = R t j q := fun t j q z1 z2 => by
    simp only [wm_up]
    rw [if_neg z1, if_neg (fun y => z2 y.2.2)]
    exact if_neg (fun y => z2 y.2)
  have eI : ∀ t j q, q ≠ n → wc_nz I n 4 t j q = I t j q := fun t j q z => if_neg (fun y => z y.2)
  refine ⟨by simp only; omega, fun q hq => ⟨(if_neg (by omega)).trans (d2 q hq).1, (if_neg (by omega)).trans (d2 q hq).2⟩, (if_neg (by omega)).trans d3, (if_neg (by omega)).trans d4, fun k hk => ?_, (eR _ _ _ (fun y => absurd y.1 (by decide)) (by omega)).trans d6, (eR _ _ _ (fun y => absurd y.1 (by decide)) (by omega)).trans d7, (eI _ _ _ (by omega)).trans d8, fun k hk => ?_, fun t j q hq z => ⟨(eI _ _ _ (by omega)).trans (d10 t j q hq z).1, (if_neg (fun y => absurd y.2 (by omega))).trans (d10 t j q hq z).2.1, (eR _ _ _ (fun y => absurd y.2.2 (by omega)) (by omega)).trans (d10 t j q hq z).2.2⟩⟩
  · by_cases hk2 : k = i
    · exact if_pos (by rw [hk2, d1])
    · exact (if_neg (by omega)).trans (d5 k (by omega))
  · by_cases hk2 : k = i
    · subst hk2
      have e9 : h.2.2.2.2.2 + 1 + k = n := d1.symm
      refine ⟨?_, ?_, ?_, ?_⟩
      · simp only
        rw [wm_up_self, e9]
      · simp only
        rw [e9, wm_up_t (by decide), wm_up_self]
      · simp only
        rw [e9, wm_up_t (by decide), wm_up_k (by decide)]
        exact if_pos ⟨rfl, rfl⟩
      · rw [e9]
        exact if_pos ⟨rfl, rfl⟩
    · obtain ⟨f1, f2, f3, f4⟩ := d9 k (by omega)
      exact ⟨(eR _ _ _ (fun y => hk2 y.2.1) (by omega)).trans f1, (eR _ _ _ (fun y => absurd y.1 (by decide)) (by omega)).trans f2, (eR _ _ _ (fun y => absurd y.1 (by decide)) (by omega)).trans f3, (eI _ _ _ (by omega)).trans f4⟩
def sc_36 (as : List wi_V) (h : wc_H) (q : wi_Q1 wc_H) (qt : wi_Q2 wc_H) : Prop := wc_sTIITO as (fun x p m s oth => wc_f h fun tg ln I L R n => tg x = 3 ∧ x < n ∧ 0 ≤ m ∧ m ≤ 64 ∧ (∀ q, tg q ≠ 0 → q < n) ∧ ∀ h', wc_dn (tg, ln, I, L, R, n) h' x p m.toNat s oth m.toNat → q none h')
theorem cm_36 {l : Launch} {D : va_G} {aC : wm_Y} {b0 : Nat} (hl0 : l.stackTraces = false) : wm_sp l D aC b0 36 (wi_lf (wc_Rl wc_ok) sc_36) := by
  refine wi_method (wc_lw wc_ok) 36 (cx := fun id => if id = 37 then sc_37 else fun _ _ _ _ => False) (ids := ci_36) (tb := tb_36) (by decide +kernel) hl0 (wm_cxc (cm_37 hl0) oi_36 (fun h => wm_cxn h)) (wm_tb_ok tk_36) (by decide +kernel) [26] 250 (fun as h q qt hs => ?_)
  obtain ⟨x, p, m, s, oth, rfl, hs1⟩ := wc_sTIITO_e hs
  clear hs
  obtain ⟨tg, ln, I, L, R, n⟩ := h
  have hs := id hs1
  clear hs1
  simp only [wc_f] at hs
  obtain ⟨a1, a2, r1, r2, hn, h1⟩ := hs
  refine ⟨rfl, fun mz pc lv sk h cu su => ∃ i : Nat, ∃ tg2 : Nat → Nat, ∃ ln2 : Nat → Nat, ∃ I2 : wm_F Int, ∃ L2 : wm_F Int, ∃ R2 : wm_F (Option Nat), ∃ n2 : Nat, lv = [some (wi_rf (some x)), some (.inl (p)), some (.inl (m)), some (wi_rf (some s)), some (wi_rf (oth)), some (.inl ((i : Int)))] ∧ sk = [] ∧ h = (tg2, ln2, I2, L2, R2, n2) ∧ cu = 1 + i ∧ su = m.toNat + 3 * i ∧ mz = m.toNat - i ∧ wc_dn (tg, ln, I, L, R, n) (tg2, ln2, I2, L2, R2, n2) x p m.toNat s oth i ∧ (i : Int) ≤ m, mq_c1 (fun mz lv sk h cu su hI => ?_), ?_⟩
  · obtain ⟨i, tg2, ln2, I2, L2, R2, n2, rfl, rfl, rfl, rfl, rfl, rfl, p1, p2⟩ := hI
    obtain ⟨d1, d2, d3, d4, d5, d6, d7, d8, d9, d10⟩ := id p1
    simp only at d1 d2 d3 d4 d6
    have t3 : tg2 x = 3 := (d2 x a2).1.trans a1
    have ds := wc_dn_s a2 p1
    have t4 : wc_nt tg2 n2 4 n2 = 4 := if_pos rfl
    have t22 : wc_nt tg2 n2 4 n = 22 := (if_neg (by omega)).trans d3
    have l22 : wc_nt ln2 n2 0 n = m.toNat := (if_neg (by omega)).trans d4
    have fin : (i : Int) = m → q none (tg2, ln2, I2, L2, R2, n2) := fun e => h1 _ (by
      have e2 : m.toNat = i := by omega
      rw [e2] at p1 ⊢
      exact p1)
    repeat' first
      | refine And.intro ?_ ?_
      | (intro tg1 ln1 I1 L1 R1 (e1 : tg1 = wc_nt tg2 n2 4) (e2 : ln1 = wc_nt ln2 n2 0) (e3 : I1 = wc_nz I2 n2 4) (e4 : L1 = wc_nz L2 n2 4) (e5 : R1 = wc_nn R2 n2 4); subst e1 e2 e3 e4 e5)
      | (intro q9 (e9 : (some _ : Option Nat) = some q9); cases e9; exact t4)
      | refine Exists.intro _ (And.intro (show _ = _ from by assumption) ?_)
      | refine Exists.intro _ (And.intro rfl (And.intro (by assumption) ?_))
      | refine Exists.intro _ (And.intro rfl ?_)
      | (intro h; try omega)
      | omega
      | exact fin (by omega)
      | (intro q9 e9; cases e9; exact t4)
      | (rw [l22]; omega)
      | (simp only [wm_mr, wm_mc, wm_ms]; omega)
      | (subst_vars; refine Exists.intro _ (And.intro ?_ (Exists.intro (i + 1) (Exists.intro (_) (Exists.intro (_) (Exists.intro (_) (Exists.intro (_) (Exists.intro (_) (Exists.intro (_) (And.intro rfl (And.intro rfl (And.intro rfl (And.intro (by first | rfl | omega | (simp only [wm_mc, wm_ms]; omega)) (And.intro (by first | rfl | omega | (simp only [wm_mc, wm_ms]; omega)) (And.intro rfl (?_))))))))))))))) <;> first | omega | exact ⟨ds, by omega⟩)
      | exact Nat.le_of_ble_eq_true rfl
      | assumption
  · have d0 := wc_dn_0 (tg := tg) (ln := ln) (I := I) (L := L) (R := R) (p := p) (m := m.toNat) (st := s) (oth := oth) a2
    have t3 : wc_nt tg n 22 x = 3 := (if_neg (Nat.ne_of_lt a2)).trans a1
    repeat' first
      | refine And.intro ?_ ?_
      | (intro tg1 ln1 I1 L1 R1 (e1 : tg1 = wc_nt tg n 22) (e2 : ln1 = wc_nt ln n m.toNat) e3 e4 e5; subst e1 e2)
      | refine Exists.intro _ (And.intro (show _ = _ from by assumption) ?_)
      | refine Exists.intro _ (And.intro rfl (And.intro (by assumption) ?_))
      | refine Exists.intro _ (And.intro rfl ?_)
      | (intro h; try omega)
      | omega
      | (simp only [wm_mr, wm_mc, wm_ms]; omega)
      | (subst_vars; refine Exists.intro _ (Exists.intro (0) (Exists.intro (_) (Exists.intro (_) (Exists.intro (_) (Exists.intro (_) (Exists.intro (_) (Exists.intro (_) (And.intro rfl (And.intro rfl (And.intro rfl (And.intro (by first | rfl | omega | (simp only [wm_mc, wm_ms]; omega)) (And.intro (by first | rfl | omega | (simp only [wm_mc, wm_ms]; omega)) (And.intro rfl (?_)))))))))))))) <;> first | omega | exact ⟨d0, by omega⟩)
      | exact Nat.le_of_ble_eq_true rfl
      | assumption
/-- the chain of drivers: address and number of the first row -/
def wc_dc (tg ln : Nat → Nat) (I3 : Nat → Nat → Int) (R3 R22 : Nat → Nat → Option Nat) (w : Nat) (rw : Nat → Nat) (pp : Nat → Int) : Option Nat → List (Nat × Nat) → Prop
  | o, [] => o = none
  | o, c :: r => o = some c.1 ∧ tg c.1 = 3 ∧ I3 0 c.1 = pp c.2 ∧ (∃ ra, R3 1 c.1 = some ra ∧ tg ra = 22 ∧ ln ra = w ∧ ∀ k, k < w → R22 k ra = some (rw (c.2 + k))) ∧ wc_dc tg ln I3 R3 R22 w rw pp (R3 2 c.1) r
def sc_50 (as : List wi_V) (h : wc_H) (q : wi_Q1 wc_H) (qt : wi_Q2 wc_H) : Prop := wc_sTI as (fun x p => wc_f h fun tg ln I L R n => tg x = 5 ∧ ∃ w rw pp l, wc_dc tg ln (I 3) (R 3) (R 22) w rw pp (R 5 4 x) l ∧ (∀ P c S, l = P ++ c :: S → (∀ b ∈ P, pp b.2 ≠ p) → pp c.2 = p → q (some (wi_rf (some c.1))) (tg, ln, I, L, R, n)) ∧ ((∀ b ∈ l, pp b.2 ≠ p) → q (some (wi_rf none)) (tg, ln, I, L, R, n)))
theorem cm_50 {l : Launch} {D : va_G} {aC : wm_Y} {b0 : Nat} (hl0 : l.stackTraces = false) : wm_sp l D aC b0 50 (wi_lf (wc_Rl wc_ok) sc_50) := by
  refine wi_method (wc_lw wc_ok) 50 (cx := fun _ _ _ _ _ => False) (ids := ci_50) (tb := tb_50) (by decide +kernel) hl0 wm_cx0 (wm_tb_ok tk_50) (by decide +kernel) [5] 250 (fun as h q qt hs => ?_)
  obtain ⟨x, p, rfl, hs1⟩ := wc_sTI_e hs
  clear hs
  obtain ⟨tg, ln, I, L, R, n⟩ := h
  have hs := id hs1
  clear hs1
  simp only [wc_f] at hs
  obtain ⟨a1, w, rw, pp, l, c1, h1, h2⟩ := hs
  refine ⟨rfl, fun mz pc lv sk h cu su => ∃ v : Option Nat, ∃ P : List (Nat × Nat), ∃ r : List (Nat × Nat), lv = [some (wi_rf (some x)), some (.inl (p)), some (wi_rf (v))] ∧ sk = [] ∧ h = (tg, ln, I, L, R, n) ∧ cu = 0 ∧ su = 0 ∧ mz = r.length ∧ l = P ++ r ∧ (∀ b ∈ P, pp b.2 ≠ p) ∧ wc_dc tg ln (I 3) (R 3) (R 22) w rw pp v r, mq_c1 (fun mz lv sk h cu su hI => ?_), ?_⟩
  · obtain ⟨v, P, r, rfl, rfl, rfl, rfl, rfl, rfl, p1, p2, p3⟩ := hI
    cases r with
    | nil =>
      cases (show v = none from p3)
      have f2 := h2 (by rw [p1, List.append_nil]; exact p2)
      repeat' first
        | refine And.intro ?_ ?_
        | (intro q9 (e9 : (_ : Option Nat) = some q9); cases e9)
        | (intro (e9 : (some _ : Option Nat) = none); cases e9)
        | (intro (e9 : (none : Option Nat) = none); clear e9)
        | refine Exists.intro _ (And.intro (show _ = _ from by assumption) ?_)
        | refine Exists.intro _ (And.intro rfl (And.intro (by assumption) ?_))
        | refine Exists.intro _ (And.intro rfl ?_)
        | (intro h; try omega)
        | omega
        | exact f2
        | exact Nat.le_of_ble_eq_true rfl
        | assumption
    | cons c r =>
      obtain ⟨rfl, b1, b2, b3, p3⟩ := p3
      have f1 := h1 P c r p1 p2
      repeat' first
        | refine And.intro ?_ ?_
        | (intro q9 (e9 : (_ : Option Nat) = some q9); cases e9)
        | (intro (e9 : (some _ : Option Nat) = none); cases e9)
        | (intro (e9 : (none : Option Nat) = none); clear e9)
        | refine Exists.intro _ (And.intro (show _ = _ from by assumption) ?_)
        | refine Exists.intro _ (And.intro rfl (And.intro (by assumption) ?_))
        | refine Exists.intro _ (And.intro rfl ?_)
        | (intro h; try omega)
        | omega
        | exact f1 (by omega)
        | (refine Exists.intro _ (And.intro ?_ (Exists.intro (_) (Exists.intro (P ++ [c]) (Exists.intro (r) (And.intro rfl (And.intro rfl (And.intro rfl (And.intro rfl (And.intro rfl (And.intro rfl (?_))))))))))) <;> first | exact Nat.lt_succ_self _ | exact ⟨by rw [p1]; simp, fun b hb => (by rcases List.mem_append.mp hb with z | z; exact p2 b z; rw [List.mem_singleton.mp z]; omega), p3⟩)
        | exact Nat.le_of_ble_eq_true rfl
        | assumption
  · repeat' first
      | refine And.intro ?_ ?_
      | refine Exists.intro _ (And.intro (show _ = _ from by assumption) ?_)
      | refine Exists.intro _ (And.intro rfl (And.intro (by assumption) ?_))
      | refine Exists.intro _ (And.intro rfl ?_)
      | (intro h; try omega)
      | omega
      | (refine Exists.intro _ (Exists.intro (_) (Exists.intro ([]) (Exists.intro (l) (And.intro rfl (And.intro rfl (And.intro rfl (And.intro rfl (And.intro rfl (And.intro rfl (?_)))))))))) <;> exact ⟨rfl, fun b hb => (by cases hb), c1⟩)
      | exact Nat.le_of_ble_eq_true rfl
      | assumption
end
section
/-! THE CLASS, 7b: the values of drivers together -/
def wc_fi (a b c e f : Int) : Int := if a ≠ 0 then 0 else if b ≠ 0 ∨ (c ≠ 0 ∧ e ≠ 0) then 1 else if c ≠ 0 then 2 else if e ≠ 0 then 3 else f
theorem mq_c6 {a b c d f g : Nat} {P : Nat → Prop} (h1 : P a) (h2 : P b) (h3 : P c) (h4 : P d) (h5 : P f) (h6 : P g) : ∀ pc, [a, b, c, d, f, g].contains pc = true → P pc := fun pc h => by
  have e : pc = a ∨ pc = b ∨ pc = c ∨ pc = d ∨ pc = f ∨ pc = g := by simpa using h
  rcases e with e | e | e | e | e | e <;> rw [e] <;> assumption
def wc_or (P : Prop) (a a' : Int) : Prop := (a' = 1 ∧ (a ≠ 0 ∨ P)) ∨ (a' = 0 ∧ a = 0 ∧ ¬ P)
def wc_ok5 (a b c e f : Int) : Prop := (a = 0 ∨ a = 1) ∧ (b = 0 ∨ b = 1) ∧ (c = 0 ∨ c = 1) ∧ (e = 0 ∨ e = 1) ∧ (a = 0 → b = 0 → c = 0 → e = 0 → 4 ≤ f ∧ f ≤ 7) ∧ 0 ≤ f ∧ f ≤ 8
def wc_b1 (a : Bool) : Int := if a = true then 1 else 0
def wc_wf (f u : Int) : Int := if u = 4 then f else if f = 4 ∨ f = u then u else 5
theorem wc_fi_d : ∀ a b c e : Bool, ∀ u f : Fin 9, ((a || b || c || e) = true ∨ (4 ≤ f.val ∧ f.val ≤ 7)) → wc_fi (wc_b1 (a || decide ((u.val : Int) = 0))) (wc_b1 (b || decide ((u.val : Int) = 1 ∨ (u.val : Int) = 8))) (wc_b1 (c || decide ((u.val : Int) = 2))) (wc_b1 (e || decide ((u.val : Int) = 3))) (wc_wf f.val u.val) = mq_both (wc_fi (wc_b1 a) (wc_b1 b) (wc_b1 c) (wc_b1 e) f.val) u.val := by decide +kernel
theorem wc_or_b {P : Prop} [Decidable P] {a : Bool} {a' : Int} (h : wc_or P (wc_b1 a) a') : a' = wc_b1 (a || decide P) := by
  rcases h with ⟨rfl, h⟩ | ⟨rfl, h1, h2⟩
  · rcases h with h | h
    · cases a
      · exact absurd rfl h
      · rfl
    · rw [decide_eq_true h, Bool.or_true]; rfl
  · cases a
    · rw [decide_eq_false h2]; rfl
    · cases h1
theorem wc_b1_e {a : Int} (h : a = 0 ∨ a = 1) : ∃ b, a = wc_b1 b := by
  rcases h with rfl | rfl
  · exact ⟨false, rfl⟩
  · exact ⟨true, rfl⟩
theorem wc_fi_s {a b c e f u a' b' c' e' f' : Int} (h : wc_ok5 a b c e f) (hu : 0 ≤ u ∧ u ≤ 8) (h1 : wc_or (u = 0) a a') (h2 : wc_or (u = 1 ∨ u = 8) b b') (h3 : wc_or (u = 2) c c') (h4 : wc_or (u = 3) e e') (h5 : (u = 4 ∧ f' = f) ∨ (u ≠ 4 ∧ (f = 4 ∨ f = u) ∧ f' = u) ∨ (u ≠ 4 ∧ f ≠ 4 ∧ f ≠ u ∧ f' = 5)) : wc_ok5 a' b' c' e' f' ∧ wc_fi a' b' c' e' f' = mq_both (wc_fi a b c e f) u := by
  obtain ⟨y1, y2, y3, y4, y5, y6, y7⟩ := h
  constructor
  · simp only [wc_or] at h1 h2 h3 h4
    refine ⟨by omega, by omega, by omega, by omega, fun z1 z2 z3 z4 => ?_, by omega, by omega⟩
    have := y5 (by omega) (by omega) (by omega) (by omega)
    omega
  · obtain ⟨u9, hu9⟩ : ∃ u9 : Fin 9, u = (u9.val : Int) := ⟨⟨u.toNat, by omega⟩, by simp only; omega⟩
    obtain ⟨f9, hf9⟩ : ∃ f9 : Fin 9, f = (f9.val : Int) := ⟨⟨f.toNat, by omega⟩, by simp only; omega⟩
    obtain ⟨a, rfl⟩ := wc_b1_e y1
    obtain ⟨b, rfl⟩ := wc_b1_e y2
    obtain ⟨c, rfl⟩ := wc_b1_e y3
    obtain ⟨e, rfl⟩ := wc_b1_e y4
    have hf : f' = wc_wf f u := by
      unfold wc_wf
      rcases h5 with ⟨z1, z2⟩ | ⟨z1, z2, z3⟩ | ⟨z1, z2, z3, z4⟩
      · rw [if_pos z1, z2]
      · rw [if_neg z1, if_pos z2, z3]
      · rw [if_neg z1, if_neg (by omega), z4]
    rw [wc_or_b h1, wc_or_b h2, wc_or_b h3, wc_or_b h4, hf, hu9, hf9]
    refine wc_fi_d a b c e u9 f9 ?_
    cases a <;> cases b <;> cases c <;> cases e <;> first | exact Or.inl rfl | skip
    refine Or.inr ?_
    have := y5 rfl rfl rfl rfl
    omega
def wc_bo (vl : Nat → Int) (k : Nat) (z : Int) (c : Nat × Nat) : Int := mq_both z (vl (c.2 + k))
def wc_to (is cur : Int) (vl : Nat → Int) (k : Nat) (l : List (Nat × Nat)) : Int := match l with
  | [] => cur
  | c :: r => if is = 2 then vl (c.2 + k) else (c :: r).foldl (wc_bo vl k) 4
def sc_56 (as : List wi_V) (h : wc_H) (q : wi_Q1 wc_H) (qt : wi_Q2 wc_H) : Prop := wc_sTI as (fun x k => wc_f h fun tg ln I L R n => tg x = 5 ∧ 0 ≤ k ∧ ∃ w rw pp l, wc_dc tg ln (I 3) (R 3) (R 22) w rw pp (R 5 4 x) l ∧ k < w ∧ (∀ c ∈ l, tg (rw (c.2 + k.toNat)) = 4) ∧ (∀ c ∈ l, 0 ≤ I 4 2 (rw (c.2 + k.toNat)) ∧ I 4 2 (rw (c.2 + k.toNat)) ≤ 8) ∧ q (some (.inl (l.foldl (wc_bo (fun d => I 4 2 (rw d)) k.toNat) 4))) (tg, ln, I, L, R, n))
theorem cm_56 {l : Launch} {D : va_G} {aC : wm_Y} {b0 : Nat} (hl0 : l.stackTraces = false) : wm_sp l D aC b0 56 (wi_lf (wc_Rl wc_ok) sc_56) := by
  refine wi_method (wc_lw wc_ok) 56 (cx := fun _ _ _ _ _ => False) (ids := ci_56) (tb := tb_56) (by decide +kernel) hl0 wm_cx0 (wm_tb_ok tk_56) (by decide +kernel) [19, 51, 74, 92, 110, 137] 250 (fun as h q qt hs => ?_)
  obtain ⟨x, k, rfl, hs1⟩ := wc_sTI_e hs
  clear hs
  obtain ⟨tg, ln, I, L, R, n⟩ := h
  have hs := id hs1
  clear hs1
  simp only [wc_f] at hs
  obtain ⟨a1, r1, w, rw, pp, l, c1, r2, c2, c3, h1⟩ := hs
  refine ⟨rfl, fun mz pc lv sk h cu su => match pc with | 19 => ∃ v : Option Nat, ∃ P : List (Nat × Nat), ∃ r : List (Nat × Nat), ∃ a : Int, ∃ b : Int, ∃ c : Int, ∃ e : Int, ∃ f : Int, ∃ w8 : Option wi_V, lv = [some (wi_rf (some x)), some (.inl (k)), some (.inl (a)), some (.inl (b)), some (.inl (c)), some (.inl (e)), some (.inl (f)), some (wi_rf (v)), w8] ∧ sk = [] ∧ h = (tg, ln, I, L, R, n) ∧ cu = 0 ∧ su = 0 ∧ mz = 8 * r.length + 6 ∧ l = P ++ r ∧ wc_dc tg ln (I 3) (R 3) (R 22) w rw pp v r ∧ wc_ok5 a b c e f ∧ wc_fi a b c e f = P.foldl (wc_bo (fun d => I 4 2 (rw d)) k.toNat) 4 | 51 => ∃ v : Option Nat, ∃ P : List (Nat × Nat), ∃ r : List (Nat × Nat), ∃ a : Int, ∃ b : Int, ∃ c : Int, ∃ e : Int, ∃ f : Int, ∃ y : Nat × Nat, ∃ u : Int, ∃ a' : Int, lv = [some (wi_rf (some x)), some (.inl (k)), some (.inl (a')), some (.inl (b)), some (.inl (c)), some (.inl (e)), some (.inl (f)), some (wi_rf (some y.1)), some (.inl (u))] ∧ sk = [] ∧ h = (tg, ln, I, L, R, n) ∧ cu = 0 ∧ su = 0 ∧ mz = 8 * r.length + 5 ∧ r.head? = some y ∧ v = some y.1 ∧ (0 ≤ u ∧ u ≤ 8) ∧ u = I 4 2 (rw (y.2 + k.toNat)) ∧ wc_or (u = 0) a a' ∧ l = P ++ r ∧ wc_dc tg ln (I 3) (R 3) (R 22) w rw pp v r ∧ wc_ok5 a b c e f ∧ wc_fi a b c e f = P.foldl (wc_bo (fun d => I 4 2 (rw d)) k.toNat) 4 | 74 => ∃ v : Option Nat, ∃ P : List (Nat × Nat), ∃ r : List (Nat × Nat), ∃ a : Int, ∃ b : Int, ∃ c : Int, ∃ e : Int, ∃ f : Int, ∃ y : Nat × Nat, ∃ u : Int, ∃ a' : Int, ∃ b' : Int, lv = [some (wi_rf (some x)), some (.inl (k)), some (.inl (a')), some (.inl (b')), some (.inl (c)), some (.inl (e)), some (.inl (f)), some (wi_rf (some y.1)), some (.inl (u))] ∧ sk = [] ∧ h = (tg, ln, I, L, R, n) ∧ cu = 0 ∧ su = 0 ∧ mz = 8 * r.length + 4 ∧ r.head? = some y ∧ v = some y.1 ∧ (0 ≤ u ∧ u ≤ 8) ∧ u = I 4 2 (rw (y.2 + k.toNat)) ∧ wc_or (u = 0) a a' ∧ wc_or (u = 1 ∨ u = 8) b b' ∧ l = P ++ r ∧ wc_dc tg ln (I 3) (R 3) (R 22) w rw pp v r ∧ wc_ok5 a b c e f ∧ wc_fi a b c e f = P.foldl (wc_bo (fun d => I 4 2 (rw d)) k.toNat) 4 | 92 => ∃ v : Option Nat, ∃ P : List (Nat × Nat), ∃ r : List (Nat × Nat), ∃ a : Int, ∃ b : Int, ∃ c : Int, ∃ e : Int, ∃ f : Int, ∃ y : Nat × Nat, ∃ u : Int, ∃ a' : Int, ∃ b' : Int, ∃ c' : Int, lv = [some (wi_rf (some x)), some (.inl (k)), some (.inl (a')), some (.inl (b')), some (.inl (c')), some (.inl (e)), some (.inl (f)), some (wi_rf (some y.1)), some (.inl (u))] ∧ sk = [] ∧ h = (tg, ln, I, L, R, n) ∧ cu = 0 ∧ su = 0 ∧ mz = 8 * r.length + 3 ∧ r.head? = some y ∧ v = some y.1 ∧ (0 ≤ u ∧ u ≤ 8) ∧ u = I 4 2 (rw (y.2 + k.toNat)) ∧ wc_or (u = 0) a a' ∧ wc_or (u = 1 ∨ u = 8) b b' ∧ wc_or (u = 2) c c' ∧ l = P ++ r ∧ wc_dc tg ln (I 3) (R 3) (R 22) w rw pp v r ∧ wc_ok5 a b c e f ∧ wc_fi a b c e f = P.foldl (wc_bo (fun d => I 4 2 (rw d)) k.toNat) 4 | 110 => ∃ v : Option Nat, ∃ P : List (Nat × Nat), ∃ r : List (Nat × Nat), ∃ a : Int, ∃ b : Int, ∃ c : Int, ∃ e : Int, ∃ f : Int, ∃ y : Nat × Nat, ∃ u : Int, ∃ a' : Int, ∃ b' : Int, ∃ c' : Int, ∃ e' : Int, lv = [some (wi_rf (some x)), some (.inl (k)), some (.inl (a')), some (.inl (b')), some (.inl (c')), some (.inl (e')), some (.inl (f)), some (wi_rf (some y.1)), some (.inl (u))] ∧ sk = [] ∧ h = (tg, ln, I, L, R, n) ∧ cu = 0 ∧ su = 0 ∧ mz = 8 * r.length + 2 ∧ r.head? = some y ∧ v = some y.1 ∧ (0 ≤ u ∧ u ≤ 8) ∧ u = I 4 2 (rw (y.2 + k.toNat)) ∧ wc_or (u = 0) a a' ∧ wc_or (u = 1 ∨ u = 8) b b' ∧ wc_or (u = 2) c c' ∧ wc_or (u = 3) e e' ∧ l = P ++ r ∧ wc_dc tg ln (I 3) (R 3) (R 22) w rw pp v r ∧ wc_ok5 a b c e f ∧ wc_fi a b c e f = P.foldl (wc_bo (fun d => I 4 2 (rw d)) k.toNat) 4 | 137 => ∃ v : Option Nat, ∃ P : List (Nat × Nat), ∃ r : List (Nat × Nat), ∃ a : Int, ∃ b : Int, ∃ c : Int, ∃ e : Int, ∃ f : Int, ∃ y : Nat × Nat, ∃ u : Int, ∃ a' : Int, ∃ b' : Int, ∃ c' : Int, ∃ e' : Int, ∃ f' : Int, lv = [some (wi_rf (some x)), some (.inl (k)), some (.inl (a')), some (.inl (b')), some (.inl (c')), some (.inl (e')), some (.inl (f')), some (wi_rf (some y.1)), some (.inl (u))] ∧ sk = [] ∧ h = (tg, ln, I, L, R, n) ∧ cu = 0 ∧ su = 0 ∧ mz = 8 * r.length + 1 ∧ r.head? = some y ∧ v = some y.1 ∧ (0 ≤ u ∧ u ≤ 8) ∧ u = I 4 2 (rw (y.2 + k.toNat)) ∧ wc_or (u = 0) a a' ∧ wc_or (u = 1 ∨ u = 8) b b' ∧ wc_or (u = 2) c c' ∧ wc_or (u = 3) e e' ∧ ((u = 4 ∧ f' = f) ∨ (u ≠ 4 ∧ (f = 4 ∨ f = u) ∧ f' = u) ∨ (u ≠ 4 ∧ f ≠ 4 ∧ f ≠ u ∧ f' = 5)) ∧ l = P ++ r ∧ wc_dc tg ln (I 3) (R 3) (R 22) w rw pp v r ∧ wc_ok5 a b c e f ∧ wc_fi a b c e f = P.foldl (wc_bo (fun d => I 4 2 (rw d)) k.toNat) 4 | _ => False, mq_c6 (fun mz lv sk h cu su hI => ?_) (fun mz lv sk h cu su hI => ?_) (fun mz lv sk h cu su hI => ?_) (fun mz lv sk h cu su hI => ?_) (fun mz lv sk h cu su hI => ?_) (fun mz lv sk h cu su hI => ?_), ?_⟩
  · obtain ⟨v, P, r, a, b, c, e, f, w8, rfl, rfl, rfl, rfl, rfl, rfl, p1, p2, p3, p4⟩ := hI
    obtain ⟨y1, y2, y3, y4, y5, y6, y7⟩ := id p3
    cases r with
    | nil =>
      cases (show v = none from p2)
      rw [List.append_nil] at p1
      subst p1
      have fin : ∀ z, z = wc_fi a b c e f → q (some (.inl z)) (tg, ln, I, L, R, n) := fun z e => by rw [e, p4]; exact h1
      repeat' first
        | refine And.intro ?_ ?_
        | (intro q9 (e9 : (_ : Option Nat) = some q9); cases e9)
        | (intro (e9 : (some _ : Option Nat) = none); cases e9)
        | (intro (e9 : (none : Option Nat) = none); clear e9)
        | refine Exists.intro _ (And.intro (show _ = _ from by assumption) ?_)
        | refine Exists.intro _ (And.intro rfl (And.intro (by assumption) ?_))
        | refine Exists.intro _ (And.intro rfl ?_)
        | (intro h; try omega)
        | omega
        | (refine fin _ ?_; simp only [wc_fi]; (repeat' split) <;> omega)
        | exact Nat.le_of_ble_eq_true rfl
        | assumption
    | cons y r =>
      obtain ⟨rfl, b1, b2, ⟨ra, b3, b4, b5, b6⟩, b7⟩ := id p2
      have hm : y ∈ l := by rw [p1]; simp
      have b8 := b6 k.toNat (by omega)
      have b9 := c2 y hm
      have b10 := c3 y hm
      have bl : k < ln ra := by omega
      repeat' first
        | refine And.intro ?_ ?_
        | (intro q9 (e9 : (_ : Option Nat) = some q9); cases e9)
        | (intro (e9 : (some _ : Option Nat) = none); cases e9)
        | (intro (e9 : (none : Option Nat) = none); clear e9)
        | refine Exists.intro _ (And.intro b3 (And.intro b4 ?_))
        | refine Exists.intro _ (And.intro b8 ?_)
        | refine Exists.intro _ (And.intro (show _ = _ from by assumption) ?_)
        | refine Exists.intro _ (And.intro rfl (And.intro (by assumption) ?_))
        | refine Exists.intro _ (And.intro rfl ?_)
        | (intro h; try omega)
        | omega
        | (refine Exists.intro _ (And.intro ?_ (Exists.intro (some y.1) (Exists.intro (P) (Exists.intro (y :: r) (Exists.intro (a) (Exists.intro (b) (Exists.intro (c) (Exists.intro (e) (Exists.intro (f) (Exists.intro (y) (Exists.intro (_) (Exists.intro (1) (And.intro rfl (And.intro rfl (And.intro rfl (And.intro rfl (And.intro rfl (And.intro rfl (?_))))))))))))))))))) <;> first | (simp only [List.length_cons]; omega) | exact ⟨rfl, rfl, b10, rfl, Or.inl ⟨rfl, by omega⟩, p1, p2, p3, p4⟩)
        | (refine Exists.intro _ (And.intro ?_ (Exists.intro (some y.1) (Exists.intro (P) (Exists.intro (y :: r) (Exists.intro (a) (Exists.intro (b) (Exists.intro (c) (Exists.intro (e) (Exists.intro (f) (Exists.intro (y) (Exists.intro (_) (Exists.intro (0) (And.intro rfl (And.intro rfl (And.intro rfl (And.intro rfl (And.intro rfl (And.intro rfl (?_))))))))))))))))))) <;> first | (simp only [List.length_cons]; omega) | exact ⟨rfl, rfl, b10, rfl, Or.inr ⟨rfl, by omega, by omega⟩, p1, p2, p3, p4⟩)
        | exact Nat.le_of_ble_eq_true rfl
        | assumption
  · obtain ⟨v, P, r, a, b, c, e, f, y, u, a', rfl, rfl, rfl, rfl, rfl, rfl, k1, rfl, k3, k4, g1, p1, p2, p3, p4⟩ := hI
    obtain ⟨y1, y2, y3, y4, y5, y6, y7⟩ := id p3
    repeat' first
      | refine And.intro ?_ ?_
      | (intro q9 (e9 : (_ : Option Nat) = some q9); cases e9)
      | (intro (e9 : (some _ : Option Nat) = none); cases e9)
      | (intro (e9 : (none : Option Nat) = none); clear e9)
      | refine Exists.intro _ (And.intro (show _ = _ from by assumption) ?_)
      | refine Exists.intro _ (And.intro rfl (And.intro (by assumption) ?_))
      | refine Exists.intro _ (And.intro rfl ?_)
      | (intro h; try omega)
      | omega
      | (refine Exists.intro _ (And.intro ?_ (Exists.intro (some y.1) (Exists.intro (P) (Exists.intro (r) (Exists.intro (a) (Exists.intro (b) (Exists.intro (c) (Exists.intro (e) (Exists.intro (f) (Exists.intro (y) (Exists.intro (_) (Exists.intro (a') (Exists.intro (1) (And.intro rfl (And.intro rfl (And.intro rfl (And.intro rfl (And.intro rfl (And.intro rfl (?_)))))))))))))))))))) <;> first | omega | exact ⟨k1, rfl, k3, k4, g1, Or.inl ⟨rfl, by omega⟩, p1, p2, p3, p4⟩)
      | (refine Exists.intro _ (And.intro ?_ (Exists.intro (some y.1) (Exists.intro (P) (Exists.intro (r) (Exists.intro (a) (Exists.intro (b) (Exists.intro (c) (Exists.intro (e) (Exists.intro (f) (Exists.intro (y) (Exists.intro (_) (Exists.intro (a') (Exists.intro (0) (And.intro rfl (And.intro rfl (And.intro rfl (And.intro rfl (And.intro rfl (And.intro rfl (?_)))))))))))))))))))) <;> first | omega | exact ⟨k1, rfl, k3, k4, g1, Or.inr ⟨rfl, by omega, by omega⟩, p1, p2, p3, p4⟩)
      | exact Nat.le_of_ble_eq_true rfl
      | assumption
  · obtain ⟨v, P, r, a, b, c, e, f, y, u, a', b', rfl, rfl, rfl, rfl, rfl, rfl, k1, rfl, k3, k4, g1, g2, p1, p2, p3, p4⟩ := hI
    obtain ⟨y1, y2, y3, y4, y5, y6, y7⟩ := id p3
    repeat' first
      | refine And.intro ?_ ?_
      | (intro q9 (e9 : (_ : Option Nat) = some q9); cases e9)
      | (intro (e9 : (some _ : Option Nat) = none); cases e9)
      | (intro (e9 : (none : Option Nat) = none); clear e9)
      | refine Exists.intro _ (And.intro (show _ = _ from by assumption) ?_)
      | refine Exists.intro _ (And.intro rfl (And.intro (by assumption) ?_))
      | refine Exists.intro _ (And.intro rfl ?_)
      | (intro h; try omega)
      | omega
      | (refine Exists.intro _ (And.intro ?_ (Exists.intro (some y.1) (Exists.intro (P) (Exists.intro (r) (Exists.intro (a) (Exists.intro (b) (Exists.intro (c) (Exists.intro (e) (Exists.intro (f) (Exists.intro (y) (Exists.intro (_) (Exists.intro (a') (Exists.intro (b') (Exists.intro (1) (And.intro rfl (And.intro rfl (And.intro rfl (And.intro rfl (And.intro rfl (And.intro rfl (?_))))))))))))))))))))) <;> first | omega | exact ⟨k1, rfl, k3, k4, g1, g2, Or.inl ⟨rfl, by omega⟩, p1, p2, p3, p4⟩)
      | (refine Exists.intro _ (And.intro ?_ (Exists.intro (some y.1) (Exists.intro (P) (Exists.intro (r) (Exists.intro (a) (Exists.intro (b) (Exists.intro (c) (Exists.intro (e) (Exists.intro (f) (Exists.intro (y) (Exists.intro (_) (Exists.intro (a') (Exists.intro (b') (Exists.intro (0) (And.intro rfl (And.intro rfl (And.intro rfl (And.intro rfl (And.intro rfl (And.intro rfl (?_))))))))))))))))))))) <;> first | omega | exact ⟨k1, rfl, k3, k4, g1, g2, Or.inr ⟨rfl, by omega, by omega⟩, p1, p2, p3, p4⟩)
      | exact Nat.le_of_ble_eq_true rfl
      | assumption
  · obtain ⟨v, P, r, a, b, c, e, f, y, u, a', b', c', rfl, rfl, rfl, rfl, rfl, rfl, k1, rfl, k3, k4, g1, g2, g3, p1, p2, p3, p4⟩ := hI
    obtain ⟨y1, y2, y3, y4, y5, y6, y7⟩ := id p3
    repeat' first
      | refine And.intro ?_ ?_
      | (intro q9 (e9 : (_ : Option Nat) = some q9); cases e9)
      | (intro (e9 : (some _ : Option Nat) = none); cases e9)
      | (intro (e9 : (none : Option Nat) = none); clear e9)
      | refine Exists.intro _ (And.intro (show _ = _ from by assumption) ?_)
      | refine Exists.intro _ (And.intro rfl (And.intro (by assumption) ?_))
      | refine Exists.intro _ (And.intro rfl ?_)
      | (intro h; try omega)
      | omega
      | (refine Exists.intro _ (And.intro ?_ (Exists.intro (some y.1) (Exists.intro (P) (Exists.intro (r) (Exists.intro (a) (Exists.intro (b) (Exists.intro (c) (Exists.intro (e) (Exists.intro (f) (Exists.intro (y) (Exists.intro (_) (Exists.intro (a') (Exists.intro (b') (Exists.intro (c') (Exists.intro (1) (And.intro rfl (And.intro rfl (And.intro rfl (And.intro rfl (And.intro rfl (And.intro rfl (?_)))))))))))))))))))))) <;> first | omega | exact ⟨k1, rfl, k3, k4, g1, g2, g3, Or.inl ⟨rfl, by omega⟩, p1, p2, p3, p4⟩)
      | (refine Exists.intro _ (And.intro ?_ (Exists.intro (some y.1) (Exists.intro (P) (Exists.intro (r) (Exists.intro (a) (Exists.intro (b) (Exists.intro (c) (Exists.intro (e) (Exists.intro (f) (Exists.intro (y) (Exists.intro (_) (Exists.intro (a') (Exists.intro (b') (Exists.intro (c') (Exists.intro (0) (And.intro rfl (And.intro rfl (And.intro rfl (And.intro rfl (And.intro rfl (And.intro rfl (?_)))))))))))))))))))))) <;> first | omega | exact ⟨k1, rfl, k3, k4, g1, g2, g3, Or.inr ⟨rfl, by omega, by omega⟩, p1, p2, p3, p4⟩)
      | exact Nat.le_of_ble_eq_true rfl
      | assumption
  · obtain ⟨v, P, r, a, b, c, e, f, y, u, a', b', c', e', rfl, rfl, rfl, rfl, rfl, rfl, k1, rfl, k3, k4, g1, g2, g3, g4, p1, p2, p3, p4⟩ := hI
    obtain ⟨y1, y2, y3, y4, y5, y6, y7⟩ := id p3
    repeat' first
      | refine And.intro ?_ ?_
      | (intro q9 (e9 : (_ : Option Nat) = some q9); cases e9)
      | (intro (e9 : (some _ : Option Nat) = none); cases e9)
      | (intro (e9 : (none : Option Nat) = none); clear e9)
      | refine Exists.intro _ (And.intro (show _ = _ from by assumption) ?_)
      | refine Exists.intro _ (And.intro rfl (And.intro (by assumption) ?_))
      | refine Exists.intro _ (And.intro rfl ?_)
      | (intro h; try omega)
      | omega
      | (refine Exists.intro _ (And.intro ?_ (Exists.intro (some y.1) (Exists.intro (P) (Exists.intro (r) (Exists.intro (a) (Exists.intro (b) (Exists.intro (c) (Exists.intro (e) (Exists.intro (f) (Exists.intro (y) (Exists.intro (_) (Exists.intro (a') (Exists.intro (b') (Exists.intro (c') (Exists.intro (e') (Exists.intro (f) (And.intro rfl (And.intro rfl (And.intro rfl (And.intro rfl (And.intro rfl (And.intro rfl (?_))))))))))))))))))))))) <;> first | omega | exact ⟨k1, rfl, k3, k4, g1, g2, g3, g4, by omega, p1, p2, p3, p4⟩)
      | (refine Exists.intro _ (And.intro ?_ (Exists.intro (some y.1) (Exists.intro (P) (Exists.intro (r) (Exists.intro (a) (Exists.intro (b) (Exists.intro (c) (Exists.intro (e) (Exists.intro (f) (Exists.intro (y) (Exists.intro (_) (Exists.intro (a') (Exists.intro (b') (Exists.intro (c') (Exists.intro (e') (Exists.intro (u) (And.intro rfl (And.intro rfl (And.intro rfl (And.intro rfl (And.intro rfl (And.intro rfl (?_))))))))))))))))))))))) <;> first | omega | exact ⟨k1, rfl, k3, k4, g1, g2, g3, g4, by omega, p1, p2, p3, p4⟩)
      | (refine Exists.intro _ (And.intro ?_ (Exists.intro (some y.1) (Exists.intro (P) (Exists.intro (r) (Exists.intro (a) (Exists.intro (b) (Exists.intro (c) (Exists.intro (e) (Exists.intro (f) (Exists.intro (y) (Exists.intro (_) (Exists.intro (a') (Exists.intro (b') (Exists.intro (c') (Exists.intro (e') (Exists.intro (5) (And.intro rfl (And.intro rfl (And.intro rfl (And.intro rfl (And.intro rfl (And.intro rfl (?_))))))))))))))))))))))) <;> first | omega | exact ⟨k1, rfl, k3, k4, g1, g2, g3, g4, by omega, p1, p2, p3, p4⟩)
      | exact Nat.le_of_ble_eq_true rfl
      | assumption
  · obtain ⟨v, P, r, a, b, c, e, f, y, u, a', b', c', e', f', rfl, rfl, rfl, rfl, rfl, rfl, k1, rfl, k3, k4, g1, g2, g3, g4, g5, p1, p2, p3, p4⟩ := hI
    obtain ⟨w1, w2⟩ := wc_fi_s p3 k3 g1 g2 g3 g4 g5
    cases r with
    | nil => cases k1
    | cons y9 r =>
      cases k1
      obtain ⟨-, b1, b2, -, b7⟩ := id p2
      have w3 : wc_fi a' b' c' e' f' = (P ++ [y]).foldl (wc_bo (fun d => I 4 2 (rw d)) k.toNat) 4 := by
        rw [w2, p4, List.foldl_append, k4]
        rfl
      repeat' first
        | refine And.intro ?_ ?_
        | (intro q9 (e9 : (_ : Option Nat) = some q9); cases e9)
        | (intro (e9 : (some _ : Option Nat) = none); cases e9)
        | (intro (e9 : (none : Option Nat) = none); clear e9)
        | refine Exists.intro _ (And.intro (show _ = _ from by assumption) ?_)
        | refine Exists.intro _ (And.intro rfl (And.intro (by assumption) ?_))
        | refine Exists.intro _ (And.intro rfl ?_)
        | (intro h; try omega)
        | omega
        | (refine Exists.intro _ (And.intro ?_ (Exists.intro (_) (Exists.intro (P ++ [y]) (Exists.intro (r) (Exists.intro (a') (Exists.intro (b') (Exists.intro (c') (Exists.intro (e') (Exists.intro (f') (Exists.intro (_) (And.intro rfl (And.intro rfl (And.intro rfl (And.intro rfl (And.intro rfl (And.intro rfl (?_))))))))))))))))) <;> first | (simp only [List.length_cons]; omega) | exact ⟨by rw [p1]; simp, b7, w1, w3⟩)
        | exact Nat.le_of_ble_eq_true rfl
        | assumption
  · repeat' first
      | refine And.intro ?_ ?_
      | refine Exists.intro _ (And.intro (show _ = _ from by assumption) ?_)
      | refine Exists.intro _ (And.intro rfl (And.intro (by assumption) ?_))
      | refine Exists.intro _ (And.intro rfl ?_)
      | (intro h; try omega)
      | omega
      | (refine Exists.intro _ (Exists.intro (_) (Exists.intro ([]) (Exists.intro (l) (Exists.intro (0) (Exists.intro (0) (Exists.intro (0) (Exists.intro (0) (Exists.intro (4) (Exists.intro (_) (And.intro rfl (And.intro rfl (And.intro rfl (And.intro rfl (And.intro rfl (And.intro rfl (?_)))))))))))))))) <;> exact ⟨rfl, c1, ⟨Or.inl rfl, Or.inl rfl, Or.inl rfl, Or.inl rfl, fun _ _ _ _ => (by omega), (by omega), (by omega)⟩, rfl⟩)
      | exact Nat.le_of_ble_eq_true rfl
      | assumption
def sc_55 (as : List wi_V) (h : wc_H) (q : wi_Q1 wc_H) (qt : wi_Q2 wc_H) : Prop := wc_sTI as (fun x k => wc_f h fun tg ln I L R n => tg x = 5 ∧ 0 ≤ k ∧ ∃ w rw pp l va, wc_dc tg ln (I 3) (R 3) (R 22) w rw pp (R 5 4 x) l ∧ k < w ∧ (∀ c ∈ l, tg (rw (c.2 + k.toNat)) = 4) ∧ (I 5 0 x ≠ 2 → (∀ c ∈ l, 0 ≤ I 4 2 (rw (c.2 + k.toNat)) ∧ I 4 2 (rw (c.2 + k.toNat)) ≤ 8)) ∧ R 5 2 x = some va ∧ tg va = 26 ∧ ln va = w ∧ q (some (.inl (wc_to (I 5 0 x) (I 26 k.toNat va) (fun d => I 4 2 (rw d)) k.toNat l))) (tg, ln, I, L, R, n))
theorem cm_55 {l : Launch} {D : va_G} {aC : wm_Y} {b0 : Nat} (hl0 : l.stackTraces = false) : wm_sp l D aC b0 55 (wi_lf (wc_Rl wc_ok) sc_55) := by
  refine wi_method (wc_lw wc_ok) 55 (cx := fun id => if id = 56 then sc_56 else fun _ _ _ _ => False) (ids := ci_55) (tb := tb_55) (by decide +kernel) hl0 (wm_cxc (cm_56 hl0) oi_55 (fun h => wm_cxn h)) (wm_tb_ok tk_55) (by decide +kernel) [] 250 (fun as h q qt hs => ?_)
  obtain ⟨x, k, rfl, hs1⟩ := wc_sTI_e hs
  clear hs
  obtain ⟨tg, ln, I, L, R, n⟩ := h
  have hs := id hs1
  clear hs1
  simp only [wc_f] at hs
  refine ⟨rfl, fun _ _ _ _ _ _ _ => False, mq_nc, ?_⟩
  obtain ⟨a1, r1, w, rw, pp, l, va, c1, r2, c2, c3, c4, c5, c6, h1⟩ := hs
  have bl : k < ln va := by omega
  cases l with
  | nil =>
    have c0 : R 5 4 x = none := c1
    repeat' first
      | refine And.intro ?_ ?_
      | (intro q9 (e9 : (_ : Option Nat) = some q9); cases e9)
      | (intro (e9 : (some _ : Option Nat) = none); cases e9)
      | (intro (e9 : (none : Option Nat) = none); clear e9)
      | refine Exists.intro _ (And.intro (show _ = _ from by assumption) ?_)
      | refine Exists.intro _ (And.intro rfl (And.intro (by assumption) ?_))
      | refine Exists.intro _ (And.intro rfl ?_)
      | (intro h; try omega)
      | omega
      | exact h1
      | exact Nat.le_of_ble_eq_true rfl
      | assumption
  | cons c l =>
    obtain ⟨b0, b1, b2, ⟨ra, b3, b4, b5, b6⟩, b7⟩ := id c1
    have b8 := b6 k.toNat (by omega)
    have b9 := c2 c (by simp)
    have bl2 : k < ln ra := by omega
    by_cases hI : I 5 0 x = 2
    · have h2 : q (some (.inl (I 4 2 (rw (c.2 + k.toNat))))) (tg, ln, I, L, R, n) := by
        have := h1
        simp only [wc_to] at this
        rw [if_pos hI] at this
        exact this
      repeat' first
        | refine And.intro ?_ ?_
        | (intro q9 (e9 : (_ : Option Nat) = some q9); cases e9)
        | (intro (e9 : (some _ : Option Nat) = none); cases e9)
        | (intro (e9 : (none : Option Nat) = none); clear e9)
        | refine Exists.intro _ (And.intro b0 (And.intro b1 ?_))
        | refine Exists.intro _ (And.intro b3 (And.intro b4 ?_))
        | refine Exists.intro _ (And.intro b8 ?_)
        | refine Exists.intro _ (And.intro b8 (And.intro b9 ?_))
        | refine Exists.intro _ (And.intro (show _ = _ from by assumption) ?_)
        | refine Exists.intro _ (And.intro rfl (And.intro (by assumption) ?_))
        | refine Exists.intro _ (And.intro rfl ?_)
        | (intro h; try omega)
        | omega
        | exact h2
        | exact Nat.le_of_ble_eq_true rfl
        | assumption
    · have c9 := c3 hI
      have h2 : q (some (.inl ((c :: l).foldl (wc_bo (fun d => I 4 2 (rw d)) k.toNat) 4))) (tg, ln, I, L, R, n) := by
        have := h1
        simp only [wc_to] at this
        rw [if_neg hI] at this
        exact this
      repeat' first
        | refine And.intro ?_ ?_
        | (intro q9 (e9 : (_ : Option Nat) = some q9); cases e9)
        | (intro (e9 : (some _ : Option Nat) = none); cases e9)
        | (intro (e9 : (none : Option Nat) = none); clear e9)
        | refine Exists.intro w (Exists.intro rw (Exists.intro pp (Exists.intro (c :: l) (And.intro c1 (And.intro r2 (And.intro c2 (And.intro c9 ?_)))))))
        | refine Exists.intro _ (And.intro (show _ = _ from by assumption) ?_)
        | refine Exists.intro _ (And.intro rfl (And.intro (by assumption) ?_))
        | refine Exists.intro _ (And.intro rfl ?_)
        | (intro h; try omega)
        | omega
        | exact h2
        | exact Nat.le_of_ble_eq_true rfl
        | assumption
end
section
/-! THE CLASS, 8: all rows; soonest and takeDue of a signal -/
/-- all rows: the store st, how many, their addresses, their chains, the idle ones -/
def wc_rk (h : wc_H) (st D : Nat) (rw : Nat → Nat) (cs : Nat → List Nat) (ids : List Nat) : Prop :=
  h.1 st = 7 ∧ (∀ d, d < D → h.1 (rw d) = 4 ∧ h.2.2.2.2.1 4 0 (rw d) = some st ∧ wc_ch h.2.2.2.2.1 (h.2.2.2.2.1 4 1 (rw d)) (cs d)) ∧ (∀ d d', d < D → d' < D → rw d = rw d' → d = d') ∧ wc_ch h.2.2.2.2.1 (h.2.2.2.2.1 7 1 st) ids ∧ ids.Nodup ∧ (∀ d, d < D → (cs d ++ ids).Nodup) ∧
  (∀ d d', d < D → d' < D → d ≠ d' → ∀ a ∈ cs d, a ∉ cs d') ∧ (∀ a, (a ∈ ids ∨ ∃ d, d < D ∧ a ∈ cs d) → h.1 a = 9 ∧ a < h.2.2.2.2.2) ∧ h.2.2.1 7 0 st = mq_sum (fun d => ((cs d).length : Int)) D
/-- what stays but for rows, store and transactions -/
def wc_fx (h h' : wc_H) : Prop := h.2.2.2.2.2 ≤ h'.2.2.2.2.2 ∧ (∀ a, a < h.2.2.2.2.2 → h'.1 a = h.1 a ∧ h'.2.1 a = h.2.1 a) ∧ (∀ a, h.2.2.2.2.2 ≤ a → a < h'.2.2.2.2.2 → h'.1 a = 9) ∧ ∀ t, t ≠ 4 → t ≠ 7 → t ≠ 9 → h'.2.2.1 t = h.2.2.1 t ∧ h'.2.2.2.1 t = h.2.2.2.1 t ∧ h'.2.2.2.2.1 t = h.2.2.2.2.1 t
theorem wc_fx_rf {h : wc_H} : wc_fx h h := ⟨Nat.le_refl _, fun _ _ => ⟨rfl, rfl⟩, fun a h1 h2 => by omega, fun _ _ _ _ => ⟨rfl, rfl, rfl⟩⟩
theorem wc_fx_tr {h h1 h2 : wc_H} (a : wc_fx h h1) (b : wc_fx h1 h2) : wc_fx h h2 := by
  obtain ⟨a1, a2, a3, a4⟩ := a
  obtain ⟨b1, b2, b3, b4⟩ := b
  refine ⟨by omega, fun q hq => ?_, fun q q1 q2 => ?_, fun t t1 t2 t3 => ?_⟩
  · have := b2 q (by omega)
    rw [this.1, this.2]
    exact a2 q hq
  · by_cases hq : q < h1.2.2.2.2.2
    · rw [(b2 q hq).1]
      exact a3 q q1 hq
    · exact b3 q (by omega) q2
  · obtain ⟨x1, x2, x3⟩ := b4 t t1 t2 t3
    rw [x1, x2, x3]
    exact a4 t t1 t2 t3
theorem wc_fx_ro {h h' : wc_H} {x s : Nat} {X : List Nat} (a : wc_ro h h' x s X) : wc_fx h h' := by
  obtain ⟨a1, a2, a3, a4, a5, a6⟩ := a
  refine ⟨a1, a2, a3, fun t t1 t2 t3 => ⟨?_, ?_, ?_⟩⟩
  · funext k q
    exact a4 t k q (fun z => t2 z.1) (fun z => t1 z.1) (fun z => t3 z.1)
  · funext k q
    exact a5 t k q (fun z => t3 z.1)
  · funext k q
    exact a6 t k q (fun z => t2 z.1) (fun z => t1 z.1) (fun z => t3 z.1)
theorem wc_rk_rs {h : wc_H} {st D : Nat} {rw : Nat → Nat} {cs : Nat → List Nat} {ids : List Nat} (k : wc_rk h st D rw cs ids) {d : Nat} (hd : d < D) : wc_rs h (rw d) st (cs d) ids := by
  obtain ⟨k1, k2, k3, k4, k4b, k5, k6, k7, k8⟩ := k
  refine ⟨(k2 d hd).1, (k2 d hd).2.1, k1, (k2 d hd).2.2, k4, k5 d hd, fun a ha => ?_⟩
  rcases List.mem_append.mp ha with z | z
  · exact k7 a (Or.inr ⟨d, hd, z⟩)
  · exact k7 a (Or.inl z)
def wc_u {α : Type} (f : Nat → α) (d : Nat) (v : α) : Nat → α := fun d' => if d' = d then v else f d'
theorem mq_sum_x {g g' : Nat → Int} : ∀ {D : Nat}, (∀ d, d < D → g d = g' d) → mq_sum g D = mq_sum g' D
  | 0, _ => rfl
  | D + 1, h => by
    simp only [mq_sum]
    rw [mq_sum_x (D := D) (fun d hd => h d (by omega)), h D (Nat.lt_succ_self _)]
theorem mq_sum_u {g : Nat → Int} {d : Nat} {v : Int} : ∀ {D : Nat}, d < D → mq_sum (wc_u g d v) D = mq_sum g D + v - g d
  | 0, h => absurd h (Nat.not_lt_zero _)
  | D + 1, h => by
    simp only [mq_sum]
    by_cases hd : d = D
    · subst hd
      rw [mq_sum_x (g := wc_u g d v) (g' := g) (fun e he => if_neg (by omega))]
      show _ + (if d = d then v else g d) = _
      rw [if_pos rfl]
      omega
    · rw [mq_sum_u (D := D) (by omega)]
      show _ + (if D = d then v else g D) = _
      rw [if_neg (by omega)]
      omega
theorem mq_sum_ge {g : Nat → Int} (h0 : ∀ d, 0 ≤ g d) : ∀ {D : Nat}, 0 ≤ mq_sum g D
  | 0 => Int.le_refl _
  | D + 1 => by
    simp only [mq_sum]
    have := mq_sum_ge h0 (D := D)
    have := h0 D
    omega
theorem mq_sum_le {g : Nat → Int} (h0 : ∀ d, 0 ≤ g d) {d : Nat} : ∀ {D : Nat}, d < D → g d ≤ mq_sum g D
  | 0, h => absurd h (Nat.not_lt_zero _)
  | D + 1, h => by
    simp only [mq_sum]
    by_cases hd : d = D
    · subst hd
      have := mq_sum_ge h0 (D := d)
      omega
    · have := mq_sum_le h0 (D := D) (d := d) (by omega)
      have := h0 D
      omega
theorem wc_rk_up {h h' : wc_H} {st D : Nat} {rw : Nat → Nat} {cs : Nat → List Nat} {ids ids' c' : List Nat} (hlt : ∀ d, d < D → rw d < h.2.2.2.2.2) (k : wc_rk h st D rw cs ids) {d0 : Nat} (hd : d0 < D) (r : wc_rs h' (rw d0) st c' ids') (f : wc_ro h h' (rw d0) st (cs d0 ++ ids))
    (hs : ∀ a ∈ c' ++ ids', a ∈ cs d0 ++ ids ∨ h.2.2.2.2.2 ≤ a) (hn : h'.2.2.1 7 0 st = h.2.2.1 7 0 st + c'.length - (cs d0).length) :
    wc_rk h' st D rw (wc_u cs d0 c') ids' ∧ ∀ d, d < D → d ≠ d0 → h'.2.2.1 4 2 (rw d) = h.2.2.1 4 2 (rw d) ∧ wc_cn h'.2.2.1 h'.2.2.2.1 (cs d) = wc_cn h.2.2.1 h.2.2.2.1 (cs d) := by
  obtain ⟨k1, k2, k3, k4, k4b, k5, k6, k7, k8⟩ := k
  obtain ⟨f1, f2, f3, f4, f5, f6⟩ := f
  obtain ⟨r1, r2, r3, r4, r5, r6, r7⟩ := r
  have hold : ∀ d, d < D → d ≠ d0 → ∀ a ∈ cs d, ¬ (a ∈ cs d0 ++ ids ∨ h.2.2.2.2.2 ≤ a) := by
    intro d h1 h2 a ha z
    rcases z with z | z
    · rcases List.mem_append.mp z with z | z
      · exact k6 d d0 h1 hd h2 a ha z
      · exact (List.nodup_append.mp (k5 d h1)).2.2 a ha a z rfl
    · have := (k7 a (Or.inr ⟨d, h1, ha⟩)).2
      omega
  have hx : ∀ d, d < D → d ≠ d0 → rw d ≠ rw d0 := fun d h1 h2 z => h2 (k3 d d0 h1 hd z)
  have hu : ∀ d, d ≠ d0 → wc_u cs d0 c' d = cs d := fun d z => if_neg z
  have hu0 : wc_u cs d0 c' d0 = c' := if_pos rfl
  have hch : ∀ d, d < D → d ≠ d0 → ∀ a ∈ cs d, h'.2.2.2.2.1 9 2 a = h.2.2.2.2.1 9 2 a := fun d h1 h2 a ha => f6 9 2 a (fun z => absurd z.1 (by decide)) (fun z => absurd z.1 (by decide)) (fun z => hold d h1 h2 a ha z.2)
  refine ⟨⟨r3, fun d h1 => ?_, k3, r5, (List.nodup_append.mp r6).2.1, fun d h1 => ?_, fun d d' h1 h2 h3 a ha => ?_, fun a ha => ?_, ?_⟩, fun d h1 h2 => ⟨f4 _ _ _ (fun z => absurd z.1 (by decide)) (fun z => hx d h1 h2 z.2.2) (fun z => absurd z.1 (by decide)), ?_⟩⟩
  · by_cases z : d = d0
    · rw [z, hu0]
      exact ⟨r1, r2, r4⟩
    · rw [hu d z, f6 4 0 (rw d) (fun y => absurd y.1 (by decide)) (fun y => absurd y.2.1 (by decide)) (fun y => absurd y.1 (by decide)), f6 4 1 (rw d) (fun y => absurd y.1 (by decide)) (fun y => hx d h1 z y.2.2) (fun y => absurd y.1 (by decide))]
      refine ⟨?_, (k2 d h1).2.1, wc_ch_c (k2 d h1).2.2 (hch d h1 z)⟩
      rw [(f2 _ (hlt d h1)).1]
      exact (k2 d h1).1
  · by_cases z : d = d0
    · rw [z, hu0]
      exact r6
    · rw [hu d z]
      refine List.nodup_append.mpr ⟨(List.nodup_append.mp (k5 d h1)).1, (List.nodup_append.mp r6).2.1, fun a ha b hb e => ?_⟩
      subst e
      exact hold d h1 z a ha (hs a (List.mem_append_right _ hb))
  · by_cases z : d = d0
    · subst z
      rw [hu0] at ha
      rw [hu d' (Ne.symm h3)]
      exact fun y => hold d' h2 (Ne.symm h3) a y (hs a (List.mem_append_left _ ha))
    · rw [hu d z] at ha
      by_cases z2 : d' = d0
      · subst z2
        rw [hu0]
        exact fun y => hold d h1 z a ha (hs a (List.mem_append_left _ y))
      · rw [hu d' z2]
        exact k6 d d' h1 h2 h3 a ha
  · rcases ha with ha | ⟨d, h1, ha⟩
    · exact r7 a (List.mem_append_right _ ha)
    · by_cases z : d = d0
      · subst z
        rw [hu0] at ha
        exact r7 a (List.mem_append_left _ ha)
      · rw [hu d z] at ha
        have := k7 a (Or.inr ⟨d, h1, ha⟩)
        exact ⟨(f2 a this.2).1.trans this.1, by omega⟩
  · rw [hn, k8]
    have e : (fun d => ((wc_u cs d0 c' d).length : Int)) = wc_u (fun d => ((cs d).length : Int)) d0 c'.length := by
      funext d
      by_cases z : d = d0
      · rw [z, hu0]
        exact (if_pos rfl).symm
      · rw [hu d z]
        exact (if_neg z).symm
    rw [e, mq_sum_u hd]
  · exact List.map_congr_left (fun a ha => by rw [f5 9 0 a (fun z => hold d h1 h2 a ha z.2), f4 9 1 a (fun z => absurd z.1 (by decide)) (fun z => absurd z.1 (by decide)) (fun z => hold d h1 h2 a ha z.2)])
/-- the rows with their values and contents -/
def wc_rv (h : wc_H) (st D : Nat) (rw : Nat → Nat) (vl : Nat → Int) (ct : Nat → List (Int × Int)) : Prop :=
  st < h.2.2.2.2.2 ∧ (∀ d, d < D → rw d < h.2.2.2.2.2) ∧ mq_sum (fun d => ((ct d).length : Int)) D ≤ 8192 ∧ ∃ cs ids, wc_rk h st D rw cs ids ∧ ∀ d, d < D → h.2.2.1 4 2 (rw d) = vl d ∧ wc_cn h.2.2.1 h.2.2.2.1 (cs d) = ct d
theorem wc_rv_x {h : wc_H} {st D : Nat} {rw : Nat → Nat} {vl vl' : Nat → Int} {ct ct' : Nat → List (Int × Int)} (a : wc_rv h st D rw vl ct) (e : ∀ d, d < D → vl' d = vl d ∧ ct' d = ct d) : wc_rv h st D rw vl' ct' := by
  obtain ⟨a1, a2, a3, cs, ids, a4, a5⟩ := a
  refine ⟨a1, a2, ?_, cs, ids, a4, fun d hd => ?_⟩
  · rw [mq_sum_x (fun d hd => by rw [(e d hd).2])]
    exact a3
  · rw [(e d hd).1, (e d hd).2]
    exact a5 d hd
theorem wc_cn_len {I L : wm_F Int} {l : List Nat} : (wc_cn I L l).length = l.length := by simp [wc_cn]
theorem wc_rv_n {h : wc_H} {st D : Nat} {rw : Nat → Nat} {vl : Nat → Int} {ct : Nat → List (Int × Int)} {cs : Nat → List Nat} {ids : List Nat} (k : wc_rk h st D rw cs ids) (e : ∀ d, d < D → h.2.2.1 4 2 (rw d) = vl d ∧ wc_cn h.2.2.1 h.2.2.2.1 (cs d) = ct d) : h.2.2.1 7 0 st = mq_sum (fun d => ((ct d).length : Int)) D := by
  rw [k.2.2.2.2.2.2.2.2]
  exact mq_sum_x (fun d hd => by rw [← (e d hd).2, wc_cn_len])
theorem wc_tw {I L : wm_F Int} {P : Int → Bool} : ∀ {l : List Nat}, (wc_cn I L l).takeWhile (fun y => P y.1) = wc_cn I L (l.takeWhile (fun a => P (L 9 0 a)))
  | [] => rfl
  | a :: l => by
    simp only [wc_cn, List.map_cons, List.takeWhile_cons]
    split
    · have := wc_tw (I := I) (L := L) (P := P) (l := l)
      simp only [wc_cn] at this
      rw [this, List.map_cons]
    · rfl
theorem wc_dw {I L : wm_F Int} {P : Int → Bool} : ∀ {l : List Nat}, (wc_cn I L l).dropWhile (fun y => P y.1) = wc_cn I L (l.dropWhile (fun a => P (L 9 0 a)))
  | [] => rfl
  | a :: l => by
    simp only [wc_cn, List.map_cons, List.dropWhile_cons]
    split
    · exact wc_dw (I := I) (L := L) (P := P) (l := l)
    · rfl
/-- one row takes what is due -/
def wc_dr (t : Int) (l : List (Int × Int)) : List (Int × Int) := l.dropWhile (fun y => decide (y.1 ≤ t))
theorem wc_dr_len {t : Int} {l : List (Int × Int)} : (wc_dr t l).length ≤ l.length := by
  have := List.takeWhile_append_dropWhile (p := fun y : Int × Int => decide (y.1 ≤ t)) (l := l)
  have := congrArg List.length this
  rw [List.length_append] at this
  unfold wc_dr
  omega
theorem wc_rv_due {tg ln : Nat → Nat} {I L I1 : wm_F Int} {R R1 : wm_F (Option Nat)} {n st D : Nat} {rw : Nat → Nat} {vl : Nat → Int} {ct : Nat → List (Int × Int)} {cs : Nat → List Nat} {ids : List Nat} {t : Int} (hlt : ∀ d, d < D → rw d < n) (hst : st < n) (hsm : mq_sum (fun d => ((ct d).length : Int)) D ≤ 8192) (k : wc_rk (tg, ln, I, L, R, n) st D rw cs ids) (e : ∀ d, d < D → I 4 2 (rw d) = vl d ∧ wc_cn I L (cs d) = ct d) {d0 : Nat} (hd : d0 < D)
    (z1 : wc_rs (tg, ln, I1, L, R1, n) (rw d0) st ((cs d0).dropWhile (fun a => decide (L 9 0 a ≤ t))) (((cs d0).takeWhile (fun a => decide (L 9 0 a ≤ t))).reverse ++ ids)) (z2 : wc_ro (tg, ln, I, L, R, n) (tg, ln, I1, L, R1, n) (rw d0) st (cs d0 ++ ids)) (z3 : I1 7 0 st = I 7 0 st - ((cs d0).takeWhile (fun a => decide (L 9 0 a ≤ t))).length) (z4 : I1 4 2 (rw d0) = wc_va t (I 4 2 (rw d0)) (wc_cn I L (cs d0))) (z5 : ∀ t j a, ¬ (t = 7 ∧ j = 0 ∧ a = st) → ¬ (t = 4 ∧ j = 2 ∧ a = rw d0) → I1 t j a = I t j a) :
    wc_rv (tg, ln, I1, L, R1, n) st D rw (wc_u vl d0 (wc_va t (vl d0) (ct d0))) (wc_u ct d0 (wc_dr t (ct d0))) ∧ ((cs d0).takeWhile (fun a => decide (L 9 0 a ≤ t)) = [] ↔ ∀ y, (ct d0).head? = some y → t < y.1) := by
  have e0 : (cs d0).takeWhile (fun a => decide (L 9 0 a ≤ t)) ++ (cs d0).dropWhile (fun a => decide (L 9 0 a ≤ t)) = cs d0 := List.takeWhile_append_dropWhile
  have e1 := congrArg List.length e0
  rw [List.length_append] at e1
  obtain ⟨y1, y2⟩ := wc_rk_up hlt k hd z1 z2 (fun a ha => by
    rcases List.mem_append.mp ha with z | z
    · exact Or.inl (List.mem_append_left _ ((List.dropWhile_sublist _).subset z))
    · rcases List.mem_append.mp z with z | z
      · exact Or.inl (List.mem_append_left _ ((List.takeWhile_sublist _).subset (List.mem_reverse.mp z)))
      · exact Or.inl (List.mem_append_right _ z)) (by
    show I1 7 0 st = I 7 0 st + _ - _
    rw [z3]
    omega)
  have hc : wc_cn I1 L ((cs d0).dropWhile (fun a => decide (L 9 0 a ≤ t))) = wc_dr t (ct d0) := by
    rw [← (e d0 hd).2]
    unfold wc_dr
    rw [wc_dw (P := fun x => decide (x ≤ t))]
    exact List.map_congr_left (fun a ha => by rw [z5 9 1 a (fun z => absurd z.1 (by decide)) (fun z => absurd z.1 (by decide))])
  refine ⟨⟨hst, hlt, ?_, _, _, y1, fun d h1 => ?_⟩, ?_⟩
  · have e : (fun d => ((wc_u ct d0 (wc_dr t (ct d0)) d).length : Int)) = wc_u (fun d => ((ct d).length : Int)) d0 (wc_dr t (ct d0)).length := by
      funext d
      by_cases z : d = d0
      · simp only [wc_u, if_pos z]
      · simp only [wc_u, if_neg z]
    rw [e, mq_sum_u hd]
    have := wc_dr_len (t := t) (l := ct d0)
    omega
  · by_cases z : d = d0
    · subst z
      simp only [wc_u, if_pos]
      refine ⟨?_, hc⟩
      rw [z4, (e d hd).1, (e d hd).2]
    · simp only [wc_u, if_neg z]
      have := y2 d h1 z
      have h9 := e d h1
      exact ⟨this.1.trans h9.1, this.2.trans h9.2⟩
  · rw [← (e d0 hd).2]
    cases cs d0 with
    | nil => simp [wc_cn]
    | cons a r =>
      simp only [wc_cn, List.map_cons, List.head?_cons, List.takeWhile_cons]
      constructor
      · intro z y hy
        cases hy
        split at z
        · cases z
        · rename_i h9
          simp only [decide_eq_true_eq] at h9
          omega
      · intro z
        have := z _ rfl
        rw [if_neg (by simp only [decide_eq_true_eq]; omega)]
/-- the rows of a chain of drivers, up to a row of the next one -/
def wc_in (l : List (Nat × Nat)) (w d : Nat) : Prop := ∃ c ∈ l, c.2 ≤ d ∧ d < c.2 + w
/-- the soonest of some rows -/
def wc_so (ct : Nat → List (Int × Int)) (S : Nat → Prop) (t : Int) : Prop := (t = -1 ∧ ∀ d, S d → ct d = []) ∨ (0 ≤ t ∧ (∃ d y, S d ∧ (ct d).head? = some y ∧ y.1 = t) ∧ ∀ d y, S d → (ct d).head? = some y → t ≤ y.1)
theorem wc_so_a {ct : Nat → List (Int × Int)} {S S' : Nat → Prop} {t u : Int} {d : Nat} (h : wc_so ct S t) (hS : ∀ e, S' e ↔ S e ∨ e = d) (hu : (u = -1 ∧ ct d = []) ∨ (0 ≤ u ∧ ∃ y, (ct d).head? = some y ∧ y.1 = u)) {z : Int} (hz : (t = -1 ∧ z = u) ∨ (t ≠ -1 ∧ (u = -1 ∨ t ≤ u) ∧ z = t) ∨ (t ≠ -1 ∧ u ≠ -1 ∧ u < t ∧ z = u)) : wc_so ct S' z := by
  rcases h with ⟨h1, h2⟩ | ⟨h1, ⟨d1, y1, h2, h3, h4⟩, h5⟩
  · have : z = u := by omega
    subst this
    rcases hu with ⟨u1, u2⟩ | ⟨u1, y, u2, u3⟩
    · refine Or.inl ⟨u1, fun e he => ?_⟩
      rcases (hS e).mp he with k | k
      · exact h2 e k
      · rw [k]; exact u2
    · refine Or.inr ⟨u1, ⟨d, y, (hS d).mpr (Or.inr rfl), u2, u3⟩, fun e y' he hy => ?_⟩
      rcases (hS e).mp he with k | k
      · rw [h2 e k] at hy; cases hy
      · rw [k, u2] at hy; cases hy; omega
  · rcases hu with ⟨u1, u2⟩ | ⟨u1, y, u2, u3⟩
    · have : z = t := by omega
      subst this
      refine Or.inr ⟨h1, ⟨d1, y1, (hS d1).mpr (Or.inl h2), h3, h4⟩, fun e y' he hy => ?_⟩
      rcases (hS e).mp he with k | k
      · exact h5 e y' k hy
      · rw [k, u2] at hy; cases hy
    · by_cases hle : t ≤ u
      · have : z = t := by omega
        subst this
        refine Or.inr ⟨h1, ⟨d1, y1, (hS d1).mpr (Or.inl h2), h3, h4⟩, fun e y' he hy => ?_⟩
        rcases (hS e).mp he with k | k
        · exact h5 e y' k hy
        · rw [k, u2] at hy; cases hy; omega
      · have : z = u := by omega
        subst this
        refine Or.inr ⟨u1, ⟨d, y, (hS d).mpr (Or.inr rfl), u2, u3⟩, fun e y' he hy => ?_⟩
        rcases (hS e).mp he with k | k
        · have := h5 e y' k hy; omega
        · rw [k, u2] at hy; cases hy; omega
theorem wc_so_x {ct : Nat → List (Int × Int)} {S S' : Nat → Prop} {t : Int} (h : wc_so ct S t) (hS : ∀ e, S' e ↔ S e) : wc_so ct S' t := by
  have : S' = S := funext (fun e => propext (hS e))
  rw [this]; exact h
end
section
/-! THE CLASS, 8b: soonest and takeDue of a signal -/
def sc_52 (as : List wi_V) (h : wc_H) (q : wi_Q1 wc_H) (qt : wi_Q2 wc_H) : Prop := wc_sT as (fun x => wc_f h fun tg ln I L R n => tg x = 5 ∧ ∃ (w : Nat) (rw : Nat → Nat) (pp : Nat → Int) (l : List (Nat × Nat)) (st D : Nat) (vl : Nat → Int) (ct : Nat → List (Int × Int)), I 5 1 x = w ∧ w ≤ 64 ∧ wc_dc tg ln (I 3) (R 3) (R 22) w rw pp (R 5 4 x) l ∧ wc_rv (tg, ln, I, L, R, n) st D rw vl ct ∧ (∀ c ∈ l, c.2 + w ≤ D) ∧ (∀ d, d < D → ∀ y ∈ ct d, 0 ≤ y.1) ∧ ∀ t, wc_so ct (wc_in l w) t → q (some (.inr (.inl t))) (tg, ln, I, L, R, n))
theorem cm_52 {l : Launch} {D : va_G} {aC : wm_Y} {b0 : Nat} (hl0 : l.stackTraces = false) : wm_sp l D aC b0 52 (wi_lf (wc_Rl wc_ok) sc_52) := by
  refine wi_method (wc_lw wc_ok) 52 (cx := fun id => if id = 33 then sc_33 else if id = 39 then sc_39 else fun _ _ _ _ => False) (ids := ci_52) (tb := tb_52) (by decide +kernel) hl0 (wm_cxc (cm_33 hl0) oi_52 (fun h => wm_cxc (cm_39 hl0) h (fun h => wm_cxn h))) (wm_tb_ok tk_52) (by decide +kernel) [9, 16] 250 (fun as h q qt hs => ?_)
  obtain ⟨x, rfl, hs1⟩ := wc_sT_e hs
  clear hs
  obtain ⟨tg, ln, I, L, R, n⟩ := h
  have hs := id hs1
  clear hs1
  simp only [wc_f] at hs
  obtain ⟨a1, w, rw, pp, l, st, D, vl, ct, e1, r1, c1, ⟨g1, g2, g3, cs, ids, g4, g5⟩, c2, c3, h1⟩ := hs
  refine ⟨rfl, fun mz pc lv sk h cu su => match pc with | 9 => ∃ v : Option Nat, ∃ t : Int, ∃ P : List (Nat × Nat), ∃ r : List (Nat × Nat), ∃ w4 : Option wi_V, lv = [some (wi_rf (some x)), some (.inr (.inl (t))), none, some (wi_rf (v)), w4] ∧ sk = [] ∧ h = (tg, ln, I, L, R, n) ∧ cu = 0 ∧ su = 0 ∧ mz = 100 * r.length + 99 ∧ l = P ++ r ∧ wc_dc tg ln (I 3) (R 3) (R 22) w rw pp v r ∧ wc_so ct (wc_in P w) t | 16 => ∃ c : Nat × Nat, ∃ t : Int, ∃ P : List (Nat × Nat), ∃ r : List (Nat × Nat), ∃ k : Nat, lv = [some (wi_rf (some x)), some (.inr (.inl (t))), none, some (wi_rf (some c.1)), some (.inl ((k : Int)))] ∧ sk = [] ∧ h = (tg, ln, I, L, R, n) ∧ cu = 0 ∧ su = 0 ∧ mz = 100 * r.length + 100 + (w - k) ∧ l = P ++ c :: r ∧ k ≤ w ∧ wc_dc tg ln (I 3) (R 3) (R 22) w rw pp (some c.1) (c :: r) ∧ wc_so ct (fun d => wc_in P w d ∨ (c.2 ≤ d ∧ d < c.2 + k)) t | _ => False, mq_c2 (fun mz lv sk h cu su hI => ?_) (fun mz lv sk h cu su hI => ?_), ?_⟩
  · obtain ⟨v, t, P, r, w4, rfl, rfl, rfl, rfl, rfl, rfl, p1, p2, p3⟩ := hI
    cases r with
    | nil =>
      cases (show v = none from p2)
      rw [List.append_nil] at p1
      subst p1
      have f1 := h1 t p3
      repeat' first
        | refine And.intro ?_ ?_
        | (intro q9 (e9 : (_ : Option Nat) = some q9); cases e9)
        | (intro (e9 : (some _ : Option Nat) = none); cases e9)
        | (intro (e9 : (none : Option Nat) = none); clear e9)
        | refine Exists.intro _ (And.intro (show _ = _ from by assumption) ?_)
        | refine Exists.intro _ (And.intro rfl (And.intro (by assumption) ?_))
        | refine Exists.intro _ (And.intro rfl ?_)
        | (intro h; try omega)
        | omega
        | exact f1
        | exact Nat.le_of_ble_eq_true rfl
        | assumption
    | cons c r =>
      have p2' := id p2
      obtain ⟨rfl, b1, -⟩ := p2'
      repeat' first
        | refine And.intro ?_ ?_
        | (intro q9 (e9 : (_ : Option Nat) = some q9); cases e9)
        | (intro (e9 : (some _ : Option Nat) = none); cases e9)
        | (intro (e9 : (none : Option Nat) = none); clear e9)
        | refine Exists.intro _ (And.intro (show _ = _ from by assumption) ?_)
        | refine Exists.intro _ (And.intro rfl (And.intro (by assumption) ?_))
        | refine Exists.intro _ (And.intro rfl ?_)
        | (intro h; try omega)
        | omega
        | (refine Exists.intro _ (And.intro ?_ (Exists.intro (c) (Exists.intro (t) (Exists.intro (P) (Exists.intro (r) (Exists.intro (0) (And.intro rfl (And.intro rfl (And.intro rfl (And.intro rfl (And.intro rfl (And.intro rfl (?_))))))))))))) <;> first | (simp only [List.length_cons]; omega) | exact ⟨p1, Nat.zero_le _, p2, wc_so_x p3 (fun e => ⟨fun z => z.elim id (fun y => absurd y.2 (by omega)), Or.inl⟩)⟩)
        | exact Nat.le_of_ble_eq_true rfl
        | assumption
  · obtain ⟨c, t, P, r, k, rfl, rfl, rfl, rfl, rfl, rfl, p1, p2, p3, p4⟩ := hI
    obtain ⟨-, b1, b2, ⟨ra, b3, b4, b5, b6⟩, b7⟩ := id p3
    have hm : c ∈ l := by rw [p1]; simp
    have hD := c2 c hm
    have ek : ((k : Int)).toNat = k := by omega
    have fin : (w : Int) ≤ k → wc_so ct (wc_in (P ++ [c]) w) t := fun z => by
      have : k = w := by omega
      subst this
      refine wc_so_x p4 (fun e => ?_)
      simp [wc_in, or_and_right, exists_or]
    by_cases hk : k < w
    · have b8 := b6 k hk
      have hd : c.2 + k < D := by omega
      obtain ⟨x1, x2, x3⟩ := g4.2.1 (c.2 + k) hd
      have bl : k < ln ra := by omega
      have b8' : R 22 (k : Int).toNat ra = some (rw (c.2 + k)) := by rw [ek]; exact b8
      have m9 : ∀ a, R 4 1 (rw (c.2 + k)) = some a → tg a = 9 ∧ ∃ y, (ct (c.2 + k)).head? = some y ∧ y.1 = L 9 0 a ∧ 0 ≤ L 9 0 a := by
        intro a ha
        have h9 := wc_ch_h x3
        simp only at h9
        rw [ha] at h9
        have hma : a ∈ cs (c.2 + k) := List.mem_of_mem_head? h9.symm
        refine ⟨(g4.2.2.2.2.2.2.2.1 a (Or.inr ⟨_, hd, hma⟩)).1, (L 9 0 a, I 9 1 a), ?_, rfl, ?_⟩
        · rw [← (g5 _ hd).2]
          simp only [wc_cn, List.head?_map]
          rw [← h9]
          rfl
        · refine c3 _ hd (L 9 0 a, I 9 1 a) ?_
          rw [← (g5 _ hd).2]
          exact List.mem_map_of_mem hma
      have m0 : R 4 1 (rw (c.2 + k)) = none → ct (c.2 + k) = [] := by
        intro ha
        have h9 := wc_ch_h x3
        simp only at h9
        rw [ha] at h9
        rw [← (g5 _ hd).2, List.head?_eq_none_iff.mp h9.symm]
        rfl
      have sS : ∀ e, (wc_in P w e ∨ (c.2 ≤ e ∧ e < c.2 + (k + 1))) ↔ (wc_in P w e ∨ (c.2 ≤ e ∧ e < c.2 + k)) ∨ e = c.2 + k := fun e => ⟨fun z => by
          rcases z with z | z
          · exact Or.inl (Or.inl z)
          · by_cases y : e = c.2 + k
            · exact Or.inr y
            · exact Or.inl (Or.inr (by omega)), fun z => by
          rcases z with (z | z) | z
          · exact Or.inl z
          · exact Or.inr (by omega)
          · exact Or.inr (by omega)⟩
      have nx : ∀ u z, ((u = -1 ∧ ct (c.2 + k) = []) ∨ (0 ≤ u ∧ ∃ y, (ct (c.2 + k)).head? = some y ∧ y.1 = u)) → ((t = -1 ∧ z = u) ∨ (t ≠ -1 ∧ (u = -1 ∨ t ≤ u) ∧ z = t) ∨ (t ≠ -1 ∧ u ≠ -1 ∧ u < t ∧ z = u)) → wc_so ct (fun d => wc_in P w d ∨ (c.2 ≤ d ∧ d < c.2 + (k + 1))) z := fun u z hu hz => wc_so_a p4 sS hu hz
      repeat' first
        | refine And.intro ?_ ?_
        | (intro a9 (e9 : R 4 1 (rw (c.2 + k)) = some a9); obtain ⟨m1, y9, m2, m3, m4⟩ := m9 a9 e9; have m9y : ∃ y, (ct (c.2 + k)).head? = some y ∧ y.1 = L 9 0 a9 := ⟨y9, m2, m3⟩)
        | (intro (e9 : R 4 1 (rw (c.2 + k)) = none))
        | refine Exists.intro _ (And.intro b3 (And.intro b4 ?_))
        | refine Exists.intro _ (And.intro b8' ?_)
        | exact m1
        | (intro q9 (e9 : (_ : Option Nat) = some q9); cases e9)
        | (intro (e9 : (some _ : Option Nat) = none); cases e9)
        | (intro (e9 : (none : Option Nat) = none); clear e9)
        | refine Exists.intro _ (And.intro (show _ = _ from by assumption) ?_)
        | refine Exists.intro _ (And.intro rfl (And.intro (by assumption) ?_))
        | refine Exists.intro _ (And.intro rfl ?_)
        | (intro h; try omega)
        | omega
        | (have hnx := nx _ _ (Or.inl ⟨rfl, m0 (by assumption)⟩) (Or.inl ⟨by omega, rfl⟩); (refine Exists.intro _ (And.intro ?_ (Exists.intro (c) (Exists.intro (_) (Exists.intro (P) (Exists.intro (r) (Exists.intro (k + 1) (And.intro rfl (And.intro rfl (And.intro rfl (And.intro rfl (And.intro rfl (And.intro rfl (?_))))))))))))) <;> first | omega | exact ⟨p1, by omega, p3, hnx⟩))
        | (have hnx := nx _ _ (Or.inl ⟨rfl, m0 (by assumption)⟩) (Or.inr (Or.inl ⟨by omega, by omega, rfl⟩)); (refine Exists.intro _ (And.intro ?_ (Exists.intro (c) (Exists.intro (_) (Exists.intro (P) (Exists.intro (r) (Exists.intro (k + 1) (And.intro rfl (And.intro rfl (And.intro rfl (And.intro rfl (And.intro rfl (And.intro rfl (?_))))))))))))) <;> first | omega | exact ⟨p1, by omega, p3, hnx⟩))
        | (have hnx := nx _ _ (Or.inr ⟨by omega, m9y⟩) (Or.inl ⟨by omega, rfl⟩); (refine Exists.intro _ (And.intro ?_ (Exists.intro (c) (Exists.intro (_) (Exists.intro (P) (Exists.intro (r) (Exists.intro (k + 1) (And.intro rfl (And.intro rfl (And.intro rfl (And.intro rfl (And.intro rfl (And.intro rfl (?_))))))))))))) <;> first | omega | exact ⟨p1, by omega, p3, hnx⟩))
        | (have hnx := nx _ _ (Or.inr ⟨by omega, m9y⟩) (Or.inr (Or.inl ⟨by omega, by omega, rfl⟩)); (refine Exists.intro _ (And.intro ?_ (Exists.intro (c) (Exists.intro (_) (Exists.intro (P) (Exists.intro (r) (Exists.intro (k + 1) (And.intro rfl (And.intro rfl (And.intro rfl (And.intro rfl (And.intro rfl (And.intro rfl (?_))))))))))))) <;> first | omega | exact ⟨p1, by omega, p3, hnx⟩))
        | (have hnx := nx _ _ (Or.inr ⟨by omega, m9y⟩) (Or.inr (Or.inr ⟨by omega, by omega, by omega, rfl⟩)); (refine Exists.intro _ (And.intro ?_ (Exists.intro (c) (Exists.intro (_) (Exists.intro (P) (Exists.intro (r) (Exists.intro (k + 1) (And.intro rfl (And.intro rfl (And.intro rfl (And.intro rfl (And.intro rfl (And.intro rfl (?_))))))))))))) <;> first | omega | exact ⟨p1, by omega, p3, hnx⟩))
        | exact Nat.le_of_ble_eq_true rfl
        | assumption
    · have fin := fin (by omega)
      repeat' first
        | refine And.intro ?_ ?_
        | (intro q9 (e9 : (_ : Option Nat) = some q9); cases e9)
        | (intro (e9 : (some _ : Option Nat) = none); cases e9)
        | (intro (e9 : (none : Option Nat) = none); clear e9)
        | refine Exists.intro _ (And.intro (show _ = _ from by assumption) ?_)
        | refine Exists.intro _ (And.intro rfl (And.intro (by assumption) ?_))
        | refine Exists.intro _ (And.intro rfl ?_)
        | (intro h; try omega)
        | omega
        | (refine Exists.intro _ (And.intro ?_ (Exists.intro (_) (Exists.intro (t) (Exists.intro (P ++ [c]) (Exists.intro (r) (Exists.intro (_) (And.intro rfl (And.intro rfl (And.intro rfl (And.intro rfl (And.intro rfl (And.intro rfl (?_))))))))))))) <;> first | omega | exact ⟨by rw [p1]; simp, b7, fin⟩)
        | exact Nat.le_of_ble_eq_true rfl
        | assumption
  · repeat' first
      | refine And.intro ?_ ?_
      | refine Exists.intro _ (And.intro (show _ = _ from by assumption) ?_)
      | refine Exists.intro _ (And.intro rfl (And.intro (by assumption) ?_))
      | refine Exists.intro _ (And.intro rfl ?_)
      | (intro h; try omega)
      | omega
      | (refine Exists.intro _ (Exists.intro (_) (Exists.intro (_) (Exists.intro ([]) (Exists.intro (l) (Exists.intro (_) (And.intro rfl (And.intro rfl (And.intro rfl (And.intro rfl (And.intro rfl (And.intro rfl (?_)))))))))))) <;> exact ⟨rfl, c1, Or.inl ⟨rfl, fun d hd => (by obtain ⟨c, hc, -⟩ := hd; cases hc)⟩⟩)
      | exact Nat.le_of_ble_eq_true rfl
      | assumption
/-- the rows of S have taken what is due -/
def wc_tq (S : Nat → Prop) (t : Int) (vl : Nat → Int) (ct : Nat → List (Int × Int)) (vl' : Nat → Int) (ct' : Nat → List (Int × Int)) : Prop := ∀ d, (S d → vl' d = wc_va t (vl d) (ct d) ∧ ct' d = wc_dr t (ct d)) ∧ (¬ S d → vl' d = vl d ∧ ct' d = ct d)
def wc_ha (S : Nat → Prop) (t : Int) (ct : Nat → List (Int × Int)) : Prop := ∃ d y, S d ∧ (ct d).head? = some y ∧ y.1 ≤ t
def wc_ac (S : Nat → Prop) (t : Int) (ct : Nat → List (Int × Int)) (a : Int) : Prop := (a = 1 ∧ wc_ha S t ct) ∨ (a = 0 ∧ ¬ wc_ha S t ct)
theorem wc_ac_b {S : Nat → Prop} {t : Int} {ct : Nat → List (Int × Int)} {a : Int} (h : wc_ac S t ct a) : a = 0 ∨ a = 1 := h.elim (fun z => Or.inr z.1) (fun z => Or.inl z.1)
theorem wc_ha_s {S S' : Nat → Prop} {t : Int} {ct : Nat → List (Int × Int)} {d : Nat} (hS : ∀ e, S' e ↔ S e ∨ e = d) : wc_ha S' t ct ↔ wc_ha S t ct ∨ ¬ ∀ y, (ct d).head? = some y → t < y.1 := by
  constructor
  · rintro ⟨e, y, h1, h2, h3⟩
    rcases (hS e).mp h1 with z | z
    · exact Or.inl ⟨e, y, z, h2, h3⟩
    · subst z
      exact Or.inr (fun k => absurd (k y h2) (by omega))
  · rintro (⟨e, y, h1, h2, h3⟩ | k)
    · exact ⟨e, y, (hS e).mpr (Or.inl h1), h2, h3⟩
    · apply Classical.byContradiction
      intro z
      exact k (fun y hy => Classical.byContradiction fun h9 => z ⟨d, y, (hS d).mpr (Or.inr rfl), hy, by omega⟩)
def sc_53 (as : List wi_V) (h : wc_H) (q : wi_Q1 wc_H) (qt : wi_Q2 wc_H) : Prop := wc_sTJ as (fun x t => wc_f h fun tg ln I L R n => tg x = 5 ∧ (∀ q, tg q ≠ 0 → q < n) ∧ ∃ (w : Nat) (rw : Nat → Nat) (pp : Nat → Int) (l : List (Nat × Nat)) (st D : Nat) (vl : Nat → Int) (ct : Nat → List (Int × Int)), I 5 1 x = w ∧ w ≤ 64 ∧ wc_dc tg ln (I 3) (R 3) (R 22) w rw pp (R 5 4 x) l ∧ wc_rv (tg, ln, I, L, R, n) st D rw vl ct ∧ (∀ c ∈ l, c.2 + w ≤ D) ∧ l.Pairwise (fun a b => b.2 + w ≤ a.2) ∧ ∀ h' vl' ct' a, wc_rv h' st D rw vl' ct' → wc_fx (tg, ln, I, L, R, n) h' → wc_tq (wc_in l w) t vl ct vl' ct' → wc_ac (wc_in l w) t ct a → q (some (.inl a)) h')
theorem cm_53 {l : Launch} {D : va_G} {aC : wm_Y} {b0 : Nat} (hl0 : l.stackTraces = false) : wm_sp l D aC b0 53 (wi_lf (wc_Rl wc_ok) sc_53) := by
  refine wi_method (wc_lw wc_ok) 53 (cx := fun id => if id = 41 then sc_41 else fun _ _ _ _ => False) (ids := ci_53) (tb := tb_53) (by decide +kernel) hl0 (wm_cxc (cm_41 hl0) oi_53 (fun h => wm_cxn h)) (wm_tb_ok tk_53) (by decide +kernel) [8, 16] 250 (fun as h q qt hs => ?_)
  obtain ⟨x, t, rfl, hs1⟩ := wc_sTJ_e hs
  clear hs
  obtain ⟨tg, ln, I, L, R, n⟩ := h
  have hs := id hs1
  clear hs1
  simp only [wc_f] at hs
  obtain ⟨a1, hn, w, rw, pp, l, st, D, vl, ct, e1, r1, c1, g0, c2, c3, h1⟩ := hs
  refine ⟨rfl, fun mz pc lv sk h cu su => match pc with | 8 => ∃ v : Option Nat, ∃ P : List (Nat × Nat), ∃ r : List (Nat × Nat), ∃ w5 : Option wi_V, ∃ tg2 : Nat → Nat, ∃ ln2 : Nat → Nat, ∃ I2 : wm_F Int, ∃ L2 : wm_F Int, ∃ R2 : wm_F (Option Nat), ∃ n2 : Nat, ∃ vl2 : Nat → Int, ∃ ct2 : Nat → List (Int × Int), ∃ a : Int, lv = [some (wi_rf (some x)), some (.inr (.inl (t))), none, some (.inl (a)), some (wi_rf (v)), w5] ∧ sk = [] ∧ h = (tg2, ln2, I2, L2, R2, n2) ∧ cu = 0 ∧ su = 0 ∧ mz = 100 * r.length + 99 ∧ l = P ++ r ∧ wc_dc tg ln (I 3) (R 3) (R 22) w rw pp v r ∧ wc_rv (tg2, ln2, I2, L2, R2, n2) st D rw vl2 ct2 ∧ wc_fx (tg, ln, I, L, R, n) (tg2, ln2, I2, L2, R2, n2) ∧ wc_tq (wc_in P w) t vl ct vl2 ct2 ∧ wc_ac (wc_in P w) t ct a | 16 => ∃ c : Nat × Nat, ∃ P : List (Nat × Nat), ∃ r : List (Nat × Nat), ∃ k : Nat, ∃ tg2 : Nat → Nat, ∃ ln2 : Nat → Nat, ∃ I2 : wm_F Int, ∃ L2 : wm_F Int, ∃ R2 : wm_F (Option Nat), ∃ n2 : Nat, ∃ vl2 : Nat → Int, ∃ ct2 : Nat → List (Int × Int), ∃ a : Int, lv = [some (wi_rf (some x)), some (.inr (.inl (t))), none, some (.inl (a)), some (wi_rf (some c.1)), some (.inl ((k : Int)))] ∧ sk = [] ∧ h = (tg2, ln2, I2, L2, R2, n2) ∧ cu = 0 ∧ su = 0 ∧ mz = 100 * r.length + 100 + (w - k) ∧ l = P ++ c :: r ∧ k ≤ w ∧ wc_dc tg ln (I 3) (R 3) (R 22) w rw pp (some c.1) (c :: r) ∧ wc_rv (tg2, ln2, I2, L2, R2, n2) st D rw vl2 ct2 ∧ wc_fx (tg, ln, I, L, R, n) (tg2, ln2, I2, L2, R2, n2) ∧ wc_tq (fun d => wc_in P w d ∨ (c.2 ≤ d ∧ d < c.2 + k)) t vl ct vl2 ct2 ∧ wc_ac (fun d => wc_in P w d ∨ (c.2 ≤ d ∧ d < c.2 + k)) t ct a | _ => False, mq_c2 (fun mz lv sk h cu su hI => ?_) (fun mz lv sk h cu su hI => ?_), ?_⟩
  · obtain ⟨v, P, r, w5, tg2, ln2, I2, L2, R2, n2, vl2, ct2, a, rfl, rfl, rfl, rfl, rfl, rfl, p1, p2, p3, p4, p5, p6⟩ := hI
    cases r with
    | nil =>
      cases (show v = none from p2)
      rw [List.append_nil] at p1
      subst p1
      have f1 := h1 _ _ _ _ p3 p4 p5 p6
      repeat' first
        | refine And.intro ?_ ?_
        | (intro q9 (e9 : (_ : Option Nat) = some q9); cases e9)
        | (intro (e9 : (some _ : Option Nat) = none); cases e9)
        | (intro (e9 : (none : Option Nat) = none); clear e9)
        | refine Exists.intro _ (And.intro (show _ = _ from by assumption) ?_)
        | refine Exists.intro _ (And.intro rfl (And.intro (by assumption) ?_))
        | refine Exists.intro _ (And.intro rfl ?_)
        | (intro h; try omega)
        | omega
        | exact f1
        | exact wc_ac_b p6
        | exact Nat.le_of_ble_eq_true rfl
        | assumption
    | cons c r =>
      have p2' := id p2
      obtain ⟨rfl, b1, -⟩ := p2'
      have hS : wc_in P w = (fun d => wc_in P w d ∨ (c.2 ≤ d ∧ d < c.2 + 0)) := funext (fun d => propext ⟨Or.inl, fun z => z.elim id (fun y => absurd y.2 (by omega))⟩)
      rw [hS] at p5 p6
      repeat' first
        | refine And.intro ?_ ?_
        | (intro q9 (e9 : (_ : Option Nat) = some q9); cases e9)
        | (intro (e9 : (some _ : Option Nat) = none); cases e9)
        | (intro (e9 : (none : Option Nat) = none); clear e9)
        | refine Exists.intro _ (And.intro (show _ = _ from by assumption) ?_)
        | refine Exists.intro _ (And.intro rfl (And.intro (by assumption) ?_))
        | refine Exists.intro _ (And.intro rfl ?_)
        | (intro h; try omega)
        | omega
        | (refine Exists.intro _ (And.intro ?_ (Exists.intro (c) (Exists.intro (P) (Exists.intro (r) (Exists.intro (0) (Exists.intro (_) (Exists.intro (_) (Exists.intro (_) (Exists.intro (_) (Exists.intro (_) (Exists.intro (_) (Exists.intro (vl2) (Exists.intro (ct2) (Exists.intro (_) (And.intro rfl (And.intro rfl (And.intro rfl (And.intro rfl (And.intro rfl (And.intro rfl (?_))))))))))))))))))))) <;> first | (simp only [List.length_cons]; omega) | exact ⟨p1, Nat.zero_le _, p2, p3, p4, p5, p6⟩)
        | exact Nat.le_of_ble_eq_true rfl
        | assumption
  · obtain ⟨c, P, r, k, tg2, ln2, I2, L2, R2, n2, vl2, ct2, a, rfl, rfl, rfl, rfl, rfl, rfl, p1, p2, p3, p4, p5, p6, p7⟩ := hI
    obtain ⟨-, b1, b2, ⟨ra, b3, b4, b5, b6⟩, b7⟩ := id p3
    obtain ⟨f1, f2, f3, f4⟩ := id p5
    simp only at f1 f2 f4
    have hm : c ∈ l := by rw [p1]; simp
    have hD := c2 c hm
    have ek : ((k : Int)).toNat = k := by omega
    have t5 : I2 5 1 x = w := by rw [(f4 5 (by decide) (by decide) (by decide)).1]; exact e1
    have q5 : tg2 x = 5 := (f2 x (hn x (by rw [a1]; decide))).1.trans a1
    have q3 : tg2 c.1 = 3 := (f2 _ (hn _ (by rw [b1]; decide))).1.trans b1
    have s3 : R2 3 1 c.1 = some ra := by rw [(f4 3 (by decide) (by decide) (by decide)).2.2]; exact b3
    have s3' : R2 3 2 c.1 = R 3 2 c.1 := by rw [(f4 3 (by decide) (by decide) (by decide)).2.2]
    have q22 : tg2 ra = 22 := (f2 _ (hn _ (by rw [b4]; decide))).1.trans b4
    have l22 : ln2 ra = w := (f2 _ (hn _ (by rw [b4]; decide))).2.trans b5
    by_cases hk : k < w
    · have b8' : R2 22 (k : Int).toNat ra = some (rw (c.2 + k)) := by rw [ek, (f4 22 (by decide) (by decide) (by decide)).2.2]; exact b6 k hk
      have hd : c.2 + k < D := by omega
      have bl : k < ln2 ra := by omega
      obtain ⟨g1, g2, g3, cs, ids, g4, g5⟩ := id p4
      have hr := wc_rk_rs g4 hd
      have hr4 : tg2 (rw (c.2 + k)) = 4 := hr.1
      have nS : ¬ (wc_in P w (c.2 + k) ∨ (c.2 ≤ c.2 + k ∧ c.2 + k < c.2 + k)) := by
        rintro (⟨c', hc', z1, z2⟩ | z)
        · rw [p1] at c3
          have := (List.pairwise_append.mp c3).2.2 c' hc' c List.mem_cons_self
          omega
        · omega
      have sS : ∀ e, (wc_in P w e ∨ (c.2 ≤ e ∧ e < c.2 + (k + 1))) ↔ (wc_in P w e ∨ (c.2 ≤ e ∧ e < c.2 + k)) ∨ e = c.2 + k := fun e => ⟨fun z => by
          rcases z with z | z
          · exact Or.inl (Or.inl z)
          · by_cases y : e = c.2 + k
            · exact Or.inr y
            · exact Or.inl (Or.inr (by omega)), fun z => by
          rcases z with (z | z) | z
          · exact Or.inl z
          · exact Or.inr (by omega)
          · exact Or.inr (by omega)⟩
      have e7 := wc_rv_n g4 g5
      simp only at e7 g3 g5
      have len0 : ((cs (c.2 + k)).length : Int) ≤ I2 7 0 st := by
        have := g4.2.2.2.2.2.2.2.2
        simp only at this
        rw [this]
        exact mq_sum_le (g := fun d => ((cs d).length : Int)) (fun d => Int.natCast_nonneg _) hd
      have len1 : I2 7 0 st ≤ 100000 := by omega
      have v0 := (p6 (c.2 + k)).2 nS
      have nx : ∀ I1 R1, wc_rs (tg2, ln2, I1, L2, R1, n2) (rw (c.2 + k)) st ((cs (c.2 + k)).dropWhile (fun a => decide (L2 9 0 a ≤ t))) (((cs (c.2 + k)).takeWhile (fun a => decide (L2 9 0 a ≤ t))).reverse ++ ids) → wc_ro (tg2, ln2, I2, L2, R2, n2) (tg2, ln2, I1, L2, R1, n2) (rw (c.2 + k)) st (cs (c.2 + k) ++ ids) → I1 7 0 st = I2 7 0 st - ((cs (c.2 + k)).takeWhile (fun a => decide (L2 9 0 a ≤ t))).length → I1 4 2 (rw (c.2 + k)) = wc_va t (I2 4 2 (rw (c.2 + k))) (wc_cn I2 L2 (cs (c.2 + k))) → (∀ t j a, ¬ (t = 7 ∧ j = 0 ∧ a = st) → ¬ (t = 4 ∧ j = 2 ∧ a = rw (c.2 + k)) → I1 t j a = I2 t j a) →
          ∃ vl3 ct3, wc_rv (tg2, ln2, I1, L2, R1, n2) st D rw vl3 ct3 ∧ wc_fx (tg, ln, I, L, R, n) (tg2, ln2, I1, L2, R1, n2) ∧ wc_tq (fun d => wc_in P w d ∨ (c.2 ≤ d ∧ d < c.2 + (k + 1))) t vl ct vl3 ct3 ∧ ∀ a', (((cs (c.2 + k)).takeWhile (fun a => decide (L2 9 0 a ≤ t)) ≠ [] ∧ a' = 1) ∨ ((cs (c.2 + k)).takeWhile (fun a => decide (L2 9 0 a ≤ t)) = [] ∧ a' = a)) → wc_ac (fun d => wc_in P w d ∨ (c.2 ≤ d ∧ d < c.2 + (k + 1))) t ct a' := by
        intro I1 R1 z1 z2 z3 z4 z5
        obtain ⟨y1, y2⟩ := wc_rv_due g2 g1 g3 g4 g5 hd z1 z2 z3 z4 z5
        refine ⟨_, _, y1, wc_fx_tr p5 (wc_fx_ro z2), fun d => ?_, fun a' ha => ?_⟩
        · by_cases hd2 : d = c.2 + k
          · subst hd2
            refine ⟨fun _ => ?_, fun z => absurd ((sS _).mpr (Or.inr rfl)) z⟩
            simp only [wc_u, if_pos]
            rw [v0.1, v0.2]
            exact ⟨rfl, rfl⟩
          · simp only [wc_u, if_neg hd2]
            exact ⟨fun z => (p6 d).1 (((sS d).mp z).resolve_right hd2), fun z => (p6 d).2 (fun y => z ((sS d).mpr (Or.inl y)))⟩
        · rw [v0.2] at y2
          have hh := wc_ha_s (t := t) (ct := ct) sS
          unfold wc_ac
          rw [hh]
          rcases ha with ⟨x1, x2⟩ | ⟨x1, x2⟩
          · exact Or.inl ⟨x2, Or.inr (fun z => x1 (y2.mpr z))⟩
          · have x3 := y2.mp x1
            rcases p7 with ⟨x4, x5⟩ | ⟨x4, x5⟩
            · exact Or.inl ⟨x2.trans x4, Or.inl x5⟩
            · exact Or.inr ⟨x2.trans x4, fun z => z.elim x5 (fun y => y x3)⟩
      repeat' first
        | refine And.intro ?_ ?_
        | (intro I1 R1 z1 z2 z3 z4 z5; obtain ⟨vl3, ct3, y1, y2, y3, y4⟩ := nx I1 R1 z1 z2 z3 z4 z5)
        | (intro (z9 : List.takeWhile _ _ ≠ []))
        | (intro (z9 : List.takeWhile _ _ = []))
        | refine Exists.intro st (Exists.intro (cs (c.2 + k)) (Exists.intro ids (And.intro hr (And.intro len0 (And.intro len1 ?_)))))
        | refine Exists.intro _ (And.intro s3 (And.intro q22 ?_))
        | refine Exists.intro _ (And.intro b8' ?_)
        | (intro q9 (e9 : (_ : Option Nat) = some q9); cases e9)
        | (intro (e9 : (some _ : Option Nat) = none); cases e9)
        | (intro (e9 : (none : Option Nat) = none); clear e9)
        | refine Exists.intro _ (And.intro (show _ = _ from by assumption) ?_)
        | refine Exists.intro _ (And.intro rfl (And.intro (by assumption) ?_))
        | refine Exists.intro _ (And.intro rfl ?_)
        | (intro h; try omega)
        | omega
        | (refine Exists.intro _ (And.intro ?_ (Exists.intro (c) (Exists.intro (P) (Exists.intro (r) (Exists.intro (k + 1) (Exists.intro (_) (Exists.intro (_) (Exists.intro (_) (Exists.intro (_) (Exists.intro (_) (Exists.intro (_) (Exists.intro (vl3) (Exists.intro (ct3) (Exists.intro (_) (And.intro rfl (And.intro rfl (And.intro rfl (And.intro rfl (And.intro rfl (And.intro rfl (?_))))))))))))))))))))) <;> first | omega | exact ⟨p1, by omega, p3, y1, y2, y3, y4 _ (Or.inr ⟨by assumption, rfl⟩)⟩)
        | (refine Exists.intro _ (And.intro ?_ (Exists.intro (c) (Exists.intro (P) (Exists.intro (r) (Exists.intro (k + 1) (Exists.intro (_) (Exists.intro (_) (Exists.intro (_) (Exists.intro (_) (Exists.intro (_) (Exists.intro (_) (Exists.intro (vl3) (Exists.intro (ct3) (Exists.intro (_) (And.intro rfl (And.intro rfl (And.intro rfl (And.intro rfl (And.intro rfl (And.intro rfl (?_))))))))))))))))))))) <;> first | omega | exact ⟨p1, by omega, p3, y1, y2, y3, y4 _ (Or.inl ⟨by assumption, rfl⟩)⟩)
        | exact Nat.le_of_ble_eq_true rfl
        | assumption
    · have : k = w := by omega
      subst this
      have hS : (fun d => wc_in P k d ∨ (c.2 ≤ d ∧ d < c.2 + k)) = wc_in (P ++ [c]) k := funext (fun d => propext (by simp [wc_in, or_and_right, exists_or]))
      rw [hS] at p6 p7
      repeat' first
        | refine And.intro ?_ ?_
        | (intro q9 (e9 : (_ : Option Nat) = some q9); cases e9)
        | (intro (e9 : (some _ : Option Nat) = none); cases e9)
        | (intro (e9 : (none : Option Nat) = none); clear e9)
        | refine Exists.intro _ (And.intro (show _ = _ from by assumption) ?_)
        | refine Exists.intro _ (And.intro rfl (And.intro (by assumption) ?_))
        | refine Exists.intro _ (And.intro rfl ?_)
        | (intro h; try omega)
        | omega
        | (refine Exists.intro _ (And.intro ?_ (Exists.intro (_) (Exists.intro (P ++ [c]) (Exists.intro (r) (Exists.intro (_) (Exists.intro (_) (Exists.intro (_) (Exists.intro (_) (Exists.intro (_) (Exists.intro (_) (Exists.intro (_) (Exists.intro (vl2) (Exists.intro (ct2) (Exists.intro (_) (And.intro rfl (And.intro rfl (And.intro rfl (And.intro rfl (And.intro rfl (And.intro rfl (?_))))))))))))))))))))) <;> first | omega | exact ⟨by rw [p1]; simp, (by first | exact b7 | (rw [s3']; exact b7)), p4, p5, p6, p7⟩)
        | exact Nat.le_of_ble_eq_true rfl
        | assumption
  · repeat' first
      | refine And.intro ?_ ?_
      | refine Exists.intro _ (And.intro (show _ = _ from by assumption) ?_)
      | refine Exists.intro _ (And.intro rfl (And.intro (by assumption) ?_))
      | refine Exists.intro _ (And.intro rfl ?_)
      | (intro h; try omega)
      | omega
      | (refine Exists.intro _ (Exists.intro (_) (Exists.intro ([]) (Exists.intro (l) (Exists.intro (_) (Exists.intro (_) (Exists.intro (_) (Exists.intro (_) (Exists.intro (_) (Exists.intro (_) (Exists.intro (_) (Exists.intro (vl) (Exists.intro (ct) (Exists.intro (0) (And.intro rfl (And.intro rfl (And.intro rfl (And.intro rfl (And.intro rfl (And.intro rfl (?_)))))))))))))))))))) <;> exact ⟨rfl, c1, g0, wc_fx_rf, fun d => ⟨fun hd => (by obtain ⟨c, hc, -⟩ := hd; cases hc), fun _ => ⟨rfl, rfl⟩⟩, Or.inr ⟨rfl, fun z => (by obtain ⟨d, y, ⟨c, hc, -⟩, -⟩ := z; cases hc)⟩⟩)
      | exact Nat.le_of_ble_eq_true rfl
      | assumption
end
