/-! THE ABSTRACT MACHINE, 5: the demand of an instruction is enough -/
/-- what is known of the tables, and of cells that were there before -/
def wm_K (D : va_G) (aC : wm_Y) (b0 : Nat) (U : State) : Prop :=
  (∀ (ci : Nat) (r : vw_C), wm_cls[ci]? = some r → u_Kn U r.1 r.2.1 r.2.2 (D.1 ci) (D.2 ci)) ∧ (∀ ty ∈ wm_ats, ArrOfT U (aC.1 ty) ty ∧ va_RA U (aC.1 ty) ty ∧ ∀ C, ty = .object C → va_AO C U) ∧ (∀ w ∈ wm_NW, va_Nw w U) ∧
  (va_X aC.2.1 aC.2.2.1 aC.2.2.2 U U.heap ∧ aC.2.1 < b0) ∧ vx_Zq Bundle.tN "UNASSIGNED_STACK" Bundle.steD (fun q => b0 ≤ q) U U.heap ∧ vx_Zq Bundle.tN "SUPPRESSED_SENTINEL" Bundle.listD (fun q => b0 ≤ q) U U.heap ∧ ∀ x ∈ wm_sr, ∃ a, vk_R x.1 x.2.1 x.2.2 a U
theorem wm_K_to {D : va_G} {aC : wm_Y} {b0 : Nat} {s U : State} (hW : s.WarmedH U.vm) (hh : ∀ q, q < b0 → U.heap[q]? = s.heap[q]?) (h : wm_K D aC b0 s) : wm_K D aC b0 U := by
  obtain ⟨h1, h2, h3, ⟨h4, h5⟩, h6, h7, h8⟩ := h
  refine ⟨fun ci r hr => u_Kn_moved hW.alike (h1 ci r hr), fun ty ht => ⟨arrOfT_moved hW.alike (h2 ty ht).1, (h2 ty ht).2.1.moved hW.alike, fun C hC => ((h2 ty ht).2.2 C hC).moved hW.alike⟩, fun w hw => ?_, ⟨(h4.kept (hh _ h5)).moved hW.alike, h5⟩,
    (h6.kept (fun a _ ha => hh a (Nat.not_le.mp ha))).moved hW.alike, (h7.kept (fun a _ ha => hh a (Nat.not_le.mp ha))).moved hW.alike, fun x hx => ?_⟩
  · rcases wm_NW_ok w hw with ⟨a, i, x, g, rfl⟩ | ⟨x, rfl⟩ | ⟨a, b, rfl⟩
    · exact va_Nw.warmM hW (h3 _ hw)
    · exact va_Nw.warmD hW (h3 _ hw)
    · exact va_Nw.warmC hW (h3 _ hw)
  · obtain ⟨a, ha⟩ := h8 x hx
    exact ⟨a, vk_R.warm hW ha⟩
def wm_Pc (D : va_G) (aC : wm_Y) (b0 : Nat) (as : List wm_V) (h : wm_H) : Array Value → State → Prop := fun a U => a = (as.map wm_tv).toArray ∧ wm_ok D aC b0 h U.heap ∧ wm_K D aC b0 U
theorem wm_blind (D : va_G) (aC : wm_Y) (b0 : Nat) (as : List wm_V) (h : wm_H) : FrameBlind (wm_Pc D aC b0 as h) := by
  intro a U g mk q
  exact ⟨q.1, q.2.1, wm_K_to (s := U) (U := U.calling g mk a) (State.WarmedH.refl U) (fun _ _ => rfl) q.2.2⟩
def wm_Qc (D : va_G) (aC : wm_Y) (b0 : Nat) (qr : wm_Q1) (qt : wm_Q2) : Array Value → State → Outcome → State → Prop := fun _ st o t =>
  ((∃ v h, o = .returned (v.map wm_tv) ∧ wm_ok D aC b0 h t.heap ∧ qr v h) ∨ (∃ x h k ce, o = .threw x ∧ wm_ok D aC b0 h t.heap ∧ t.heap[x]? = some ce ∧ ce.vm = .none ∧ st.vm.findClass (wm_xn k) = some ce.cls ∧ (k = 1 ∨ k = 2 ∨ k = 3) ∧ qt k h)) ∧ st.heap.size ≤ t.heap.size ∧ ∀ q, q < b0 → t.heap[q]? = st.heap[q]?
def wm_C (p : Program) (s : State) (m : MethodId) (args : Array Value) (meth : Method) (c : Code) (own : String) (cc : ByteArray) (nL b0 : Nat) (D : va_G) (aC : wm_Y) : Prop :=
  p.tables.exec = Jvm.exec ∧ c.code = cc ∧ c.maxLocals = nL ∧ meth.locks = false ∧ s.vm.findClass own = some m.cls ∧ (∀ w ∈ wm_WG, w.before args s = true) ∧ wm_K D aC b0 s
def wm_J (p : Program) (l : Launch) (e : Env) (R : Room) (s : State) (m : MethodId) (args : Array Value) (below : List Frame) (meth : Method) (c : Code) (nL b0 : Nat) (D : va_G) (aC : wm_Y) (Q : State → Prop) (pc : Nat) (σ : wm_S) : Prop :=
  ∀ (H : Heap) (locs : List Loc) (ls : Array Slot), wm_ok D aC b0 σ.2.2.1 H → va_S (fun q => b0 ≤ q) s.heap H locs → wm_lo ls nL σ.1 → W p l e R s m args below meth c H locs σ.2.2.2.1 σ.2.2.2.2 Q (F0 m pc ls (σ.2.1.map wm_tv))
def wm_len : Instr → Nat
  | .bipush _ => 2
  | .sipush _ => 3
  | .ldc _ => 2
  | .ldc2_w _ => 3
  | .iload _ => 2
  | .lload _ => 2
  | .aload _ => 2
  | .istore _ => 2
  | .lstore _ => 2
  | .astore _ => 2
  | .iinc _ _ => 3
  | .ifCond _ _ => 3
  | .if_icmp _ _ => 3
  | .if_acmp _ _ => 3
  | .ifnull _ => 3
  | .ifnonnull _ => 3
  | .goto _ => 3
  | .getfield _ => 3
  | .putfield _ => 3
  | .getstatic _ => 3
  | .new _ => 3
  | .newarray _ => 2
  | .anewarray _ => 3
  | .invokespecial _ => 3
  | .invokevirtual _ => 3
  | .invokestatic _ => 3
  | _ => 1
/-- a field's link; a method's, or a nest mate's -/
def wm_fl (own : String) (idx : Nat) (f : String × String × String × Bool) : Prop := Cond.fieldLink own idx f.1 f.2.1 f.2.2.1 ∈ wm_WG
def wm_ml (own : String) (idx : Nat) (y : MethodName) : Prop := Cond.methodLink own idx y ∈ wm_WG ∨ ∃ host, Cond.methodLinkNest own idx y host ∈ wm_NW
/-- what the tables must say of an instruction -/
def wm_st (R : Room) (own mn : String) (rt : Option FieldType) (ids : List Nat) (cc : ByteArray) (pc : Nat) (i : Instr) (a b c : Nat) : Prop := match i with
  | .ldc k => Cond.constant own k (nI a) ∈ wm_WG
  | .ldc2_w k => Cond.constantLong own k (lN a) ∈ wm_WG
  | .ifCond _ o => (pc : Int) + o = (a : Int)
  | .if_icmp _ o => (pc : Int) + o = (a : Int)
  | .if_acmp _ o => (pc : Int) + o = (a : Int)
  | .ifnull o => (pc : Int) + o = (a : Int)
  | .ifnonnull o => (pc : Int) + o = (a : Int)
  | .goto o => (pc : Int) + o = (a : Int)
  | .getfield k => ∃ ci r, wm_tags a = some (.inl ci) ∧ wm_cls[ci]? = some r ∧ b < r.2.2 ∧ wm_ck (wm_ty ci b) = c ∧ wm_fl own k (r.2.1 b)
  | .putfield k => ∃ ci r, wm_tags a = some (.inl ci) ∧ wm_cls[ci]? = some r ∧ b < r.2.2 ∧ wm_ck (wm_ty ci b) = c ∧ c ≠ 3 ∧ (wm_ty ci b ≠ .byte ∧ wm_ty ci b ≠ .char ∧ wm_ty ci b ≠ .short) ∧ (((r.2.1 b).2.2.2 = false ∧ wm_fl own k (r.2.1 b)) ∨ ((r.2.1 b).2.2.2 = true ∧ mn = "<init>" ∧ (r.2.1 b).1 = own ∧ Cond.fieldLink own k (r.2.1 b).1 (r.2.1 b).2.1 (r.2.1 b).2.2.1 ∈ wm_WG))
  | .arraylength => ∃ ty, wm_tags a = some (.inr ty) ∧ ty ∈ wm_ats
  | .iaload => wm_tags a = some (.inr .int) ∧ FieldType.int ∈ wm_ats
  | .iastore => a ≠ 1 ∧ wm_tags a = some (.inr .int) ∧ FieldType.int ∈ wm_ats
  | .baload => wm_tags a = some (.inr .boolean) ∧ FieldType.boolean ∈ wm_ats
  | .bastore => wm_tags a = some (.inr .boolean) ∧ FieldType.boolean ∈ wm_ats
  | .laload => wm_tags a = some (.inr .long) ∧ FieldType.long ∈ wm_ats
  | .lastore => wm_tags a = some (.inr .long) ∧ FieldType.long ∈ wm_ats
  | .aaload => ∃ C, wm_tags a = some (.inr (.object C)) ∧ FieldType.object C ∈ wm_ats
  | .aastore => ∃ r, wm_cls[b]? = some r ∧ wm_tags a = some (.inr (.object r.1)) ∧ FieldType.object r.1 ∈ wm_ats
  | .newarray t => a ≠ 1 ∧ wm_tags a = some (.inr (newarray.typeOf t)) ∧ newarray.typeOf t ∈ wm_ats ∧ wm_ck (newarray.typeOf t) ≠ 3 ∧ Cond.arrayClass (newarray.typeOf t) ∈ wm_WG
  | .anewarray k => ∃ C, wm_tags a = some (.inr (.object C)) ∧ FieldType.object C ∈ wm_ats ∧ Cond.classLink own k C ∈ wm_WG
  | .new k => (c ≠ 9 ∧ ∃ ci r, wm_tags a = some (.inl ci) ∧ wm_cls[ci]? = some r ∧ b = r.2.2 ∧ (∀ k, k < r.2.2 → wm_ck (wm_ty ci k) ≠ 3) ∧ Cond.classLink own k r.1 ∈ wm_WG ∧ Cond.instantiable r.1 r.2.2 ∈ wm_WG ∧ Cond.initialized r.1 ∈ wm_WG) ∨
      (c = 9 ∧ b = 6 ∧ (6 ≤ R.frames ∧ 90 ≤ R.locals) ∧ (a = 1 ∨ a = 2 ∨ a = 3) ∧ own = "CycleKernel" ∧ Cond.classLink own k (wm_xn a) ∈ wm_WG ∧ Cond.initialized (wm_xn a) ∈ wm_WG ∧ decode cc (pc + 3) = .ok (.dup, 1) ∧ ∃ j tx, (own, j, tx) ∈ wm_sr ∧
        ((decode cc (pc + 4) = .ok (.ldc j, 2) ∧ decode cc (pc + 6) = .ok (.invokespecial (wm_xi a), 3) ∧ decode cc (pc + 9) = .ok (.athrow, 1)) ∨ (decode cc (pc + 4) = .ok (.ldc_w j, 3) ∧ decode cc (pc + 7) = .ok (.invokespecial (wm_xi a), 3) ∧ decode cc (pc + 10) = .ok (.athrow, 1))))
  | .invokespecial k => (c = 9 ∧ (1 ≤ R.frames ∧ 20 ≤ R.locals) ∧ Cond.methodLink own k objectInit ∈ wm_WG ∧ Cond.instanceMethod objectInit ∈ wm_WG ∧ Cond.code objectInit ⟨#[0xb1]⟩ 1 none ∈ wm_WG) ∨ (c ≠ 9 ∧ a ∈ ids ∧ (wm_my a).name = "<init>" ∧ wm_mrt a = none ∧ wm_ml own k (wm_my a) ∧ Cond.instanceMethod (wm_my a) ∈ wm_WG ∧ (parseMethodDescriptor (wm_my a).desc).map (fun d => d.parameters.length + 1) = some (wm_mn a))
  | .invokevirtual k => a ∈ ids ∧ (∃ r, wm_cls[b]? = some r ∧ r.1 = (wm_my a).cls) ∧ wm_ml own k (wm_my a) ∧ Cond.instanceMethod (wm_my a) ∈ wm_WG ∧ Cond.selects (wm_my a).cls (wm_my a) (wm_my a) ∈ wm_WG ∧ (parseMethodDescriptor (wm_my a).desc).map (fun d => d.parameters.length + 1) = some (wm_mn a)
  | .invokestatic k => a ∈ ids ∧ wm_ml own k (wm_my a) ∧ Cond.static (wm_my a) ∈ wm_WG ∧ (parseMethodDescriptor (wm_my a).desc).map (fun d => d.parameters.length) = some (wm_mn a)
  | .ireturn => (a = 1 ∧ rt = some .boolean) ∨ (a ≠ 1 ∧ rt = some .int)
  | .lreturn => rt = some .long
  | .areturn => ∃ ty, rt = some ty ∧ wm_ck ty = 2
  | .return_ => rt = none
  | _ => True
