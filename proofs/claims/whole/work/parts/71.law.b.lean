/-! THE LAW, 2: methods that catch; a switch; calls of methods that catch -/
def wh_NC (U : State) : Prop := ∀ a b, (a = 1 ∨ a = 2 ∨ a = 3) → (b = 1 ∨ b = 2 ∨ b = 3) → a ≠ b → va_Nc (wm_xn a) (wm_xn b) U
theorem wh_NC_to {s U : State} (hW : s.WarmedH U.vm) (h : wh_NC s) : wh_NC U := fun a b ha hb hab => (h a b ha hb hab).moved hW.alike
def wh_Pc (D : va_G) (aC : wm_Y) (b0 : Nat) (as : List wm_V) (h : wm_H) : Array Value → State → Prop := fun a U => wm_Pc D aC b0 as h a U ∧ wh_NC U
theorem wh_blind (D : va_G) (aC : wm_Y) (b0 : Nat) (as : List wm_V) (h : wm_H) : FrameBlind (wh_Pc D aC b0 as h) := by
  intro a U g mk q
  exact ⟨wm_blind D aC b0 as h a U g mk q.1, wh_NC_to (s := U) (U := U.calling g mk a) (State.WarmedH.refl U) q.2⟩
def wh_ht (id : Nat) : List (Nat × Nat × Nat × Nat) := match id with
  | 120 => [(0, 10, 13, 13), (0, 10, 17, 15)]
  | 121 => [(0, 8, 11, 15)]
  | 122 => [(0, 6, 9, 25), (0, 6, 12, 15)]
  | 123 => [(0, 7, 10, 25), (0, 7, 14, 13), (0, 7, 18, 15)]
  | 124 => [(0, 4, 7, 15)]
  | 125 => [(0, 5, 8, 13), (0, 5, 11, 15)]
  | 126 => [(0, 6, 9, 25), (0, 6, 12, 15)]
  | 127 => [(0, 18, 21, 25), (0, 18, 25, 15), (0, 18, 29, 13)]
  | 128 => [(0, 5, 8, 25)]
  | 129 => [(0, 7, 10, 25), (0, 7, 14, 13), (0, 7, 18, 15)]
  | 130 => [(0, 5, 8, 25), (0, 5, 11, 15)]
  | 131 => [(0, 6, 9, 25), (0, 6, 12, 15)]
  | 132 => [(0, 8, 11, 15)]
  | 133 => [(0, 9, 12, 25)]
  | 134 => [(0, 10, 13, 13)]
  | 135 => [(0, 12, 15, 25)]
  | 136 => [(0, 9, 12, 25)]
  | 137 => [(0, 12, 15, 25)]
  | 138 => [(0, 14, 17, 25), (0, 14, 21, 13)]
  | _ => []
def wh_cw (id : Nat) : Cond := Cond.codeWith (wm_my id) (wm_mb id) (wm_mL id) (wm_mrt id) (wh_ht id)
def wh_sp (l : Launch) (D : va_G) (aC : wm_Y) (b0 id : Nat) (sp : List wm_V → wm_H → wm_Q1 → wm_Q2 → Prop) : Prop := ∀ as h q1 q2, sp as h q1 q2 → wm_Met l (wm_my id) (wh_cw id :: wm_WG) (wm_mr id) (wh_Pc D aC b0 as h) (wm_Qc D aC b0 q1 q2) (wm_mc id) (wm_ms id) (fun q => b0 ≤ q)
def wh_oi (R : Room) (id : Nat) : Prop := (wm_mr id).cells = wm_mc id ∧ (wm_mr id).slots = wm_ms id ∧ (wm_mr id).frames + 1 ≤ R.frames ∧ 8 + (wm_mL id + 11) + (wm_mr id).locals ≤ R.locals ∧ wh_cw id ∈ wm_WG ∧ Cond.initialized (wm_my id).cls ∈ wm_WG ∧ ((wm_my id).cls ≠ "java/lang/invoke/MethodHandle" ∧ (wm_my id).cls ≠ "java/lang/invoke/VarHandle")
def wh_oib (R : Room) (id : Nat) : Bool := decide ((wm_mr id).frames + 1 ≤ R.frames ∧ 8 + (wm_mL id + 11) + (wm_mr id).locals ≤ R.locals) && wm_ib (wm_cp id).1 (wh_cw id) && wm_ib (wm_cp id).2.1 (Cond.initialized (wm_my id).cls) && decide ((wm_my id).cls ≠ "java/lang/invoke/MethodHandle" ∧ (wm_my id).cls ≠ "java/lang/invoke/VarHandle")
theorem wh_oib_ok {R : Room} {id : Nat} (h : wh_oib R id = true) : wh_oi R id := by
  simp only [wh_oib, Bool.and_eq_true, decide_eq_true_eq] at h
  exact ⟨rfl, rfl, h.1.1.1.1, h.1.1.1.2, wm_ib_in h.1.1.2, wm_ib_in h.1.2, h.2⟩
def wh_cxok (l : Launch) (R : Room) (D : va_G) (aC : wm_Y) (b0 : Nat) (cx : wm_X) (ids : List Nat) : Prop := ∀ id ∈ ids, wh_oi R id ∧ wh_sp l D aC b0 id (cx id)
theorem wh_cx0 {l : Launch} {R : Room} {D : va_G} {aC : wm_Y} {b0 : Nat} {cx : wm_X} : wh_cxok l R D aC b0 cx [] := fun _ h => absurd h List.not_mem_nil
theorem wh_cxc {l : Launch} {R : Room} {D : va_G} {aC : wm_Y} {b0 : Nat} {cx : wm_X} {id : Nat} {ids : List Nat} (h1 : wh_sp l D aC b0 id (cx id)) (h2 : (id :: ids).all (wh_oib R) = true) (h3 : ids.all (wh_oib R) = true → wh_cxok l R D aC b0 cx ids) : wh_cxok l R D aC b0 cx (id :: ids) := by
  rw [List.all_cons, Bool.and_eq_true] at h2
  intro i hi
  rcases List.mem_cons.mp hi with rfl | hi
  · exact ⟨wh_oib_ok h2.1, h1⟩
  · exact h3 h2.2 i hi
theorem wh_cxn {l : Launch} {R : Room} {D : va_G} {aC : wm_Y} {b0 : Nat} {cx : wm_X} : ([] : List Nat).all (wh_oib R) = true → wh_cxok l R D aC b0 cx [] := fun _ => wh_cx0
theorem wh_cd {args : Array Value} {s : State} {id : Nat} (h : (wh_cw id).before args s = true) (T : State) (mk : MethodId) (hW : s.WarmedH T.vm) (hn : T.methodNamed? (wm_my id) = some mk) : ∃ methY cY, T.vm.method? mk = some methY ∧ methY.code = some cY ∧ cY.maxLocals = wm_mL id := by
  have h2 : (wh_cw id).before args T = true := word_at hW (Or.inl (by rfl)) h
  obtain ⟨m', methY, cY, hm', hmY, hcY, -, hlY, -⟩ := Cond.codeWith_spec h2
  cases hn.symm.trans hm'
  exact ⟨methY, cY, hmY, hcY, hlY⟩
theorem wh_ofW {l : Launch} {y : MethodName} {ws ws' : List Cond} {rm : Room} {Pc : Array Value → State → Prop} {Qc : Array Value → State → Outcome → State → Prop} {mc ms : Nat} {free : Addr → Prop} {cc : ByteArray} {maxL : Nat} {ret : Option FieldType} {hh : List (Nat × Nat × Nat × Nat)}
    (hy : plainName y.cls = true) (hw : ws = Cond.codeWith y cc maxL ret hh :: ws')
    (body : ∀ p e s m args below meth c s₁, BodyLoose p l y (headSpec ws rm) cc maxL ret e s m args below meth c s₁ → c.exceptionTable.toList = tableOf hh → c.maxLocals = maxL → Pc args s →
      W p l e (headSpec ws rm).room s m args below meth c s.heap [] 0 0 (wm_MQ below Qc args s mc ms free) (entryFrame m args maxL)) : wm_Met l y ws rm Pc Qc mc ms free := by
  refine MetFree.of_bodyS (code := cc) (maxLocals := maxL) (ret := ret) hy ?_ ?_
  · intro args s m h hn
    obtain ⟨m', meth, c, k1, k2, k3, k4, k5, k6, k7, k8, -⟩ := Cond.codeWith_spec (atoms_spec (ws := ws) h _ (by rw [hw]; exact List.mem_cons_self))
    cases Option.some.inj (k1.symm.trans hn)
    exact ⟨meth, c, k2, k3, k4, k5, k7, k8⟩
  · intro p e s m args below meth c s₁ B hml hP _
    have hh0 : s₁.heap = s.heap := by rw [B.state]; rfl
    have hx : c.exceptionTable.toList = tableOf hh := by
      obtain ⟨m', meth', c', k1, k2, k3, k4, k5, k6, -⟩ := Cond.codeWith_spec (atoms_spec (ws := ws) B.pre _ (by rw [hw]; exact List.mem_cons_self))
      cases Option.some.inj (k1.symm.trans B.named)
      cases Option.some.inj (k2.symm.trans B.method)
      cases Option.some.inj (k3.symm.trans (Stand.of_body B).code)
      rw [← k6, table_eq]
    obtain ⟨t, a1, o, b1, b2, b3⟩ := body p e s m args below meth c s₁ B hx hml hP s₁ hh0 (Stand.of_body B)
    exact ⟨t, o, a1, b1, b2, ⟨b3.1, b3.2⟩⟩
section WHR
variable {p : Program} {l : Launch} {e : Env} {R : Room} {s : State} {m : MethodId} {args : Array Value} {below : List Frame} {meth : Method} {c : Code} {own mn : String} {rt : Option FieldType} {cc : ByteArray} {nL b0 : Nat} {D : va_G} {aC : wm_Y}
variable {pc cu su mc ms : Nat} {lv : wm_L} {st : List wm_V} {h : wm_H} {qr : wm_Q1} {qt : wm_Q2}
theorem wh_invS {locs : List Loc} {cells slots : Nat} {T : State} (X : Stand p l e R s m args below meth c T locs cells slots) (hexec : p.tables.exec = Jvm.exec) {own : String} {index : Nat} {y : MethodName} {bytes : ByteArray} {maxL : Nat} {ret : Option FieldType} {hh : List (Nat × Nat × Nat × Nat)}
    (hown : s.vm.findClass own = some m.cls) (hlink : (Cond.methodLink own index y).before args s = true) (hstat : (Cond.static y).before args s = true) (hinit : (Cond.initialized y.cls).before args s = true)
    (hcode : (Cond.codeWith y bytes maxL ret hh).before args s = true) (hy : y.cls ≠ "java/lang/invoke/MethodHandle" ∧ y.cls ≠ "java/lang/invoke/VarHandle")
    {g : JFrame} (hg : g.method = m) {argsL rest : List Value} (hlen : ∀ sig, parseMethodDescriptor y.desc = some sig → argsL.length = sig.parameters.length)
    (hstack : g.stack = argsL.reverse ++ rest) (hdg : decode c.code g.pc = .ok (.invokestatic index, 3)) : wm_Inv p l e R s m args below meth c locs cells slots T g rest y argsL.toArray := by
  obtain ⟨mk, methM, cM, hnamed, hmethM, -, -, -, -, -, -, hsigM⟩ := Cond.codeWith_spec hcode
  have hstatic : methM.isStatic = true := Cond.static_spec hnamed hmethM hstat
  obtain ⟨kP, hkP, -⟩ := className_of_methodNamed hnamed
  have hinitP : kP.init = .initialized := Cond.initialized_spec (findClass_of_methodNamed hnamed) hkP hinit
  obtain ⟨vm₁, X₁, hstep₁⟩ := X.invokestatic hexec hown hlink hnamed hmethM hstatic hkP hinitP hy (g := g) hg (argsL := argsL) (rest := rest) (hlen _ hsigM) hstack hdg
  exact ⟨vm₁, mk, X₁, hnamed, hstep₁⟩
theorem wh_o_call {Q : State → Prop} (hNC : wh_NC s) (C : wm_C p s m args meth c own cc nL b0 D aC) {id : Nat} {as r : List wm_V} {q1 : wm_Q1} {q2 : wm_Q2} {i : Instr} {w0 : Cond}
    (hM : wm_Met l (wm_my id) (w0 :: wm_WG) (wm_mr id) (wh_Pc D aC b0 as h) (wm_Qc D aC b0 q1 q2) (wm_mc id) (wm_ms id) (fun q => b0 ≤ q))
    (hrc : (wm_mr id).cells = wm_mc id) (hrs : (wm_mr id).slots = wm_ms id) (hR1 : (wm_mr id).frames + 1 ≤ R.frames) (hR2 : 8 + (wm_mL id + 11) + (wm_mr id).locals ≤ R.locals) (w1 : w0 ∈ wm_WG) (w2 : Cond.initialized (wm_my id).cls ∈ wm_WG)
    (hcd : ∀ (T : State) (mk : MethodId), s.WarmedH T.vm → T.methodNamed? (wm_my id) = some mk → ∃ methY cY, T.vm.method? mk = some methY ∧ methY.code = some cY ∧ cY.maxLocals = wm_mL id)
    (hd : decode cc pc = .ok (i, 3)) (hst : (r.map wm_cat).sum ≤ 8) (e1 : cu + wm_mc id ≤ R.cells) (e2 : su + wm_ms id ≤ R.slots)
    (inv : ∀ (T : State) (locs : List Loc) (ls : Array Slot), wm_ok D aC b0 h T.heap → Stand p l e R s m args below meth c T locs cu su → wm_Inv p l e R s m args below meth c locs cu su T (F0 m pc ls (st.map wm_tv)) (r.map wm_tv) (wm_my id) (as.map wm_tv).toArray)
    (hb : b0 ≤ s.heap.size)
    (kr : ∀ v h', q1 v h' → wm_J p l e R s m args below meth c nL b0 D aC Q (pc + 3) (lv, v.toList ++ r, h', cu + wm_mc id, su + wm_ms id))
    (kt : ∀ k h', q2 k h' → wm_JT p l e R s m args below meth c nL b0 D aC Q pc lv r k h' (cu + wm_mc id) (su + wm_ms id)) :
    wm_J p l e R s m args below meth c nL b0 D aC Q pc (lv, st, h, cu, su) := by
  intro H locs ls hO hS hL T hT X
  subst hT
  obtain ⟨vm₁, mk, X₁, hn, hstep⟩ := inv T locs ls hO X
  have C9 := C
  obtain ⟨hx, hbc, hml, hlocks, hown, hts, hK⟩ := C9
  have hws : ∀ w ∈ (w0 :: wm_WG), ∀ a' U, s.WarmedH U.vm → w.before a' U = true := by
    intro w hw a' U hW
    have hw' : w ∈ wm_WG := by
      rcases List.mem_cons.mp hw with rfl | hw
      · exact w1
      · exact hw
    exact word_at hW (good_of_word (wm_WG_good w hw')) (hts w hw')
  have hsz : (F0 m pc ls (r.map wm_tv)).locals.size = c.maxLocals := by rw [hml]; exact hL.2.1
  have hPc : wh_Pc D aC b0 as h (as.map wm_tv).toArray (T.setVm vm₁) := ⟨⟨rfl, hO, wm_K_to X₁.warmed (fun q hq => hS.2.1 q (by omega) (by omega)) hK⟩, wh_NC_to X₁.warmed hNC⟩
  have hfr : ∀ {st' t' : State} {L : List Loc}, st'.heap = T.heap → st'.heap.size ≤ t'.heap.size → (∀ q, q < b0 → t'.heap[q]? = st'.heap[q]?) → (∀ q ∈ L, b0 ≤ q.base) → va_S (fun q => b0 ≤ q) s.heap t'.heap (locs ++ L) := by
    intro st' t' L g1 g2 g3 g4
    refine ⟨Nat.le_trans hS.1 (by rw [← g1]; exact g2), fun q a1 a2 => ?_, fun q hq => ?_⟩
    · rw [g3 q (by omega), g1]
      exact hS.2.1 q a1 a2
    · rcases List.mem_append.mp hq with z | z
      · exact hS.2.2 q z
      · exact g4 q z
  rcases wm_into X₁ hM (wh_blind D aC b0 as h) hrc hrs hR1 hR2 hws (hcd _ mk X₁.warmed (X₁.named hn)) (hts _ w2) (g := F0 m pc ls (r.map wm_tv)) rfl hsz (by rw [hbc]; exact hd) (by show 2 * 0 + _ ≤ 8; rw [wm_cats]; omega) hn e1 e2 hPc with
    ⟨v, st', t, T', L, g1, g4, g2, g3, ⟨gq, g5, g6⟩, g7, X', hs⟩ | ⟨x, st', t, T', L, g1, g4, g2, g3, ⟨gq, g5, g6⟩, g7, X', hs⟩
  · rcases gq with ⟨v', h', ev, hO', hq'⟩ | ⟨x, h', k, ce, ev, -⟩
    · cases ev
      have S' := hfr g1 g5 g6 g7
      rw [← g2] at S' hO'
      obtain ⟨t2, a1, b1⟩ := kr v' h' hq' T'.heap (locs ++ L) ls hO' S' hL T' rfl X'
      refine ⟨t2, hstep _ fun acts => ?_, b1⟩
      rw [doInvoke_state]
      refine hs.trans ?_
      have hst9 : (v'.map wm_tv).toList ++ r.map wm_tv = (v'.toList ++ r).map wm_tv := by cases v' <;> rfl
      show Steps p.tables e below (T'.setTop (F0 m (pc + 3) ls ((v'.map wm_tv).toList ++ r.map wm_tv))) t2
      rw [hst9]
      exact a1
    · cases ev
  · rcases gq with ⟨v', h', ev, -⟩ | ⟨x', h', k, ce, ev, hO', j1, j2, j3, j4, hq'⟩
    · cases ev
    · cases ev
      have S' := hfr g1 g5 g6 g7
      rw [← g2] at S' hO' j1
      have j3' : s.vm.findClass (wm_xn k) = some ce.cls := by
        have z : st'.vm.findClass (wm_xn k) = some ce.cls := j3
        rw [g4] at z
        exact vx_cls X₁.warmed z
      obtain ⟨t2, a1, b1⟩ := kt k h' hq' T'.heap (locs ++ L) ls x ce hO' S' hL j1 j2 j3' j4 T' rfl X'
      refine ⟨t2, hstep _ fun acts => ?_, b1⟩
      rw [doInvoke_state]
      exact hs.trans a1
/-- an instruction that calls or makes -/
def wh_cl (i : Instr) : Bool := match i with
  | .invokespecial _ => true
  | .invokevirtual _ => true
  | .invokestatic _ => true
  | .new _ => true
  | _ => false
theorem wh_1 {RC RS : Nat} {cx : wm_X} {qt' : wm_Q2} {nx : wm_N} {jp : Nat → wm_N} {i : Instr} {a b k : Nat} (hi : wh_cl i = false) (h1 : wm_1 RC RS mc ms cx qr qt nx jp i a b k lv st h cu su) : wm_1 RC RS mc ms cx qr qt' nx jp i a b k lv st h cu su := by
  cases i
  case if_acmp z o => cases z <;> exact h1
  all_goals first | exact h1 | cases hi
/-- one instruction of the law -/
def wL_1 (RC RS mc ms : Nat) (cx : wm_X) (qr : wm_Q1) (qt : wm_Q2) (nx : wm_N) (jp : Nat → wm_N) (i : Instr) (a b k : Nat) (lv : wm_L) (st : List wm_V) (h : wm_H) (cu su : Nat) : Prop := match i with
  | .tableswitch d lo hi o => wm_pi st fun x r => ((x.toInt < lo ∨ hi < x.toInt) → jp ((a : Int) + d).toNat lv r h cu su) ∧ ∀ (j : Nat) (off : Int), o[j]? = some off → x.toInt = lo + j → jp ((a : Int) + off).toNat lv r h cu su
  | j => wm_1 RC RS mc ms cx qr qt nx jp j a b k lv st h cu su
def wL_len (i : Instr) : Nat := match i with
  | .tableswitch _ _ _ _ => 110
  | j => wm_len j
def wL_st (R : Room) (own mn : String) (rt : Option FieldType) (ids hids : List Nat) (cc : ByteArray) (pc : Nat) (i : Instr) (a b k : Nat) : Prop := match i with
  | .tableswitch d lo hi o => a = pc ∧ 0 ≤ (pc : Int) + d ∧ (∀ off ∈ o.toList, 0 ≤ (pc : Int) + off) ∧ (o.size : Int) = hi - lo + 1
  | .invokestatic j => (hids.contains a = true ∧ Cond.methodLink own j (wm_my a) ∈ wm_WG ∧ Cond.static (wm_my a) ∈ wm_WG ∧ (parseMethodDescriptor (wm_my a).desc).map (fun d => d.parameters.length) = some (wm_mn a)) ∨ wm_st R own mn rt ids cc pc (.invokestatic j) a b k
  | j => wm_st R own mn rt ids cc pc j a b k
theorem wL_o {i : Instr} : (∃ d lo hi o, i = .tableswitch d lo hi o) ∨ (wL_len i = wm_len i ∧ (∀ RC RS mc ms cx qr qt nx jp a b k lv st h cu su, wL_1 RC RS mc ms cx qr qt nx jp i a b k lv st h cu su = wm_1 RC RS mc ms cx qr qt nx jp i a b k lv st h cu su) ∧ ((∃ j, i = .invokestatic j) ∨ ∀ R own mn rt ids hids cc pc a b k, wL_st R own mn rt ids hids cc pc i a b k = wm_st R own mn rt ids cc pc i a b k)) := by
  cases i
  case tableswitch d lo hi o => exact Or.inl ⟨d, lo, hi, o, rfl⟩
  case invokestatic j => exact Or.inr ⟨rfl, fun _ _ _ _ _ _ _ _ _ _ _ _ _ _ _ _ _ => rfl, Or.inl ⟨j, rfl⟩⟩
  all_goals exact Or.inr ⟨rfl, fun _ _ _ _ _ _ _ _ _ _ _ _ _ _ _ _ _ => rfl, Or.inr fun _ _ _ _ _ _ _ _ _ _ _ => rfl⟩
set_option maxHeartbeats 4000000 in
theorem wL_sound {qx : wm_Q2} (C : wm_C p s m args meth c own cc nL b0 D aC) (hNC : wh_NC s) (hb0 : b0 ≤ s.heap.size) (hl0 : l.stackTraces = false) {cx : wm_X} {ids hids : List Nat} (hcx : wm_cxok l R D aC b0 cx ids) (hcy : wh_cxok l R D aC b0 cx hids)
    {nx : wm_N} {jp : Nat → wm_N} {i : Instr} {a b k : Nat} (hqx : wh_cl i = true → ∀ lv r k h' cu su, cu ≤ mc → su ≤ ms → qx k h' → wm_JT p l e R s m args below meth c nL b0 D aC (wm_MQ below (wm_Qc D aC b0 qr qt) args s mc ms (fun q => b0 ≤ q)) pc lv r k h' cu su) (hmn : meth.name = mn) (hrt : meth.sig.returnType = rt) (hd : decode cc pc = .ok (i, wL_len i)) (hs : wL_st R own mn rt ids hids cc pc i a b k) (hot : (∀ j, i ≠ .new j) ∨ ((∀ q, wm_out c q) ∧ qx = qt))
    (hn : ∀ lv st h cu su, nx lv st h cu su → wm_J p l e R s m args below meth c nL b0 D aC (wm_MQ below (wm_Qc D aC b0 qr qt) args s mc ms (fun q => b0 ≤ q)) (pc + wL_len i) (lv, st, h, cu, su)) (hj : ∀ t lv st h cu su, jp t lv st h cu su → wm_J p l e R s m args below meth c nL b0 D aC (wm_MQ below (wm_Qc D aC b0 qr qt) args s mc ms (fun q => b0 ≤ q)) t (lv, st, h, cu, su))
    (h1 : wL_1 R.cells R.slots mc ms cx qr qx nx jp i a b k lv st h cu su) : wm_J p l e R s m args below meth c nL b0 D aC (wm_MQ below (wm_Qc D aC b0 qr qt) args s mc ms (fun q => b0 ≤ q)) pc (lv, st, h, cu, su) := by
  have C9 := C
  obtain ⟨hx, hbc, hml, hlk, hown, hts, hK⟩ := C9
  rcases wL_o (i := i) with ⟨d, lo, hi, o, rfl⟩ | ⟨e1, e2, e3⟩
  · obtain ⟨x, r, rfl, h1a, h1b⟩ := wm_pi_e h1
    obtain ⟨rfl, s2, s3, s4⟩ := hs
    by_cases hx9 : x.toInt < lo ∨ hi < x.toInt
    · exact fun H locs ls hO hS hl => lv_tableOut hx hbc hd hx9 (by omega) (hj _ _ _ _ _ _ (h1a hx9) H locs ls hO hS hl)
    · have hj0 : (x.toInt - lo).toNat < o.size := by omega
      have ho : o[(x.toInt - lo).toNat]? = some o[(x.toInt - lo).toNat] := Array.getElem?_eq_getElem hj0
      have h3 := s3 o[(x.toInt - lo).toNat] (Array.getElem_mem_toList hj0)
      exact fun H locs ls hO hS hl => lv_tableIn hx hbc hd (by omega) (by omega) ho (by omega) (hj _ _ _ _ _ _ (h1b _ _ ho (by omega)) H locs ls hO hS hl)
  · rw [e2] at h1
    rw [e1] at hd hn
    have fin : wm_st R own mn rt ids cc pc i a b k → wm_J p l e R s m args below meth c nL b0 D aC (wm_MQ below (wm_Qc D aC b0 qr qt) args s mc ms (fun q => b0 ≤ q)) pc (lv, st, h, cu, su) := by
      intro hs
      cases hc : wh_cl i with
      | true => exact wm_sound C hb0 hl0 (hqx hc) hmn hrt hcx hd hs hot hn hj h1
      | false => exact wm_sound (qx := fun _ _ => False) C hb0 hl0 (fun _ _ _ _ _ _ _ _ z => z.elim) hmn hrt hcx hd hs (Or.inl fun j z => by rw [z] at hc; cases hc) hn hj (wh_1 hc h1)
    rcases e3 with ⟨j, rfl⟩ | e3
    · rcases hs with ⟨s1, s4, s5, s7⟩ | hs
      · dsimp only [wm_1] at h1
        obtain ⟨i1, i2, h2⟩ := h1
        obtain ⟨as, r, rfl, hlen, hst, h3⟩ := wm_pp_e h2
        obtain ⟨⟨o1, o2, o3, o4, o5, o6, o7⟩, hM⟩ := hcy a (List.contains_iff_mem.mp s1)
        refine wh_o_call hNC C (hM _ _ _ _ h3) o1 o2 o3 o4 o5 o6 (wh_cd (hts _ o5)) hd hst i1 i2 (fun T locs ls hO X => ?_) hb0 (fun v h' z => hn _ _ _ _ _ z) (fun k h' z => hqx rfl _ _ _ _ _ _ z.1 z.2.1 z.2.2)
        have hl9 : ∀ sig, parseMethodDescriptor (wm_my a).desc = some sig → (as.map wm_tv).length = sig.parameters.length := by
          intro sig hsig
          rw [hsig] at s7
          have s7 : sig.parameters.length = wm_mn a := Option.some.inj s7
          simp only [List.length_map] at hlen ⊢
          omega
        have hstk : (F0 m pc ls ((as.reverse ++ r).map wm_tv)).stack = (as.map wm_tv).reverse ++ r.map wm_tv := by simp
        exact wh_invS X hx hown (hts _ s4) (hts _ s5) (hts _ o6) (hts _ o5) o7 rfl hl9 hstk (by rw [hbc]; exact hd)
      · exact fin hs
    · rw [e3] at hs
      exact fin hs
end WHR
def wL_w (RC RS mc ms : Nat) (cx : wm_X) (qr : wm_Q1) (qt : wm_Q2) (tb : wm_T) (hs : List Nat) (I : Nat → wm_S → Prop) : Nat → wm_T → wm_N
  | 0, _ => fun _ _ _ _ _ => False
  | _ + 1, [] => fun _ _ _ _ _ => False
  | n + 1, (pc, i, a, b, c, _) :: r => wL_1 RC RS mc ms cx qr qt (fun lv st h cu su => wm_ct hs I (pc + wL_len i) (wL_w RC RS mc ms cx qr qt tb hs I n (wm_nt i c r) lv st h cu su) lv st h cu su) (fun t lv st h cu su => wm_ct hs I t (wL_w RC RS mc ms cx qr qt tb hs I n (wm_dp tb t) lv st h cu su) lv st h cu su) i a b c
/-- each instruction behind the one before it -/
def wL_sq : wm_T → Bool
  | [] => true
  | [_] => true
  | x :: y :: r => (decide (wm_nt x.2.1 x.2.2.2.2.1 [x] ≠ [x]) || decide (y.1 = x.1 + wL_len x.2.1)) && wL_sq (y :: r)
theorem wL_sq_e : ∀ (u : wm_T) (x y : Nat × Instr × Nat × Nat × Nat × Nat) (r : wm_T), wL_sq (u ++ x :: y :: r) = true → wm_nt x.2.1 x.2.2.2.2.1 [x] = [x] → y.1 = x.1 + wL_len x.2.1
  | [], x, y, r, h, h0 => by
    simp only [List.nil_append, wL_sq, Bool.and_eq_true, Bool.or_eq_true, decide_eq_true_eq] at h
    exact h.1.resolve_left (fun z => z h0)
  | [z], x, y, r, h, h0 => by
    simp only [List.cons_append, List.nil_append, wL_sq, Bool.and_eq_true, Bool.or_eq_true, decide_eq_true_eq] at h
    exact h.2.1.resolve_left (fun z => z h0)
  | z :: z' :: u, x, y, r, h, h0 => by
    simp only [List.cons_append, wL_sq, Bool.and_eq_true] at h
    exact wL_sq_e (z' :: u) x y r h.2 h0
section WHU
variable {p : Program} {l : Launch} {e : Env} {R : Room} {s : State} {m : MethodId} {args : Array Value} {below : List Frame} {meth : Method} {c : Code} {own mn : String} {rt : Option FieldType} {cc : ByteArray} {nL b0 : Nat} {D : va_G} {aC : wm_Y}
variable {mc ms : Nat} {qr : wm_Q1} {qt : wm_Q2}
def wL_tok (R : Room) (own mn : String) (rt : Option FieldType) (ids hids : List Nat) (cc : ByteArray) (tb : wm_T) : Prop := wL_sq tb = true ∧ ∀ x ∈ tb, decode cc x.1 = .ok (x.2.1, wL_len x.2.1) ∧ wL_st R own mn rt ids hids cc x.1 x.2.1 x.2.2.1 x.2.2.2.1 x.2.2.2.2.1
theorem wL_w_ok {qx : wm_Q2} (C : wm_C p s m args meth c own cc nL b0 D aC) (hNC : wh_NC s) (hb0 : b0 ≤ s.heap.size) (hl0 : l.stackTraces = false) (hmn : meth.name = mn) (hrt : meth.sig.returnType = rt) {cx : wm_X} {ids hids : List Nat} (hcx : wm_cxok l R D aC b0 cx ids) (hcy : wh_cxok l R D aC b0 cx hids) {tb : wm_T} (ht : wL_tok R own mn rt ids hids cc tb) (hq : ∀ x ∈ tb, wh_cl x.2.1 = true → ∀ lv r k h' cu su, cu ≤ mc → su ≤ ms → qx k h' → wm_JT p l e R s m args below meth c nL b0 D aC (wm_MQ below (wm_Qc D aC b0 qr qt) args s mc ms (fun q => b0 ≤ q)) x.1 lv r k h' cu su) (hot : (∀ x ∈ tb, ∀ j, x.2.1 ≠ .new j) ∨ ((∀ q, wm_out c q) ∧ qx = qt)) {hs : List Nat} {I : Nat → wm_S → Prop}
    (hc : ∀ pc σ, hs.contains pc = true → I pc σ → wm_J p l e R s m args below meth c nL b0 D aC (wm_MQ below (wm_Qc D aC b0 qr qt) args s mc ms (fun q => b0 ≤ q)) pc σ) :
    ∀ n u x r lv st h cu su, tb = u ++ x :: r → wL_w R.cells R.slots mc ms cx qr qx tb hs I n (x :: r) lv st h cu su → wm_J p l e R s m args below meth c nL b0 D aC (wm_MQ below (wm_Qc D aC b0 qr qt) args s mc ms (fun q => b0 ≤ q)) x.1 (lv, st, h, cu, su) := by
  intro n
  induction n with
  | zero => intro u x r lv st hh cu su _ h; exact h.elim
  | succ n ih =>
    intro u x r lv st hh cu su hu h
    obtain ⟨pc, i, a, b, k, d⟩ := x
    obtain ⟨hd, hs9⟩ := ht.2 (pc, i, a, b, k, d) (by rw [hu]; simp)
    refine wL_sound C hNC hb0 hl0 hcx hcy (hq (pc, i, a, b, k, d) (by rw [hu]; simp)) hmn hrt hd hs9 (hot.imp (fun h9 => h9 (pc, i, a, b, k, d) (by rw [hu]; simp)) _root_.id) (fun lv st hh cu su z => ?_) (fun t lv st hh cu su z => ?_) h
    · unfold wm_ct at z
      split at z
      · next e8 => exact hc _ _ e8 z
      · rcases wm_nt_e i k r [(pc, i, a, b, k, d)] with e9 | ⟨e9, e8⟩
        · rw [e9] at z; cases n <;> exact z.elim
        · rw [e9] at z
          cases r with
          | nil => cases n <;> exact z.elim
          | cons y r =>
            have hy := wL_sq_e u (pc, i, a, b, k, d) y r (by rw [← hu]; exact ht.1) e8
            have z9 := ih (u ++ [(pc, i, a, b, k, d)]) y r lv st hh cu su (by rw [hu]; simp) z
            rw [hy] at z9
            exact z9
    · unfold wm_ct at z
      split at z
      · next e8 => exact hc _ _ e8 z
      · obtain ⟨v, hv⟩ := wm_dp_e tb t
        cases hdp : wm_dp tb t with
        | nil => rw [hdp] at z; cases n <;> exact z.elim
        | cons y r9 =>
          rw [hdp] at z hv
          have hy := wm_dp_h tb t y r9 hdp
          rw [← hy]
          exact ih v y r9 lv st hh cu su hv z
theorem wL_floyd {qx : wm_Q2} (C : wm_C p s m args meth c own cc nL b0 D aC) (hNC : wh_NC s) (hb0 : b0 ≤ s.heap.size) (hl0 : l.stackTraces = false) (hmn : meth.name = mn) (hrt : meth.sig.returnType = rt) {cx : wm_X} {ids hids : List Nat} (hcx : wm_cxok l R D aC b0 cx ids) (hcy : wh_cxok l R D aC b0 cx hids) {tb : wm_T} (ht : wL_tok R own mn rt ids hids cc tb) (hq : ∀ x ∈ tb, wh_cl x.2.1 = true → ∀ lv r k h' cu su, cu ≤ mc → su ≤ ms → qx k h' → wm_JT p l e R s m args below meth c nL b0 D aC (wm_MQ below (wm_Qc D aC b0 qr qt) args s mc ms (fun q => b0 ≤ q)) x.1 lv r k h' cu su) (hot : (∀ x ∈ tb, ∀ j, x.2.1 ≠ .new j) ∨ ((∀ q, wm_out c q) ∧ qx = qt))
    (hs : List Nat) (I : Nat → Nat → wm_S → Prop) (f : Nat) (hI : ∀ pc, hs.contains pc = true → ∀ n σ, I n pc σ → wL_w R.cells R.slots mc ms cx qr qx tb hs (fun pc' σ' => ∃ n', n' < n ∧ I n' pc' σ') f (wm_dp tb pc) σ.1 σ.2.1 σ.2.2.1 σ.2.2.2.1 σ.2.2.2.2) :
    ∀ n, ∀ pc, hs.contains pc = true → ∀ σ, I n pc σ → wm_J p l e R s m args below meth c nL b0 D aC (wm_MQ below (wm_Qc D aC b0 qr qt) args s mc ms (fun q => b0 ≤ q)) pc σ := by
  intro n
  induction n using Nat.strongRecOn with
  | ind n ih =>
    intro pc hpc σ h
    have z := hI pc hpc n σ h
    obtain ⟨v, hv⟩ := wm_dp_e tb pc
    cases hdp : wm_dp tb pc with
    | nil => rw [hdp] at z; cases f <;> exact z.elim
    | cons y r9 =>
      rw [hdp] at z hv
      have hy := wm_dp_h tb pc y r9 hdp
      rw [← hy]
      refine wL_w_ok C hNC hb0 hl0 hmn hrt hcx hcy ht hq hot (fun pc' σ' e8 z => ?_) f v y r9 _ _ _ _ _ hv z
      obtain ⟨n', hn', hz⟩ := z
      exact ih n' hn' pc' e8 σ' hz
theorem wL_entry {qx : wm_Q2} (C : wm_C p s m args meth c own cc nL b0 D aC) (hNC : wh_NC s) (hb0 : b0 ≤ s.heap.size) (hl0 : l.stackTraces = false) (hmn : meth.name = mn) (hrt : meth.sig.returnType = rt) {cx : wm_X} {ids hids : List Nat} (hcx : wm_cxok l R D aC b0 cx ids) (hcy : wh_cxok l R D aC b0 cx hids) {tb : wm_T} (ht : wL_tok R own mn rt ids hids cc tb) (hq : ∀ x ∈ tb, wh_cl x.2.1 = true → ∀ lv r k h' cu su, cu ≤ mc → su ≤ ms → qx k h' → wm_JT p l e R s m args below meth c nL b0 D aC (wm_MQ below (wm_Qc D aC b0 qr qt) args s mc ms (fun q => b0 ≤ q)) x.1 lv r k h' cu su) (hot : (∀ x ∈ tb, ∀ j, x.2.1 ≠ .new j) ∨ ((∀ q, wm_out c q) ∧ qx = qt))
    (hs : List Nat) (I : Nat → Nat → wm_S → Prop) (f : Nat) (hI : ∀ pc, hs.contains pc = true → ∀ n σ, I n pc σ → wL_w R.cells R.slots mc ms cx qr qx tb hs (fun pc' σ' => ∃ n', n' < n ∧ I n' pc' σ') f (wm_dp tb pc) σ.1 σ.2.1 σ.2.2.1 σ.2.2.2.1 σ.2.2.2.2)
    {σ : wm_S} (h0 : wL_w R.cells R.slots mc ms cx qr qx tb hs (fun pc' σ' => ∃ n', I n' pc' σ') f (wm_dp tb 0) σ.1 σ.2.1 σ.2.2.1 σ.2.2.2.1 σ.2.2.2.2) : wm_J p l e R s m args below meth c nL b0 D aC (wm_MQ below (wm_Qc D aC b0 qr qt) args s mc ms (fun q => b0 ≤ q)) 0 σ := by
  obtain ⟨v, hv⟩ := wm_dp_e tb 0
  cases hdp : wm_dp tb 0 with
  | nil => rw [hdp] at h0; cases f <;> exact h0.elim
  | cons y r9 =>
    rw [hdp] at h0 hv
    have hy := wm_dp_h tb 0 y r9 hdp
    rw [← hy]
    refine wL_w_ok C hNC hb0 hl0 hmn hrt hcx hcy ht hq hot (fun pc' σ' e8 z => ?_) f v y r9 _ _ _ _ _ hv h0
    obtain ⟨n', hz⟩ := z
    exact wL_floyd C hNC hb0 hl0 hmn hrt hcx hcy ht hq hot hs I f hI n' pc' e8 σ' hz
end WHU
/-! the same with whole numbers -/
def wj_1 {H : Type} (hp : wi_P H) (RC RS mc ms : Nat) (cx : wi_X H) (qr : wi_Q1 H) (qt : wi_Q2 H) (nx : wi_N H) (jp : Nat → wi_N H) (i : Instr) (a b c : Nat) (lv : wi_L) (st : List wi_V) (h : H) (cu su : Nat) : Prop := match i with
  | .tableswitch d lo hi o => wi_pi st fun x r => ((x < lo ∨ hi < x) → jp ((a : Int) + d).toNat lv r h cu su) ∧ ∀ (j : Nat) (off : Int), o[j]? = some off → x = lo + j → jp ((a : Int) + off).toNat lv r h cu su
  | j => wi_1 hp RC RS mc ms cx qr qt nx jp j a b c lv st h cu su
theorem wj_o {i : Instr} : (∃ d lo hi o, i = .tableswitch d lo hi o) ∨ ((∀ RC RS mc ms cx qr qt nx jp a b k lv st h cu su, wL_1 RC RS mc ms cx qr qt nx jp i a b k lv st h cu su = wm_1 RC RS mc ms cx qr qt nx jp i a b k lv st h cu su) ∧ ∀ (H : Type) hp RC RS mc ms cx qr qt nx jp a b k lv st (h : H) cu su, wj_1 hp RC RS mc ms cx qr qt nx jp i a b k lv st h cu su = wi_1 hp RC RS mc ms cx qr qt nx jp i a b k lv st h cu su) := by
  cases i
  case tableswitch d lo hi o => exact Or.inl ⟨d, lo, hi, o, rfl⟩
  all_goals exact Or.inr ⟨fun _ _ _ _ _ _ _ _ _ _ _ _ _ _ _ _ _ => rfl, fun _ _ _ _ _ _ _ _ _ _ _ _ _ _ _ _ _ _ _ => rfl⟩
section WJS
variable {H : Type} {ρ : Nat → Nat} {Rr : H → wm_H → Prop} {hp : wi_P H} {RC RS mc ms : Nat} {cx : wi_X H} {qr : wi_Q1 H} {qt : wi_Q2 H} {nx : wi_N H} {jp : Nat → wi_N H}
variable {cx' : wm_X} {qr' : wm_Q1} {qt' : wm_Q2} {nx' : wm_N} {jp' : Nat → wm_N}
theorem wj_1_ok (K : wi_hk ρ Rr hp)
    (hq : ∀ v h v' h', qr v h → wi_ro ρ v v' → Rr h h' → qr' v' h') (ht : ∀ t h h', qt t h → Rr h h' → qt' t h')
    (hc : ∀ id as h q1 q2 as' h' q1' q2', cx id as h q1 q2 → wi_rs ρ as as' → Rr h h' → (∀ v h v' h', q1 v h → wi_ro ρ v v' → Rr h h' → q1' v' h') → (∀ t h h', q2 t h → Rr h h' → q2' t h') → cx' id as' h' q1' q2')
    (hn : ∀ lv st h cu su lv' st' h', nx lv st h cu su → wi_rl ρ lv lv' → wi_rs ρ st st' → Rr h h' → nx' lv' st' h' cu su)
    (hj : ∀ t lv st h cu su lv' st' h', jp t lv st h cu su → wi_rl ρ lv lv' → wi_rs ρ st st' → Rr h h' → jp' t lv' st' h' cu su)
    {i : Instr} {a b c : Nat} (hk : wi_ck i a = true) {lv : wi_L} {st : List wi_V} {h : H} {cu su : Nat} {lv' : wm_L} {st' : List wm_V} {h' : wm_H}
    (d : wj_1 hp RC RS mc ms cx qr qt nx jp i a b c lv st h cu su) (rl : wi_rl ρ lv lv') (rs : wi_rs ρ st st') (rr : Rr h h') : wL_1 RC RS mc ms cx' qr' qt' nx' jp' i a b c lv' st' h' cu su := by
  rcases wj_o (i := i) with ⟨d0, lo, hi, o, rfl⟩ | ⟨e1, e2⟩
  · obtain ⟨x, r, rfl, d1, d2⟩ := wi_pi_e d
    obtain ⟨z, t, rfl, hz, rs2⟩ := wi_rs_i rs
    exact ⟨fun y => hj _ _ _ _ _ _ _ _ _ (d1 (by rw [← hz]; exact y)) rl rs2 rr, fun j off y1 y2 => hj _ _ _ _ _ _ _ _ _ (d2 j off y1 (by rw [← hz]; exact y2)) rl rs2 rr⟩
  · rw [e1]
    rw [e2] at d
    exact wi_1_ok K hq ht hc hn hj hk d rl rs rr
end WJS
def wj_w {H : Type} (hp : wi_P H) (RC RS mc ms : Nat) (cx : wi_X H) (qr : wi_Q1 H) (qt : wi_Q2 H) (tb : wm_T) (hs : List Nat) (I : Nat → wi_N H) : Nat → wm_T → wi_N H
  | 0, _ => fun _ _ _ _ _ => False
  | _ + 1, [] => fun _ _ _ _ _ => False
  | n + 1, (pc, i, a, b, c, _) :: r => wj_1 hp RC RS mc ms cx qr qt (fun lv st h cu su => wi_ct hs I (pc + wL_len i) (wj_w hp RC RS mc ms cx qr qt tb hs I n (wm_nt i c r) lv st h cu su) lv st h cu su) (fun t lv st h cu su => wi_ct hs I t (wj_w hp RC RS mc ms cx qr qt tb hs I n (wm_dp tb t) lv st h cu su) lv st h cu su) i a b c
theorem wj_w_ok {H : Type} {Rl : wi_RL H} {hp : wi_P H} (W : wi_Lw Rl hp) {ρ : Nat → Nat} {h0 : wm_H} {RC RS mc ms : Nat} {cx : wi_X H} {qr : wi_Q1 H} {qt : wi_Q2 H} {qr' : wm_Q1} {qt' : wm_Q2}
    (hq : ∀ v h v' h', qr v h → wi_ro ρ v v' → Rl ρ h0 h h' → qr' v' h') (ht : ∀ t h h', qt t h → Rl ρ h0 h h' → qt' t h') {tb : wm_T} (hk : wi_tc tb = true) {hs : List Nat} {I : Nat → wi_N H} {I' : Nat → wm_S → Prop}
    (hI : ∀ pc lv st h cu su lv' st' h', I pc lv st h cu su → wi_rl ρ lv lv' → wi_rs ρ st st' → Rl ρ h0 h h' → I' pc (lv', st', h', cu, su)) :
    ∀ n T, wi_tc T = true → ∀ lv st h cu su lv' st' h', wj_w hp RC RS mc ms cx qr qt tb hs I n T lv st h cu su → wi_rl ρ lv lv' → wi_rs ρ st st' → Rl ρ h0 h h' → wL_w RC RS mc ms (fun id => wi_lf Rl (cx id)) qr' qt' tb hs I' n T lv' st' h' cu su := by
  obtain ⟨w1, w2, w3⟩ := W
  intro n
  induction n with
  | zero => intro T _ lv st h cu su lv' st' h' d; exact d.elim
  | succ n ih =>
    intro T hT lv st h cu su lv' st' h' d rl rs rr
    cases T with
    | nil => exact d.elim
    | cons x r =>
      obtain ⟨pc, i, a, b, c, e⟩ := x
      have hT2 : wi_ck i a = true ∧ wi_tc r = true := by
        unfold wi_tc at hT ⊢
        rw [List.all_cons, Bool.and_eq_true] at hT
        exact hT
      refine wj_1_ok (w3 ρ h0) hq ht (fun id as h q1 q2 as' h' q1' q2' z1 z2 z3 z4 z5 => ?_) (fun lv st h cu su lv' st' h' z1 z2 z3 z4 => ?_) (fun t lv st h cu su lv' st' h' z1 z2 z3 z4 => ?_) hT2.1 d rl rs rr
      · exact ⟨ρ, as, h, q1, q2, z2, w1 _ _ _ _ z3, z1, fun v g v' g' y1 y2 y3 => z4 _ _ _ _ y1 y2 (w2 _ _ _ _ _ _ z3 y3), fun t g g' y1 y3 => z5 _ _ _ y1 (w2 _ _ _ _ _ _ z3 y3)⟩
      · unfold wi_ct at z1
        unfold wm_ct
        split at z1
        · next e1 => rw [if_pos e1]; exact hI _ _ _ _ _ _ _ _ _ z1 z2 z3 z4
        · next e1 =>
          rw [if_neg e1]
          refine ih _ ?_ _ _ _ _ _ _ _ _ z1 z2 z3 z4
          rcases wm_nt_e i c r r with e9 | ⟨e9, -⟩
          · rw [e9]; rfl
          · rw [e9]; exact hT2.2
      · unfold wi_ct at z1
        unfold wm_ct
        split at z1
        · next e1 => rw [if_pos e1]; exact hI _ _ _ _ _ _ _ _ _ z1 z2 z3 z4
        · next e1 =>
          rw [if_neg e1]
          refine ih _ ?_ _ _ _ _ _ _ _ _ z1 z2 z3 z4
          obtain ⟨u, hu⟩ := wm_dp_e tb t
          rw [hu] at hk
          exact wi_tc_sub hk
def wj_go {H : Type} (hp : wi_P H) (R : Room) (mc ms nL : Nat) (cx : wi_X H) (tb : wm_T) (hs : List Nat) (f : Nat) (as : List wi_V) (h : H) (qr : wi_Q1 H) (qt : wi_Q2 H) : Prop :=
  ∃ I : Nat → Nat → wi_N H, (∀ pc, hs.contains pc = true → ∀ n lv st h cu su, I n pc lv st h cu su → wj_w hp R.cells R.slots mc ms cx qr qt tb hs (fun pc' lv st h cu su => ∃ n', n' < n ∧ I n' pc' lv st h cu su) f (wm_dp tb pc) lv st h cu su) ∧
    wj_w hp R.cells R.slots mc ms cx qr qt tb hs (fun pc' lv st h cu su => ∃ n', I n' pc' lv st h cu su) f (wm_dp tb 0) (wi_en as nL) [] h 0 0
section WJU
variable {p : Program} {l : Launch} {e : Env} {R : Room} {s : State} {m : MethodId} {args : Array Value} {below : List Frame} {meth : Method} {c : Code} {own mn : String} {rt : Option FieldType} {cc : ByteArray} {nL b0 : Nat} {D : va_G} {aC : wm_Y}
variable {mc ms : Nat} {qr' : wm_Q1} {qt' qx' : wm_Q2}
theorem wj_body {H : Type} {Rl : wi_RL H} {hp : wi_P H} (W : wi_Lw Rl hp) (C : wm_C p s m args meth c own cc nL b0 D aC) (hNC : wh_NC s) (hb0 : b0 ≤ s.heap.size) (hl0 : l.stackTraces = false) (hmn : meth.name = mn) (hrt : meth.sig.returnType = rt) {cx : wi_X H} {ids hids : List Nat} (hcx : wm_cxok l R D aC b0 (fun id => wi_lf Rl (cx id)) ids) (hcy : wh_cxok l R D aC b0 (fun id => wi_lf Rl (cx id)) hids) {tb : wm_T}
    (ht : wL_tok R own mn rt ids hids cc tb) (hk : wi_tc tb = true) (hq : ∀ x ∈ tb, wh_cl x.2.1 = true → ∀ lv r k h' cu su, cu ≤ mc → su ≤ ms → qx' k h' → wm_JT p l e R s m args below meth c nL b0 D aC (wm_MQ below (wm_Qc D aC b0 qr' qt') args s mc ms (fun q => b0 ≤ q)) x.1 lv r k h' cu su) (hot : (∀ x ∈ tb, ∀ j, x.2.1 ≠ .new j) ∨ ((∀ q, wm_out c q) ∧ qx' = qt'))
    {ρ : Nat → Nat} {as : List wi_V} {as' : List wm_V} {h : H} {h' : wm_H} {qr : wi_Q1 H} {qt : wi_Q2 H} (z1 : wi_rs ρ as as') (z2 : Rl ρ h' h h') (z4 : ∀ v g v' g', qr v g → wi_ro ρ v v' → Rl ρ h' g g' → qr' v' g') (z5 : ∀ t g g', qt t g → Rl ρ h' g g' → qx' t g') (hs : List Nat) (f : Nat)
    (go : wj_go hp R mc ms nL cx tb hs f as h qr qt) : wm_J p l e R s m args below meth c nL b0 D aC (wm_MQ below (wm_Qc D aC b0 qr' qt') args s mc ms (fun q => b0 ≤ q)) 0 (wm_en as' nL, [], h', 0, 0) := by
  obtain ⟨I, m2, m3⟩ := go
  refine wL_entry (qx := qx') C hNC hb0 hl0 hmn hrt hcx hcy ht hq hot hs (fun n pc σ => ∃ lv st g, I n pc lv st g σ.2.2.2.1 σ.2.2.2.2 ∧ wi_rl ρ lv σ.1 ∧ wi_rs ρ st σ.2.1 ∧ Rl ρ h' g σ.2.2.1) f (fun pc hpc n σ hσ => ?_) ?_
  · obtain ⟨lv, st, g, y1, y2, y3, y4⟩ := hσ
    exact wj_w_ok W z4 z5 hk (fun pc lv st h cu su lv' st' h2 x1 x2 x3 x4 => by
      obtain ⟨n', x5, x6⟩ := x1
      exact ⟨n', x5, lv, st, h, x6, x2, x3, x4⟩) f _ (by obtain ⟨u, hu⟩ := wm_dp_e tb pc; rw [hu] at hk; exact wi_tc_sub hk) _ _ _ _ _ _ _ _ (m2 pc hpc n lv st g _ _ y1) y2 y3 y4
  · exact wj_w_ok W z4 z5 hk (fun pc lv st h cu su lv' st' h2 x1 x2 x3 x4 => by
      obtain ⟨n', x6⟩ := x1
      exact ⟨n', lv, st, h, x6, x2, x3, x4⟩) f _ (by obtain ⟨u, hu⟩ := wm_dp_e tb 0; rw [hu] at hk; exact wi_tc_sub hk) _ _ _ _ _ _ _ _ m3 (wi_rl_en _ z1) trivial z2
end WJU
/-! decided -/
def wL_sb (R : Room) (own mn : String) (rt : Option FieldType) (ids hids : List Nat) (cc : ByteArray) (pc : Nat) (i : Instr) (a b c d : Nat) : Bool := match i with
  | .tableswitch d0 lo hi o => decide (a = pc ∧ 0 ≤ (pc : Int) + d0 ∧ (∀ off ∈ o.toList, 0 ≤ (pc : Int) + off) ∧ (o.size : Int) = hi - lo + 1)
  | .invokestatic k => if hids.contains a then wm_ib d (Cond.methodLink own k (wm_my a)) && wm_ib (wm_cp a).2.2.1 (Cond.static (wm_my a)) && decide ((parseMethodDescriptor (wm_my a).desc).map (fun d => d.parameters.length) = some (wm_mn a)) else wm_sb R own mn rt ids cc pc (.invokestatic k) a b c d
  | j => wm_sb R own mn rt ids cc pc j a b c d
theorem wL_sb_ok {R : Room} {own mn : String} {rt : Option FieldType} {ids hids : List Nat} {cc : ByteArray} {pc : Nat} {i : Instr} {a b c d : Nat} (h : wL_sb R own mn rt ids hids cc pc i a b c d = true) : wL_st R own mn rt ids hids cc pc i a b c := by
  cases i
  case tableswitch d0 lo hi o =>
    simp only [wL_sb, decide_eq_true_eq] at h
    exact h
  case invokestatic k =>
    simp only [wL_sb] at h
    split at h
    · next e =>
      simp only [Bool.and_eq_true, decide_eq_true_eq] at h
      exact Or.inl ⟨e, wm_ib_in h.1.1, wm_ib_in h.1.2, h.2⟩
    · exact Or.inr (wm_sb_ok h)
  all_goals (dsimp only [wL_sb] at h; exact wm_sb_ok h)
def wL_tb (R : Room) (own mn : String) (rt : Option FieldType) (ids hids : List Nat) (cc : ByteArray) (tb : wm_T) : Bool := wL_sq tb && tb.all fun x => wm_is (decode cc x.1) x.2.1 (wL_len x.2.1) && wL_sb R own mn rt ids hids cc x.1 x.2.1 x.2.2.1 x.2.2.2.1 x.2.2.2.2.1 x.2.2.2.2.2
theorem wL_tb_ok {R : Room} {own mn : String} {rt : Option FieldType} {ids hids : List Nat} {cc : ByteArray} {tb : wm_T} (h : wL_tb R own mn rt ids hids cc tb = true) : wL_tok R own mn rt ids hids cc tb := by
  simp only [wL_tb, Bool.and_eq_true] at h
  refine ⟨h.1, fun x hx => ?_⟩
  have := List.all_eq_true.mp h.2 x hx
  simp only [Bool.and_eq_true] at this
  exact ⟨wm_is_ok this.1, wL_sb_ok this.2⟩
