section WMR
variable {p : Program} {l : Launch} {e : Env} {R : Room} {s : State} {m : MethodId} {args : Array Value} {below : List Frame} {meth : Method} {c : Code} {own : String} {cc : ByteArray} {nL b0 : Nat} {D : va_G} {aC : wm_Y}
variable {pc cu su mc ms : Nat} {lv : wm_L} {st : List wm_V} {h : wm_H} {qr : wm_Q1} {qt : wm_Q2}
theorem wm_qr_of {H : Heap} {locs : List Loc} {v : Option wm_V} (hO : wm_ok D aC b0 h H) (hS : va_S (fun q => b0 ≤ q) s.heap H locs) (hb : b0 ≤ s.heap.size) (hq : qr v h) : ∀ t : State, t.heap = H → s.WarmedH t.vm → wm_Qc D aC b0 qr qt args s (.returned (v.map wm_tv)) t := by
  intro t ht _
  refine ⟨Or.inl ⟨v, h, rfl, by rw [ht]; exact hO, hq⟩, by rw [ht]; exact hS.1, fun q hq' => ?_⟩
  rw [ht]
  exact hS.2.1 q (by omega) (by omega)
theorem wm_o_iret (C : wm_C p s m args meth c own cc nL b0 D aC) (hb : b0 ≤ s.heap.size) {x : Int32} {ty : FieldType} (hr : meth.sig.returnType = some ty) (hn : narrow ty (.int x) = .int x) (hd : decode cc pc = .ok (.ireturn, 1)) (e1 : cu ≤ mc) (e2 : su ≤ ms) (hq : qr (some (.inl x)) h) :
    wm_J p l e R s m args below meth c nL b0 D aC (wm_MQ below (wm_Qc D aC b0 qr qt) args s mc ms (fun q => b0 ≤ q)) pc (lv, [.inl x], h, cu, su) := by
  intro H locs ls hO hS hL
  obtain ⟨hx, hbc, hml, hlocks, hown, hts, hK⟩ := C
  exact W.widen e1 e2 (wm_mono wm_MQ_of (W.zret (v := x) hx hbc hr hn (wm_qr_of hO hS hb hq) hS.2.2 hd hlocks))
theorem wm_o_lret (C : wm_C p s m args meth c own cc nL b0 D aC) (hb : b0 ≤ s.heap.size) {x : Int64} (hr : meth.sig.returnType = some .long) (hd : decode cc pc = .ok (.lreturn, 1)) (e1 : cu ≤ mc) (e2 : su ≤ ms) (hq : qr (some (.inr (.inl x))) h) :
    wm_J p l e R s m args below meth c nL b0 D aC (wm_MQ below (wm_Qc D aC b0 qr qt) args s mc ms (fun q => b0 ≤ q)) pc (lv, [.inr (.inl x)], h, cu, su) := by
  intro H locs ls hO hS hL
  obtain ⟨hx, hbc, hml, hlocks, hown, hts, hK⟩ := C
  exact W.widen e1 e2 (wm_mono wm_MQ_of (W.lret (v := x) hx hbc hr (wm_qr_of hO hS hb hq) hS.2.2 hd hlocks))
theorem wm_o_aret (C : wm_C p s m args meth c own cc nL b0 D aC) (hb : b0 ≤ s.heap.size) {x : Option Nat} {ty : FieldType} (hr : meth.sig.returnType = some ty) (hrt : wm_ck ty = 2) (hd : decode cc pc = .ok (.areturn, 1)) (e1 : cu ≤ mc) (e2 : su ≤ ms) (hq : qr (some (.inr (.inr x))) h) :
    wm_J p l e R s m args below meth c nL b0 D aC (wm_MQ below (wm_Qc D aC b0 qr qt) args s mc ms (fun q => b0 ≤ q)) pc (lv, [.inr (.inr x)], h, cu, su) := by
  intro H locs ls hO hS hL
  obtain ⟨hx, hbc, hml, hlocks, hown, hts, hK⟩ := C
  have hrt' : (∃ n, ty = .object n) ∨ ∃ t, ty = .array t := by
    cases ty <;> first | exact Or.inl ⟨_, rfl⟩ | exact Or.inr ⟨_, rfl⟩ | exact absurd hrt (by decide)
  have hv : wm_tv (.inr (.inr x)) = .null ∨ ∃ a, wm_tv (.inr (.inr x)) = .ref a := by
    cases x with
    | none => exact Or.inl rfl
    | some a => exact Or.inr ⟨a, rfl⟩
  exact W.widen e1 e2 (wm_mono wm_MQ_of (W.aret (v := wm_tv (.inr (.inr x))) hx hbc hr hrt' hv (wm_qr_of hO hS hb hq) hS.2.2 hd hlocks))
theorem wm_o_vret (C : wm_C p s m args meth c own cc nL b0 D aC) (hb : b0 ≤ s.heap.size) (hr : meth.sig.returnType = none) (hd : decode cc pc = .ok (.return_, 1)) (e1 : cu ≤ mc) (e2 : su ≤ ms) (hq : qr none h) :
    wm_J p l e R s m args below meth c nL b0 D aC (wm_MQ below (wm_Qc D aC b0 qr qt) args s mc ms (fun q => b0 ≤ q)) pc (lv, [], h, cu, su) := by
  intro H locs ls hO hS hL
  obtain ⟨hx, hbc, hml, hlocks, hown, hts, hK⟩ := C
  exact W.widen e1 e2 (wm_mono wm_MQ_of (W.vret hx hbc hr (wm_qr_of hO hS hb hq) hS.2.2 hd hlocks))
theorem wm_o_obj {Q : State → Prop} (C : wm_C p s m args meth c own cc nL b0 D aC) (hr : 1 ≤ R.frames ∧ 20 ≤ R.locals) {k q : Nat} {r : List wm_V} (hst : (r.map wm_cat).sum ≤ 8) (w1 : Cond.methodLink own k objectInit ∈ wm_WG) (w2 : Cond.instanceMethod objectInit ∈ wm_WG) (w3 : Cond.code objectInit ⟨#[0xb1]⟩ 1 none ∈ wm_WG) (hd : decode cc pc = .ok (.invokespecial k, 3))
    (kk : wm_J p l e R s m args below meth c nL b0 D aC Q (pc + 3) (lv, r, h, cu, su)) : wm_J p l e R s m args below meth c nL b0 D aC Q pc (lv, .inr (.inr (some q)) :: r, h, cu, su) := by
  intro H locs ls hO hS hL
  obtain ⟨hx, hbc, hml, hlocks, hown, hts, hK⟩ := C
  exact W.objInit hx hbc hown (hts _ w1) (hts _ w2) (hts _ w3) rfl (by rw [hml]; exact hL.2.1) rfl hd hr.1 (by show 2 * 0 + _ + 12 ≤ _; rw [wm_cats]; omega) (kk H locs ls hO hS hL)
/-- what lies at x is thrown here, and nothing catches it: the method throws it -/
def wm_out (c : Code) (pc : Nat) : Prop := ∀ y ∈ c.exceptionTable.toList, covers y pc = false
theorem wm_leave (C : wm_C p s m args meth c own cc nL b0 D aC) (hb : b0 ≤ s.heap.size) {T : State} {locs : List Loc} (X : Stand p l e R s m args below meth c T locs cu su) {g : JFrame} (hg : g.method = m) (hg2 : g.locked = none) (hg3 : g.entered = []) (hout : wm_out c g.pc) {x : Addr} {k : Nat} {ce : Cell} (hO : wm_ok D aC b0 h T.heap) (hS : va_S (fun q => b0 ≤ q) s.heap T.heap locs)
    (h1 : T.heap[x]? = some ce) (h2 : ce.vm = .none) (h3 : s.vm.findClass (wm_xn k) = some ce.cls) (h4 : k = 1 ∨ k = 2 ∨ k = 3) (e1 : cu ≤ mc) (e2 : su ≤ ms) (hq : qt k h) :
    ∃ t, Steps p.tables e below ((T.setTop g).pushFrame (.throwing x)) t ∧ wm_MQ below (wm_Qc D aC b0 qr qt) args s mc ms (fun q => b0 ≤ q) t := by
  obtain ⟨hx, hbc, hml, hlocks, hown, hts, hK⟩ := C
  obtain ⟨y1, y2, y3, y4, y5⟩ := (stand_widen X e1 e2).leaveThrown x hg hg2 hg3 hout hlocks
  refine ⟨_, y1, .threw x, y2, y3, ⟨Or.inr ⟨x, h, k, ce, rfl, hO, h1, h2, h3, h4, hq⟩, hS.1, fun q hq' => hS.2.1 q (by omega) (by omega)⟩, locs, ⟨y4, y5⟩, hS.2.2⟩
/-- where x is thrown over the frame: the walk goes on, or ends -/
def wm_JT (p : Program) (l : Launch) (e : Env) (R : Room) (s : State) (m : MethodId) (args : Array Value) (below : List Frame) (meth : Method) (c : Code) (nL b0 : Nat) (D : va_G) (aC : wm_Y) (Q : State → Prop) (pc : Nat) (lv : wm_L) (r : List wm_V) (k : Nat) (h : wm_H) (cu su : Nat) : Prop :=
  ∀ (H : Heap) (locs : List Loc) (ls : Array Slot) (x : Addr) (ce : Cell), wm_ok D aC b0 h H → va_S (fun q => b0 ≤ q) s.heap H locs → wm_lo ls nL lv → H[x]? = some ce → ce.vm = .none → s.vm.findClass (wm_xn k) = some ce.cls → (k = 1 ∨ k = 2 ∨ k = 3) →
    vx_W p l e R s m args below meth c H locs cu su Q (F0 m pc ls (r.map wm_tv)) x
theorem wm_JT_out (C : wm_C p s m args meth c own cc nL b0 D aC) (hb : b0 ≤ s.heap.size) (hout : wm_out c pc) {r : List wm_V} {k : Nat} (e1 : cu ≤ mc) (e2 : su ≤ ms) (hq : qt k h) :
    wm_JT p l e R s m args below meth c nL b0 D aC (wm_MQ below (wm_Qc D aC b0 qr qt) args s mc ms (fun q => b0 ≤ q)) pc lv r k h cu su := by
  intro H locs ls x ce hO hS hL h1 h2 h3 h4 T hT X
  subst hT
  exact wm_leave C hb X rfl rfl rfl hout hO hS h1 h2 h3 h4 e1 e2 hq
theorem wm_out_of {c : Code} (h : c.exceptionTable.isEmpty = true) : ∀ q, wm_out c q := by
  intro q y hy
  have : c.exceptionTable = #[] := by simpa using h
  rw [this] at hy
  simp at hy
theorem wm_vx {below : List Frame} {args : Array Value} {s : State} {H : Heap} {k : Nat} (hb : b0 ≤ s.heap.size) (hO : wm_ok D aC b0 h H) (hS1 : s.heap.size ≤ H.size) (hS2 : ∀ q, q < b0 → H[q]? = s.heap[q]?) (h4 : k = 1 ∨ k = 2 ∨ k = 3) (hq : ∀ n, h.2.2.2.2.2 ≤ n → qt k (wm_sz h n)) (t : State)
    (z : vx_MQ below (fun _ _ _ _ => False) (fun E _ t => E = wm_xn k ∧ H.size ≤ t.heap.size ∧ ∀ q, q < H.size → t.heap[q]? = H[q]?) args s mc ms (fun q => b0 ≤ q) t) : wm_MQ below (wm_Qc D aC b0 qr qt) args s mc ms (fun q => b0 ≤ q) t := by
  obtain ⟨o, z1, z2, z3⟩ := z
  rcases z3 with ⟨z3, -⟩ | ⟨q, rfl, E, ce, L, ⟨rfl, y1, y2⟩, y3, y4, y5, y6, y7, y8⟩
  · exact z3.elim
  · refine ⟨_, z1, z2, ⟨Or.inr ⟨q, wm_sz h t.heap.size, k, ce, rfl, wm_ok_sz hO y1 y2, y3, y4, y5, h4, hq _ (by rw [← hO.1]; exact y1)⟩, by omega, fun q' hq' => ?_⟩, L, ⟨y6, y7⟩, y8⟩
    rw [y2 q' (by omega)]
    exact hS2 q' hq'
theorem wm_o_throw (C : wm_C p s m args meth c own cc nL b0 D aC) (hb : b0 ≤ s.heap.size) (hl0 : l.stackTraces = false) (hout : ∀ q, wm_out c q) {k a j : Nat} {tx : String} (r1 : 6 ≤ R.frames) (r2 : 90 ≤ R.locals) (h4 : a = 1 ∨ a = 2 ∨ a = 3) (ho : own = "CycleKernel") (w1 : Cond.classLink own k (wm_xn a) ∈ wm_WG) (w2 : Cond.initialized (wm_xn a) ∈ wm_WG)
    (hd : decode cc pc = .ok (.new k, 3)) (d3 : decode cc (pc + 3) = .ok (.dup, 1)) (hsr : (own, j, tx) ∈ wm_sr)
    (d4 : (decode cc (pc + 4) = .ok (.ldc j, 2) ∧ decode cc (pc + 6) = .ok (.invokespecial (wm_xi a), 3) ∧ decode cc (pc + 9) = .ok (.athrow, 1)) ∨ (decode cc (pc + 4) = .ok (.ldc_w j, 3) ∧ decode cc (pc + 7) = .ok (.invokespecial (wm_xi a), 3) ∧ decode cc (pc + 10) = .ok (.athrow, 1)))
    (i1 : cu + 1 ≤ R.cells) (i2 : su + 6 ≤ R.slots) (y1 : cu + 1 ≤ mc) (y2 : su + 6 ≤ ms) (y3 : (st.map wm_cat).sum ≤ 8) (y4 : ∀ n, h.2.2.2.2.2 ≤ n → qt a (wm_sz h n)) :
    wm_J p l e R s m args below meth c nL b0 D aC (wm_MQ below (wm_Qc D aC b0 qr qt) args s mc ms (fun q => b0 ≤ q)) pc (lv, st, h, cu, su) := by
  intro H locs ls hO hS hL
  obtain ⟨hx, hbc, hml, hlocks, hown, hts, hK⟩ := C
  subst ho
  have hxk := wm_xk_ok h4
  have hw : ∀ w, (w ∈ wm_WG ∨ w ∈ wm_NW) → vx_ot w = true → w.before args s = true := by
    intro w hw ho
    rcases hw with hw | hw
    · exact hts w hw
    · have hon : w.onTables = true := by
        rcases wm_NW_ok w hw with ⟨a, i, x, g, rfl⟩ | ⟨x, rfl⟩ | ⟨a, b, rfl⟩ <;> rfl
      exact va_Nw.use hon (hK.2.2.1 w hw)
  have hat : ∀ w ∈ vx_atS "CycleKernel" (wm_xi a) (wm_xn a) wm_xc, w.before args s = true := fun w hw' => hw w (hxk w hw').2 (hxk w hw').1
  have hgood : ∀ w ∈ Cond.classLink "CycleKernel" k (wm_xn a) :: Cond.initialized (wm_xn a) :: vx_atS "CycleKernel" (wm_xi a) (wm_xn a) wm_xc, vx_ot w = true := by
    intro w hw'
    rcases List.mem_cons.mp hw' with rfl | hw'
    · rfl
    · rcases List.mem_cons.mp hw' with rfl | hw'
      · rfl
      · exact (hxk w hw').1
  obtain ⟨sa, hstr⟩ := hK.2.2.2.2.2.2 _ hsr
  have hcls : Bundle.fit (wm_xn a) = true := by rcases h4 with rfl | rfl | rfl <;> decide +kernel
  have hnm : ∀ n ∈ wm_xc, Bundle.fit n = true := by decide +kernel
  have hS2 : ∀ q, q < b0 → H[q]? = s.heap[q]? := fun q hq => hS.2.1 q (by omega) (by omega)
  have hloc : ((st.map wm_tv).map fun v => v.category).sum + (13 * (wm_xc.length + 1) + 43) ≤ R.locals := by
    rw [wm_cats]
    have : wm_xc.length = 2 := rfl
    omega
  refine wm_mono (wm_vx (mc := mc) (ms := ms) hb hO hS.1 hS2 h4 y4) ?_
  rcases d4 with ⟨d4, d6, d9⟩ | ⟨d4, d7, d10⟩
  · exact vx_throwS hx hbc hl0 hown hcls hnm (hts _ w1) (hts _ w2) hstr hat hgood hK.2.2.2.2.1 hK.2.2.2.2.2.1 hS (by rw [hml]; exact hL.2.1) hd d3 d4 d6 d9 (hout _) (by show 2 + 3 < _; omega) hloc i1 i2 hlocks (fun t _ z1 z2 => ⟨rfl, z1, z2⟩) hS.2.2 y1 y2
  · exact vx_throwSW hx hbc hl0 hown hcls hnm (hts _ w1) (hts _ w2) hstr hat hgood hK.2.2.2.2.1 hK.2.2.2.2.2.1 hS (by rw [hml]; exact hL.2.1) hd d3 d4 d7 d10 (hout _) (by show 2 + 3 < _; omega) hloc i1 i2 hlocks (fun t _ z1 z2 => ⟨rfl, z1, z2⟩) hS.2.2 y1 y2
theorem wm_o_call {Q : State → Prop} (C : wm_C p s m args meth c own cc nL b0 D aC) {id : Nat} {as r : List wm_V} {q1 : wm_Q1} {q2 : wm_Q2} {i : Instr} {w0 : Cond}
    (hM : wm_Met l (wm_my id) (w0 :: wm_WG) (wm_mr id) (wm_Pc D aC b0 as h) (wm_Qc D aC b0 q1 q2) (wm_mc id) (wm_ms id) (fun q => b0 ≤ q))
    (hrc : (wm_mr id).cells = wm_mc id) (hrs : (wm_mr id).slots = wm_ms id) (hR1 : (wm_mr id).frames + 1 ≤ R.frames) (hR2 : 8 + (wm_mL id + 11) + (wm_mr id).locals ≤ R.locals) (w1 : w0 ∈ wm_WG) (w2 : Cond.initialized (wm_my id).cls ∈ wm_WG)
    (hcd : ∀ (T : State) (mk : MethodId), s.WarmedH T.vm → T.methodNamed? (wm_my id) = some mk → ∃ methY cY, T.vm.method? mk = some methY ∧ methY.code = some cY ∧ cY.maxLocals = wm_mL id)
    (hd : decode cc pc = .ok (i, 3)) (hst : (r.map wm_cat).sum ≤ 8) (e1 : cu + wm_mc id ≤ R.cells) (e2 : su + wm_ms id ≤ R.slots)
    (inv : ∀ (T : State) (locs : List Loc) (ls : Array Slot), wm_ok D aC b0 h T.heap → Stand p l e R s m args below meth c T locs cu su → wm_Inv p l e R s m args below meth c locs cu su T (F0 m pc ls (st.map wm_tv)) (r.map wm_tv) (wm_my id) (as.map wm_tv).toArray)
    (hb : b0 ≤ s.heap.size)
    (kr : ∀ v h', q1 v h' → wm_J p l e R s m args below meth c nL b0 D aC Q (pc + 3) (lv, v.toList ++ r, h', cu + wm_mc id, su + wm_ms id))
    (kt : ∀ k h', q2 k h' → wm_JT p l e R s m args below meth c nL b0 D aC Q pc lv r k h' (cu + wm_mc id) (su + wm_ms id)) :
    wm_J p l e R s m args below meth c nL b0 D aC Q pc (lv, st, h, cu, su) := by
  intro H locs ls hO hS hL T hT X
  subst hT
  obtain ⟨vm₁, mk, X₁, hn, hstep⟩ := inv T locs ls hO X
  have C9 := C
  obtain ⟨hx, hbc, hml, hlocks, hown, hts, hK⟩ := C9
  have hws : ∀ w ∈ (w0 :: wm_WG), ∀ a' U, s.WarmedH U.vm → w.before a' U = true := by
    intro w hw a' U hW
    have hw' : w ∈ wm_WG := by
      rcases List.mem_cons.mp hw with rfl | hw
      · exact w1
      · exact hw
    exact word_at hW (good_of_word (wm_WG_good w hw')) (hts w hw')
  have hsz : (F0 m pc ls (r.map wm_tv)).locals.size = c.maxLocals := by rw [hml]; exact hL.2.1
  have hPc : wm_Pc D aC b0 as h (as.map wm_tv).toArray (T.setVm vm₁) := ⟨rfl, hO, wm_K_to X₁.warmed (fun q hq => hS.2.1 q (by omega) (by omega)) hK⟩
  have hfr : ∀ {st' t' : State} {L : List Loc}, st'.heap = T.heap → st'.heap.size ≤ t'.heap.size → (∀ q, q < b0 → t'.heap[q]? = st'.heap[q]?) → (∀ q ∈ L, b0 ≤ q.base) → va_S (fun q => b0 ≤ q) s.heap t'.heap (locs ++ L) := by
    intro st' t' L g1 g2 g3 g4
    refine ⟨Nat.le_trans hS.1 (by rw [← g1]; exact g2), fun q a1 a2 => ?_, fun q hq => ?_⟩
    · rw [g3 q (by omega), g1]
      exact hS.2.1 q a1 a2
    · rcases List.mem_append.mp hq with z | z
      · exact hS.2.2 q z
      · exact g4 q z
  rcases wm_into X₁ hM (wm_blind D aC b0 as h) hrc hrs hR1 hR2 hws (hcd _ mk X₁.warmed (X₁.named hn)) (hts _ w2) (g := F0 m pc ls (r.map wm_tv)) rfl hsz (by rw [hbc]; exact hd) (by show 2 * 0 + _ ≤ 8; rw [wm_cats]; omega) hn e1 e2 hPc with
    ⟨v, st', t, T', L, g1, g4, g2, g3, ⟨gq, g5, g6⟩, g7, X', hs⟩ | ⟨x, st', t, T', L, g1, g4, g2, g3, ⟨gq, g5, g6⟩, g7, X', hs⟩
  · rcases gq with ⟨v', h', ev, hO', hq'⟩ | ⟨x, h', k, ce, ev, -⟩
    · cases ev
      have S' := hfr g1 g5 g6 g7
      rw [← g2] at S' hO'
      obtain ⟨t2, a1, b1⟩ := kr v' h' hq' T'.heap (locs ++ L) ls hO' S' hL T' rfl X'
      refine ⟨t2, hstep _ fun acts => ?_, b1⟩
      rw [doInvoke_state]
      refine hs.trans ?_
      have hst9 : (v'.map wm_tv).toList ++ r.map wm_tv = (v'.toList ++ r).map wm_tv := by cases v' <;> rfl
      show Steps p.tables e below (T'.setTop (F0 m (pc + 3) ls ((v'.map wm_tv).toList ++ r.map wm_tv))) t2
      rw [hst9]
      exact a1
    · cases ev
  · rcases gq with ⟨v', h', ev, -⟩ | ⟨x', h', k, ce, ev, hO', j1, j2, j3, j4, hq'⟩
    · cases ev
    · cases ev
      have S' := hfr g1 g5 g6 g7
      rw [← g2] at S' hO' j1
      have j3' : s.vm.findClass (wm_xn k) = some ce.cls := by
        have z : st'.vm.findClass (wm_xn k) = some ce.cls := j3
        rw [g4] at z
        exact vx_cls X₁.warmed z
      obtain ⟨t2, a1, b1⟩ := kt k h' hq' T'.heap (locs ++ L) ls x ce hO' S' hL j1 j2 j3' j4 T' rfl X'
      refine ⟨t2, hstep _ fun acts => ?_, b1⟩
      rw [doInvoke_state]
      exact hs.trans a1
end WMR
