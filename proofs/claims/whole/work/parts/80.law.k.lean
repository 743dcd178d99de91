/-! THE CLAIM OUT OF ONE WALK OF THE LAW'S BODY -/
def R_law : String := "CycleKernelLaw"
def lw_P (b : Addr) (xs : List Int32) (args : Array Value) (s : State) : Prop := args = #[.ref b] ∧ s.IntsAt b xs ∧ xs.length ≤ 4097 ∧ (Jvm.Cond.and given_1 narrow_1).before args s = true
def lw_Q (_ : Array Value) (s : State) (o : Outcome) (t : State) : Prop := o = .returned (some (.int 1)) ∧ Framed s o t [] 601024 7293000
def lw_Z (below : List Frame) (a : Array Value) (s : State) : State → Prop := fun t => ∃ o, t.status = .running ∧ Ended t below o ∧ lw_Q a s o t
def lw_At (p : Program) (s : State) (m : MethodId) (meth : Method) (c : Code) (b L : Nat) (xs : Nat → Int32) : Prop :=
  p.tables.exec = Jvm.exec ∧ c.code = code ∧ meth.sig.returnType = ret ∧ c.maxLocals = 7 ∧ s.vm.findClass R_law = some m.cls ∧ (∀ w ∈ lw_tbl, w.before #[Value.ref b] s = true) ∧ va_X b L xs s s.heap ∧ b < s.heap.size ∧ meth.locks = false ∧ (Jvm.Cond.and given_1 narrow_1).before #[Value.ref b] s = true
theorem wl_go {b Lw : Nat} (hL : Lw ≤ 4097) {h : wc_H} (hn : wc_hn h) (hb1 : h.1 b = 1) (hb2 : h.2.1 b = Lw) : wj_go (wc_hp wc_ok3) room_1 601024 7293000 7 wl_cx tbL wl_hs 200 [wi_rf (some b)] h (fun v _ => v = some (.inl 1)) (fun _ _ => False) :=
  ⟨wl_I b Lw, fun pc hpc => wl_all hL pc hpc, wl_g0 hL hn hb1 hb2⟩
/-- from the entry, for every script of at most 4097 ints, the law comes to its end with true -/
theorem whole_start {p : Program} {e : Env} {s : State} {m : MethodId} {below : List Frame} {meth : Method} {c : Code} (l : Launch) (hl0 : l.stackTraces = false) {b L : Nat} {xs : Nat → Int32} (hL : L ≤ 4097) (C0 : lw_At p s m meth c b L xs) (hex : c.exceptionTable.isEmpty = true) (hnm : meth.name = "law") : W p l e room_1 s m #[Value.ref b] below meth c s.heap [] 0 0 (lw_Z below #[Value.ref b] s) (entryFrame m ([Value.ref b] : List Value).toArray 7) := by
  obtain ⟨hx, hb, hr, hml, hown, hts, hX, hbl, hlocks, hgv⟩ := id C0
  obtain ⟨D, aC, ea, hK⟩ := wl_known (c0 := m.cls) hts hgv hX hbl
  have hC : wm_C p s m #[Value.ref b] meth c "CycleKernelLaw" code 7 s.heap.size D aC := ⟨hx, hb, hml, hlocks, hown, fun w hw => hts w (List.mem_filter.mp hw).1, hK⟩
  have hNC : wh_NC s := wl_nc hgv
  have hO : wm_ok D aC s.heap.size (fun q => if q = b then 1 else 0, fun _ => L, fun _ k _ => xs k, fun _ _ _ => 0, fun _ _ _ => none, s.heap.size) s.heap := by
    refine ⟨rfl, Nat.le_refl _, fun q hq => ?_, fun q h1 => ?_, fun q hq => ?_⟩
    · by_cases e : q = b
      · subst e
        exact ⟨fun z => absurd (if_pos rfl) z, hbl⟩
      · exact absurd (if_neg e) hq
    · by_cases e : q = b
      · exact absurd (if_pos e) h1
      · simp only [if_neg e]
        exact trivial
    · by_cases e : q = b
      · rw [ea]
        exact ⟨e, rfl, fun _ => rfl⟩
      · simp only [if_neg e] at hq
        cases hq
  have hn : ∀ q, (if q = b then 1 else 0) ≠ 0 → q < s.heap.size := fun q hq => (hO.2.2.1 q hq).2
  have h9 := wj_body (p := p) (l := l) (e := e) (R := room_1) (below := below) (nL := 7) (mc := 601024) (ms := 7293000) (qr' := fun v _ => v = some (.inl 1)) (qt' := fun _ _ => False) (qx' := fun _ _ => False) (rt := some .boolean) (wc_lw wc_ok3) hC hNC (Nat.le_refl _) hl0 hnm hr (wl_cxok hl0) (wl_cxoh hl0) (wL_tb_ok tk_L) tc_L (fun _ _ _ _ _ _ _ _ _ _ _ z => z.elim) (Or.inr ⟨wm_out_of hex, rfl⟩) (ρ := fun x => x) (as := [wi_rf (some b)]) (as' := [.inr (.inr (some b))])
    (h := (fun q => if q = b then 1 else 0, fun _ => L, fun _ k _ => (xs k).toInt, fun _ _ _ => 0, fun _ _ _ => none, s.heap.size)) (h' := (fun q => if q = b then 1 else 0, fun _ => L, fun _ k _ => xs k, fun _ _ _ => 0, fun _ _ _ => none, s.heap.size)) (qr := fun v _ => v = some (.inl 1)) (qt := fun _ _ => False)
    ⟨rfl, trivial⟩ ⟨fun _ => rfl, ⟨rfl, rfl, fun _ _ _ => rfl, fun _ _ _ => rfl, rfl, rfl⟩, hn, Nat.le_refl _, fun _ _ => ⟨rfl, rfl⟩, fun _ _ => ⟨rfl, rfl, rfl⟩⟩ (fun v g v' g' hv ro _ => ?_) (fun _ _ _ z _ => z.elim) wl_hs 200 (wl_go hL hn (if_pos rfl) rfl)
  · rw [lg_entry_eq]
    refine wm_mono (fun t ht => ?_) (h9 s.heap [] _ hO va_S.rf (wm_lo_en (Nat.le_of_ble_eq_true rfl)))
    obtain ⟨o, t1, t2, t3, Lc, ⟨t4, t5⟩, t6⟩ := ht
    rcases t3.1 with ⟨v, h2, rfl, -, hv⟩ | ⟨x, h2, k, ce, -, -, -, -, -, -, hf⟩
    · cases hv
      exact ⟨_, t1, t2, rfl, ⟨_, rfl⟩, t4, t5.weaken (fun x hx hlt => absurd hlt (Nat.not_lt.mpr (t6 x hx))) (Nat.le_refl _) (Nat.le_refl _)⟩
    · exact hf.elim
  · cases hv
    cases v' with
    | none => exact ro.elim
    | some w =>
      obtain ⟨⟨z, rfl, hz⟩, -⟩ := ro
      have : z = 1 := Int32.toInt_inj.mp hz
      rw [this]
set_option maxHeartbeats 4000000 in
theorem lw_walk (l : Launch) (hl0 : l.stackTraces = false) (b : Addr) (xs : List Int32) : MetFree l x (headSpec (Jvm.Cond.code x code maxLocals ret :: tables_1) room_1) (lw_P b xs) (fun _ _ _ _ _ => True) lw_Q := by
  refine MetFree.of_bodyS (code := code) (maxLocals := maxLocals) (ret := ret) (by decide) ?_ ?_
  · intro args s m h hn
    obtain ⟨meth, c, h1, h2, h3, h4, h5, h6, -, -⟩ := Cond.code_spec hn (atoms_spec (ws := Jvm.Cond.code x code maxLocals ret :: tables_1) h _ List.mem_cons_self)
    exact ⟨meth, c, h1, h2, h3, h4, h5, h6⟩
  · intro p e s m args below meth c s₁ B hml0 hP _
    obtain ⟨rfl, hx, hbd, hgv⟩ := hP
    obtain ⟨scr, harrAt, hlist, hof, hsmall⟩ := hx
    obtain ⟨hcb, hkn, -, -⟩ := State.arrayAt?_spec harrAt
    have hown : s.vm.findClass R_law = some m.cls := findClass_of_methodNamed B.named
    have hnm : meth.name = "law" := (name_of_methodNamed B.named B.method).1
    have hts0 : ∀ c ∈ (Jvm.Cond.code x code maxLocals ret :: tables_1), c.before #[Value.ref b] s = true := atoms_spec (ws := Jvm.Cond.code x code maxLocals ret :: tables_1) B.pre
    have hts : ∀ w ∈ lw_tbl, w.before #[Value.ref b] s = true := k2_hts_sels lw_privs (fun w hw => hts0 w (List.mem_cons_of_mem _ hw)) lw_privs_ok
    have hml : c.maxLocals = 7 := B.maxLocals_eq (hts0 _ List.mem_cons_self)
    have X₀ : Stand p l e room_1 s m #[Value.ref b] below meth c s₁ [] 0 0 := Stand.of_body B
    have hh0 : s₁.heap = s.heap := by rw [B.state]; rfl
    have hsz : scr.slots.size = xs.length := by rw [← Array.length_toList, hlist, List.length_map]
    have hval : ∀ j : Nat, j < xs.length → scr.slots[j]? = some (.int (xs.getD j 0)) := fun j hj => by
      rw [← Array.getElem?_toList, hlist]
      simp [hj]
    have hbl : b < s.heap.size := (Array.getElem?_eq_some_iff.mp hcb).1
    have hX : va_X b xs.length (fun j => xs.getD j 0) s s.heap := ⟨scr, hcb, hof, hkn, hsz, hval⟩
    have K : W p l e room_1 s m #[Value.ref b] below meth c s₁.heap [] 0 0 (lw_Z below #[Value.ref b] s) (entryFrame m ([Value.ref b] : List Value).toArray 7) := by
      rw [hh0]
      exact whole_start l hl0 hbd ⟨B.exec, B.bytes, B.returns, hml, hown, hts, hX, hbl, B.notSynchronized, hgv⟩ (B.noHandlers (hts0 _ List.mem_cons_self)) hnm
    obtain ⟨t, a1, o, b1, b2, b3⟩ := K s₁ rfl X₀
    exact ⟨t, o, a1, b1, b2, b3⟩
theorem lw_pre_spec {args : Array Value} {s : State} (h : (Jvm.Cond.and given_1 narrow_1).before args s = true) (hr : rest_1_c.before args s = true) : ∃ (b : Addr) (xs : List Int32), lw_P b xs args s := by
  have hs := flat_of_before _ h
  have hq := flat_of_before _ hr
  have hc : (Cond.count 1).before args s = true := hs _ (by decide +kernel)
  have harr : (Cond.arrayOf (.arg 0) .int).before args s = true := hs _ (by decide +kernel)
  have hle : (Cond.le (.length (.arg 0)) (.int 4097)).before args s = true := hs _ (by decide +kernel)
  have hlen : (Cond.isInt (.length (.arg 0))).before args s = true := hq _ (by decide +kernel)
  have hall : (Cond.all (.arg 0) (.isInt (.elem (.arg 0) (.index 0)))).before args s = true := hq _ (by decide +kernel)
  obtain ⟨b, xs, hb, hx⟩ := State.ints_of_pre rfl harr hlen hall
  have hsm : xs.length < 2 ^ 31 := hx.choose_spec.2.2.2
  have hev : (Term.length (.arg 0)).eval args s none [] s = some (.int xs.length.toInt32) := hx.length_eval hb
  have hv := Cond.le_ints hev (show (Term.int 4097).eval args s none [] s = some (.int 4097) from rfl)
  have hd : xs.length.toInt32 ≤ 4097 := by
    simpa [Cond.before, Cond.holds, hv] using hle
  have hN : xs.length ≤ 4097 := (Int32.ofNat_le_ofNat hsm (by decide)).mp (show Int32.ofNat xs.length ≤ Int32.ofNat 4097 from hd)
  exact ⟨b, xs, Cond.one_arg hc (show args[0]? = some (.ref b) from hb), hx, hN, h⟩
theorem lw_comes (l : Launch) (hl0 : l.stackTraces = false) : Comes l x (Jvm.Cond.code x code maxLocals ret :: tables_1) room_1 (fun tb e args s => Calls_1 tb e args s ∧ rest_1 tb e args s ∧ Pre_1 tb e args s)
    (fun _ _ args s o t => lw_Q args s o t) := by
  intro p e ha hc hk s m args below hf hfit hheap happ hpre
  obtain ⟨b, xs, hP⟩ := lw_pre_spec hpre.2.2 hpre.2.1
  obtain ⟨k, o, h1, h2, h3, hQ⟩ := lw_walk l hl0 b xs p e ha hc hk s m args below hf ((Spec.applies_iff_loose hf).mp happ).1 hP trivial
  exact ⟨k, o, h1, h2, h3, hQ⟩
theorem lw_frame {s t : State} {o : Outcome} {args : Array Value} (h : Framed s o t [] 601024 7293000) :
    Framed s o t (fieldLocs frame_1_writes args s ++ arrayLocs frame_1_arrays args s ++ staticLocs frame_1_statics s) 601024 7293000 := h
theorem lw_flags {l : Launch} (h : l.flags = flags0) : l.stackTraces = false := by
  unfold Launch.stackTraces
  rw [h]
  decide +kernel
theorem lw_limb (L : Cond) (hL : ∀ (args : Array Value) (s t : State), L.after args s (.returned (some (.int 1))) t = true) :
    ArmFor flags0 classFile x code maxLocals ret World_1 tables_1 room_1 Calls_1 rest_1 Pre_1
      (fun tb e a s o t => postC L tb e a s o t ∧ Framed s o t (fieldLocs frame_1_writes a s ++ arrayLocs frame_1_arrays a s ++ staticLocs frame_1_statics s) 601024 7293000) := by
  intro l hfl _ _ p e ha hc hk s m args below hf hfit hheap happ hpre
  obtain ⟨k, o, h1, h2, h3, rfl, hF⟩ := lw_comes l (lw_flags hfl) p e ha hc hk s m args below hf hfit hheap happ hpre
  exact ⟨k, _, h1, h2, h3, hL args s _, lw_frame hF⟩
theorem i_vc : Claimed_1_1 ∧ Claimed_1_2 := ⟨lw_limb limb_1_1 (fun args s t => by simp [limb_1_1, Cond.after, Cond.holds, Cond.value]), lw_limb limb_1_2 (fun args s t => Cond.after_iff.mpr (by
  first | (rw [show limb_1_2 = Cond.eq .result (.int 1) from rfl, Cond.eq_ints (x := 1) (y := 1) rfl rfl]; simp; done) | (simp [limb_1_2, Cond.value, Term.eval]; done)))⟩
