/-! THE LAW, 3: methods that catch what they call -/
def wh_ck (ct : Nat) : Nat := if ct = 13 then 1 else if ct = 15 then 2 else if ct = 25 then 3 else 0
def wh_at : List (Nat × Nat × Nat × Nat) → Nat → Nat → Option Nat
  | [], _, _ => none
  | x :: r, pc, k => if x.1 ≤ pc ∧ pc < x.2.1 ∧ wh_ck x.2.2.2 ≠ 0 then (if wh_ck x.2.2.2 = k then some x.2.2.1 else wh_at r pc k) else none
theorem wh_lk {ct : Nat} (h : wh_ck ct ≠ 0) : (ct ≠ 0 ∧ (wh_ck ct = 1 ∨ wh_ck ct = 2 ∨ wh_ck ct = 3)) ∧ Cond.classLink "CycleKernelLaw" ct (wm_xn (wh_ck ct)) ∈ wm_WG := by
  have : ct = 13 ∨ ct = 15 ∨ ct = 25 := by
    unfold wh_ck at h
    split at h
    · omega
    · split at h
      · omega
      · split at h
        · omega
        · exact absurd rfl h
  rcases this with rfl | rfl | rfl
  · exact ⟨⟨by decide, by decide⟩, wm_ib_in (i := 203) (by decide +kernel)⟩
  · exact ⟨⟨by decide, by decide⟩, wm_ib_in (i := 204) (by decide +kernel)⟩
  · exact ⟨⟨by decide, by decide⟩, wm_ib_in (i := 358) (by decide +kernel)⟩
theorem wh_cs {k : Nat} (h : k = 1 ∨ k = 2 ∨ k = 3) : Cond.castable (wm_xn k) (wm_xn k) ∈ wm_NW := by
  rcases h with rfl | rfl | rfl <;> decide +kernel
section WHC
variable {p : Program} {l : Launch} {e : Env} {R : Room} {s : State} {m : MethodId} {args : Array Value} {below : List Frame} {meth : Method} {c : Code} {mn : String} {cc : ByteArray} {nL b0 : Nat} {D : va_G} {aC : wm_Y}
variable {pc cu su mc ms : Nat} {lv : wm_L} {st : List wm_V} {h : wm_H} {qr : wm_Q1} {qt : wm_Q2}
theorem wh_catch {Q : State → Prop} (C : wm_C p s m args meth c "CycleKernelLaw" cc nL b0 D aC) (hNC : wh_NC s) {k hp : Nat} (hk : k = 1 ∨ k = 2 ∨ k = 3) {H : Heap} {locs : List Loc} {ls : Array Slot} {rest : List Value} {q : Addr} {ce : Cell} (hcell : H[q]? = some ce) (hv : ce.vm = .none) (hcl : s.vm.findClass (wm_xn k) = some ce.cls)
    (kk : W p l e R s m args below meth c H locs cu su Q (F0 m hp ls [.ref q])) : ∀ (hh : List (Nat × Nat × Nat × Nat)) (pre : List ExceptionTableEntry), c.exceptionTable.toList = pre ++ tableOf hh → (∀ z ∈ pre, covers z pc = false ∨ (z.catchType ≠ 0 ∧ ∃ nm : String, (Cond.classLink "CycleKernelLaw" z.catchType nm).before args s = true ∧ va_Nc (wm_xn k) nm s)) → wh_at hh pc k = some hp → vx_W p l e R s m args below meth c H locs cu su Q (F0 m pc ls rest) q
  | [], pre, _, _, h => by simp [wh_at] at h
  | x :: r, pre, he, hp9, h => by
    obtain ⟨hx, hbc, hml, hlk, hown, hts, hK⟩ := id C
    simp only [wh_at] at h
    split at h
    · next e1 =>
      obtain ⟨⟨l1, l2⟩, l3⟩ := wh_lk e1.2.2
      split at h
      · next e2 =>
        cases h
        rw [e2] at l3
        exact vx_catch hown pre ⟨x.1, x.2.1, x.2.2.1, x.2.2.2⟩ (tableOf r) he hp9 (by simp [covers]; omega) l1 (hts _ l3) (va_Nw.use rfl (hK.2.2.1 _ (wh_cs hk))) hcell hv hcl kk
      · next e2 =>
        refine wh_catch C hNC hk hcell hv hcl kk r (pre ++ [⟨x.1, x.2.1, x.2.2.1, x.2.2.2⟩]) (by rw [he, List.append_assoc]; rfl) (fun z hz => ?_) h
        rcases List.mem_append.mp hz with hz | hz
        · exact hp9 z hz
        · cases List.mem_singleton.mp hz
          exact Or.inr ⟨l1, _, hts _ l3, hNC k _ hk l2 (fun z => e2 z.symm)⟩
    · cases h
/-- a handler: the throw is put away, a number is answered -/
theorem wh_hd (C : wm_C p s m args meth c "CycleKernelLaw" cc nL b0 D aC) (hb0 : b0 ≤ s.heap.size) (hl0 : l.stackTraces = false) (hrt : meth.sig.returnType = some .int) {q : Nat} {cd : Int} (hlv : lv.length = nL) {i : Instr} {j : Nat} (hi : (i = .astore j ∨ ∃ k : Fin 4, i = .astore_n k ∧ (k : Nat) = j)) (hj : j < nL) (d1 : decode cc pc = .ok (i, wm_len i)) (d2 : decode cc (pc + wm_len i) = .ok (.iconst cd, 1)) (d3 : decode cc (pc + wm_len i + 1) = .ok (.ireturn, 1)) (e1 : cu ≤ mc) (e2 : su ≤ ms) (hq : qr (some (.inl (Int32.ofInt cd))) h) :
    wm_J p l e R s m args below meth c nL b0 D aC (wm_MQ below (wm_Qc D aC b0 qr qt) args s mc ms (fun q => b0 ≤ q)) pc (lv, [.inr (.inr (some q))], h, cu, su) := by
  have k3 : ∀ lv', wm_J p l e R s m args below meth c nL b0 D aC (wm_MQ below (wm_Qc D aC b0 qr qt) args s mc ms (fun q => b0 ≤ q)) (pc + wm_len i + 1) (lv', [.inl (Int32.ofInt cd)], h, cu, su) := fun lv' =>
    wm_sound (qx := fun _ _ => False) (cx := fun _ _ _ _ _ => False) (ids := []) (mn := meth.name) (nx := fun _ _ _ _ _ => False) (jp := fun _ _ _ _ _ _ => False) (a := 0) (b := 0) (k := 0) C hb0 hl0 (fun _ _ _ _ _ _ _ _ z => z.elim) rfl hrt wm_cx0 d3 (Or.inr ⟨by decide, rfl⟩) (Or.inl fun j z => by cases z) (fun _ _ _ _ _ z => z.elim) (fun _ _ _ _ _ _ z => z.elim) ⟨rfl, e1, e2, (fun z => by cases z), hq⟩
  have k2 : ∀ lv', wm_J p l e R s m args below meth c nL b0 D aC (wm_MQ below (wm_Qc D aC b0 qr qt) args s mc ms (fun q => b0 ≤ q)) (pc + wm_len i) (lv', [], h, cu, su) := fun lv' =>
    wm_sound (qx := fun _ _ => False) (cx := fun _ _ _ _ _ => False) (ids := []) (mn := meth.name) (rt := some .int) (nx := fun _ st' h' cu' su' => st' = [.inl (Int32.ofInt cd)] ∧ h' = h ∧ cu' = cu ∧ su' = su) (jp := fun _ _ _ _ _ _ => False) (a := 0) (b := 0) (k := 0) C hb0 hl0 (fun _ _ _ _ _ _ _ _ z => z.elim) rfl hrt wm_cx0 d2 trivial (Or.inl fun j z => by cases z) (fun lv2 st2 h2 cu2 su2 z => by obtain ⟨rfl, rfl, rfl, rfl⟩ := z; exact k3 lv2) (fun _ _ _ _ _ _ z => z.elim) ⟨rfl, rfl, rfl, rfl⟩
  have hn : ∀ lv2 st2 h2 cu2 su2, (st2 = [] ∧ h2 = h ∧ cu2 = cu ∧ su2 = su) → wm_J p l e R s m args below meth c nL b0 D aC (wm_MQ below (wm_Qc D aC b0 qr qt) args s mc ms (fun q => b0 ≤ q)) (pc + wm_len i) (lv2, st2, h2, cu2, su2) := fun lv2 st2 h2 cu2 su2 z => by obtain ⟨rfl, rfl, rfl, rfl⟩ := z; exact k2 lv2
  rcases hi with rfl | ⟨k, rfl, rfl⟩
  · exact wm_sound (qx := fun _ _ => False) (cx := fun _ _ _ _ _ => False) (ids := []) (mn := meth.name) (rt := some .int) (nx := fun _ st' h' cu' su' => st' = [] ∧ h' = h ∧ cu' = cu ∧ su' = su) (jp := fun _ _ _ _ _ _ => False) (a := 0) (b := 0) (k := 0) C hb0 hl0 (fun _ _ _ _ _ _ _ _ z => z.elim) rfl hrt wm_cx0 d1 trivial (Or.inl fun j z => by cases z) hn (fun _ _ _ _ _ _ z => z.elim) ⟨by omega, rfl, rfl, rfl, rfl⟩
  · exact wm_sound (qx := fun _ _ => False) (cx := fun _ _ _ _ _ => False) (ids := []) (mn := meth.name) (rt := some .int) (nx := fun _ st' h' cu' su' => st' = [] ∧ h' = h ∧ cu' = cu ∧ su' = su) (jp := fun _ _ _ _ _ _ => False) (a := 0) (b := 0) (k := 0) C hb0 hl0 (fun _ _ _ _ _ _ _ _ z => z.elim) rfl hrt wm_cx0 d1 trivial (Or.inl fun j z => by cases z) hn (fun _ _ _ _ _ _ z => z.elim) ⟨by omega, rfl, rfl, rfl, rfl⟩
end WHC
def wh_hb (hh : List (Nat × Nat × Nat × Nat)) (cc : ByteArray) (nL pc k : Nat) (cd : Int) : Bool := match wh_at hh pc k with
  | some hp => (match decode cc hp with
    | .ok (.astore j, 2) => decide (j < nL) && wm_is (decode cc (hp + 2)) (.iconst cd) 1 && wm_is (decode cc (hp + 2 + 1)) .ireturn 1
    | .ok (.astore_n j, 1) => decide ((j : Nat) < nL) && wm_is (decode cc (hp + 1)) (.iconst cd) 1 && wm_is (decode cc (hp + 1 + 1)) .ireturn 1
    | _ => false)
  | none => false
theorem wh_hb_ok {hh : List (Nat × Nat × Nat × Nat)} {cc : ByteArray} {nL pc k : Nat} {cd : Int} (h : wh_hb hh cc nL pc k cd = true) : ∃ hp i j, wh_at hh pc k = some hp ∧ (i = .astore j ∨ ∃ k : Fin 4, i = .astore_n k ∧ (k : Nat) = j) ∧ j < nL ∧ decode cc hp = .ok (i, wm_len i) ∧ decode cc (hp + wm_len i) = .ok (.iconst cd, 1) ∧ decode cc (hp + wm_len i + 1) = .ok (.ireturn, 1) := by
  unfold wh_hb at h
  split at h
  · next hp e1 =>
    split at h
    · next j e2 =>
      simp only [Bool.and_eq_true, decide_eq_true_eq] at h
      exact ⟨hp, _, j, e1, Or.inl rfl, h.1.1, e2, wm_is_ok h.1.2, wm_is_ok h.2⟩
    · next j e2 =>
      simp only [Bool.and_eq_true, decide_eq_true_eq] at h
      exact ⟨hp, _, _, e1, Or.inr ⟨j, rfl, rfl⟩, h.1.1, e2, wm_is_ok h.1.2, wm_is_ok h.2⟩
    · cases h
  · cases h
/-- which kinds are caught, and what is answered then -/
def wh_ex (id : Nat) : List (Nat × Int) := match id with
  | 120 => [(1, 1), (2, 2)]
  | 121 => [(2, 1)]
  | 122 => [(3, 1), (2, 2)]
  | 123 => [(3, 1), (1, 2), (2, 3)]
  | 124 => [(2, 1)]
  | 125 => [(1, 1), (2, 2)]
  | 126 => [(3, 1), (2, 2)]
  | 127 => [(3, 1), (2, 2), (1, 3)]
  | 128 => [(3, 1)]
  | 129 => [(3, 1), (1, 2), (2, 3)]
  | 130 => [(3, 1), (2, 2)]
  | 131 => [(3, 1), (2, 2)]
  | 132 => [(2, 1)]
  | 133 => [(3, 1)]
  | 134 => [(1, 1)]
  | 135 => [(3, 1)]
  | 136 => [(3, 1)]
  | 137 => [(3, 1)]
  | 138 => [(3, 1), (1, 2)]
  | _ => []
def wh_tb (id : Nat) (tb : wm_T) : Bool := ((wh_ex id).all fun y => decide (1 ≤ y.2 ∧ y.2 ≤ 3)) && tb.all fun x => (!wh_cl x.2.1 || (wh_ex id).all fun y => decide ((y.1 = 1 ∨ y.1 = 2 ∨ y.1 = 3) ∧ 1 ≤ y.2 ∧ y.2 ≤ 3) && wh_hb (wh_ht id) (wm_mb id) (wm_mL id) x.1 y.1 y.2) && (match x.2.1 with
  | .new _ => false
  | _ => true)
theorem wh_method {l : Launch} {D : va_G} {aC : wm_Y} {b0 : Nat} {H : Type} {Rl : wi_RL H} {hp : wi_P H} (W : wi_Lw Rl hp) (id : Nat) {cx : wi_X H} {ids : List Nat} {tb : wm_T} {sp : List wi_V → H → wi_Q1 H → wi_Q2 H → Prop}
    (hy : (wm_my id).cls = "CycleKernelLaw" ∧ wm_mrt id = some .int) (hl0 : l.stackTraces = false) (hcx : wm_cxok l (wm_mr id) D aC b0 (fun id => wi_lf Rl (cx id)) ids)
    (ht : wL_tb (wm_mr id) (wm_my id).cls (wm_my id).name (wm_mrt id) ids [] (wm_mb id) tb = true) (hk : wi_tc tb = true) (hh : wh_tb id tb = true) (f : Nat)
    (main : ∀ as h q1 q2, sp as h q1 q2 → Nat.ble ((as.map wi_cat).sum) (wm_mL id) = true ∧ wj_go hp (wm_mr id) (wm_mc id) (wm_ms id) (wm_mL id) cx tb [] f as h q1 (fun k h' => ∃ cd, (k, cd) ∈ wh_ex id ∧ q1 (some (.inl cd)) h')) : wh_sp l D aC b0 id (wi_lf Rl sp) := by
  intro as' h' q1' q2' z
  obtain ⟨ρ, as, h, q1, q2, z1, z2, z3, z4, z5⟩ := z
  obtain ⟨m1, go⟩ := main as h q1 q2 z3
  have m1 := Nat.le_of_ble_eq_true m1
  refine wh_ofW (cc := wm_mb id) (maxL := wm_mL id) (ret := wm_mrt id) (hh := wh_ht id) (by rw [hy.1]; decide +kernel) rfl ?_
  intro p e s m args below meth c s₁ B hxt hml hv
  obtain ⟨⟨rfl, hO, hK⟩, hNC⟩ := hv
  have hts := atoms_spec (ws := wh_cw id :: wm_WG) B.pre
  have hown : s.vm.findClass (wm_my id).cls = some m.cls := findClass_of_methodNamed B.named
  have hnm : meth.name = (wm_my id).name := (name_of_methodNamed B.named B.method).1
  have hC : wm_C p s m (as'.map wm_tv).toArray meth c (wm_my id).cls (wm_mb id) (wm_mL id) b0 D aC :=
    ⟨B.exec, B.bytes, hml, B.notSynchronized, hown, fun w hw => hts w (List.mem_cons_of_mem _ hw), hK⟩
  have hC9 : wm_C p s m (as'.map wm_tv).toArray meth c "CycleKernelLaw" (wm_mb id) (wm_mL id) b0 D aC := by rw [hy.1] at hC; exact hC
  have hb0 : b0 ≤ s.heap.size := hO.2.1
  have hrt : meth.sig.returnType = some .int := by rw [B.returns]; exact hy.2
  have hh : ((wh_ex id).all fun y => decide (1 ≤ y.2 ∧ y.2 ≤ 3)) = true ∧ _ := Bool.and_eq_true_iff.mp hh
  have hht := List.all_eq_true.mp hh.2
  have h9 := wj_body (p := p) (e := e) (R := wm_mr id) (below := below) (mc := wm_mc id) (ms := wm_ms id) (qr' := q1') (qt' := q2') (qx' := fun k h' => ∃ cd, (k, cd) ∈ wh_ex id ∧ q1' (some (.inl (Int32.ofInt cd))) h') W hC hNC hb0 hl0 hnm B.returns hcx (wh_cx0 (R := wm_mr id)) (wL_tb_ok ht) hk (fun x hx hc lv r k g cu su i1 i2 hq => ?_) (Or.inl fun x hx j e9 => ?_) z1 z2 z4 (fun t g g' hq rr => ?_) [] f go
  · rw [lg_entry_eq]
    exact h9 s.heap [] _ hO va_S.rf (wm_lo_en (by unfold wm_ws; rw [wi_rs_cat z1]; exact m1))
  · intro H9 locs ls q ce a1 a2 a3 a4 a5 a6 a7
    obtain ⟨cd, hmem, hq⟩ := hq
    have hx2 := hht x hx
    simp only [Bool.and_eq_true, Bool.or_eq_true, hc, Bool.not_true, Bool.false_eq_true, false_or] at hx2
    have hx3 := List.all_eq_true.mp hx2.1 _ hmem
    simp only [Bool.and_eq_true] at hx3
    obtain ⟨hp9, i, j, w1, w2, w3, w4, w5, w6⟩ := wh_hb_ok hx3.2
    exact wh_catch hC9 hNC a7 a4 a5 a6 (wh_hd (q := q) hC9 hb0 hl0 hrt a3.1 w2 w3 w4 w5 w6 i1 i2 hq H9 locs ls a1 a2 a3) (wh_ht id) [] hxt (fun z hz => absurd hz List.not_mem_nil) w1
  · have hx2 := hht x hx
    simp only [Bool.and_eq_true] at hx2
    have hx3 := hx2.2
    rw [e9] at hx3
    cases hx3
  · obtain ⟨cd, hmem, hq⟩ := hq
    refine ⟨cd, hmem, z4 _ g _ g' hq ⟨⟨_, rfl, ?_⟩, trivial⟩ rr⟩
    have := of_decide_eq_true (List.all_eq_true.mp hh.1 _ hmem)
    exact wi_o32 (by omega) (by omega)
