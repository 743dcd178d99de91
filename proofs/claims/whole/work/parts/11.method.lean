/-! THE ABSTRACT MACHINE, 6: a method by its table: from cut to cut -/
/-- the table of a method: at a pc, the instruction and what the tables say of it -/
abbrev wm_T : Type := List (Nat × Instr × Nat × Nat × Nat × Nat)
def wm_dp : wm_T → Nat → wm_T
  | [], _ => []
  | x :: r, pc => if x.1 = pc then x :: r else wm_dp r pc
def wm_ct (hs : List Nat) (I : Nat → wm_S → Prop) (pc : Nat) (A : Prop) (lv : wm_L) (st : List wm_V) (h : wm_H) (cu su : Nat) : Prop := if hs.contains pc then I pc (lv, st, h, cu, su) else A
/-- behind an instruction: nothing behind a throw -/
def wm_nt (i : Instr) (c : Nat) (r : wm_T) : wm_T := match i with
  | .new _ => if c = 9 then [] else r
  | _ => r
theorem wm_nt_e (i : Instr) (c : Nat) (r x : wm_T) : wm_nt i c r = [] ∨ (wm_nt i c r = r ∧ wm_nt i c x = x) := by
  unfold wm_nt
  split
  · split
    · exact Or.inl rfl
    · exact Or.inr ⟨rfl, rfl⟩
  · exact Or.inr ⟨rfl, rfl⟩
/-- from a place of the table on, n instructions at most, up to a cut -/
def wm_w (RC RS mc ms : Nat) (cx : wm_X) (qr : wm_Q1) (qt : wm_Q2) (tb : wm_T) (hs : List Nat) (I : Nat → wm_S → Prop) : Nat → wm_T → wm_N
  | 0, _ => fun _ _ _ _ _ => False
  | _ + 1, [] => fun _ _ _ _ _ => False
  | n + 1, (pc, i, a, b, c, _) :: r => wm_1 RC RS mc ms cx qr qt (fun lv st h cu su => wm_ct hs I (pc + wm_len i) (wm_w RC RS mc ms cx qr qt tb hs I n (wm_nt i c r) lv st h cu su) lv st h cu su) (fun t lv st h cu su => wm_ct hs I t (wm_w RC RS mc ms cx qr qt tb hs I n (wm_dp tb t) lv st h cu su) lv st h cu su) i a b c
/-- each instruction behind the one before it -/
def wm_sq : wm_T → Bool
  | [] => true
  | [_] => true
  | x :: y :: r => (decide (wm_nt x.2.1 x.2.2.2.2.1 [x] ≠ [x]) || decide (y.1 = x.1 + wm_len x.2.1)) && wm_sq (y :: r)
theorem wm_dp_e : ∀ (tb : wm_T) (t : Nat), ∃ u, tb = u ++ wm_dp tb t
  | [], t => ⟨[], rfl⟩
  | x :: r, t => by
    simp only [wm_dp]
    split
    · exact ⟨[], rfl⟩
    · obtain ⟨u, hu⟩ := wm_dp_e r t
      exact ⟨x :: u, by rw [List.cons_append, ← hu]⟩
theorem wm_dp_h : ∀ (tb : wm_T) (t : Nat) (x : Nat × Instr × Nat × Nat × Nat × Nat) (r : wm_T), wm_dp tb t = x :: r → x.1 = t
  | [], t, x, r, h => by simp [wm_dp] at h
  | y :: z, t, x, r, h => by
    simp only [wm_dp] at h
    split at h
    · next e => cases h; exact e
    · exact wm_dp_h z t x r h
theorem wm_sq_e : ∀ (u : wm_T) (x y : Nat × Instr × Nat × Nat × Nat × Nat) (r : wm_T), wm_sq (u ++ x :: y :: r) = true → wm_nt x.2.1 x.2.2.2.2.1 [x] = [x] → y.1 = x.1 + wm_len x.2.1
  | [], x, y, r, h, h0 => by
    simp only [List.nil_append, wm_sq, Bool.and_eq_true, Bool.or_eq_true, decide_eq_true_eq] at h
    exact h.1.resolve_left (fun z => z h0)
  | [z], x, y, r, h, h0 => by
    simp only [List.cons_append, List.nil_append, wm_sq, Bool.and_eq_true, Bool.or_eq_true, decide_eq_true_eq] at h
    exact h.2.1.resolve_left (fun z => z h0)
  | z :: z' :: u, x, y, r, h, h0 => by
    simp only [List.cons_append, wm_sq, Bool.and_eq_true] at h
    exact wm_sq_e (z' :: u) x y r h.2 h0
section WMU
variable {p : Program} {l : Launch} {e : Env} {R : Room} {s : State} {m : MethodId} {args : Array Value} {below : List Frame} {meth : Method} {c : Code} {own mn : String} {rt : Option FieldType} {cc : ByteArray} {nL b0 : Nat} {D : va_G} {aC : wm_Y}
variable {mc ms : Nat} {qr : wm_Q1} {qt : wm_Q2}
def wm_tok (R : Room) (own mn : String) (rt : Option FieldType) (ids : List Nat) (cc : ByteArray) (tb : wm_T) : Prop := wm_sq tb = true ∧ ∀ x ∈ tb, decode cc x.1 = .ok (x.2.1, wm_len x.2.1) ∧ wm_st R own mn rt ids cc x.1 x.2.1 x.2.2.1 x.2.2.2.1 x.2.2.2.2.1
theorem wm_w_ok {qx : wm_Q2} (C : wm_C p s m args meth c own cc nL b0 D aC) (hb0 : b0 ≤ s.heap.size) (hl0 : l.stackTraces = false) (hq : ∀ pc lv r k h' cu su, cu ≤ mc → su ≤ ms → qx k h' → wm_JT p l e R s m args below meth c nL b0 D aC (wm_MQ below (wm_Qc D aC b0 qr qt) args s mc ms (fun q => b0 ≤ q)) pc lv r k h' cu su) (hmn : meth.name = mn) (hrt : meth.sig.returnType = rt) {cx : wm_X} {ids : List Nat} (hcx : wm_cxok l R D aC b0 cx ids) {tb : wm_T} (ht : wm_tok R own mn rt ids cc tb) (hot : (∀ x ∈ tb, ∀ j, x.2.1 ≠ .new j) ∨ ((∀ q, wm_out c q) ∧ qx = qt)) {hs : List Nat} {I : Nat → wm_S → Prop}
    (hc : ∀ pc σ, hs.contains pc = true → I pc σ → wm_J p l e R s m args below meth c nL b0 D aC (wm_MQ below (wm_Qc D aC b0 qr qt) args s mc ms (fun q => b0 ≤ q)) pc σ) :
    ∀ n u x r lv st h cu su, tb = u ++ x :: r → wm_w R.cells R.slots mc ms cx qr qx tb hs I n (x :: r) lv st h cu su → wm_J p l e R s m args below meth c nL b0 D aC (wm_MQ below (wm_Qc D aC b0 qr qt) args s mc ms (fun q => b0 ≤ q)) x.1 (lv, st, h, cu, su) := by
  intro n
  induction n with
  | zero => intro u x r lv st hh cu su _ h; exact h.elim
  | succ n ih =>
    intro u x r lv st hh cu su hu h
    obtain ⟨pc, i, a, b, k, d⟩ := x
    obtain ⟨hd, hs9⟩ := ht.2 (pc, i, a, b, k, d) (by rw [hu]; simp)
    refine wm_sound C hb0 hl0 (hq pc) hmn hrt hcx hd hs9 (hot.imp (fun h9 => h9 (pc, i, a, b, k, d) (by rw [hu]; simp)) _root_.id) (fun lv st hh cu su z => ?_) (fun t lv st hh cu su z => ?_) h
    · unfold wm_ct at z
      split at z
      · next e8 => exact hc _ _ e8 z
      · rcases wm_nt_e i k r [(pc, i, a, b, k, d)] with e9 | ⟨e9, e8⟩
        · rw [e9] at z; cases n <;> exact z.elim
        · rw [e9] at z
          cases r with
          | nil => cases n <;> exact z.elim
          | cons y r =>
            have hy := wm_sq_e u (pc, i, a, b, k, d) y r (by rw [← hu]; exact ht.1) e8
            have z9 := ih (u ++ [(pc, i, a, b, k, d)]) y r lv st hh cu su (by rw [hu]; simp) z
            rw [hy] at z9
            exact z9
    · unfold wm_ct at z
      split at z
      · next e8 => exact hc _ _ e8 z
      · obtain ⟨v, hv⟩ := wm_dp_e tb t
        cases hdp : wm_dp tb t with
        | nil => rw [hdp] at z; cases n <;> exact z.elim
        | cons y r9 =>
          rw [hdp] at z hv
          have hy := wm_dp_h tb t y r9 hdp
          rw [← hy]
          exact ih v y r9 lv st hh cu su hv z
theorem wm_floyd (C : wm_C p s m args meth c own cc nL b0 D aC) (hb0 : b0 ≤ s.heap.size) (hl0 : l.stackTraces = false) (hex : c.exceptionTable.isEmpty = true) (hmn : meth.name = mn) (hrt : meth.sig.returnType = rt) {cx : wm_X} {ids : List Nat} (hcx : wm_cxok l R D aC b0 cx ids) {tb : wm_T} (ht : wm_tok R own mn rt ids cc tb)
    (hs : List Nat) (I : Nat → Nat → wm_S → Prop) (f : Nat) (hI : ∀ pc, hs.contains pc = true → ∀ n σ, I n pc σ → wm_w R.cells R.slots mc ms cx qr qt tb hs (fun pc' σ' => ∃ n', n' < n ∧ I n' pc' σ') f (wm_dp tb pc) σ.1 σ.2.1 σ.2.2.1 σ.2.2.2.1 σ.2.2.2.2) :
    ∀ n, ∀ pc, hs.contains pc = true → ∀ σ, I n pc σ → wm_J p l e R s m args below meth c nL b0 D aC (wm_MQ below (wm_Qc D aC b0 qr qt) args s mc ms (fun q => b0 ≤ q)) pc σ := by
  intro n
  induction n using Nat.strongRecOn with
  | ind n ih =>
    intro pc hpc σ h
    have z := hI pc hpc n σ h
    obtain ⟨v, hv⟩ := wm_dp_e tb pc
    cases hdp : wm_dp tb pc with
    | nil => rw [hdp] at z; cases f <;> exact z.elim
    | cons y r9 =>
      rw [hdp] at z hv
      have hy := wm_dp_h tb pc y r9 hdp
      rw [← hy]
      refine wm_w_ok C hb0 hl0 (fun pc lv r k h' cu su e1 e2 z => wm_JT_out C hb0 (wm_out_of hex pc) e1 e2 z) hmn hrt hcx ht (Or.inr ⟨wm_out_of hex, rfl⟩) (fun pc' σ' e8 z => ?_) f v y r9 _ _ _ _ _ hv z
      obtain ⟨n', hn', hz⟩ := z
      exact ih n' hn' pc' e8 σ' hz
theorem wm_entry (C : wm_C p s m args meth c own cc nL b0 D aC) (hb0 : b0 ≤ s.heap.size) (hl0 : l.stackTraces = false) (hex : c.exceptionTable.isEmpty = true) (hmn : meth.name = mn) (hrt : meth.sig.returnType = rt) {cx : wm_X} {ids : List Nat} (hcx : wm_cxok l R D aC b0 cx ids) {tb : wm_T} (ht : wm_tok R own mn rt ids cc tb)
    (hs : List Nat) (I : Nat → Nat → wm_S → Prop) (f : Nat) (hI : ∀ pc, hs.contains pc = true → ∀ n σ, I n pc σ → wm_w R.cells R.slots mc ms cx qr qt tb hs (fun pc' σ' => ∃ n', n' < n ∧ I n' pc' σ') f (wm_dp tb pc) σ.1 σ.2.1 σ.2.2.1 σ.2.2.2.1 σ.2.2.2.2)
    {σ : wm_S} (h0 : wm_w R.cells R.slots mc ms cx qr qt tb hs (fun pc' σ' => ∃ n', I n' pc' σ') f (wm_dp tb 0) σ.1 σ.2.1 σ.2.2.1 σ.2.2.2.1 σ.2.2.2.2) : wm_J p l e R s m args below meth c nL b0 D aC (wm_MQ below (wm_Qc D aC b0 qr qt) args s mc ms (fun q => b0 ≤ q)) 0 σ := by
  obtain ⟨v, hv⟩ := wm_dp_e tb 0
  cases hdp : wm_dp tb 0 with
  | nil => rw [hdp] at h0; cases f <;> exact h0.elim
  | cons y r9 =>
    rw [hdp] at h0 hv
    have hy := wm_dp_h tb 0 y r9 hdp
    rw [← hy]
    refine wm_w_ok C hb0 hl0 (fun pc lv r k h' cu su e1 e2 z => wm_JT_out C hb0 (wm_out_of hex pc) e1 e2 z) hmn hrt hcx ht (Or.inr ⟨wm_out_of hex, rfl⟩) (fun pc' σ' e8 z => ?_) f v y r9 _ _ _ _ _ hv h0
    obtain ⟨n', hz⟩ := z
    exact wm_floyd C hb0 hl0 hex hmn hrt hcx ht hs I f hI n' pc' e8 σ' hz
end WMU
/-- A METHOD's CONTRACT out of its table: the demand at its entry, and at each of its cuts -/
theorem wm_method {l : Launch} {D : va_G} {aC : wm_Y} {b0 : Nat} (id : Nat) {as : List wm_V} {h : wm_H} {qr : wm_Q1} {qt : wm_Q2} {cx : wm_X} {ids : List Nat} {tb : wm_T}
    (hy : plainName (wm_my id).cls = true) (hw : wm_ws as ≤ wm_mL id) (hl0 : l.stackTraces = false)
    (hcx : wm_cxok l (wm_mr id) D aC b0 cx ids) (ht : wm_tok (wm_mr id) (wm_my id).cls (wm_my id).name (wm_mrt id) ids (wm_mb id) tb)
    (hs : List Nat) (I : Nat → Nat → wm_S → Prop) (f : Nat) (hI : ∀ pc, hs.contains pc = true → ∀ n σ, I n pc σ → wm_w (wm_mr id).cells (wm_mr id).slots (wm_mc id) (wm_ms id) cx qr qt tb hs (fun pc' σ' => ∃ n', n' < n ∧ I n' pc' σ') f (wm_dp tb pc) σ.1 σ.2.1 σ.2.2.1 σ.2.2.2.1 σ.2.2.2.2)
    (h0 : (∀ q, h.1 q ≠ 0 → q < h.2.2.2.2.2) → wm_w (wm_mr id).cells (wm_mr id).slots (wm_mc id) (wm_ms id) cx qr qt tb hs (fun pc' σ' => ∃ n', I n' pc' σ') f (wm_dp tb 0) (wm_en as (wm_mL id)) [] h 0 0) :
    wm_Met l (wm_my id) (wm_cw id :: wm_WG) (wm_mr id) (wm_Pc D aC b0 as h) (wm_Qc D aC b0 qr qt) (wm_mc id) (wm_ms id) (fun q => b0 ≤ q) := by
  refine wm_ofW (cc := wm_mb id) (maxL := wm_mL id) (ret := wm_mrt id) hy rfl ?_
  intro p e s m args below meth c s₁ B hml hv
  obtain ⟨rfl, hO, hK⟩ := hv
  have hts := atoms_spec (ws := wm_cw id :: wm_WG) B.pre
  have hown : s.vm.findClass (wm_my id).cls = some m.cls := findClass_of_methodNamed B.named
  have hnm : meth.name = (wm_my id).name := (name_of_methodNamed B.named B.method).1
  have hC : wm_C p s m (as.map wm_tv).toArray meth c (wm_my id).cls (wm_mb id) (wm_mL id) b0 D aC :=
    ⟨B.exec, B.bytes, hml, B.notSynchronized, hown, fun w hw => hts w (List.mem_cons_of_mem _ hw), hK⟩
  have hb0 : b0 ≤ s.heap.size := hO.2.1
  have h9 := wm_entry (p := p) (e := e) (below := below) hC hb0 hl0 (B.noHandlers (hts _ List.mem_cons_self)) hnm B.returns hcx ht hs I f hI (σ := (wm_en as (wm_mL id), [], h, 0, 0)) (h0 (fun q hq => by rw [← hO.1]; exact (hO.2.2.1 q hq).2))
  rw [lg_entry_eq]
  exact h9 s.heap [] _ hO va_S.rf (wm_lo_en hw)
