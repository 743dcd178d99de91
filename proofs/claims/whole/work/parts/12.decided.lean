/-! THE ABSTRACT MACHINE, 7: what the tables must say, decided -/
def wm_wb (own : String) (d k : Nat) (y : MethodName) : Bool := wm_ib d (Cond.methodLink own k y) || wm_NW.any (fun w => match w with
  | .methodLinkNest o j z _ => decide (o = own ∧ j = k ∧ z = y)
  | _ => false)
theorem wm_wb_ok {own : String} {d k : Nat} {y : MethodName} (h : wm_wb own d k y = true) : wm_ml own k y := by
  simp only [wm_wb, Bool.or_eq_true] at h
  rcases h with h | h
  · exact Or.inl (wm_ib_in h)
  · obtain ⟨w, hw, hz⟩ := List.any_eq_true.mp h
    split at hz
    · next o j z g =>
      simp only [decide_eq_true_eq] at hz
      obtain ⟨rfl, rfl, rfl⟩ := hz
      exact Or.inr ⟨_, hw⟩
    · cases hz
/-- a callee's words by their places: code, initialized, instanceMethod or static, selects -/
def wm_cb (id : Nat) (p : Nat × Nat × Nat × Nat) (st : Bool) : Bool := wm_ib p.1 (wm_cw id) && wm_ib p.2.1 (Cond.initialized (wm_my id).cls) && (if st then wm_ib p.2.2.1 (Cond.static (wm_my id)) else wm_ib p.2.2.1 (Cond.instanceMethod (wm_my id))) && decide ((wm_my id).cls ≠ "java/lang/invoke/MethodHandle" ∧ (wm_my id).cls ≠ "java/lang/invoke/VarHandle") && plainName (wm_my id).cls
def wm_fb (own : String) (d k : Nat) (f : String × String × String × Bool) : Bool := wm_ib d (Cond.fieldLink own k f.1 f.2.1 f.2.2.1)
def wm_ex (own : String) (j : Nat) : Bool := wm_sr.any fun x => decide (x.1 = own ∧ x.2.1 = j)
def wm_is (x : Except DecodeError (Instr × Nat)) (i : Instr) (n : Nat) : Bool := match x with
  | .ok y => decide (y = (i, n))
  | _ => false
theorem wm_is_ok {x : Except DecodeError (Instr × Nat)} {i : Instr} {n : Nat} (h : wm_is x i n = true) : x = .ok (i, n) := by
  unfold wm_is at h
  split at h
  · rw [of_decide_eq_true h]
  · cases h
theorem wm_ex_ok {own : String} {j : Nat} (h : wm_ex own j = true) : ∃ tx, (own, j, tx) ∈ wm_sr := by
  obtain ⟨x, hx, hz⟩ := List.any_eq_true.mp h
  obtain ⟨rfl, rfl⟩ := of_decide_eq_true hz
  exact ⟨x.2.2, hx⟩
/-- which string a throw loads -/
def wm_ld (cc : ByteArray) (pc : Nat) : Option (Nat × Bool) := match decode cc (pc + 4) with
  | .ok (.ldc j, 2) => some (j, true)
  | .ok (.ldc_w j, 3) => some (j, false)
  | _ => none
theorem wm_ld_ok {cc : ByteArray} {pc j : Nat} {b : Bool} (h : wm_ld cc pc = some (j, b)) : (b = true ∧ decode cc (pc + 4) = .ok (.ldc j, 2)) ∨ (b = false ∧ decode cc (pc + 4) = .ok (.ldc_w j, 3)) := by
  unfold wm_ld at h
  split at h
  · next e => cases h; exact Or.inl ⟨rfl, e⟩
  · next e => cases h; exact Or.inr ⟨rfl, e⟩
  · cases h
def wm_nb (R : Room) (own : String) (cc : ByteArray) (pc k a b c d : Nat) : Bool :=
  if c = 9 then decide (b = 6) && decide (6 ≤ R.frames ∧ 90 ≤ R.locals) && decide (a = 1 ∨ a = 2 ∨ a = 3) && decide (own = "CycleKernel") && wm_ib d (Cond.classLink own k (wm_xn a)) && wm_ib (wm_xp a) (Cond.initialized (wm_xn a)) && wm_is (decode cc (pc + 3)) .dup 1 &&
    (match wm_ld cc pc with
      | some (j, true) => wm_ex own j && wm_is (decode cc (pc + 6)) (.invokespecial (wm_xi a)) 3 && wm_is (decode cc (pc + 9)) .athrow 1
      | some (j, false) => wm_ex own j && wm_is (decode cc (pc + 7)) (.invokespecial (wm_xi a)) 3 && wm_is (decode cc (pc + 10)) .athrow 1
      | none => false)
  else match wm_tags a with
    | some (.inl ci) => match wm_cls[ci]? with
      | some r => decide (b = r.2.2) && (List.range r.2.2).all (fun k => decide (wm_ck (wm_ty ci k) ≠ 3)) && wm_ib d (Cond.classLink own k r.1) && wm_ib (wm_kp ci).1 (Cond.instantiable r.1 r.2.2) && wm_ib (wm_kp ci).2 (Cond.initialized r.1)
      | none => false
    | _ => false
def wm_sb (R : Room) (own mn : String) (rt : Option FieldType) (ids : List Nat) (cc : ByteArray) (pc : Nat) (i : Instr) (a b c d : Nat) : Bool := match i with
  | .ldc k => wm_ib d (Cond.constant own k (nI a))
  | .ldc2_w k => wm_ib d (Cond.constantLong own k (lN a))
  | .ifCond _ o => decide ((pc : Int) + o = (a : Int))
  | .if_icmp _ o => decide ((pc : Int) + o = (a : Int))
  | .if_acmp _ o => decide ((pc : Int) + o = (a : Int))
  | .ifnull o => decide ((pc : Int) + o = (a : Int))
  | .ifnonnull o => decide ((pc : Int) + o = (a : Int))
  | .goto o => decide ((pc : Int) + o = (a : Int))
  | .getfield k => match wm_tags a with
    | some (.inl ci) => match wm_cls[ci]? with
      | some r => decide (b < r.2.2 ∧ wm_ck (wm_ty ci b) = c) && wm_fb own d k (r.2.1 b)
      | none => false
    | _ => false
  | .putfield k => match wm_tags a with
    | some (.inl ci) => match wm_cls[ci]? with
      | some r => decide (b < r.2.2 ∧ wm_ck (wm_ty ci b) = c ∧ c ≠ 3 ∧ (wm_ty ci b ≠ .byte ∧ wm_ty ci b ≠ .char ∧ wm_ty ci b ≠ .short)) && wm_fb own d k (r.2.1 b) && (decide ((r.2.1 b).2.2.2 = false) || decide ((r.2.1 b).2.2.2 = true ∧ mn = "<init>" ∧ (r.2.1 b).1 = own))
      | none => false
    | _ => false
  | .arraylength => match wm_tags a with
    | some (.inr ty) => decide (ty ∈ wm_ats)
    | _ => false
  | .iaload => decide (wm_tags a = some (.inr .int) ∧ FieldType.int ∈ wm_ats)
  | .iastore => decide (a ≠ 1 ∧ wm_tags a = some (.inr .int) ∧ FieldType.int ∈ wm_ats)
  | .baload => decide (wm_tags a = some (.inr .boolean) ∧ FieldType.boolean ∈ wm_ats)
  | .bastore => decide (wm_tags a = some (.inr .boolean) ∧ FieldType.boolean ∈ wm_ats)
  | .laload => decide (wm_tags a = some (.inr .long) ∧ FieldType.long ∈ wm_ats)
  | .lastore => decide (wm_tags a = some (.inr .long) ∧ FieldType.long ∈ wm_ats)
  | .aaload => match wm_tags a with
    | some (.inr (.object C)) => decide (FieldType.object C ∈ wm_ats)
    | _ => false
  | .aastore => match wm_cls[b]? with
    | some r => decide (wm_tags a = some (.inr (.object r.1)) ∧ FieldType.object r.1 ∈ wm_ats)
    | none => false
  | .newarray t => decide (a ≠ 1 ∧ wm_tags a = some (.inr (newarray.typeOf t)) ∧ newarray.typeOf t ∈ wm_ats ∧ wm_ck (newarray.typeOf t) ≠ 3) && wm_ib (wm_ap t) (Cond.arrayClass (newarray.typeOf t))
  | .anewarray k => match wm_tags a with
    | some (.inr (.object C)) => decide (FieldType.object C ∈ wm_ats) && wm_ib d (Cond.classLink own k C)
    | _ => false
  | .new k => wm_nb R own cc pc k a b c d
  | .invokespecial k => if c = 9 then decide (1 ≤ R.frames ∧ 20 ≤ R.locals) && wm_ib d (Cond.methodLink own k objectInit) && wm_ib wm_o1 (Cond.instanceMethod objectInit) && wm_ib wm_o2 (Cond.code objectInit ⟨#[0xb1]⟩ 1 none) else
      decide (a ∈ ids ∧ (wm_my a).name = "<init>" ∧ wm_mrt a = none) && wm_wb own d k (wm_my a) && wm_ib (wm_cp a).2.2.1 (Cond.instanceMethod (wm_my a)) && decide ((parseMethodDescriptor (wm_my a).desc).map (fun d => d.parameters.length + 1) = some (wm_mn a))
  | .invokevirtual k => decide (a ∈ ids) && (match wm_cls[b]? with
      | some r => decide (r.1 = (wm_my a).cls)
      | none => false) && wm_wb own d k (wm_my a) && wm_ib (wm_cp a).2.2.1 (Cond.instanceMethod (wm_my a)) && wm_ib (wm_cp a).2.2.2 (Cond.selects (wm_my a).cls (wm_my a) (wm_my a)) && decide ((parseMethodDescriptor (wm_my a).desc).map (fun d => d.parameters.length + 1) = some (wm_mn a))
  | .invokestatic k => decide (a ∈ ids) && wm_wb own d k (wm_my a) && wm_ib (wm_cp a).2.2.1 (Cond.static (wm_my a)) && decide ((parseMethodDescriptor (wm_my a).desc).map (fun d => d.parameters.length) = some (wm_mn a))
  | .ireturn => decide ((a = 1 ∧ rt = some .boolean) ∨ (a ≠ 1 ∧ rt = some .int))
  | .lreturn => decide (rt = some .long)
  | .areturn => match rt with
    | some ty => decide (wm_ck ty = 2)
    | none => false
  | .return_ => decide (rt = none)
  | _ => true
set_option maxHeartbeats 4000000 in
theorem wm_sb_ok {R : Room} {own mn : String} {rt : Option FieldType} {ids : List Nat} {cc : ByteArray} {pc : Nat} {i : Instr} {a b c d : Nat} (h : wm_sb R own mn rt ids cc pc i a b c d = true) : wm_st R own mn rt ids cc pc i a b c := by
  cases i
  case getfield k =>
    simp only [wm_sb] at h
    split at h
    · next ci e1 =>
      split at h
      · next r e2 =>
        simp only [Bool.and_eq_true, decide_eq_true_eq] at h
        exact ⟨ci, r, e1, e2, h.1.1, h.1.2, wm_ib_in h.2⟩
      · cases h
    · cases h
  case putfield k =>
    simp only [wm_sb] at h
    split at h
    · next ci e1 =>
      split at h
      · next r e2 =>
        simp only [Bool.and_eq_true, Bool.or_eq_true, decide_eq_true_eq] at h
        refine ⟨ci, r, e1, e2, h.1.1.1, h.1.1.2.1, h.1.1.2.2.1, h.1.1.2.2.2, ?_⟩
        rcases h.2 with z | z
        · exact Or.inl ⟨z, wm_ib_in h.1.2⟩
        · exact Or.inr ⟨z.1, z.2.1, z.2.2, wm_ib_in h.1.2⟩
      · cases h
    · cases h
  case arraylength =>
    simp only [wm_sb] at h
    split at h
    · next ty e1 => exact ⟨ty, e1, of_decide_eq_true h⟩
    · cases h
  case aaload =>
    simp only [wm_sb] at h
    split at h
    · next ty e1 => exact ⟨_, e1, of_decide_eq_true h⟩
    · cases h
  case aastore =>
    simp only [wm_sb] at h
    split at h
    · next r e1 => exact ⟨r, e1, (of_decide_eq_true h).1, (of_decide_eq_true h).2⟩
    · cases h
  case newarray t =>
    simp only [wm_sb, Bool.and_eq_true, decide_eq_true_eq] at h
    exact ⟨h.1.1, h.1.2.1, h.1.2.2.1, h.1.2.2.2, wm_ib_in h.2⟩
  case anewarray k =>
    simp only [wm_sb] at h
    split at h
    · next ty e1 =>
      simp only [Bool.and_eq_true, decide_eq_true_eq] at h
      exact ⟨_, e1, h.1, wm_ib_in h.2⟩
    · cases h
  case new k =>
    simp only [wm_sb, wm_nb] at h
    split at h
    · next h9 =>
      simp only [Bool.and_eq_true, decide_eq_true_eq] at h
      obtain ⟨⟨⟨⟨⟨⟨⟨y1, y2⟩, y3⟩, y4⟩, y5⟩, y6⟩, y7⟩, y8⟩ := h
      refine Or.inr ⟨h9, y1, y2, y3, y4, wm_ib_in y5, wm_ib_in y6, wm_is_ok y7, ?_⟩
      split at y8
      · next j e1 =>
        simp only [Bool.and_eq_true] at y8
        obtain ⟨tx, htx⟩ := wm_ex_ok y8.1.1
        rcases wm_ld_ok e1 with ⟨-, z⟩ | ⟨z, -⟩
        · exact ⟨j, tx, htx, Or.inl ⟨z, wm_is_ok y8.1.2, wm_is_ok y8.2⟩⟩
        · cases z
      · next j e1 =>
        simp only [Bool.and_eq_true] at y8
        obtain ⟨tx, htx⟩ := wm_ex_ok y8.1.1
        rcases wm_ld_ok e1 with ⟨z, -⟩ | ⟨-, z⟩
        · cases z
        · exact ⟨j, tx, htx, Or.inr ⟨z, wm_is_ok y8.1.2, wm_is_ok y8.2⟩⟩
      · cases y8
    · next h9 =>
      refine Or.inl ⟨h9, ?_⟩
      split at h
      · next ci e1 =>
        split at h
        · next r e2 =>
          simp only [Bool.and_eq_true, decide_eq_true_eq] at h
          obtain ⟨⟨⟨⟨y1, y2⟩, y3⟩, y4⟩, y5⟩ := h
          exact ⟨ci, r, e1, e2, y1, fun k hk => of_decide_eq_true (wd_all y2 hk), wm_ib_in y3, wm_ib_in y4, wm_ib_in y5⟩
        · cases h
      · cases h
  case invokespecial k =>
    simp only [wm_sb] at h
    split at h
    · next h9 =>
      simp only [Bool.and_eq_true, decide_eq_true_eq] at h
      exact Or.inl ⟨h9, h.1.1.1, wm_ib_in h.1.1.2, wm_ib_in h.1.2, wm_ib_in h.2⟩
    · next h9 =>
      simp only [Bool.and_eq_true, decide_eq_true_eq] at h
      obtain ⟨⟨⟨y1, y2⟩, y3⟩, y4⟩ := h
      exact Or.inr ⟨h9, y1.1, y1.2.1, y1.2.2, wm_wb_ok y2, wm_ib_in y3, y4⟩
  case invokevirtual k =>
    simp only [wm_sb, Bool.and_eq_true, decide_eq_true_eq] at h
    obtain ⟨⟨⟨⟨⟨y1, y2⟩, y3⟩, y4⟩, y5⟩, y6⟩ := h
    refine ⟨y1, ?_, wm_wb_ok y3, wm_ib_in y4, wm_ib_in y5, y6⟩
    split at y2
    · next r e1 => exact ⟨r, e1, of_decide_eq_true y2⟩
    · cases y2
  case invokestatic k =>
    simp only [wm_sb, Bool.and_eq_true, decide_eq_true_eq] at h
    exact ⟨h.1.1.1, wm_wb_ok h.1.1.2, wm_ib_in h.1.2, h.2⟩
  case areturn =>
    simp only [wm_sb] at h
    split at h
    · next ty => exact ⟨ty, rfl, of_decide_eq_true h⟩
    · cases h
  case ldc k => exact wm_ib_in h
  case ldc2_w k => exact wm_ib_in h
  all_goals first | trivial | (simp only [wm_sb, decide_eq_true_eq] at h; exact h)
def wm_tb (R : Room) (own mn : String) (rt : Option FieldType) (ids : List Nat) (cc : ByteArray) (tb : wm_T) : Bool := wm_sq tb && tb.all fun x => wm_is (decode cc x.1) x.2.1 (wm_len x.2.1) && wm_sb R own mn rt ids cc x.1 x.2.1 x.2.2.1 x.2.2.2.1 x.2.2.2.2.1 x.2.2.2.2.2
theorem wm_tb_ok {R : Room} {own mn : String} {rt : Option FieldType} {ids : List Nat} {cc : ByteArray} {tb : wm_T} (h : wm_tb R own mn rt ids cc tb = true) : wm_tok R own mn rt ids cc tb := by
  simp only [wm_tb, Bool.and_eq_true] at h
  refine ⟨h.1, fun x hx => ?_⟩
  have := List.all_eq_true.mp h.2 x hx
  simp only [Bool.and_eq_true] at this
  exact ⟨wm_is_ok this.1, wm_sb_ok this.2⟩
/-- a callee's tables -/
def wm_oib (R : Room) (id : Nat) : Bool := decide ((wm_mr id).frames + 1 ≤ R.frames ∧ 8 + (wm_mL id + 11) + (wm_mr id).locals ≤ R.locals) && wm_ib (wm_cp id).1 (wm_cw id) && wm_ib (wm_cp id).2.1 (Cond.initialized (wm_my id).cls) && decide ((wm_my id).cls ≠ "java/lang/invoke/MethodHandle" ∧ (wm_my id).cls ≠ "java/lang/invoke/VarHandle")
theorem wm_oib_ok {R : Room} {id : Nat} (h : wm_oib R id = true) : wm_oi R id := by
  simp only [wm_oib, Bool.and_eq_true, decide_eq_true_eq] at h
  exact ⟨rfl, rfl, h.1.1.1.1, h.1.1.1.2, wm_ib_in h.1.1.2, wm_ib_in h.1.2, h.2⟩
