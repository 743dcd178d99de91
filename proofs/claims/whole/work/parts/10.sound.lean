/-- what a callee's tables must say -/
def wm_oi (R : Room) (id : Nat) : Prop := (wm_mr id).cells = wm_mc id ∧ (wm_mr id).slots = wm_ms id ∧ (wm_mr id).frames + 1 ≤ R.frames ∧ 8 + (wm_mL id + 11) + (wm_mr id).locals ≤ R.locals ∧ Cond.code (wm_my id) (wm_mb id) (wm_mL id) (wm_mrt id) ∈ wm_WG ∧ Cond.initialized (wm_my id).cls ∈ wm_WG ∧ ((wm_my id).cls ≠ "java/lang/invoke/MethodHandle" ∧ (wm_my id).cls ≠ "java/lang/invoke/VarHandle")
/-- a method's own word: its code, with a table of handlers or without -/
def wm_cw (id : Nat) : Cond := Cond.code (wm_my id) (wm_mb id) (wm_mL id) (wm_mrt id)
def wm_cxok (l : Launch) (R : Room) (D : va_G) (aC : wm_Y) (b0 : Nat) (cx : wm_X) (ids : List Nat) : Prop := ∀ id ∈ ids, wm_oi R id ∧ ∀ as h q1 q2, cx id as h q1 q2 → wm_Met l (wm_my id) (wm_cw id :: wm_WG) (wm_mr id) (wm_Pc D aC b0 as h) (wm_Qc D aC b0 q1 q2) (wm_mc id) (wm_ms id) (fun q => b0 ≤ q)
theorem wm_cd {args : Array Value} {s : State} {id : Nat} (h : (wm_cw id).before args s = true) (T : State) (mk : MethodId) (hW : s.WarmedH T.vm) (hn : T.methodNamed? (wm_my id) = some mk) : ∃ methY cY, T.vm.method? mk = some methY ∧ methY.code = some cY ∧ cY.maxLocals = wm_mL id := by
  have h2 : (wm_cw id).before args T = true := word_at hW (Or.inl (by rfl)) h
  obtain ⟨methY, cY, hmY, hcY, -, hlY, -, -, -, -⟩ := Cond.code_spec hn h2
  exact ⟨methY, cY, hmY, hcY, hlY⟩
theorem wm_pp_e {n : Nat} {st : List wm_V} {f : List wm_V → List wm_V → Prop} (h : wm_pp n st f) : ∃ as r, st = as.reverse ++ r ∧ as.length = n ∧ f as r := by
  refine ⟨(st.take n).reverse, st.drop n, by rw [List.reverse_reverse, List.take_append_drop], by rw [List.length_reverse, List.length_take]; exact Nat.min_eq_left h.1, h.2⟩
section WMT
variable {p : Program} {l : Launch} {e : Env} {R : Room} {s : State} {m : MethodId} {args : Array Value} {below : List Frame} {meth : Method} {c : Code} {own mn : String} {rt : Option FieldType} {cc : ByteArray} {nL b0 : Nat} {D : va_G} {aC : wm_Y}
variable {pc cu su mc ms : Nat} {lv : wm_L} {st : List wm_V} {h : wm_H} {qr : wm_Q1} {qt : wm_Q2}
set_option maxHeartbeats 4000000 in
theorem wm_sound {qx : wm_Q2} (C : wm_C p s m args meth c own cc nL b0 D aC) (hb0 : b0 ≤ s.heap.size) (hl0 : l.stackTraces = false) (hqx : ∀ lv r k h' cu su, cu ≤ mc → su ≤ ms → qx k h' → wm_JT p l e R s m args below meth c nL b0 D aC (wm_MQ below (wm_Qc D aC b0 qr qt) args s mc ms (fun q => b0 ≤ q)) pc lv r k h' cu su) (hmn : meth.name = mn) (hrt : meth.sig.returnType = rt) {cx : wm_X} {ids : List Nat} (hcx : wm_cxok l R D aC b0 cx ids)
    {nx : wm_N} {jp : Nat → wm_N} {i : Instr} {a b k : Nat} (hd : decode cc pc = .ok (i, wm_len i)) (hs : wm_st R own mn rt ids cc pc i a b k) (hot : (∀ j, i ≠ .new j) ∨ ((∀ q, wm_out c q) ∧ qx = qt))
    (hn : ∀ lv st h cu su, nx lv st h cu su → wm_J p l e R s m args below meth c nL b0 D aC (wm_MQ below (wm_Qc D aC b0 qr qt) args s mc ms (fun q => b0 ≤ q)) (pc + wm_len i) (lv, st, h, cu, su)) (hj : ∀ t lv st h cu su, jp t lv st h cu su → wm_J p l e R s m args below meth c nL b0 D aC (wm_MQ below (wm_Qc D aC b0 qr qt) args s mc ms (fun q => b0 ≤ q)) t (lv, st, h, cu, su))
    (h1 : wm_1 R.cells R.slots mc ms cx qr qx nx jp i a b k lv st h cu su) : wm_J p l e R s m args below meth c nL b0 D aC (wm_MQ below (wm_Qc D aC b0 qr qt) args s mc ms (fun q => b0 ≤ q)) pc (lv, st, h, cu, su) := by
  have C9 := C
  obtain ⟨hx, hbc, hml, hlk, hown, hts, hK⟩ := C9
  cases i
  case iconst n =>
    dsimp only [wm_1] at h1
    exact fun H locs ls hO hS hl => lv_iconst hx hbc hd rfl (hn _ _ _ _ _ h1 H locs ls hO hS hl)
  case bipush n =>
    dsimp only [wm_1] at h1
    exact fun H locs ls hO hS hl => lv_bipush hx hbc hd rfl (hn _ _ _ _ _ h1 H locs ls hO hS hl)
  case sipush n =>
    dsimp only [wm_1] at h1
    exact fun H locs ls hO hS hl => lv_sipush hx hbc hd rfl (hn _ _ _ _ _ h1 H locs ls hO hS hl)
  case lconst n =>
    dsimp only [wm_1] at h1
    exact fun H locs ls hO hS hl => lv_lconst hx hbc hd rfl (hn _ _ _ _ _ h1 H locs ls hO hS hl)
  case ldc n =>
    dsimp only [wm_1] at h1
    exact fun H locs ls hO hS hl => lv_ldc hx hbc hown (hts _ hs) hd (hn _ _ _ _ _ h1 H locs ls hO hS hl)
  case ldc2_w n =>
    dsimp only [wm_1] at h1
    exact fun H locs ls hO hS hl => lv_ldc2 hx hbc hown (hts _ hs) hd (hn _ _ _ _ _ h1 H locs ls hO hS hl)
  case aconst_null =>
    dsimp only [wm_1] at h1
    exact fun H locs ls hO hS hl => lv_null hx hbc hd (hn _ _ _ _ _ h1 H locs ls hO hS hl)
  case iload j =>
    dsimp only [wm_1] at h1
    obtain ⟨x, ex, h1x⟩ := wm_gi_e h1
    exact fun H locs ls hO hS hl => lv_iload hx hbc hd (hl.2.2.2 _ _ ex) (hn _ _ _ _ _ h1x H locs ls hO hS hl)
  case lload j =>
    dsimp only [wm_1] at h1
    obtain ⟨x, ex, h1x⟩ := wm_gj_e h1
    exact fun H locs ls hO hS hl => lv_lload hx hbc hd (hl.2.2.2 _ _ ex) (hn _ _ _ _ _ h1x H locs ls hO hS hl)
  case iload_n j =>
    dsimp only [wm_1] at h1
    obtain ⟨x, ex, h1x⟩ := wm_gi_e h1
    exact fun H locs ls hO hS hl => lv_iload_n hx hbc hd rfl (hl.2.2.2 _ _ ex) (hn _ _ _ _ _ h1x H locs ls hO hS hl)
  case lload_n j =>
    dsimp only [wm_1] at h1
    obtain ⟨x, ex, h1x⟩ := wm_gj_e h1
    exact fun H locs ls hO hS hl => lv_lload_n hx hbc hd rfl (hl.2.2.2 _ _ ex) (hn _ _ _ _ _ h1x H locs ls hO hS hl)
  case aload j =>
    dsimp only [wm_1] at h1
    obtain ⟨x, ex, h1x⟩ := wm_gr_e h1
    cases x with
    | none => exact fun H locs ls hO hS hl => lv_aloadN hx hbc hd (hl.2.2.2 _ _ ex) (hn _ _ _ _ _ h1x H locs ls hO hS hl)
    | some x => exact fun H locs ls hO hS hl => lv_aload hx hbc hd (hl.2.2.2 _ _ ex) (hn _ _ _ _ _ h1x H locs ls hO hS hl)
  case aload_n j =>
    dsimp only [wm_1] at h1
    obtain ⟨x, ex, h1x⟩ := wm_gr_e h1
    cases x with
    | none => exact fun H locs ls hO hS hl => lv_aload_nN hx hbc hd rfl (hl.2.2.2 _ _ ex) (hn _ _ _ _ _ h1x H locs ls hO hS hl)
    | some x => exact fun H locs ls hO hS hl => lv_aload_n hx hbc hd rfl (hl.2.2.2 _ _ ex) (hn _ _ _ _ _ h1x H locs ls hO hS hl)
  case istore j =>
    dsimp only [wm_1] at h1
    obtain ⟨x, r, rfl, hlt, h1x⟩ := wm_pi_e h1
    exact fun H locs ls hO hS hl => lv_istore hx hbc hd (wm_lo_has hl) (by have : lv.length = nL := hl.1; omega) rfl (fun ls' h' => hn _ _ _ _ _ h1x H locs ls' hO hS (wm_lo_s1 hl h'))
  case istore_n j =>
    dsimp only [wm_1] at h1
    obtain ⟨x, r, rfl, hlt, h1x⟩ := wm_pi_e h1
    exact fun H locs ls hO hS hl => lv_istore_n hx hbc hd rfl (wm_lo_has hl) (by have : lv.length = nL := hl.1; omega) rfl (fun ls' h' => hn _ _ _ _ _ h1x H locs ls' hO hS (wm_lo_s1 hl h'))
  case lstore j =>
    dsimp only [wm_1] at h1
    obtain ⟨x, r, rfl, hlt, h1x⟩ := wm_pj_e h1
    exact fun H locs ls hO hS hl => lv_lstore hx hbc hd (wm_lo_has hl) (by have : lv.length = nL := hl.1; omega) rfl (fun ls' h' => hn _ _ _ _ _ h1x H locs ls' hO hS (wm_lo_s2 hl h'))
  case lstore_n j =>
    dsimp only [wm_1] at h1
    obtain ⟨x, r, rfl, hlt, h1x⟩ := wm_pj_e h1
    exact fun H locs ls hO hS hl => lv_lstore_n hx hbc hd rfl (wm_lo_has hl) (by have : lv.length = nL := hl.1; omega) rfl (fun ls' h' => hn _ _ _ _ _ h1x H locs ls' hO hS (wm_lo_s2 hl h'))
  case astore j =>
    dsimp only [wm_1] at h1
    obtain ⟨x, r, rfl, hlt, h1x⟩ := wm_pr_e h1
    cases x with
    | none => exact fun H locs ls hO hS hl => lv_astoreN hx hbc hd (wm_lo_has hl) (by have : lv.length = nL := hl.1; omega) rfl (fun ls' h' => hn _ _ _ _ _ h1x H locs ls' hO hS (wm_lo_s1 hl h'))
    | some x => exact fun H locs ls hO hS hl => lv_astore hx hbc hd (wm_lo_has hl) (by have : lv.length = nL := hl.1; omega) rfl (fun ls' h' => hn _ _ _ _ _ h1x H locs ls' hO hS (wm_lo_s1 hl h'))
  case astore_n j =>
    dsimp only [wm_1] at h1
    obtain ⟨x, r, rfl, hlt, h1x⟩ := wm_pr_e h1
    cases x with
    | none => exact fun H locs ls hO hS hl => lv_astore_nN hx hbc hd rfl (wm_lo_has hl) (by have : lv.length = nL := hl.1; omega) rfl (fun ls' h' => hn _ _ _ _ _ h1x H locs ls' hO hS (wm_lo_s1 hl h'))
    | some x => exact fun H locs ls hO hS hl => lv_astore_n hx hbc hd rfl (wm_lo_has hl) (by have : lv.length = nL := hl.1; omega) rfl (fun ls' h' => hn _ _ _ _ _ h1x H locs ls' hO hS (wm_lo_s1 hl h'))
  case iinc j n =>
    dsimp only [wm_1] at h1
    obtain ⟨x, ex, h1x⟩ := wm_gi_e h1
    refine fun H locs ls hO hS hl => ?_
    obtain ⟨ki, hki⟩ := List.getElem?_of_mem (wm_pl_in ex)
    exact lv_iinc hx hbc hd (wm_lo_has hl) hki rfl (by have := wm_lk_lt _ _ _ ex; have : lv.length = nL := hl.1; omega) rfl (fun ls' h' => hn _ _ _ _ _ h1x H locs ls' hO hS (wm_lo_s1 hl h'))
  case iadd =>
    dsimp only [wm_1] at h1
    obtain ⟨y, r, rfl, h1x⟩ := wm_pi_e h1
    obtain ⟨x, r, rfl, h1y⟩ := wm_pi_e h1x
    exact fun H locs ls hO hS hl => lv_iadd hx hbc hd (hn _ _ _ _ _ h1y H locs ls hO hS hl)
  case isub =>
    dsimp only [wm_1] at h1
    obtain ⟨y, r, rfl, h1x⟩ := wm_pi_e h1
    obtain ⟨x, r, rfl, h1y⟩ := wm_pi_e h1x
    exact fun H locs ls hO hS hl => lv_isub hx hbc hd (hn _ _ _ _ _ h1y H locs ls hO hS hl)
  case imul =>
    dsimp only [wm_1] at h1
    obtain ⟨y, r, rfl, h1x⟩ := wm_pi_e h1
    obtain ⟨x, r, rfl, h1y⟩ := wm_pi_e h1x
    exact fun H locs ls hO hS hl => lv_imul hx hbc hd (hn _ _ _ _ _ h1y H locs ls hO hS hl)
  case iand =>
    dsimp only [wm_1] at h1
    obtain ⟨y, r, rfl, h1x⟩ := wm_pi_e h1
    obtain ⟨x, r, rfl, h1y⟩ := wm_pi_e h1x
    exact fun H locs ls hO hS hl => lv_iand hx hbc hd (hn _ _ _ _ _ h1y H locs ls hO hS hl)
  case ior =>
    dsimp only [wm_1] at h1
    obtain ⟨y, r, rfl, h1x⟩ := wm_pi_e h1
    obtain ⟨x, r, rfl, h1y⟩ := wm_pi_e h1x
    exact fun H locs ls hO hS hl => lv_ior hx hbc hd (hn _ _ _ _ _ h1y H locs ls hO hS hl)
  case ixor =>
    dsimp only [wm_1] at h1
    obtain ⟨y, r, rfl, h1x⟩ := wm_pi_e h1
    obtain ⟨x, r, rfl, h1y⟩ := wm_pi_e h1x
    exact fun H locs ls hO hS hl => lv_ixor hx hbc hd (hn _ _ _ _ _ h1y H locs ls hO hS hl)
  case ishl =>
    dsimp only [wm_1] at h1
    obtain ⟨y, r, rfl, h1x⟩ := wm_pi_e h1
    obtain ⟨x, r, rfl, h1y⟩ := wm_pi_e h1x
    exact fun H locs ls hO hS hl => lv_ishl hx hbc hd (hn _ _ _ _ _ h1y H locs ls hO hS hl)
  case ishr =>
    dsimp only [wm_1] at h1
    obtain ⟨y, r, rfl, h1x⟩ := wm_pi_e h1
    obtain ⟨x, r, rfl, h1y⟩ := wm_pi_e h1x
    exact fun H locs ls hO hS hl => lv_ishr hx hbc hd (hn _ _ _ _ _ h1y H locs ls hO hS hl)
  case iushr =>
    dsimp only [wm_1] at h1
    obtain ⟨y, r, rfl, h1x⟩ := wm_pi_e h1
    obtain ⟨x, r, rfl, h1y⟩ := wm_pi_e h1x
    exact fun H locs ls hO hS hl => lv_iushr hx hbc hd rfl (hn _ _ _ _ _ h1y H locs ls hO hS hl)
  case idiv =>
    dsimp only [wm_1] at h1
    obtain ⟨y, r, rfl, h1x⟩ := wm_pi_e h1
    obtain ⟨x, r, rfl, hne, h1y⟩ := wm_pi_e h1x
    exact fun H locs ls hO hS hl => lv_idiv hx hbc hd hne (hn _ _ _ _ _ h1y H locs ls hO hS hl)
  case irem =>
    dsimp only [wm_1] at h1
    obtain ⟨y, r, rfl, h1x⟩ := wm_pi_e h1
    obtain ⟨x, r, rfl, hne, h1y⟩ := wm_pi_e h1x
    exact fun H locs ls hO hS hl => lv_irem hx hbc hd hne (hn _ _ _ _ _ h1y H locs ls hO hS hl)
  case ineg =>
    dsimp only [wm_1] at h1
    obtain ⟨x, r, rfl, h1x⟩ := wm_pi_e h1
    exact fun H locs ls hO hS hl => lv_ineg hx hbc hd (hn _ _ _ _ _ h1x H locs ls hO hS hl)
  case ladd =>
    dsimp only [wm_1] at h1
    obtain ⟨y, r, rfl, h1x⟩ := wm_pj_e h1
    obtain ⟨x, r, rfl, h1y⟩ := wm_pj_e h1x
    exact fun H locs ls hO hS hl => lv_ladd hx hbc hd (hn _ _ _ _ _ h1y H locs ls hO hS hl)
  case lsub =>
    dsimp only [wm_1] at h1
    obtain ⟨y, r, rfl, h1x⟩ := wm_pj_e h1
    obtain ⟨x, r, rfl, h1y⟩ := wm_pj_e h1x
    exact fun H locs ls hO hS hl => lv_lsub hx hbc hd (hn _ _ _ _ _ h1y H locs ls hO hS hl)
  case lmul =>
    dsimp only [wm_1] at h1
    obtain ⟨y, r, rfl, h1x⟩ := wm_pj_e h1
    obtain ⟨x, r, rfl, h1y⟩ := wm_pj_e h1x
    exact fun H locs ls hO hS hl => lv_lmul hx hbc hd (hn _ _ _ _ _ h1y H locs ls hO hS hl)
  case land =>
    dsimp only [wm_1] at h1
    obtain ⟨y, r, rfl, h1x⟩ := wm_pj_e h1
    obtain ⟨x, r, rfl, h1y⟩ := wm_pj_e h1x
    exact fun H locs ls hO hS hl => lv_land hx hbc hd (hn _ _ _ _ _ h1y H locs ls hO hS hl)
  case lor =>
    dsimp only [wm_1] at h1
    obtain ⟨y, r, rfl, h1x⟩ := wm_pj_e h1
    obtain ⟨x, r, rfl, h1y⟩ := wm_pj_e h1x
    exact fun H locs ls hO hS hl => lv_lor hx hbc hd (hn _ _ _ _ _ h1y H locs ls hO hS hl)
  case lxor =>
    dsimp only [wm_1] at h1
    obtain ⟨y, r, rfl, h1x⟩ := wm_pj_e h1
    obtain ⟨x, r, rfl, h1y⟩ := wm_pj_e h1x
    exact fun H locs ls hO hS hl => lv_lxor hx hbc hd (hn _ _ _ _ _ h1y H locs ls hO hS hl)
  case ldiv =>
    dsimp only [wm_1] at h1
    obtain ⟨y, r, rfl, h1x⟩ := wm_pj_e h1
    obtain ⟨x, r, rfl, hne, h1y⟩ := wm_pj_e h1x
    exact fun H locs ls hO hS hl => lv_ldiv hx hbc hd hne (hn _ _ _ _ _ h1y H locs ls hO hS hl)
  case lrem =>
    dsimp only [wm_1] at h1
    obtain ⟨y, r, rfl, h1x⟩ := wm_pj_e h1
    obtain ⟨x, r, rfl, hne, h1y⟩ := wm_pj_e h1x
    exact fun H locs ls hO hS hl => lv_lrem hx hbc hd hne (hn _ _ _ _ _ h1y H locs ls hO hS hl)
  case lshl =>
    dsimp only [wm_1] at h1
    obtain ⟨y, r, rfl, h1x⟩ := wm_pi_e h1
    obtain ⟨x, r, rfl, h1y⟩ := wm_pj_e h1x
    exact fun H locs ls hO hS hl => lv_lshl hx hbc hd rfl (hn _ _ _ _ _ h1y H locs ls hO hS hl)
  case lshr =>
    dsimp only [wm_1] at h1
    obtain ⟨y, r, rfl, h1x⟩ := wm_pi_e h1
    obtain ⟨x, r, rfl, h1y⟩ := wm_pj_e h1x
    exact fun H locs ls hO hS hl => lv_lshr hx hbc hd rfl (hn _ _ _ _ _ h1y H locs ls hO hS hl)
  case lushr =>
    dsimp only [wm_1] at h1
    obtain ⟨y, r, rfl, h1x⟩ := wm_pi_e h1
    obtain ⟨x, r, rfl, h1y⟩ := wm_pj_e h1x
    exact fun H locs ls hO hS hl => lv_lushr hx hbc hd rfl (hn _ _ _ _ _ h1y H locs ls hO hS hl)
  case lneg =>
    dsimp only [wm_1] at h1
    obtain ⟨x, r, rfl, h1x⟩ := wm_pj_e h1
    exact fun H locs ls hO hS hl => lv_lneg hx hbc hd (hn _ _ _ _ _ h1x H locs ls hO hS hl)
  case i2l =>
    dsimp only [wm_1] at h1
    obtain ⟨x, r, rfl, h1x⟩ := wm_pi_e h1
    exact fun H locs ls hO hS hl => lv_i2l hx hbc hd rfl (hn _ _ _ _ _ h1x H locs ls hO hS hl)
  case l2i =>
    dsimp only [wm_1] at h1
    obtain ⟨x, r, rfl, h1x⟩ := wm_pj_e h1
    exact fun H locs ls hO hS hl => lv_l2i hx hbc hd rfl (hn _ _ _ _ _ h1x H locs ls hO hS hl)
  case lcmp =>
    dsimp only [wm_1] at h1
    obtain ⟨y, r, rfl, h1x⟩ := wm_pj_e h1
    obtain ⟨x, r, rfl, h1y⟩ := wm_pj_e h1x
    exact fun H locs ls hO hS hl => W.lcmp hx hbc hd (hn _ _ _ _ _ h1y H locs ls hO hS hl)
  case dup =>
    dsimp only [wm_1] at h1
    obtain ⟨v, r, rfl, hc, h1x⟩ := wm_p1_e h1
    exact fun H locs ls hO hS hl => lv_dup hx hbc hd hc (hn _ _ _ _ _ h1x H locs ls hO hS hl)
  case pop =>
    dsimp only [wm_1] at h1
    obtain ⟨v, r, rfl, hc, h1x⟩ := wm_p1_e h1
    exact fun H locs ls hO hS hl => lv_pop hx hbc hd hc (hn _ _ _ _ _ h1x H locs ls hO hS hl)
  case dup_x1 =>
    dsimp only [wm_1] at h1
    obtain ⟨v, r, rfl, hc, h1x⟩ := wm_p1_e h1
    obtain ⟨v2, r, rfl, hc2, h1y⟩ := wm_p1_e h1x
    exact fun H locs ls hO hS hl => lv_dup_x1 hx hbc hd hc hc2 (hn _ _ _ _ _ h1y H locs ls hO hS hl)
  case dup_x2 =>
    dsimp only [wm_1] at h1
    obtain ⟨v, r, rfl, hc, h1x⟩ := wm_p1_e h1
    obtain ⟨v2, r, rfl, hc2, h1y⟩ := wm_p1_e h1x
    obtain ⟨v3, r, rfl, hc3, h1z⟩ := wm_p1_e h1y
    exact fun H locs ls hO hS hl => lv_dup_x2 hx hbc hd hc hc2 hc3 (hn _ _ _ _ _ h1z H locs ls hO hS hl)
  case dup2 =>
    dsimp only [wm_1] at h1
    split at h1
    · obtain ⟨x, r, rfl, h1x⟩ := wm_pj_e h1
      exact fun H locs ls hO hS hl => lv_dup2_2 hx hbc hd rfl (hn _ _ _ _ _ h1x H locs ls hO hS hl)
    · obtain ⟨v, r, rfl, hc, h1y⟩ := wm_p1_e h1
      obtain ⟨v2, r, rfl, hc2, h1z⟩ := wm_p1_e h1y
      exact fun H locs ls hO hS hl => lv_dup2_11 hx hbc hd hc hc2 (hn _ _ _ _ _ h1z H locs ls hO hS hl)
  case pop2 =>
    dsimp only [wm_1] at h1
    obtain ⟨x, r, rfl, h1x⟩ := wm_pj_e h1
    exact fun H locs ls hO hS hl => lv_pop2_2 hx hbc hd rfl (hn _ _ _ _ _ h1x H locs ls hO hS hl)
  case dup2_x1 =>
    dsimp only [wm_1] at h1
    obtain ⟨x, r, rfl, h1x⟩ := wm_pj_e h1
    obtain ⟨v2, r, rfl, hc2, h1y⟩ := wm_p1_e h1x
    exact fun H locs ls hO hS hl => lv_dup2_x1_2 hx hbc hd rfl hc2 (hn _ _ _ _ _ h1y H locs ls hO hS hl)
  case dup2_x2 =>
    dsimp only [wm_1] at h1
    obtain ⟨x, r, rfl, h1x⟩ := wm_pj_e h1
    obtain ⟨v2, r, rfl, hc2, h1y⟩ := wm_p1_e h1x
    obtain ⟨v3, r, rfl, hc3, h1z⟩ := wm_p1_e h1y
    exact fun H locs ls hO hS hl => lv_dup2_x2_2 hx hbc hd rfl hc2 hc3 (hn _ _ _ _ _ h1z H locs ls hO hS hl)
  case ifCond k2 o =>
    dsimp only [wm_1] at h1
    obtain ⟨x, r, rfl, h1x⟩ := wm_pi_e h1
    cases k2 with
    | eq => exact fun H locs ls hO hS hl => lv_if_eq hx hbc hd hs (fun z => hj _ _ _ _ _ _ (h1x.1 z) H locs ls hO hS hl) (fun z => hn _ _ _ _ _ (h1x.2 z) H locs ls hO hS hl)
    | ne => exact fun H locs ls hO hS hl => lv_if_ne hx hbc hd hs (fun z => hj _ _ _ _ _ _ (h1x.1 z) H locs ls hO hS hl) (fun z => hn _ _ _ _ _ (h1x.2 (fun y => y z)) H locs ls hO hS hl)
    | lt => exact fun H locs ls hO hS hl => lv_if_lt hx hbc hd hs (fun z => hj _ _ _ _ _ _ (h1x.1 z) H locs ls hO hS hl) (fun z => hn _ _ _ _ _ (h1x.2 z) H locs ls hO hS hl)
    | ge => exact fun H locs ls hO hS hl => lv_if_ge hx hbc hd hs (fun z => hj _ _ _ _ _ _ (h1x.1 z) H locs ls hO hS hl) (fun z => hn _ _ _ _ _ (h1x.2 z) H locs ls hO hS hl)
    | gt => exact fun H locs ls hO hS hl => lv_if_gt hx hbc hd hs (fun z => hj _ _ _ _ _ _ (h1x.1 z) H locs ls hO hS hl) (fun z => hn _ _ _ _ _ (h1x.2 z) H locs ls hO hS hl)
    | le => exact fun H locs ls hO hS hl => lv_if_le hx hbc hd hs (fun z => hj _ _ _ _ _ _ (h1x.1 z) H locs ls hO hS hl) (fun z => hn _ _ _ _ _ (h1x.2 z) H locs ls hO hS hl)
  case if_icmp k2 o =>
    dsimp only [wm_1] at h1
    obtain ⟨y, r, rfl, h1x⟩ := wm_pi_e h1
    obtain ⟨x, r, rfl, h1y⟩ := wm_pi_e h1x
    cases k2 with
    | eq => exact fun H locs ls hO hS hl => lv_icmp_eq hx hbc hd hs (fun z => hj _ _ _ _ _ _ (h1y.1 z) H locs ls hO hS hl) (fun z => hn _ _ _ _ _ (h1y.2 z) H locs ls hO hS hl)
    | ne => exact fun H locs ls hO hS hl => lv_icmp_ne hx hbc hd hs (fun z => hj _ _ _ _ _ _ (h1y.1 z) H locs ls hO hS hl) (fun z => hn _ _ _ _ _ (h1y.2 (fun y => y z)) H locs ls hO hS hl)
    | lt => exact fun H locs ls hO hS hl => lv_icmp_lt hx hbc hd hs (fun z => hj _ _ _ _ _ _ (h1y.1 z) H locs ls hO hS hl) (fun z => hn _ _ _ _ _ (h1y.2 z) H locs ls hO hS hl)
    | ge => exact fun H locs ls hO hS hl => lv_icmp_ge hx hbc hd hs (fun z => hj _ _ _ _ _ _ (h1y.1 z) H locs ls hO hS hl) (fun z => hn _ _ _ _ _ (h1y.2 z) H locs ls hO hS hl)
    | gt => exact fun H locs ls hO hS hl => lv_icmp_gt hx hbc hd hs (fun z => hj _ _ _ _ _ _ (h1y.1 z) H locs ls hO hS hl) (fun z => hn _ _ _ _ _ (h1y.2 z) H locs ls hO hS hl)
    | le => exact fun H locs ls hO hS hl => lv_icmp_le hx hbc hd hs (fun z => hj _ _ _ _ _ _ (h1y.1 z) H locs ls hO hS hl) (fun z => hn _ _ _ _ _ (h1y.2 z) H locs ls hO hS hl)
  case if_acmp k2 o =>
    cases k2 with
    | eq =>
      dsimp only [wm_1] at h1
      obtain ⟨y, r, rfl, h1x⟩ := wm_pr_e h1
      obtain ⟨x, r, rfl, h1y⟩ := wm_pr_e h1x
      exact fun H locs ls hO hS hl => lv_acmp_eq hx hbc hd hs (fun z => hj _ _ _ _ _ _ (h1y.1 z) H locs ls hO hS hl) (fun z => hn _ _ _ _ _ (h1y.2 z) H locs ls hO hS hl)
    | ne =>
      dsimp only [wm_1] at h1
      obtain ⟨y, r, rfl, h1z⟩ := wm_pr_e h1
      obtain ⟨x, r, rfl, h1u⟩ := wm_pr_e h1z
      exact fun H locs ls hO hS hl => lv_acmp_ne hx hbc hd hs (fun z => hj _ _ _ _ _ _ (h1u.2 z) H locs ls hO hS hl) (fun z => hn _ _ _ _ _ (h1u.1 z) H locs ls hO hS hl)
  case ifnull o =>
    dsimp only [wm_1] at h1
    obtain ⟨x, r, rfl, h1x⟩ := wm_pr_e h1
    cases x with
    | none => exact fun H locs ls hO hS hl => lv_ifnullN hx hbc hd hs (hj _ _ _ _ _ _ (h1x.1 rfl) H locs ls hO hS hl)
    | some x => exact fun H locs ls hO hS hl => lv_ifnull hx hbc hd (hn _ _ _ _ _ (h1x.2 (fun z => by cases z)) H locs ls hO hS hl)
  case ifnonnull o =>
    dsimp only [wm_1] at h1
    obtain ⟨x, r, rfl, h1x⟩ := wm_pr_e h1
    cases x with
    | none => exact fun H locs ls hO hS hl => lv_ifnonnullN hx hbc hd (hn _ _ _ _ _ (h1x.1 rfl) H locs ls hO hS hl)
    | some x => exact fun H locs ls hO hS hl => lv_ifnonnull hx hbc hd hs (hj _ _ _ _ _ _ (h1x.2 (fun z => by cases z)) H locs ls hO hS hl)
  case goto o =>
    dsimp only [wm_1] at h1
    exact fun H locs ls hO hS hl => lv_goto hx hbc hd hs (hj _ _ _ _ _ _ h1 H locs ls hO hS hl)
  case getfield j =>
    dsimp only [wm_1] at h1
    obtain ⟨o, r, rfl, q, rfl, ht, h1x⟩ := wm_pr_e h1
    obtain ⟨ci, rr, s1, s2, s3, s4, s5⟩ := hs
    exact wm_o_get C s1 s2 s3 s4 s5 hd ht (hn _ _ _ _ _ h1x)
  case putfield j =>
    dsimp only [wm_1] at h1
    split at h1
    · next v o r =>
      obtain ⟨q, rfl, ht, hv, hz, h1x⟩ := h1
      obtain ⟨ci, rr, s1, s2, s3, s4, s5, s6, s7⟩ := hs
      subst s4
      refine wm_o_put C s1 s2 s3 hv s5 s6 (hz ci s1) ?_ hd ht (hn _ _ _ _ _ h1x)
      rcases s7 with s7 | ⟨a1, a2, a3, a4⟩
      · exact Or.inl s7
      · exact Or.inr ⟨a1, hmn.trans a2, a3, a4⟩
    · exact h1.elim
  case arraylength =>
    dsimp only [wm_1] at h1
    obtain ⟨o, r, rfl, q, rfl, ht, h1x⟩ := wm_pr_e h1
    obtain ⟨ty, s1, s2⟩ := hs
    exact wm_o_len C s1 s2 ht hd (hn _ _ _ _ _ h1x)
  case iaload =>
    dsimp only [wm_1] at h1
    obtain ⟨j, r, rfl, h1x⟩ := wm_pi_e h1
    obtain ⟨o, r, rfl, q, rfl, ht, i1, i2, h1y⟩ := wm_pr_e h1x
    exact wm_o_ald C hs.1 hs.2 ht i1 i2 (Or.inl ⟨rfl, rfl⟩) hd (hn _ _ _ _ _ h1y)
  case laload =>
    dsimp only [wm_1] at h1
    obtain ⟨j, r, rfl, h1x⟩ := wm_pi_e h1
    obtain ⟨o, r, rfl, q, rfl, ht, i1, i2, h1y⟩ := wm_pr_e h1x
    exact wm_o_ald C hs.1 hs.2 ht i1 i2 (Or.inr (Or.inl ⟨rfl, rfl⟩)) hd (hn _ _ _ _ _ h1y)
  case baload =>
    dsimp only [wm_1] at h1
    obtain ⟨j, r, rfl, h1x⟩ := wm_pi_e h1
    obtain ⟨o, r, rfl, q, rfl, ht, i1, i2, h1y⟩ := wm_pr_e h1x
    exact wm_o_ald C hs.1 hs.2 ht i1 i2 (Or.inr (Or.inr (Or.inl ⟨rfl, rfl⟩))) hd (hn _ _ _ _ _ h1y)
  case aaload =>
    dsimp only [wm_1] at h1
    obtain ⟨j, r, rfl, h1x⟩ := wm_pi_e h1
    obtain ⟨o, r, rfl, q, rfl, ht, i1, i2, h1y⟩ := wm_pr_e h1x
    obtain ⟨Cn, s1, s2⟩ := hs
    exact wm_o_ald C s1 s2 ht i1 i2 (Or.inr (Or.inr (Or.inr ⟨rfl, rfl⟩))) hd (hn _ _ _ _ _ h1y)
  case iastore =>
    dsimp only [wm_1] at h1
    obtain ⟨x, r, rfl, h1x⟩ := wm_pi_e h1
    obtain ⟨j, r, rfl, h1y⟩ := wm_pi_e h1x
    obtain ⟨o, r, rfl, q, rfl, ht, i1, i2, h1z⟩ := wm_pr_e h1y
    exact wm_o_ast C hs.2.1 hs.2.2 ht hs.1 i1 i2 (Or.inl ⟨rfl, rfl, x, rfl⟩) hd (hn _ _ _ _ _ h1z)
  case lastore =>
    dsimp only [wm_1] at h1
    obtain ⟨x, r, rfl, h1x⟩ := wm_pj_e h1
    obtain ⟨j, r, rfl, h1y⟩ := wm_pi_e h1x
    obtain ⟨o, r, rfl, q, rfl, ht, i1, i2, h1z⟩ := wm_pr_e h1y
    exact wm_o_ast C hs.1 hs.2 ht (fun z => by rw [z] at hs; cases hs.1) i1 i2 (Or.inr (Or.inl ⟨rfl, rfl, x, rfl⟩)) hd (hn _ _ _ _ _ h1z)
  case bastore =>
    dsimp only [wm_1] at h1
    obtain ⟨x, r, rfl, h1x⟩ := wm_pi_e h1
    obtain ⟨j, r, rfl, h1y⟩ := wm_pi_e h1x
    obtain ⟨o, r, rfl, q, rfl, ht, hz, i1, i2, h1z⟩ := wm_pr_e h1y
    exact wm_o_ast C hs.1 hs.2 ht (fun z => by rw [z] at hs; cases hs.1) i1 i2 (Or.inr (Or.inr ⟨rfl, rfl, by rcases hz with rfl | rfl <;> simp⟩)) hd (hn _ _ _ _ _ h1z)
  case aastore =>
    dsimp only [wm_1] at h1
    obtain ⟨x, r, rfl, h1x⟩ := wm_pr_e h1
    obtain ⟨j, r, rfl, h1y⟩ := wm_pi_e h1x
    obtain ⟨o, r, rfl, q, rfl, ht, hz, i1, i2, h1z⟩ := wm_pr_e h1y
    obtain ⟨rr, s1, s2, s3⟩ := hs
    exact wm_o_aast C s1 s2 s3 ht (fun z => by rw [z] at s2; cases s2) i1 i2 hz hd (hn _ _ _ _ _ h1z)
  case newarray j =>
    dsimp only [wm_1] at h1
    obtain ⟨x, r, rfl, i1, i2, i3, i4, h1x⟩ := wm_pi_e h1
    exact wm_o_newa C hs.1 hs.2.1 hs.2.2.1 hs.2.2.2.1 hs.2.2.2.2 hd i1 i2 i3 i4 (hn _ _ _ _ _ h1x)
  case anewarray j =>
    dsimp only [wm_1] at h1
    obtain ⟨x, r, rfl, i1, i2, i3, i4, h1x⟩ := wm_pi_e h1
    obtain ⟨Cn, s1, s2, s3⟩ := hs
    exact wm_o_anew C (fun z => by rw [z] at s1; cases s1) s1 s2 s3 hd i1 i2 i3 i4 (hn _ _ _ _ _ h1x)
  case new j =>
    dsimp only [wm_1] at h1
    obtain ⟨i1, i2, h1x⟩ := h1
    rcases hs with ⟨hk, ci, rr, s1, s2, s3, s4, s5, s6, s7⟩ | ⟨hk, hb6, ⟨s1, s2⟩, s3, s4, s5, s6, s7, jj, tx, s8, s9⟩
    · rw [if_neg hk] at h1x
      exact wm_o_new C (fun z => by rw [z] at s1; cases s1) s1 s2 s3 s4 s5 s6 s7 hd i1 i2 (hn _ _ _ _ _ h1x)
    · rw [if_pos hk] at h1x
      subst hb6
      obtain ⟨y1, y2, y3, y4⟩ := h1x
      rcases hot with h9 | ⟨hout, h9⟩
      · exact absurd rfl (h9 j)
      subst h9
      exact wm_o_throw C hb0 hl0 hout s1 s2 s3 s4 s5 s6 hd s7 s8 s9 i1 i2 y1 y2 y3 y4
  case invokespecial j =>
    dsimp only [wm_1] at h1
    split at h1
    · next hk =>
      obtain ⟨o, r, rfl, ⟨q, rfl⟩, hst, h2⟩ := wm_pr_e h1
      rcases hs with ⟨-, s9, s1, s2, s3⟩ | ⟨s0, -⟩
      · exact wm_o_obj C s9 hst s1 s2 s3 hd (hn _ _ _ _ _ h2)
      · exact absurd hk s0
    · next hk =>
      obtain ⟨i1, i2, h2⟩ := h1
      obtain ⟨as, r, rfl, hlen, hst, ⟨q, z, rfl⟩, h3⟩ := wm_pp_e h2
      rcases hs with ⟨s0, -⟩ | ⟨-, s1, s2, s3, s4, s5, s6⟩
      · exact absurd s0 hk
      · obtain ⟨⟨o1, o2, o3, o4, o5, o6, o7⟩, hM⟩ := hcx a s1
        refine wm_o_call C (hM _ _ _ _ h3) o1 o2 o3 o4 o5 o6 (wm_cd (hts _ o5)) hd hst i1 i2 (fun T locs ls hO X => ?_) hb0 (fun v h' z => hn _ _ _ _ _ z) (fun k h' z => hqx _ _ _ _ _ _ z.1 z.2.1 z.2.2)
        have hcode := hts _ o5
        rw [s3] at hcode
        have hl9 : ∀ sig, parseMethodDescriptor (wm_my a).desc = some sig → (z.map wm_tv).length = sig.parameters.length := by
          intro sig hsig
          rw [hsig] at s6
          have s6 : sig.parameters.length + 1 = wm_mn a := Option.some.inj s6
          simp only [List.length_map, List.length_cons] at hlen ⊢
          omega
        have hstk : (F0 m pc ls (((Sum.inr (Sum.inr (some q)) :: z).reverse ++ r).map wm_tv)).stack = (z.map wm_tv).reverse ++ .ref q :: r.map wm_tv := by simp [wm_tv, va_rf]
        rcases s4 with s4 | ⟨host, s4⟩
        · exact wm_invI X hx hown s2 (hts _ s4) (hts _ s5) hcode o7 rfl hl9 hstk (by rw [hbc]; exact hd)
        · exact wm_invIN X hx hown s2 (va_Nw.use rfl (hK.2.2.1 _ s4)) (hts _ s5) hcode o7 rfl hl9 hstk (by rw [hbc]; exact hd)
  case invokevirtual j =>
    dsimp only [wm_1] at h1
    obtain ⟨i1, i2, h2⟩ := h1
    obtain ⟨as, r, rfl, hlen, hst, ⟨q, z, rfl, hq⟩, h3⟩ := wm_pp_e h2
    obtain ⟨s1, ⟨rr, s2, s3⟩, s4, s5, s6, s7⟩ := hs
    obtain ⟨⟨o1, o2, o3, o4, o5, o6, o7⟩, hM⟩ := hcx a s1
    refine wm_o_call C (hM _ _ _ _ h3) o1 o2 o3 o4 o5 o6 (wm_cd (hts _ o5)) hd hst i1 i2 (fun T locs ls hO X => ?_) hb0 (fun v h' z => hn _ _ _ _ _ z) (fun k h' z => hqx _ _ _ _ _ _ z.1 z.2.1 z.2.2)
    have hl9 : ∀ sig, parseMethodDescriptor (wm_my a).desc = some sig → (z.map wm_tv).length = sig.parameters.length := by
      intro sig hsig
      rw [hsig] at s7
      have s7 : sig.parameters.length + 1 = wm_mn a := Option.some.inj s7
      simp only [List.length_map, List.length_cons] at hlen ⊢
      omega
    have hstk : (F0 m pc ls (((Sum.inr (Sum.inr (some q)) :: z).reverse ++ r).map wm_tv)).stack = (z.map wm_tv).reverse ++ .ref q :: r.map wm_tv := by simp [wm_tv, va_rf]
    obtain ⟨cell, g1, g2, g3, -⟩ := wm_at_o (hO.2.2.2.1 q) hq s2
    have g4 : s.vm.findClass (wm_my a).cls = some cell.cls := by rw [g2, ← s3]; exact (hK.1 b rr s2).2.1
    rcases s4 with s4 | ⟨host, s4⟩
    · exact wm_invV X hx hown (hts _ s4) (hts _ s5) (hts _ s6) (hts _ o5) o7 g1 (by rw [g3]; rfl) g4 rfl hl9 hstk (by rw [hbc]; exact hd)
    · exact wm_invVN X hx hown (va_Nw.use rfl (hK.2.2.1 _ s4)) (hts _ s5) (hts _ s6) (hts _ o5) o7 g1 (by rw [g3]; rfl) g4 rfl hl9 hstk (by rw [hbc]; exact hd)
  case invokestatic j =>
    dsimp only [wm_1] at h1
    obtain ⟨i1, i2, h2⟩ := h1
    obtain ⟨as, r, rfl, hlen, hst, h3⟩ := wm_pp_e h2
    obtain ⟨s1, s4, s5, s7⟩ := hs
    obtain ⟨⟨o1, o2, o3, o4, o5, o6, o7⟩, hM⟩ := hcx a s1
    refine wm_o_call C (hM _ _ _ _ h3) o1 o2 o3 o4 o5 o6 (wm_cd (hts _ o5)) hd hst i1 i2 (fun T locs ls hO X => ?_) hb0 (fun v h' z => hn _ _ _ _ _ z) (fun k h' z => hqx _ _ _ _ _ _ z.1 z.2.1 z.2.2)
    have hl9 : ∀ sig, parseMethodDescriptor (wm_my a).desc = some sig → (as.map wm_tv).length = sig.parameters.length := by
      intro sig hsig
      rw [hsig] at s7
      have s7 : sig.parameters.length = wm_mn a := Option.some.inj s7
      simp only [List.length_map] at hlen ⊢
      omega
    have hstk : (F0 m pc ls ((as.reverse ++ r).map wm_tv)).stack = (as.map wm_tv).reverse ++ r.map wm_tv := by simp
    rcases s4 with s4 | ⟨host, s4⟩
    · exact wm_invS X hx hown (hts _ s4) (hts _ s5) (hts _ o6) (hts _ o5) o7 rfl hl9 hstk (by rw [hbc]; exact hd)
    · exact wm_invSN X hx hown (va_Nw.use rfl (hK.2.2.1 _ s4)) (hts _ s5) (hts _ o6) (hts _ o5) o7 rfl hl9 hstk (by rw [hbc]; exact hd)
  case ireturn =>
    dsimp only [wm_1] at h1
    obtain ⟨x, r, rfl, rfl, e1, e2, hz, h1x⟩ := wm_pi_e h1
    rcases hs with ⟨s1, s2⟩ | ⟨s1, s2⟩
    · exact wm_o_iret C hb0 (hrt.trans s2) (by rcases hz s1 with rfl | rfl <;> rfl) hd e1 e2 h1x
    · exact wm_o_iret C hb0 (hrt.trans s2) rfl hd e1 e2 h1x
  case lreturn =>
    dsimp only [wm_1] at h1
    obtain ⟨x, r, rfl, rfl, e1, e2, h1x⟩ := wm_pj_e h1
    exact wm_o_lret C hb0 (hrt.trans hs) hd e1 e2 h1x
  case areturn =>
    dsimp only [wm_1] at h1
    obtain ⟨x, r, rfl, rfl, e1, e2, h1x⟩ := wm_pr_e h1
    obtain ⟨ty, s1, s2⟩ := hs
    exact wm_o_aret C hb0 (hrt.trans s1) s2 hd e1 e2 h1x
  case return_ =>
    dsimp only [wm_1] at h1
    obtain ⟨rfl, e1, e2, h1x⟩ := h1
    exact wm_o_vret C hb0 (hrt.trans hs) hd e1 e2 h1x
  all_goals exact False.elim h1
end WMT
