/-! THE LAW, 10: what is known at its beginning -/
theorem wl_inst : ∀ (ci : Nat) (r : vw_C), wm_cls[ci]? = some r → Cond.instantiable r.1 r.2.2 ∈ wm_WG := by
  refine wd_cases ?_ ?_ ?_ ?_ ?_ ?_ ?_ ?_ ?_ ?_
  · exact wm_ib_in (i := (wm_kp 0).1) (by decide +kernel)
  · exact wm_ib_in (i := (wm_kp 1).1) (by decide +kernel)
  · exact wm_ib_in (i := (wm_kp 2).1) (by decide +kernel)
  · exact wm_ib_in (i := (wm_kp 3).1) (by decide +kernel)
  · exact wm_ib_in (i := (wm_kp 4).1) (by decide +kernel)
  · exact wm_ib_in (i := (wm_kp 5).1) (by decide +kernel)
  · exact wm_ib_in (i := (wm_kp 6).1) (by decide +kernel)
  · exact wm_ib_in (i := (wm_kp 7).1) (by decide +kernel)
  · exact wm_ib_in (i := (wm_kp 8).1) (by decide +kernel)
  · exact wm_ib_in (i := (wm_kp 9).1) (by decide +kernel)
theorem wl_nw : wm_NW.all (fun w => decide (w ∈ lw_tbl)) = true := by decide +kernel
theorem wl_sr : wm_sr.all (fun x => decide (Cond.stringRef x.1 x.2.1 x.2.2 ∈ lw_tbl)) = true := by decide +kernel
theorem wl_se : wm_sr.all (fun x => decide (Cond.exactly (Term.string x.1 x.2.1) "java/lang/String" ∈ flatC (Jvm.Cond.and given_1 narrow_1))) = true := by decide +kernel
theorem wl_ch {s : State} {c0 : ClassId} (h : ∀ (ci : Nat) (r : vw_C), wm_cls[ci]? = some r → ∃ (cC : ClassId) (iS : Nat → Nat), u_Kn s r.1 r.2.1 r.2.2 cC iS) : ∃ D : va_G, ∀ (ci : Nat) (r : vw_C), wm_cls[ci]? = some r → u_Kn s r.1 r.2.1 r.2.2 (D.1 ci) (D.2 ci) := by
  have h2 : ∀ ci : Nat, ∃ (cC : ClassId) (iS : Nat → Nat), ∀ r : vw_C, wm_cls[ci]? = some r → u_Kn s r.1 r.2.1 r.2.2 cC iS := fun ci => by
    cases e : wm_cls[ci]? with
    | none => exact ⟨c0, fun _ => 0, fun r hr => by cases hr⟩
    | some r =>
      obtain ⟨a, b, c⟩ := h ci r e
      exact ⟨a, b, fun r' hr => by cases hr; exact c⟩
  exact ⟨(fun ci => Classical.choose (h2 ci), fun ci => Classical.choose (Classical.choose_spec (h2 ci))), fun ci r hr => Classical.choose_spec (Classical.choose_spec (h2 ci)) r hr⟩
theorem wl_ac {s : State} {c0 : ClassId} {P : ClassId → FieldType → Prop} (h : ∀ ty ∈ wm_ats, ∃ cA, P cA ty) : ∃ f : FieldType → ClassId, ∀ ty ∈ wm_ats, P (f ty) ty := by
  have h2 : ∀ ty, ∃ cA, ty ∈ wm_ats → P cA ty := fun ty => by
    by_cases e : ty ∈ wm_ats
    · obtain ⟨a, ha⟩ := h ty e
      exact ⟨a, fun _ => ha⟩
    · exact ⟨c0, fun z => absurd z e⟩
  exact ⟨fun ty => Classical.choose (h2 ty), fun ty ht => Classical.choose_spec (h2 ty) ht⟩
theorem wl_prim {args : Array Value} {s : State} {ty : FieldType} (h : (Cond.arrayClass ty).before args s = true) (hp : ∀ C, ty ≠ .object C) : ∃ cA, ArrOfT s cA ty ∧ va_RA s cA ty ∧ ∀ C, ty = .object C → va_AO C s := by
  obtain ⟨cA, kA, comp, h1, h2, h3⟩ := Cond.arrayClass_spec h
  refine ⟨cA, fun n z => ⟨fun k h => (by cases h), kA, h2, comp, h3⟩, ?_, fun C e => absurd e (hp C)⟩
  cases ty
  case object C => exact absurd rfl (hp C)
  all_goals exact h1
theorem wl_over {args : Array Value} {s : State} {C : String} (h : (Cond.arrayOver (.object C)).before args s = true) : ∃ cA, ArrOfT s cA (.object C) ∧ va_RA s cA (.object C) ∧ ∀ C', FieldType.object C = .object C' → va_AO C' s := by
  obtain ⟨comp, cA, kA, h1, -, h2, h3, h4⟩ := Cond.arrayOver_spec h
  exact ⟨cA, fun n z => ⟨fun k h => (by cases h), kA, h2, comp, h3⟩, ⟨kA, comp, h2, h3, h1, h4⟩, fun C' e => by cases e; exact va_AO.of h⟩
theorem wl_known {args : Array Value} {s : State} {c0 : ClassId} {b L : Nat} {xs : Nat → Int32} (hts : ∀ w ∈ lw_tbl, w.before args s = true) (hgv : (Jvm.Cond.and given_1 narrow_1).before args s = true) (hX : va_X b L xs s s.heap) (hbl : b < s.heap.size) : ∃ (D : va_G) (aC : wm_Y), aC.2 = (b, L, xs) ∧ wm_K D aC s.heap.size s := by
  have hg := flat_of_before _ hgv
  have hwg : ∀ w ∈ wm_WG, w.before args s = true := fun w hw => hts w (List.mem_filter.mp hw).1
  obtain ⟨D, hD⟩ := wl_ch (c0 := c0) (fun ci r hr => u_known hwg (wm_cls_in ci r hr) (hwg _ (wl_inst ci r hr)))
  obtain ⟨f, hf⟩ := wl_ac (s := s) (c0 := c0) (P := fun cA ty => ArrOfT s cA ty ∧ va_RA s cA ty ∧ ∀ C, ty = .object C → va_AO C s) (fun ty ht => by
    simp only [wm_ats, List.mem_cons, List.not_mem_nil, or_false] at ht
    rcases ht with rfl | rfl | rfl | rfl | rfl | rfl
    · exact wl_prim (hts (Cond.arrayClass .int) (by decide +kernel)) (fun C e => by cases e)
    · exact wl_over (hts (Cond.arrayOver (.object "CycleKernel$Signal")) (by decide +kernel))
    · exact wl_over (hts (Cond.arrayOver (.object "CycleKernel$Task")) (by decide +kernel))
    · exact wl_over (hts (Cond.arrayOver (.object "CycleKernel$Row")) (by decide +kernel))
    · exact wl_prim (hts (Cond.arrayClass .long) (by decide +kernel)) (fun C e => by cases e)
    · exact wl_prim (hts (Cond.arrayClass .boolean) (by decide +kernel)) (fun C e => by cases e))
  refine ⟨D, (f, b, L, xs), rfl, hD, hf, fun w hw => ?_, ⟨hX, hbl⟩, ?_, ?_, fun x hx => ?_⟩
  · have h1 := hts w (of_decide_eq_true (List.all_eq_true.mp wl_nw w hw))
    have h2 : w.onTables = true := by
      rcases wm_NW_ok w hw with ⟨a, i, x, g, rfl⟩ | ⟨x, rfl⟩ | ⟨a, b, rfl⟩ <;> rfl
    exact va_Nw.of h2 h1
  · exact vx_Zqof (hts (Cond.laysStatic Bundle.tN "UNASSIGNED_STACK" Bundle.steD) (by decide +kernel)) (hts (Cond.initialized Bundle.tN) (by decide +kernel)) (hg (Cond.isRef (.static Bundle.tN "UNASSIGNED_STACK" Bundle.steD)) (by decide +kernel)) (fun a h1 h2 => absurd h1 (Nat.not_lt.mpr h2))
  · exact vx_Zqof (hts (Cond.laysStatic Bundle.tN "SUPPRESSED_SENTINEL" Bundle.listD) (by decide +kernel)) (hts (Cond.initialized Bundle.tN) (by decide +kernel)) (hg (Cond.isRef (.static Bundle.tN "SUPPRESSED_SENTINEL" Bundle.listD)) (by decide +kernel)) (fun a h1 h2 => absurd h1 (Nat.not_lt.mpr h2))
  · have h1 := hts _ (of_decide_eq_true (List.all_eq_true.mp wl_sr x hx))
    obtain ⟨a, c, cell, k, h2, -⟩ := Cond.exactly_spec (hg _ (of_decide_eq_true (List.all_eq_true.mp wl_se x hx)))
    exact ⟨a, vk_R.of h1 h2⟩
theorem wl_nc {args : Array Value} {s : State} (hgv : (Jvm.Cond.and given_1 narrow_1).before args s = true) : wh_NC s := by
  have hg := flat_of_before _ hgv
  intro a b ha hb hab
  rcases ha with rfl | rfl | rfl <;> rcases hb with rfl | rfl | rfl
  · exact absurd rfl hab
  · exact va_Nc.of (hg (Cond.not (.castable (wm_xn 1) (wm_xn 2))) (by decide +kernel))
  · exact va_Nc.of (hg (Cond.not (.castable (wm_xn 1) (wm_xn 3))) (by decide +kernel))
  · exact va_Nc.of (hg (Cond.not (.castable (wm_xn 2) (wm_xn 1))) (by decide +kernel))
  · exact absurd rfl hab
  · exact va_Nc.of (hg (Cond.not (.castable (wm_xn 2) (wm_xn 3))) (by decide +kernel))
  · exact va_Nc.of (hg (Cond.not (.castable (wm_xn 3) (wm_xn 1))) (by decide +kernel))
  · exact va_Nc.of (hg (Cond.not (.castable (wm_xn 3) (wm_xn 2))) (by decide +kernel))
  · exact absurd rfl hab
set_option maxRecDepth 20000 in
theorem wl_all {b Lw : Nat} (hL : Lw ≤ 4097) : ∀ pc, wl_hs.contains pc = true → wl_g b Lw pc := by
  intro pc hpc
  have h : pc ∈ wl_hs := List.contains_iff_mem.mp hpc
  simp only [wl_hs, List.mem_cons, List.not_mem_nil, or_false] at h
  rcases h with rfl | rfl | rfl | rfl | rfl | rfl | rfl | rfl | rfl | rfl | rfl | rfl | rfl | rfl | rfl | rfl | rfl | rfl | rfl | rfl | rfl | rfl | rfl | rfl | rfl | rfl
  · exact wl_g33 hL
  · exact wl_g160 hL
  · exact wl_g228 hL
  · exact wl_g272 hL
  · exact wl_g320 hL
  · exact wl_g380 hL
  · exact wl_g404 hL
  · exact wl_g472 hL
  · exact wl_g520 hL
  · exact wl_g531 hL
  · exact wl_g683 hL
  · exact wl_g719 hL
  · exact wl_g827 hL
  · exact wl_g863 hL
  · exact wl_g927 hL
  · exact wl_g971 hL
  · exact wl_g1027 hL
  · exact wl_g1095 hL
  · exact wl_g1191 hL
  · exact wl_g1247 hL
  · exact wl_g1272 hL
  · exact wl_g1286 hL
  · exact wl_g1299 hL
  · exact wl_g1313 hL
  · exact wl_g1393 hL
  · exact wl_g1517 hL
