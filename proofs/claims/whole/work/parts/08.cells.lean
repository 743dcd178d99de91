section WMS
variable {p : Program} {l : Launch} {e : Env} {R : Room} {s : State} {m : MethodId} {args : Array Value} {below : List Frame} {meth : Method} {c : Code} {own : String} {cc : ByteArray} {nL b0 : Nat} {D : va_G} {aC : wm_Y} {Q : State → Prop}
variable {pc cu su : Nat} {lv : wm_L} {st : List wm_V} {h : wm_H}
theorem wm_o_get (C : wm_C p s m args meth c own cc nL b0 D aC) {k t b cd q ci : Nat} {r : vw_C} (hg : wm_tags t = some (.inl ci)) (hc : wm_cls[ci]? = some r) (hb : b < r.2.2) (hcd : wm_ck (wm_ty ci b) = cd) (hl : wm_fl own k (r.2.1 b)) (hd : decode cc pc = .ok (.getfield k, 3)) (ht : h.1 q = t)
    (kk : wm_J p l e R s m args below meth c nL b0 D aC Q (pc + 3) (lv, wm_wv h cd t b q :: st, h, cu, su)) : wm_J p l e R s m args below meth c nL b0 D aC Q pc (lv, .inr (.inr (some q)) :: st, h, cu, su) := by
  intro H locs ls hO hS hL
  obtain ⟨hx, hbc, hml, hlk, hown, hts, hK⟩ := C
  subst ht
  subst hcd
  obtain ⟨cell, q1, q2, q3, q4⟩ := wm_at_o (hO.2.2.2.1 q) hg hc
  obtain ⟨hS1, hfc, kC, hkC, hkind⟩ := hK.1 ci _ hc
  obtain ⟨cf, kf, fi, f, hi, hsl⟩ := hS1 b hb
  have hst := (u_facts hfc hkC (u_lays hts (wm_cls_in ci r hc) hb) hi).1
  have hv : cell.slots[f.slot]? = some (wm_tv (wm_wv h (wm_ck (wm_ty ci b)) (h.1 q) b q)) := by
    rw [hsl, q4 b hb]; rfl
  exact W.getf hx hbc hown (hts _ hl) hi hst q1 (by rw [q3]; exact fun z => by cases z) hv rfl rfl hd (kk H locs ls hO hS hL)
theorem wm_o_put (C : wm_C p s m args meth c own cc nL b0 D aC) {k t b q ci : Nat} {r : vw_C} {v : wm_V} (hg : wm_tags t = some (.inl ci)) (hc : wm_cls[ci]? = some r) (hb : b < r.2.2) (hcd : wm_vk v = wm_ck (wm_ty ci b)) (h3 : wm_ck (wm_ty ci b) ≠ 3) (h2 : wm_ty ci b ≠ .byte ∧ wm_ty ci b ≠ .char ∧ wm_ty ci b ≠ .short) (h4 : wm_ty ci b = .boolean → v = .inl 0 ∨ v = .inl 1)
    (hl : ((r.2.1 b).2.2.2 = false ∧ wm_fl own k (r.2.1 b)) ∨ ((r.2.1 b).2.2.2 = true ∧ meth.name = "<init>" ∧ (r.2.1 b).1 = own ∧ Cond.fieldLink own k (r.2.1 b).1 (r.2.1 b).2.1 (r.2.1 b).2.2.1 ∈ wm_WG)) (hd : decode cc pc = .ok (.putfield k, 3)) (ht : h.1 q = t)
    (kk : wm_J p l e R s m args below meth c nL b0 D aC Q (pc + 3) (lv, st, wm_wr h t b q v, cu, su)) : wm_J p l e R s m args below meth c nL b0 D aC Q pc (lv, v :: .inr (.inr (some q)) :: st, h, cu, su) := by
  intro H locs ls hO hS hL
  obtain ⟨hx, hbc, hml, hlk, hown, hts, hK⟩ := C
  have n1 : t ≠ 1 := fun z => by rw [z] at hg; cases hg
  have hq0 : b0 ≤ q := (hO.2.2.1 q (fun z => by rw [ht] at z; rw [z, wm_tags_0] at hg; cases hg)).1 (by rw [ht]; exact n1)
  have hK0 : va_K D wm_cls [] s := ⟨hK.1, fun k q h => by simp at h⟩
  have hin := wm_cls_in ci r hc
  have hap := va_apart (own := own) hts hin (wm_ty ci) (wm_cls_ty ci r hc) (wm_cls_nm ci r hc) hK0 hc
  have hO1 := hO.2.2.2.1 q
  obtain ⟨cell, q1, q2, q3, q4⟩ := wm_at_o (by exact hO1) (by rw [ht]; exact hg) hc
  obtain ⟨hS1, hfc, kC, hkC, hkind⟩ := hK.1 ci _ hc
  obtain ⟨cf, kf, fi, f, hi, hsl⟩ := hS1 b hb
  have hst := (u_facts hfc hkC (u_lays hts hin hb) hi).1
  obtain ⟨hfit, hn⟩ := wm_fits hcd h2 h3 h4
  have hlay := hts _ (hin _ (u_in_lay hb))
  unfold u_lay at hlay
  rcases hl with ⟨hfin, hl⟩ | ⟨hfin, hin2, hdecl, hl⟩
  · rw [if_neg (by rw [hfin]; decide)] at hlay
    have h6 := u_store hfc hkC hkind hlay hi (wm_cls_ty ci r hc b hb) hn hfit
    refine W.putK (v := wm_tv v) hx hbc (f := f) ⟨hown, hts _ hl, ⟨_, _, _, hi⟩, hst⟩ (by rw [q2]; exact h6) q1 q3 (by rw [hsl]; exact k2_hasslot (q4 b hb)) rfl rfl hd fun H' e1 e2 e3 => ?_
    rw [hsl] at e1 ⊢
    exact kk H' _ ls (wm_ok_put hO ht hg hc hb hap hcd q1 e1 e2 e3) (hS.put e2 e3 hq0) hL
  · rw [if_pos hfin] at hlay
    have hcf : m.cls = cf := by
      obtain ⟨_, _, c', _, _, _, -, -, hf', -, -, -, hown2, -⟩ := Cond.laysFinal_spec hlay
      have e1 : c' = cf := by have := hi.symm.trans hf'; simp at this; exact this.1.symm
      rw [hdecl] at hown2
      rw [← e1]; exact Option.some.inj (hown.symm.trans hown2)
    have h6 := u_fits hfc hkC hkind (Or.inr hlay) hi (wm_cls_ty ci r hc b hb) hn hfit
    refine W.putFinK (v := wm_tv v) hx hbc hown (hts _ hl) hi hst hcf hin2 (by rw [q2]; exact h6) q1 q3 (by rw [hsl]; exact k2_hasslot (q4 b hb)) rfl rfl hd fun H' e1 e2 e3 => ?_
    rw [hsl] at e1 ⊢
    exact kk H' _ ls (wm_ok_put hO ht hg hc hb hap hcd q1 e1 e2 e3) (hS.put e2 e3 hq0) hL
theorem wm_ix_in {j : Int32} {n : Nat} (h1 : 0 ≤ j.toInt) (h2 : j.toInt < n) : vp_in j n := vp_in_iff.mpr ⟨h1, h2⟩
theorem wm_o_ald (C : wm_C p s m args meth c own cc nL b0 D aC) {t q : Nat} {ty : FieldType} {i : Instr} {j : Int32} (hg : wm_tags t = some (.inr ty)) (hty : ty ∈ wm_ats) (ht : h.1 q = t) (h1 : 0 ≤ j.toInt) (h2 : j.toInt < h.2.1 q)
    (hi : (i = .iaload ∧ ty = .int) ∨ (i = .laload ∧ ty = .long) ∨ (i = .baload ∧ ty = .boolean) ∨ (i = .aaload ∧ ty.isReference = true)) (hd : decode cc pc = .ok (i, 1))
    (kk : wm_J p l e R s m args below meth c nL b0 D aC Q (pc + 1) (lv, wm_wv h (wm_ck ty) t j.toNatClampNeg q :: st, h, cu, su)) : wm_J p l e R s m args below meth c nL b0 D aC Q pc (lv, .inl j :: .inr (.inr (some q)) :: st, h, cu, su) := by
  intro H locs ls hO hS hL
  obtain ⟨hx, hbc, hml, hlk, hown, hts, hK⟩ := C
  subst ht
  by_cases n1 : h.1 q = 1
  · obtain ⟨rfl, e2, e3⟩ := hO.2.2.2.2 q n1
    rw [n1] at hg kk
    cases hg
    rcases hi with ⟨rfl, -⟩ | ⟨-, z⟩ | ⟨-, z⟩ | ⟨-, z⟩
    · have hX := hK.2.2.2.1
      rw [e2] at h2
      have k9 := kk H locs ls hO hS hL
      have e9 : wm_tv (wm_wv h (wm_ck .int) 1 j.toNatClampNeg aC.2.1) = .int (aC.2.2.2 j.toNatClampNeg) := by rw [← e3]; rfl
      simp only [List.map_cons, e9] at k9
      exact va_sld hx hbc hX.1 (by obtain ⟨scr, z1, -⟩ := hX.1; exact (Array.getElem?_eq_some_iff.mp z1).1) (by have := hX.2; omega) hS (wm_ix_in h1 h2) hd k9
    · cases z
    · cases z
    · cases z
  have hc := wm_at_a (hO.2.2.2.1 q) n1 hg
  have hin := wm_ix_in h1 h2
  have hlt : j.toNatClampNeg < h.2.1 q := Nat.not_le.mp fun z => hin (Or.inr z)
  have ha := (hK.2.1 ty hty).1 (h.2.1 q) (fun k => wm_tv (wm_rd h ty (h.1 q) k q))
  have hin' : ¬ (j < 0 ∨ (arrV (aC.1 ty) (h.2.1 q) (fun k => wm_tv (wm_rd h ty (h.1 q) k q))).slots.size ≤ j.toNatClampNeg) := by rw [arrV_size]; exact hin
  have hv := arrV_read (aC.1 ty) (fun k => wm_tv (wm_rd h ty (h.1 q) k q)) hlt
  rcases hi with ⟨rfl, rfl⟩ | ⟨rfl, rfl⟩ | ⟨rfl, rfl⟩ | ⟨rfl, hr⟩
  · exact W.iald hx hbc hc ha (fun z => by cases z) hin' hv rfl rfl hd (kk H locs ls hO hS hL)
  · exact W.lald hx hbc hc ha (fun z => by cases z) hin' hv rfl rfl hd (kk H locs ls hO hS hL)
  · exact W.zald hx hbc hc ha (fun z => by cases z) hin' hv rfl rfl hd (kk H locs ls hO hS hL)
  · exact W.aald hx hbc hc ha hr (fun z => by cases z) hin' hv rfl rfl hd (kk H locs ls hO hS hL)
theorem wm_o_len (C : wm_C p s m args meth c own cc nL b0 D aC) {t q : Nat} {ty : FieldType} (hg : wm_tags t = some (.inr ty)) (hty : ty ∈ wm_ats) (ht : h.1 q = t) (hd : decode cc pc = .ok (.arraylength, 1))
    (kk : wm_J p l e R s m args below meth c nL b0 D aC Q (pc + 1) (lv, .inl (nI (h.2.1 q)) :: st, h, cu, su)) : wm_J p l e R s m args below meth c nL b0 D aC Q pc (lv, .inr (.inr (some q)) :: st, h, cu, su) := by
  intro H locs ls hO hS hL
  obtain ⟨hx, hbc, hml, hlk, hown, hts, hK⟩ := C
  subst ht
  by_cases n1 : h.1 q = 1
  · obtain ⟨rfl, e2, e3⟩ := hO.2.2.2.2 q n1
    have hX := hK.2.2.2.1
    have k9 := kk H locs ls hO hS hL
    rw [e2] at k9
    exact va_slen hx hbc hX.1 (by obtain ⟨scr, z1, -⟩ := hX.1; exact (Array.getElem?_eq_some_iff.mp z1).1) (by have := hX.2; omega) hS hd k9
  have hc := wm_at_a (hO.2.2.2.1 q) n1 hg
  have ha := (hK.2.1 ty hty).1 (h.2.1 q) (fun k => wm_tv (wm_rd h ty (h.1 q) k q))
  exact W.alen (n := nI (h.2.1 q)) hx hbc hc ha (by rw [arrV_size]; rfl) rfl rfl hd (kk H locs ls hO hS hL)
theorem wm_o_ast (C : wm_C p s m args meth c own cc nL b0 D aC) {t q : Nat} {ty : FieldType} {i : Instr} {j : Int32} {v : wm_V} (hg : wm_tags t = some (.inr ty)) (hty : ty ∈ wm_ats) (ht : h.1 q = t) (n1 : t ≠ 1) (h1 : 0 ≤ j.toInt) (h2 : j.toInt < h.2.1 q)
    (hi : (i = .iastore ∧ ty = .int ∧ ∃ x, v = .inl x) ∨ (i = .lastore ∧ ty = .long ∧ ∃ x, v = .inr (.inl x)) ∨ (i = .bastore ∧ ty = .boolean ∧ (v = .inl 0 ∨ v = .inl 1))) (hd : decode cc pc = .ok (i, 1))
    (kk : wm_J p l e R s m args below meth c nL b0 D aC Q (pc + 1) (lv, st, wm_wr h t j.toNatClampNeg q v, cu, su)) : wm_J p l e R s m args below meth c nL b0 D aC Q pc (lv, v :: .inl j :: .inr (.inr (some q)) :: st, h, cu, su) := by
  intro H locs ls hO hS hL
  obtain ⟨hx, hbc, hml, hlk, hown, hts, hK⟩ := C
  have hq0 : b0 ≤ q := (hO.2.2.1 q (fun z => by rw [ht] at z; rw [z, wm_tags_0] at hg; cases hg)).1 (by rw [ht]; exact n1)
  have hc := wm_at_a (hO.2.2.2.1 q) (by rw [ht]; exact n1) (by rw [ht]; exact hg)
  have hin := wm_ix_in h1 h2
  have ha := (hK.2.1 ty hty).1 (h.2.1 q) (fun k => wm_tv (wm_rd h ty (h.1 q) k q))
  have hin' : ¬ (j < 0 ∨ (arrV (aC.1 ty) (h.2.1 q) (fun k => wm_tv (wm_rd h ty (h.1 q) k q))).slots.size ≤ j.toNatClampNeg) := by rw [arrV_size]; exact hin
  rcases hi with ⟨rfl, rfl, x, rfl⟩ | ⟨rfl, rfl, x, rfl⟩ | ⟨rfl, rfl, hv⟩
  · exact W.iast hx hbc hc ha (fun z => by cases z) hin' rfl rfl hd fun H' e1 e2 e3 => kk H' _ ls (wm_ok_ast hO ht n1 hg rfl e1 e2 e3) (hS.put e2 e3 hq0) hL
  · exact W.last hx hbc hc ha (fun z => by cases z) hin' rfl rfl hd fun H' e1 e2 e3 => kk H' _ ls (wm_ok_ast hO ht n1 hg rfl e1 e2 e3) (hS.put e2 e3 hq0) hL
  · rcases hv with rfl | rfl
    · exact W.zast hx hbc hc ha (fun z => by cases z) hin' rfl rfl hd fun H' e1 e2 e3 => kk H' _ ls (wm_ok_ast hO ht n1 hg rfl e1 e2 e3) (hS.put e2 e3 hq0) hL
    · exact W.zast hx hbc hc ha (fun z => by cases z) hin' rfl rfl hd fun H' e1 e2 e3 => kk H' _ ls (wm_ok_ast hO ht n1 hg rfl e1 e2 e3) (hS.put e2 e3 hq0) hL
theorem wm_o_aast (C : wm_C p s m args meth c own cc nL b0 D aC) {t q b : Nat} {r : vw_C} {j : Int32} {x : Option Nat} (hr : wm_cls[b]? = some r) (hg : wm_tags t = some (.inr (.object r.1))) (hty : FieldType.object r.1 ∈ wm_ats) (ht : h.1 q = t) (n1 : t ≠ 1) (h1 : 0 ≤ j.toInt) (h2 : j.toInt < h.2.1 q)
    (hv : ∀ v, x = some v → wm_tags (h.1 v) = some (.inl b)) (hd : decode cc pc = .ok (.aastore, 1))
    (kk : wm_J p l e R s m args below meth c nL b0 D aC Q (pc + 1) (lv, st, wm_wr h t j.toNatClampNeg q (.inr (.inr x)), cu, su)) : wm_J p l e R s m args below meth c nL b0 D aC Q pc (lv, .inr (.inr x) :: .inl j :: .inr (.inr (some q)) :: st, h, cu, su) := by
  intro H locs ls hO hS hL
  obtain ⟨hx, hbc, hml, hlk, hown, hts, hK⟩ := C
  have hq0 : b0 ≤ q := (hO.2.2.1 q (fun z => by rw [ht] at z; rw [z, wm_tags_0] at hg; cases hg)).1 (by rw [ht]; exact n1)
  have hc := wm_at_a (hO.2.2.2.1 q) (by rw [ht]; exact n1) (by rw [ht]; exact hg)
  have hin := wm_ix_in h1 h2
  have hlt : j.toNatClampNeg < h.2.1 q := Nat.not_le.mp fun z => hin (Or.inr z)
  have h0 : ¬ j < 0 := fun z => hin (Or.inl z)
  obtain ⟨ha, hra, -⟩ := hK.2.1 _ hty
  have ha := ha (h.2.1 q) (fun k => wm_tv (wm_rd h (.object r.1) (h.1 q) k q))
  have hin' : ¬ (j < 0 ∨ (arrV (aC.1 (.object r.1)) (h.2.1 q) (fun k => wm_tv (wm_rd h (.object r.1) (h.1 q) k q))).slots.size ≤ j.toNatClampNeg) := by rw [arrV_size]; exact hin
  cases x with
  | none => exact va_WaastN hx hbc hc ha (fun z => by cases z) hin' rfl rfl hd fun H' e1 e2 e3 => kk H' _ ls (wm_ok_ast hO ht n1 hg rfl e1 e2 e3) (hS.put e2 e3 hq0) hL
  | some v =>
    obtain ⟨cellV, g1, g2, g3, -⟩ := wm_at_o (hO.2.2.2.1 v) (hv v rfl) hr
    have hcls := (hK.1 b r hr).2
    obtain ⟨kA, comp, k1, k2, k3, -⟩ := hra
    have hcomp : comp = D.1 b := Option.some.inj (k3.symm.trans hcls.1)
    subst hcomp
    obtain ⟨kC, hkC, -⟩ := hcls.2
    exact W.aast hx hbc hc (fun z y => by cases y) (fun z => by cases z) k1 k2 rfl hkC ⟨h0, by show _ < (arrV _ _ _).slots.size; rw [arrV_size]; exact hlt⟩ g1 (fun z y => by rw [g3] at y; cases y) (by rw [g2]; exact hkC) (by rw [g2]; exact va_assign hcls) rfl rfl hd fun H' e1 e2 e3 => kk H' _ ls (wm_ok_ast hO ht n1 hg rfl e1 e2 e3) (hS.put e2 e3 hq0) hL
theorem wm_S_new {b0 : Nat} {H0 H H' : Heap} {locs : List Loc} (hS : va_S (fun q => b0 ≤ q) H0 H locs) (z : H'.size = H.size + 1) (o : ∀ a, a < H.size → H'[a]? = H[a]?) : va_S (fun q => b0 ≤ q) H0 H' locs :=
  ⟨Nat.le_trans hS.1 (by omega), fun x h1 h2 => (o x (Nat.lt_of_lt_of_le h1 hS.1)).trans (hS.2.1 x h1 h2), hS.2.2⟩
theorem wm_o_new (C : wm_C p s m args meth c own cc nL b0 D aC) {k t b ci : Nat} {r : vw_C} (n1 : t ≠ 1) (hg : wm_tags t = some (.inl ci)) (hc : wm_cls[ci]? = some r) (hb : b = r.2.2) (h3 : ∀ k, k < r.2.2 → wm_ck (wm_ty ci k) ≠ 3) (w1 : Cond.classLink own k r.1 ∈ wm_WG) (w2 : Cond.instantiable r.1 r.2.2 ∈ wm_WG) (w3 : Cond.initialized r.1 ∈ wm_WG)
    (hd : decode cc pc = .ok (.new k, 3)) (e1 : cu + 1 ≤ R.cells) (e2 : su + b ≤ R.slots)
    (kk : wm_J p l e R s m args below meth c nL b0 D aC Q (pc + 3) (lv, .inr (.inr (some h.2.2.2.2.2)) :: st, wm_nw h t 0, cu + 1, su + b)) : wm_J p l e R s m args below meth c nL b0 D aC Q pc (lv, st, h, cu, su) := by
  intro H locs ls hO hS hL
  obtain ⟨hx, hbc, hml, hlk, hown, hts, hK⟩ := C
  subst hb
  have hKn := hK.1 ci _ hc
  refine W.newcK hx hbc hown (hts _ w1) (hts _ w2) (hts _ w3) rfl hd e1 e2 hKn.2.1 hO.1 fun H1 kC hkC c1 z1 o1 => ?_
  have z1' : H1.size = H.size + 1 := by rw [z1, hO.1]
  have o1' : ∀ a, a < H.size → H1[a]? = H[a]? := fun a ha => o1 a (by rw [← hO.1]; exact ha)
  refine kk H1 locs ls (wm_ok_new hO n1 z1' o1' ?_) (wm_S_new hS z1' o1') hL
  have ht : (wm_nw h t 0).1 h.2.2.2.2.2 = t := by simp [wm_nw]
  unfold wm_at
  rw [ht, hg]
  intro _
  refine ⟨r, hc, (u_born (wm_ty ci) hts (wm_cls_in ci r hc) hKn hkC c1 (wm_cls_ty ci r hc)).to fun j hj => ?_⟩
  rw [wm_nw_df, wm_df_tv (h3 j hj)]
theorem wm_o_newa (C : wm_C p s m args meth c own cc nL b0 D aC) {t : Nat} {at' : ArrayType} {x : Int32} (n1 : t ≠ 1) (hg : wm_tags t = some (.inr (newarray.typeOf at'))) (hty : newarray.typeOf at' ∈ wm_ats) (h3 : wm_ck (newarray.typeOf at') ≠ 3) (w1 : Cond.arrayClass (newarray.typeOf at') ∈ wm_WG)
    (hd : decode cc pc = .ok (.newarray at', 2)) (h1 : 0 ≤ x.toInt) (h2 : x.toInt < 1048576) (e1 : cu + 1 ≤ R.cells) (e2 : su + x.toNatClampNeg ≤ R.slots)
    (kk : wm_J p l e R s m args below meth c nL b0 D aC Q (pc + 2) (lv, .inr (.inr (some h.2.2.2.2.2)) :: st, wm_nw h t x.toNatClampNeg, cu + 1, su + x.toNatClampNeg)) : wm_J p l e R s m args below meth c nL b0 D aC Q pc (lv, .inl x :: st, h, cu, su) := by
  intro H locs ls hO hS hL
  obtain ⟨hx, hbc, hml, hlk, hown, hts, hK⟩ := C
  obtain ⟨-, hra, -⟩ := hK.2.1 _ hty
  have hx0 : ¬ x < 0 := by
    intro z
    have := Int32.lt_iff_toInt_lt.mp z
    have e0 : (0 : Int32).toInt = 0 := rfl
    omega
  have hxn : x.toNatClampNeg < 1048576 := by
    have : (x.toNatClampNeg : Int) = x.toInt := by rw [Int32.toNatClampNeg]; omega
    omega
  have hcb : componentBytes (newarray.typeOf at') ≤ 8 := by cases at' <;> decide
  refine va_newaK hx hbc (hts _ w1) rfl hd rfl hx0 rfl (by
    have := Nat.mul_le_mul (Nat.le_of_lt hxn) hcb
    omega) e1 e2 hO.1 fun H1 cA c1 z1 o1 hAr hNm => ?_
  have z1' : H1.size = H.size + 1 := by rw [z1, hO.1]
  have o1' : ∀ a, a < H.size → H1[a]? = H[a]? := fun a ha => o1 a (by rw [← hO.1]; exact ha)
  refine kk H1 locs ls (wm_ok_new hO n1 z1' o1' ?_) (wm_S_new hS z1' o1') hL
  have ht : (wm_nw h t x.toNatClampNeg).1 h.2.2.2.2.2 = t := by simp [wm_nw]
  have hln : (wm_nw h t x.toNatClampNeg).2.1 h.2.2.2.2.2 = x.toNatClampNeg := by simp [wm_nw]
  have hcA : cA = aC.1 (newarray.typeOf at') := by
    have h9 : s.vm.findClass ("[" ++ (newarray.typeOf at').toString) = some (aC.1 (newarray.typeOf at')) := by
      cases at' <;> exact hra
    exact Option.some.inj (hNm.symm.trans h9)
  unfold wm_at
  rw [ht, hg]
  intro _
  show H1[_]? = _
  rw [c1, hln, hcA]
  congr 2
  funext j
  rw [wm_nw_df, wm_df_tv h3]
theorem wm_o_anew (C : wm_C p s m args meth c own cc nL b0 D aC) {k t : Nat} {Cn : String} {x : Int32} (n1 : t ≠ 1) (hg : wm_tags t = some (.inr (.object Cn))) (hty : FieldType.object Cn ∈ wm_ats) (w1 : Cond.classLink own k Cn ∈ wm_WG)
    (hd : decode cc pc = .ok (.anewarray k, 3)) (h1 : 0 ≤ x.toInt) (h2 : x.toInt < 1048576) (e1 : cu + 1 ≤ R.cells) (e2 : su + x.toNatClampNeg ≤ R.slots)
    (kk : wm_J p l e R s m args below meth c nL b0 D aC Q (pc + 3) (lv, .inr (.inr (some h.2.2.2.2.2)) :: st, wm_nw h t x.toNatClampNeg, cu + 1, su + x.toNatClampNeg)) : wm_J p l e R s m args below meth c nL b0 D aC Q pc (lv, .inl x :: st, h, cu, su) := by
  intro H locs ls hO hS hL
  obtain ⟨hx, hbc, hml, hlk, hown, hts, hK⟩ := C
  obtain ⟨-, hra, hao⟩ := hK.2.1 _ hty
  have hx0 : ¬ x < 0 := by
    intro z
    have := Int32.lt_iff_toInt_lt.mp z
    have e0 : (0 : Int32).toInt = 0 := rfl
    omega
  have hxn : x.toNatClampNeg < 1048576 := by
    have : (x.toNatClampNeg : Int) = x.toInt := by rw [Int32.toNatClampNeg]; omega
    omega
  refine W.anew hx hbc hown (hts _ w1) (va_AO.use (hao Cn rfl)) rfl hd rfl hx0 (by omega) e1 e2 fun cA kA comp f1 f2 f3 f4 => ?_
  generalize hH1 : H.push ({ cls := cA, slots := Array.replicate x.toNatClampNeg .null, vm := .none } : Cell) = H1
  have z1 : H1.size = H.size + 1 := by rw [← hH1, Array.size_push]
  have c1 : H1[H.size]? = some (arrV cA x.toNatClampNeg (fun _ => .null)) := by rw [← hH1, Array.getElem?_push_size, ← arrV_new]
  have o1 : ∀ q : Nat, q < H.size → H1[q]? = H[q]? := fun q hq => by rw [← hH1, Array.getElem?_push, if_neg (Nat.ne_of_lt hq)]
  have hsz := hO.1
  have k9 := kk H1 locs ls (wm_ok_new hO n1 z1 o1 ?_) (wm_S_new hS z1 o1) hL
  · rw [hsz]; exact k9
  have ht : (wm_nw h t x.toNatClampNeg).1 h.2.2.2.2.2 = t := by simp [wm_nw]
  have hln : (wm_nw h t x.toNatClampNeg).2.1 h.2.2.2.2.2 = x.toNatClampNeg := by simp [wm_nw]
  obtain ⟨kA', comp', g1, g2, g3, g4⟩ := hra
  have hcA : cA = aC.1 (.object Cn) := Option.some.inj (f1.symm.trans g4)
  unfold wm_at
  rw [ht, hg]
  intro _
  show H1[_]? = _
  rw [← hsz, c1, hsz, hln, hcA]
  congr 2
  funext j
  rw [wm_nw_df]
  rfl
end WMS
