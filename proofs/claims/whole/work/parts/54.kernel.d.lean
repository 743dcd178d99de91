/-! THE KERNEL, 4: methods that write a little -/
theorem wk_U_s {i1 i2 l3 : Nat → Int} {gt : Nat → Nat} {pr : Int} {a46 a47 b48 : Nat → Int} (h : wk_U i1 i2 l3 gt pr a46 a47 b48) {p : Nat} {i1' a46' : Nat → Int} {v : Int} (h1 : i1' (gt p) = v) (h2 : ∀ q, q ≠ gt p → i1' q = i1 q) (h3 : a46' p = v) (h4 : ∀ q, q ≠ p → a46' q = a46 q) (hi : ∀ p' : Nat, (p' : Int) < pr → p' ≠ p → gt p' ≠ gt p) : wk_U i1' i2 l3 gt pr a46' a47 b48 := fun q hq => by
  obtain ⟨e1, e2, e3⟩ := h q hq
  refine ⟨?_, e2, e3⟩
  by_cases z : q = p
  · rw [z, h1, h3]
  · rw [h2 _ (hi q hq z), h4 q z]
    exact e1
theorem wn_T_s {pr : Int} {a46 a46' a47 b48 : Nat → Int} {p : Nat} {v : Int} (h : wn_T pr a46 a47 b48) (h3 : a46' p = v) (h4 : ∀ q, q ≠ p → a46' q = a46 q) (hv : 0 ≤ v ∧ v ≤ 3) : wn_T pr a46' a47 b48 := fun q hq => by
  obtain ⟨e1, e2, e3⟩ := h q hq
  refine ⟨?_, e2, e3⟩
  by_cases z : q = p
  · rw [z, h3]; exact hv
  · rw [h4 q z]; exact e1
def sc_12 (as : List wi_V) (h : wc_H) (q : wi_Q1 wc_H) (qt : wi_Q2 wc_H) : Prop := wc_sTI as (fun x p => wc_f h fun tg ln I L R n => ∃ M, wk_J (tg, ln, I, L, R, n) x M ∧ (∀ h', wk_Z sm_102 [wi_rf (some 11), .inl p] M h' x 0 (fun b => b = none) → q none h') ∧ (∀ h', wk_Z sm_102 [wi_rf (some 11), .inl p] M h' x 1 (fun b => b = none) → qt 3 h') ∧ (∀ h', wk_Z sm_102 [wi_rf (some 11), .inl p] M h' x 2 (fun b => b = none) → qt 2 h'))
theorem cm_12 {l : Launch} {D : va_G} {aC : wm_Y} {b0 : Nat} (hl0 : l.stackTraces = false) : wm_sp l D aC b0 12 (wi_lf (wc_Rl wc_ok) sc_12) := by
  refine wi_method (wc_lw wc_ok) 12 (cx := fun id => if id = 25 then sc_25 else if id = 67 then sc_67 else fun _ _ _ _ => False) (ids := ci_12) (tb := tb_12) (by decide +kernel) hl0 (wm_cxc (cm_25 hl0) oi_12 (fun h => wm_cxc (cm_67 hl0) h (fun h => wm_cxn h))) (wm_tb_ok tk_12) (by decide +kernel) [] 300 (fun as h q qt hs => ?_)
  obtain ⟨x, p, rfl, hs1⟩ := wc_sTI_e hs
  clear hs
  obtain ⟨tg, ln, I, L, R, n⟩ := h
  have hs := id hs1
  clear hs1
  simp only [wc_f] at hs
  refine ⟨rfl, fun _ _ _ _ _ _ _ => False, mq_nc, ?_⟩
  obtain ⟨M, hJ, f0, f1, f2⟩ := hs
  obtain ⟨cd, lm, st, sg, el, dr, sz, pr, wc, sp, nw, A, B, rfl, g, gd, ct, hK, hM⟩ := mq_f_e hJ
  clear hJ
  obtain ⟨nR, nS, nD, nC, nV, nT, nW, nO, nQ, nZ⟩ := id hM
  obtain ⟨⟨u1, u2, u3⟩, ⟨u4, u5, u6, u7, u8, u9, u10, u11⟩, ⟨u12, u13, u14, u15, u16, u17, u18, u19⟩⟩ := id nR
  obtain ⟨hn, kN, kB, kS, kA, kV, kD, kR, kT, kU, kX1, kX2, kX3, kW⟩ := id hK
  obtain ⟨k0, k7, k8, k9, k10, k11, k12, k13⟩ := id kN
  obtain ⟨⟨b1, b2, b3, b4, b5, b6, b7, b8, b9⟩, ⟨c1, c2, c3, c4, c5, c6, c7, c8⟩, ⟨d1, d2, d3, d4, d5, d6, d7, d8, d9, d10, d11⟩⟩ := id kB
  obtain ⟨w1, w2, w3⟩ := id kW
  have eX : (p < 0 ∨ pr ≤ p) → ∀ n', n ≤ n' → qt 3 (tg, ln, I, L, R, n') := by
    intro z0 n9 hn9
    refine f1 _ (fun Q T hQ => ?_)
    repeat' first
      | refine And.intro ?_ ?_
      | (intro h; try omega)
      | omega
      | exact hQ _ _ _ _ rfl ⟨g, gd, ct, wk_K_n hK hn9, hM⟩
      | assumption
  by_cases hp : 0 ≤ p ∧ p < pr
  · obtain ⟨t1, t2, t3, t4, t5, t6, t7, t8, t9⟩ := kT.1 p.toNat (by omega)
    obtain ⟨v1, v2, v3⟩ := kU p.toNat (by omega)
    have ti : ∀ p' : Nat, (p' : Int) < pr → p' ≠ p.toNat → g 4 p' ≠ g 4 p.toNat := fun p' y1 y2 => (kT.2 p' p.toNat y1 (by omega) y2).1
    have j46 : ∀ v : Int, 0 ≤ v → v ≤ 3 → wk_J (tg, ln, wm_up I 8 1 (g 4 p.toNat) v, L, R, n) x ([0, lm, st, sg, el, dr, sz, pr, wc, sp, nw], md_u A 46 p.toNat v, B) := by
      intro v x1 x2
      refine ⟨g, gd, ct, ⟨?_, ?_, ?_, ?_, ?_, ?_, ?_, ?_, ?_, ?_, ?_, ?_, ?_, ?_⟩, ⟨?_, ?_, ?_, ?_, ?_, ?_, ?_, ?_, ?_, ?_⟩⟩
      · first | exact hn | (simp (disch := decide) only [wm_up_t, wm_up_k, md_u_t, mq_g_t]; exact hn)
      · first | exact kN | (simp (disch := decide) only [wm_up_t, wm_up_k, md_u_t, mq_g_t]; exact kN)
      · first | exact kB | (simp (disch := decide) only [wm_up_t, wm_up_k, md_u_t, mq_g_t]; exact kB)
      · first | exact kS | (simp (disch := decide) only [wm_up_t, wm_up_k, md_u_t, mq_g_t]; exact kS)
      · first | exact kA | (simp (disch := decide) only [wm_up_t, wm_up_k, md_u_t, mq_g_t]; exact kA)
      · first | exact kV | (simp (disch := decide) only [wm_up_t, wm_up_k, md_u_t, mq_g_t]; exact kV)
      · first | exact kD | (simp (disch := decide) only [wm_up_t, wm_up_k, md_u_t, mq_g_t]; exact kD)
      · exact wc_rv_x (wc_rv_e (Nat.le_refl _) (by refine ⟨?_, ?_, ?_, ?_, ?_, ?_, ?_⟩ <;> first | rfl | simp (disch := decide) only [wm_up_t, wm_up_k, md_u_t, mq_g_t]) kR) (fun d hd => ⟨by first | rfl | simp (disch := decide) only [wm_up_t, wm_up_k, md_u_t, mq_g_t], rfl⟩)
      · first | exact kT | (simp (disch := decide) only [wm_up_t, wm_up_k, md_u_t, mq_g_t]; exact kT)
      · simp (disch := decide) only [wm_up_t, wm_up_k, md_u_t, mq_g_t]; exact wk_U_s kU wm_up_self (fun q hq => wm_up_q hq) md_u_s (fun q hq => md_u_k hq) ti
      · first | exact kX1 | (simp (disch := decide) only [wm_up_t, wm_up_k, md_u_t, mq_g_t]; exact kX1)
      · first | exact kX2 | (simp (disch := decide) only [wm_up_t, wm_up_k, md_u_t, mq_g_t]; exact kX2)
      · first | exact kX3 | (simp (disch := decide) only [wm_up_t, wm_up_k, md_u_t, mq_g_t]; exact kX3)
      · first | exact kW | (simp (disch := decide) only [wm_up_t, wm_up_k, md_u_t, mq_g_t]; exact kW)
      · first | exact nR | (simp (disch := decide) only [wm_up_t, wm_up_k, md_u_t, mq_g_t]; exact nR)
      · first | exact nS | (simp (disch := decide) only [wm_up_t, wm_up_k, md_u_t, mq_g_t]; exact nS)
      · first | exact nD | (simp (disch := decide) only [wm_up_t, wm_up_k, md_u_t, mq_g_t]; exact nD)
      · first | exact nC | (simp (disch := decide) only [wm_up_t, wm_up_k, md_u_t, mq_g_t]; exact nC)
      · first | exact nV | (simp (disch := decide) only [wm_up_t, wm_up_k, md_u_t, mq_g_t]; exact nV)
      · simp (disch := decide) only [wm_up_t, wm_up_k, md_u_t, mq_g_t]; exact wn_T_s nT md_u_s (fun q hq => md_u_k hq) ⟨x1, x2⟩
      · first | exact nW | (simp (disch := decide) only [wm_up_t, wm_up_k, md_u_t, mq_g_t]; exact nW)
      · first | exact nO | (simp (disch := decide) only [wm_up_t, wm_up_k, md_u_t, mq_g_t]; exact nO)
      · exact wn_Q_e nQ (by first | rfl | simp (disch := decide) only [wm_up_t, wm_up_k, md_u_t, mq_g_t]) (by first | rfl | simp (disch := decide) only [wm_up_t, wm_up_k, md_u_t, mq_g_t]) (by first | rfl | simp (disch := decide) only [wm_up_t, wm_up_k, md_u_t, mq_g_t])
      · first | exact nZ | (simp (disch := decide) only [wm_up_t, wm_up_k, md_u_t, mq_g_t]; exact nZ)
    have eY : (A 46 p.toNat ≠ 0 ∧ A 46 p.toNat ≠ 2) → ∀ n', n ≤ n' → qt 2 (tg, ln, I, L, R, n') := by
      intro z0 n9 hn9
      refine f2 _ (fun Q T hQ => ?_)
      repeat' first
        | refine And.intro ?_ ?_
        | (intro h; try omega)
        | omega
        | exact hQ _ _ _ _ rfl ⟨g, gd, ct, wk_K_n hK hn9, hM⟩
        | assumption
    have e0 : (A 46 p.toNat = 0 ∨ A 46 p.toNat = 2) →  q (none) (tg, ln, wm_up I 8 1 (g 4 p.toNat) 3, L, R, n) := by
      intro z0
      refine f0 _ (fun Q T hQ => ?_)
      repeat' first
        | refine And.intro ?_ ?_
        | (intro h; try omega)
        | omega
        | exact hQ _ _ _ _ rfl (j46 3 (by omega) (by omega))
        | assumption
    repeat' first
      | refine And.intro ?_ ?_
      | (intro n9 (h9 : n ≤ n9))
      | (intro I3 (e3 : I3 = wm_up I 8 1 (g 4 p.toNat) 3); subst e3)
      | refine Exists.intro _ (And.intro (show _ = _ from by assumption) ?_)
      | refine Exists.intro _ (And.intro rfl (And.intro (by assumption) ?_))
      | refine Exists.intro _ (And.intro rfl ?_)
      | (intro h; try omega)
      | omega
      | exact eX (by omega) _ (by assumption)
      | exact eY (by omega) _ (by assumption)
      | exact e0 (by omega)
      | exact Nat.le_of_ble_eq_true rfl
      | assumption
  · repeat' first
      | refine And.intro ?_ ?_
      | (intro n9 (h9 : n ≤ n9))
      | refine Exists.intro _ (And.intro (show _ = _ from by assumption) ?_)
      | refine Exists.intro _ (And.intro rfl (And.intro (by assumption) ?_))
      | refine Exists.intro _ (And.intro rfl ?_)
      | (intro h; try omega)
      | omega
      | exact eX (by omega) _ (by assumption)
      | exact Nat.le_of_ble_eq_true rfl
      | assumption
def sc_13 (as : List wi_V) (h : wc_H) (q : wi_Q1 wc_H) (qt : wi_Q2 wc_H) : Prop := wc_sTII as (fun x p y => wc_f h fun tg ln I L R n => ∃ M, wk_J (tg, ln, I, L, R, n) x M ∧ (∀ h', wk_Z sm_103 [wi_rf (some 11), .inl p, .inl y] M h' x 0 (fun b => b = none) → q none h') ∧ (∀ h', wk_Z sm_103 [wi_rf (some 11), .inl p, .inl y] M h' x 1 (fun b => b = none) → qt 3 h') ∧ (∀ h', wk_Z sm_103 [wi_rf (some 11), .inl p, .inl y] M h' x 2 (fun b => b = none) → qt 2 h'))
theorem cm_13 {l : Launch} {D : va_G} {aC : wm_Y} {b0 : Nat} (hl0 : l.stackTraces = false) : wm_sp l D aC b0 13 (wi_lf (wc_Rl wc_ok) sc_13) := by
  refine wi_method (wc_lw wc_ok) 13 (cx := fun id => if id = 25 then sc_25 else fun _ _ _ _ => False) (ids := ci_13) (tb := tb_13) (by decide +kernel) hl0 (wm_cxc (cm_25 hl0) oi_13 (fun h => wm_cxn h)) (wm_tb_ok tk_13) (by decide +kernel) [] 300 (fun as h q qt hs => ?_)
  obtain ⟨x, p, y, rfl, hs1⟩ := wc_sTII_e hs
  clear hs
  obtain ⟨tg, ln, I, L, R, n⟩ := h
  have hs := id hs1
  clear hs1
  simp only [wc_f] at hs
  refine ⟨rfl, fun _ _ _ _ _ _ _ => False, mq_nc, ?_⟩
  obtain ⟨M, hJ, f0, f1, f2⟩ := hs
  obtain ⟨cd, lm, st, sg, el, dr, sz, pr, wc, sp, nw, A, B, rfl, g, gd, ct, hK, hM⟩ := mq_f_e hJ
  clear hJ
  obtain ⟨nR, nS, nD, nC, nV, nT, nW, nO, nQ, nZ⟩ := id hM
  obtain ⟨⟨u1, u2, u3⟩, ⟨u4, u5, u6, u7, u8, u9, u10, u11⟩, ⟨u12, u13, u14, u15, u16, u17, u18, u19⟩⟩ := id nR
  obtain ⟨hn, kN, kB, kS, kA, kV, kD, kR, kT, kU, kX1, kX2, kX3, kW⟩ := id hK
  obtain ⟨k0, k7, k8, k9, k10, k11, k12, k13⟩ := id kN
  obtain ⟨⟨b1, b2, b3, b4, b5, b6, b7, b8, b9⟩, ⟨c1, c2, c3, c4, c5, c6, c7, c8⟩, ⟨d1, d2, d3, d4, d5, d6, d7, d8, d9, d10, d11⟩⟩ := id kB
  obtain ⟨w1, w2, w3⟩ := id kW
  have eX : (p < 0 ∨ pr ≤ p) → ∀ n', n ≤ n' → qt 3 (tg, ln, I, L, R, n') := by
    intro z0 n9 hn9
    refine f1 _ (fun Q T hQ => ?_)
    repeat' first
      | refine And.intro ?_ ?_
      | (intro h; try omega)
      | omega
      | exact hQ _ _ _ _ rfl ⟨g, gd, ct, wk_K_n hK hn9, hM⟩
      | assumption
  by_cases hp : 0 ≤ p ∧ p < pr
  · obtain ⟨t1, t2, t3, t4, t5, t6, t7, t8, t9⟩ := kT.1 p.toNat (by omega)
    obtain ⟨v1, v2, v3⟩ := kU p.toNat (by omega)
    have ti : ∀ p' : Nat, (p' : Int) < pr → p' ≠ p.toNat → g 4 p' ≠ g 4 p.toNat := fun p' y1 y2 => (kT.2 p' p.toNat y1 (by omega) y2).1
    have j46 : ∀ v : Int, 0 ≤ v → v ≤ 3 → wk_J (tg, ln, wm_up I 8 1 (g 4 p.toNat) v, L, R, n) x ([0, lm, st, sg, el, dr, sz, pr, wc, sp, nw], md_u A 46 p.toNat v, B) := by
      intro v x1 x2
      refine ⟨g, gd, ct, ⟨?_, ?_, ?_, ?_, ?_, ?_, ?_, ?_, ?_, ?_, ?_, ?_, ?_, ?_⟩, ⟨?_, ?_, ?_, ?_, ?_, ?_, ?_, ?_, ?_, ?_⟩⟩
      · first | exact hn | (simp (disch := decide) only [wm_up_t, wm_up_k, md_u_t, mq_g_t]; exact hn)
      · first | exact kN | (simp (disch := decide) only [wm_up_t, wm_up_k, md_u_t, mq_g_t]; exact kN)
      · first | exact kB | (simp (disch := decide) only [wm_up_t, wm_up_k, md_u_t, mq_g_t]; exact kB)
      · first | exact kS | (simp (disch := decide) only [wm_up_t, wm_up_k, md_u_t, mq_g_t]; exact kS)
      · first | exact kA | (simp (disch := decide) only [wm_up_t, wm_up_k, md_u_t, mq_g_t]; exact kA)
      · first | exact kV | (simp (disch := decide) only [wm_up_t, wm_up_k, md_u_t, mq_g_t]; exact kV)
      · first | exact kD | (simp (disch := decide) only [wm_up_t, wm_up_k, md_u_t, mq_g_t]; exact kD)
      · exact wc_rv_x (wc_rv_e (Nat.le_refl _) (by refine ⟨?_, ?_, ?_, ?_, ?_, ?_, ?_⟩ <;> first | rfl | simp (disch := decide) only [wm_up_t, wm_up_k, md_u_t, mq_g_t]) kR) (fun d hd => ⟨by first | rfl | simp (disch := decide) only [wm_up_t, wm_up_k, md_u_t, mq_g_t], rfl⟩)
      · first | exact kT | (simp (disch := decide) only [wm_up_t, wm_up_k, md_u_t, mq_g_t]; exact kT)
      · simp (disch := decide) only [wm_up_t, wm_up_k, md_u_t, mq_g_t]; exact wk_U_s kU wm_up_self (fun q hq => wm_up_q hq) md_u_s (fun q hq => md_u_k hq) ti
      · first | exact kX1 | (simp (disch := decide) only [wm_up_t, wm_up_k, md_u_t, mq_g_t]; exact kX1)
      · first | exact kX2 | (simp (disch := decide) only [wm_up_t, wm_up_k, md_u_t, mq_g_t]; exact kX2)
      · first | exact kX3 | (simp (disch := decide) only [wm_up_t, wm_up_k, md_u_t, mq_g_t]; exact kX3)
      · first | exact kW | (simp (disch := decide) only [wm_up_t, wm_up_k, md_u_t, mq_g_t]; exact kW)
      · first | exact nR | (simp (disch := decide) only [wm_up_t, wm_up_k, md_u_t, mq_g_t]; exact nR)
      · first | exact nS | (simp (disch := decide) only [wm_up_t, wm_up_k, md_u_t, mq_g_t]; exact nS)
      · first | exact nD | (simp (disch := decide) only [wm_up_t, wm_up_k, md_u_t, mq_g_t]; exact nD)
      · first | exact nC | (simp (disch := decide) only [wm_up_t, wm_up_k, md_u_t, mq_g_t]; exact nC)
      · first | exact nV | (simp (disch := decide) only [wm_up_t, wm_up_k, md_u_t, mq_g_t]; exact nV)
      · simp (disch := decide) only [wm_up_t, wm_up_k, md_u_t, mq_g_t]; exact wn_T_s nT md_u_s (fun q hq => md_u_k hq) ⟨x1, x2⟩
      · first | exact nW | (simp (disch := decide) only [wm_up_t, wm_up_k, md_u_t, mq_g_t]; exact nW)
      · first | exact nO | (simp (disch := decide) only [wm_up_t, wm_up_k, md_u_t, mq_g_t]; exact nO)
      · exact wn_Q_e nQ (by first | rfl | simp (disch := decide) only [wm_up_t, wm_up_k, md_u_t, mq_g_t]) (by first | rfl | simp (disch := decide) only [wm_up_t, wm_up_k, md_u_t, mq_g_t]) (by first | rfl | simp (disch := decide) only [wm_up_t, wm_up_k, md_u_t, mq_g_t])
      · first | exact nZ | (simp (disch := decide) only [wm_up_t, wm_up_k, md_u_t, mq_g_t]; exact nZ)
    have eY : (A 46 p.toNat ≠ 2) → ∀ n', n ≤ n' → qt 2 (tg, ln, I, L, R, n') := by
      intro z0 n9 hn9
      refine f2 _ (fun Q T hQ => ?_)
      repeat' first
        | refine And.intro ?_ ?_
        | (intro h; try omega)
        | omega
        | exact hQ _ _ _ _ rfl ⟨g, gd, ct, wk_K_n hK hn9, hM⟩
        | assumption
    have e0 : (A 46 p.toNat = 2) → (y ≠ 0) →  q (none) (tg, ln, wm_up I 8 1 (g 4 p.toNat) 0, L, R, n) := by
      intro z0 z1
      refine f0 _ (fun Q T hQ => ?_)
      repeat' first
        | refine And.intro ?_ ?_
        | (intro h; try omega)
        | omega
        | exact hQ _ _ _ _ rfl (j46 0 (by omega) (by omega))
        | assumption
    have e1 : (A 46 p.toNat = 2) → (y = 0) →  q (none) (tg, ln, wm_up I 8 1 (g 4 p.toNat) 1, L, R, n) := by
      intro z0 z1
      refine f0 _ (fun Q T hQ => ?_)
      repeat' first
        | refine And.intro ?_ ?_
        | (intro h; try omega)
        | omega
        | exact hQ _ _ _ _ rfl (j46 1 (by omega) (by omega))
        | assumption
    repeat' first
      | refine And.intro ?_ ?_
      | (intro n9 (h9 : n ≤ n9))
      | (intro I3 (e3 : I3 = wm_up I 8 1 (g 4 p.toNat) 0); subst e3)
      | (intro I3 (e3 : I3 = wm_up I 8 1 (g 4 p.toNat) 1); subst e3)
      | refine Exists.intro _ (And.intro (show _ = _ from by assumption) ?_)
      | refine Exists.intro _ (And.intro rfl (And.intro (by assumption) ?_))
      | refine Exists.intro _ (And.intro rfl ?_)
      | (intro h; try omega)
      | omega
      | exact eX (by omega) _ (by assumption)
      | exact eY (by omega) _ (by assumption)
      | exact e0 (by omega) (by omega)
      | exact e1 (by omega) (by omega)
      | exact Nat.le_of_ble_eq_true rfl
      | assumption
  · repeat' first
      | refine And.intro ?_ ?_
      | (intro n9 (h9 : n ≤ n9))
      | refine Exists.intro _ (And.intro (show _ = _ from by assumption) ?_)
      | refine Exists.intro _ (And.intro rfl (And.intro (by assumption) ?_))
      | refine Exists.intro _ (And.intro rfl ?_)
      | (intro h; try omega)
      | omega
      | exact eX (by omega) _ (by assumption)
      | exact Nat.le_of_ble_eq_true rfl
      | assumption
theorem wk_X_o {L25 L25' : Nat → Nat → Int} {w w' : Nat} {P : Nat → Prop} (h : wk_X L25 w' P) (h1 : ∀ j y, y ≠ w → L25' j y = L25 j y) (hw : w' ≠ w) : wk_X L25' w' P := fun s hs => by rw [h1 _ _ hw]; exact h s hs
theorem wk_X_k {L L' : wm_F Int} {w : Nat} {P P' : Nat → Prop} (h : wk_X (L 25) w P) (h1 : ∀ s, s < 256 → (wc_bi L' w s = true ↔ (wc_bi L w s = true ∧ P s) ∨ P' s)) {P2 : Nat → Prop} (h2 : ∀ s, s < 256 → (P2 s ↔ P s ∨ P' s)) : wk_X (L' 25) w P2 := fun s hs => by
  refine (h1 s hs).trans (Iff.trans ?_ (h2 s hs).symm)
  exact ⟨fun z => z.elim (fun y => Or.inl y.2) Or.inr, fun z => z.elim (fun y => Or.inl ⟨(h s hs).mpr y, y⟩) Or.inr⟩
def sc_10 (as : List wi_V) (h : wc_H) (q : wi_Q1 wc_H) (qt : wi_Q2 wc_H) : Prop := wc_sTI as (fun x s => wc_f h fun tg ln I L R n => ∃ M, wk_J (tg, ln, I, L, R, n) x M ∧ (∀ h', wk_Z sm_100 [wi_rf (some 11), .inl s] M h' x 0 (fun b => b = none) → q none h') ∧ (∀ h', wk_Z sm_100 [wi_rf (some 11), .inl s] M h' x 1 (fun b => b = none) → qt 3 h'))
theorem cm_10 {l : Launch} {D : va_G} {aC : wm_Y} {b0 : Nat} (hl0 : l.stackTraces = false) : wm_sp l D aC b0 10 (wi_lf (wc_Rl wc_ok) sc_10) := by
  refine wi_method (wc_lw wc_ok) 10 (cx := fun id => if id = 26 then sc_26 else if id = 58 then sc_58 else fun _ _ _ _ => False) (ids := ci_10) (tb := tb_10) (by decide +kernel) hl0 (wm_cxc (cm_26 hl0) oi_10 (fun h => wm_cxc (cm_58 hl0) h (fun h => wm_cxn h))) (wm_tb_ok tk_10) (by decide +kernel) [] 300 (fun as h q qt hs => ?_)
  obtain ⟨x, s, rfl, hs1⟩ := wc_sTI_e hs
  clear hs
  obtain ⟨tg, ln, I, L, R, n⟩ := h
  have hs := id hs1
  clear hs1
  simp only [wc_f] at hs
  refine ⟨rfl, fun _ _ _ _ _ _ _ => False, mq_nc, ?_⟩
  obtain ⟨M, hJ, f0, f1⟩ := hs
  obtain ⟨cd, lm, st, sg, el, dr, sz, pr, wc, sp, nw, A, B, rfl, g, gd, ct, hK, hM⟩ := mq_f_e hJ
  clear hJ
  obtain ⟨nR, nS, nD, nC, nV, nT, nW, nO, nQ, nZ⟩ := id hM
  obtain ⟨⟨u1, u2, u3⟩, ⟨u4, u5, u6, u7, u8, u9, u10, u11⟩, ⟨u12, u13, u14, u15, u16, u17, u18, u19⟩⟩ := id nR
  obtain ⟨hn, kN, kB, kS, kA, kV, kD, kR, kT, kU, kX1, kX2, kX3, kW⟩ := id hK
  obtain ⟨k0, k7, k8, k9, k10, k11, k12, k13⟩ := id kN
  obtain ⟨⟨b1, b2, b3, b4, b5, b6, b7, b8, b9⟩, ⟨c1, c2, c3, c4, c5, c6, c7, c8⟩, ⟨d1, d2, d3, d4, d5, d6, d7, d8, d9, d10, d11⟩⟩ := id kB
  obtain ⟨w1, w2, w3⟩ := id kW
  have eX : (s < 0 ∨ sg ≤ s) → ∀ n', n ≤ n' → qt 3 (tg, ln, I, L, R, n') := by
    intro z0 n9 hn9
    refine f1 _ (fun Q T hQ => ?_)
    repeat' first
      | refine And.intro ?_ ?_
      | (intro h; try omega)
      | omega
      | exact hQ _ _ _ _ rfl ⟨g, gd, ct, wk_K_n hK hn9, hM⟩
      | assumption
  by_cases hp : 0 ≤ s ∧ s < sg
  · obtain ⟨s1, s2, s3, s4, s5, s6, s7, s8, s9, s10⟩ := kS.1 s.toNat (by omega)
    have e0 : ∀ L1, (∀ t j y, t ≠ 25 ∨ y ≠ g 0 7 → L1 t j y = L t j y) → (∀ k, k < 256 → wc_bi L1 (g 0 7) k = (wc_bi L (g 0 7) k || decide (k = s.toNat))) → q none (tg, ln, I, L1, R, n) := by
      intro L1 hL hb
      refine f0 _ (fun Q T hQ => ?_)
      have hJ : wk_J (tg, ln, I, L1, R, n) x ([0, lm, st, sg, el, dr, sz, pr, wc, sp, nw], md_u A 50 s.toNat 1, B) := by
        have l2 : L1 2 = L 2 := funext fun j => funext fun y => hL 2 j y (Or.inl (by decide))
        have l8 : L1 8 3 = L 8 3 := funext fun y => hL 8 3 y (Or.inl (by decide))
        have l9 : L1 9 = L 9 := funext fun j => funext fun y => hL 9 j y (Or.inl (by decide))
        have l23 : L1 23 = L 23 := funext fun j => funext fun y => hL 23 j y (Or.inl (by decide))
        refine ⟨g, gd, ct, ⟨?_, ?_, ?_, ?_, ?_, ?_, ?_, ?_, ?_, ?_, ?_, ?_, ?_, ?_⟩, ⟨?_, ?_, ?_, ?_, ?_, ?_, ?_, ?_, ?_, ?_⟩⟩
        · first | exact hn | (simp (disch := decide) only [wm_up_t, wm_up_k, md_u_t, mq_g_t]; exact hn)
        · rw [l2]; exact kN
        · first | exact kB | (simp (disch := decide) only [wm_up_t, wm_up_k, md_u_t, mq_g_t]; exact kB)
        · first | exact kS | (simp (disch := decide) only [wm_up_t, wm_up_k, md_u_t, mq_g_t]; exact kS)
        · first | exact kA | (simp (disch := decide) only [wm_up_t, wm_up_k, md_u_t, mq_g_t]; exact kA)
        · first | exact kV | (simp (disch := decide) only [wm_up_t, wm_up_k, md_u_t, mq_g_t]; exact kV)
        · first | exact kD | (simp (disch := decide) only [wm_up_t, wm_up_k, md_u_t, mq_g_t]; exact kD)
        · exact wc_rv_x (wc_rv_e (Nat.le_refl _) ⟨rfl, rfl, rfl, l9, rfl, rfl, rfl⟩ kR) (fun d hd => ⟨by simp (disch := decide) only [wm_up_t, wm_up_k, md_u_t, mq_g_t], rfl⟩)
        · first | exact kT | (simp (disch := decide) only [wm_up_t, wm_up_k, md_u_t, mq_g_t]; exact kT)
        · rw [l8]; simp (disch := decide) only [wm_up_t, wm_up_k, md_u_t, mq_g_t]; exact kU
        · intro k hk
          have e9 : wc_bt (L1 25 (k / 64) (g 0 7)) (k % 64) = (wc_bt (L 25 (k / 64) (g 0 7)) (k % 64) || decide (k = s.toNat)) := hb k hk
          rw [e9, Bool.or_eq_true, decide_eq_true_eq, kX1 k hk]
          by_cases z : k = s.toNat
          · exact ⟨fun _ => ⟨by omega, by rw [z, md_u_s]; decide⟩, fun _ => Or.inr z⟩
          · refine ⟨fun y => ?_, fun y => Or.inl ⟨y.1, ?_⟩⟩
            · have y := y.resolve_right z
              exact ⟨y.1, by rw [md_u_k z]; exact y.2⟩
            · have := y.2
              rw [md_u_k z] at this
              exact this
        · simp (disch := decide) only [wm_up_t, wm_up_k, md_u_t, mq_g_t]; exact wk_X_o kX2 (fun j y hy => hL 25 j y (Or.inr hy)) (Ne.symm d11)
        · simp (disch := decide) only [wm_up_t, wm_up_k, md_u_t, mq_g_t]; exact fun p hp => wk_X_o (kX3 p hp) (fun j y hy => hL 25 j y (Or.inr hy)) (kT.1 p hp).2.2.2.2.2.2.2.1
        · rw [l23]; simp (disch := decide) only [wm_up_t, wm_up_k, md_u_t, mq_g_t]; exact kW
        · first | exact nR | (simp (disch := decide) only [wm_up_t, wm_up_k, md_u_t, mq_g_t]; exact nR)
        · first | exact nS | (simp (disch := decide) only [wm_up_t, wm_up_k, md_u_t, mq_g_t]; exact nS)
        · first | exact nD | (simp (disch := decide) only [wm_up_t, wm_up_k, md_u_t, mq_g_t]; exact nD)
        · first | exact nC | (simp (disch := decide) only [wm_up_t, wm_up_k, md_u_t, mq_g_t]; exact nC)
        · first | exact nV | (simp (disch := decide) only [wm_up_t, wm_up_k, md_u_t, mq_g_t]; exact nV)
        · first | exact nT | (simp (disch := decide) only [wm_up_t, wm_up_k, md_u_t, mq_g_t]; exact nT)
        · first | exact nW | (simp (disch := decide) only [wm_up_t, wm_up_k, md_u_t, mq_g_t]; exact nW)
        · intro j hj
          by_cases z : j = s.toNat
          · rw [z, md_u_s]; exact Or.inr rfl
          · rw [md_u_k z]; exact nO j hj
        · exact wn_Q_e nQ (by first | rfl | simp (disch := decide) only [wm_up_t, wm_up_k, md_u_t, mq_g_t]) (by first | rfl | simp (disch := decide) only [wm_up_t, wm_up_k, md_u_t, mq_g_t]) (by first | rfl | simp (disch := decide) only [wm_up_t, wm_up_k, md_u_t, mq_g_t])
        · first | exact nZ | (simp (disch := decide) only [wm_up_t, wm_up_k, md_u_t, mq_g_t]; exact nZ)
      repeat' first
        | refine And.intro ?_ ?_
        | (intro h; try omega)
        | omega
        | exact hQ _ _ _ _ rfl hJ
        | assumption
    repeat' first
      | refine And.intro ?_ ?_
      | (intro n9 (h9 : n ≤ n9))
      | (intro L9 (hL9 : ∀ t j y, t ≠ 25 ∨ y ≠ g 0 7 → L9 t j y = L t j y) hb9)
      | refine Exists.intro _ (And.intro (show _ = _ from by assumption) ?_)
      | refine Exists.intro _ (And.intro rfl (And.intro (by assumption) ?_))
      | refine Exists.intro _ (And.intro rfl ?_)
      | (intro h; try omega)
      | omega
      | exact eX (by omega) _ (by assumption)
      | exact e0 L9 hL9 hb9
      | exact Nat.le_of_ble_eq_true rfl
      | assumption
  · repeat' first
      | refine And.intro ?_ ?_
      | (intro n9 (h9 : n ≤ n9))
      | refine Exists.intro _ (And.intro (show _ = _ from by assumption) ?_)
      | refine Exists.intro _ (And.intro rfl (And.intro (by assumption) ?_))
      | refine Exists.intro _ (And.intro rfl ?_)
      | (intro h; try omega)
      | omega
      | exact eX (by omega) _ (by assumption)
      | exact Nat.le_of_ble_eq_true rfl
      | assumption
def sc_8 (as : List wi_V) (h : wc_H) (q : wi_Q1 wc_H) (qt : wi_Q2 wc_H) : Prop := wc_sT as (fun x => wc_f h fun tg ln I L R n => ∃ M, wk_J (tg, ln, I, L, R, n) x M ∧ (∀ h', wk_Z sm_95 [wi_rf (some 11)] M h' x 0 (fun b => b = none) → q none h'))
theorem cm_8 {l : Launch} {D : va_G} {aC : wm_Y} {b0 : Nat} (hl0 : l.stackTraces = false) : wm_sp l D aC b0 8 (wi_lf (wc_Rl wc_ok) sc_8) := by
  refine wi_method (wc_lw wc_ok) 8 (cx := fun id => if id = 62 then sc_62 else fun _ _ _ _ => False) (ids := ci_8) (tb := tb_8) (by decide +kernel) hl0 (wm_cxc (cm_62 hl0) oi_8 (fun h => wm_cxn h)) (wm_tb_ok tk_8) (by decide +kernel) [] 300 (fun as h q qt hs => ?_)
  obtain ⟨x, rfl, hs1⟩ := wc_sT_e hs
  clear hs
  obtain ⟨tg, ln, I, L, R, n⟩ := h
  have hs := id hs1
  clear hs1
  simp only [wc_f] at hs
  refine ⟨rfl, fun _ _ _ _ _ _ _ => False, mq_nc, ?_⟩
  obtain ⟨M, hJ, f0⟩ := hs
  obtain ⟨cd, lm, st, sg, el, dr, sz, pr, wc, sp, nw, A, B, rfl, g, gd, ct, hK, hM⟩ := mq_f_e hJ
  clear hJ
  obtain ⟨nR, nS, nD, nC, nV, nT, nW, nO, nQ, nZ⟩ := id hM
  obtain ⟨⟨u1, u2, u3⟩, ⟨u4, u5, u6, u7, u8, u9, u10, u11⟩, ⟨u12, u13, u14, u15, u16, u17, u18, u19⟩⟩ := id nR
  obtain ⟨hn, kN, kB, kS, kA, kV, kD, kR, kT, kU, kX1, kX2, kX3, kW⟩ := id hK
  obtain ⟨k0, k7, k8, k9, k10, k11, k12, k13⟩ := id kN
  obtain ⟨⟨b1, b2, b3, b4, b5, b6, b7, b8, b9⟩, ⟨c1, c2, c3, c4, c5, c6, c7, c8⟩, ⟨d1, d2, d3, d4, d5, d6, d7, d8, d9, d10, d11⟩⟩ := id kB
  obtain ⟨w1, w2, w3⟩ := id kW
  have e0 : ∀ L1, (∀ t j y, t ≠ 25 ∨ y ≠ g 0 7 → L1 t j y = L t j y) → (∀ k, k < 256 → wc_bi L1 (g 0 7) k = false) → q none (tg, ln, wm_up I 10 2 (g 0 3) 0, L1, R, n) := by
    intro L1 hL hb
    refine f0 _ (fun Q T hQ => ?_)
    have hJ : wk_J (tg, ln, wm_up I 10 2 (g 0 3) 0, L1, R, n) x ([0, lm, st, sg, el, dr, sz, pr, 0, sp, nw], mq_g A 50 0 200 (fun _ => 0), B) := by
      have l2 : L1 2 = L 2 := funext fun j => funext fun y => hL 2 j y (Or.inl (by decide))
      have l8 : L1 8 3 = L 8 3 := funext fun y => hL 8 3 y (Or.inl (by decide))
      have l9 : L1 9 = L 9 := funext fun j => funext fun y => hL 9 j y (Or.inl (by decide))
      have l23 : L1 23 = L 23 := funext fun j => funext fun y => hL 23 j y (Or.inl (by decide))
      refine ⟨g, gd, ct, ⟨?_, ?_, ?_, ?_, ?_, ?_, ?_, ?_, ?_, ?_, ?_, ?_, ?_, ?_⟩, ⟨?_, ?_, ?_, ?_, ?_, ?_, ?_, ?_, ?_, ?_⟩⟩
      · first | exact hn | (simp (disch := decide) only [wm_up_t, wm_up_k, md_u_t, mq_g_t]; exact hn)
      · rw [l2]; simp (disch := decide) only [wm_up_t, wm_up_k, md_u_t, mq_g_t]; exact kN
      · first | exact kB | (simp (disch := decide) only [wm_up_t, wm_up_k, md_u_t, mq_g_t]; exact kB)
      · first | exact kS | (simp (disch := decide) only [wm_up_t, wm_up_k, md_u_t, mq_g_t]; exact kS)
      · first | exact kA | (simp (disch := decide) only [wm_up_t, wm_up_k, md_u_t, mq_g_t]; exact kA)
      · first | exact kV | (simp (disch := decide) only [wm_up_t, wm_up_k, md_u_t, mq_g_t]; exact kV)
      · first | exact kD | (simp (disch := decide) only [wm_up_t, wm_up_k, md_u_t, mq_g_t]; exact kD)
      · exact wc_rv_x (wc_rv_e (Nat.le_refl _) ⟨by simp (disch := decide) only [wm_up_t, wm_up_k, md_u_t, mq_g_t], by simp (disch := decide) only [wm_up_t, wm_up_k, md_u_t, mq_g_t], by simp (disch := decide) only [wm_up_t, wm_up_k, md_u_t, mq_g_t], l9, rfl, rfl, rfl⟩ kR) (fun d hd => ⟨by simp (disch := decide) only [wm_up_t, wm_up_k, md_u_t, mq_g_t], rfl⟩)
      · first | exact kT | (simp (disch := decide) only [wm_up_t, wm_up_k, md_u_t, mq_g_t]; exact kT)
      · rw [l8]; simp (disch := decide) only [wm_up_t, wm_up_k, md_u_t, mq_g_t]; exact kU
      · intro k hk
        have e9 : wc_bt (L1 25 (k / 64) (g 0 7)) (k % 64) = false := hb k hk
        rw [e9]
        refine ⟨fun z => (by cases z), fun z => ?_⟩
        obtain ⟨z1, z2⟩ := z
        exact absurd (mq_g_i (Nat.zero_le _) (by omega)) z2
      · simp (disch := decide) only [wm_up_t, wm_up_k, md_u_t, mq_g_t]; exact wk_X_o kX2 (fun j y hy => hL 25 j y (Or.inr hy)) (Ne.symm d11)
      · simp (disch := decide) only [wm_up_t, wm_up_k, md_u_t, mq_g_t]; exact fun p hp => wk_X_o (kX3 p hp) (fun j y hy => hL 25 j y (Or.inr hy)) (kT.1 p hp).2.2.2.2.2.2.2.1
      · exact ⟨wm_up_self, fun j hj => absurd hj (by omega), fun j hj => absurd hj (by omega)⟩
      · exact ⟨⟨u1, u2, u3⟩, ⟨u4, u5, u6, u7, u8, u9, u10, u11⟩, ⟨u12, u13, by omega, by omega, u16, u17, u18, u19⟩⟩
      · first | exact nS | (simp (disch := decide) only [wm_up_t, wm_up_k, md_u_t, mq_g_t]; exact nS)
      · first | exact nD | (simp (disch := decide) only [wm_up_t, wm_up_k, md_u_t, mq_g_t]; exact nD)
      · first | exact nC | (simp (disch := decide) only [wm_up_t, wm_up_k, md_u_t, mq_g_t]; exact nC)
      · first | exact nV | (simp (disch := decide) only [wm_up_t, wm_up_k, md_u_t, mq_g_t]; exact nV)
      · first | exact nT | (simp (disch := decide) only [wm_up_t, wm_up_k, md_u_t, mq_g_t]; exact nT)
      · exact fun j hj => absurd hj (by omega)
      · exact fun j hj => Or.inl (mq_g_i (Nat.zero_le _) (by omega))
      · exact wn_Q_e nQ (by first | rfl | simp (disch := decide) only [wm_up_t, wm_up_k, md_u_t, mq_g_t]) (by first | rfl | simp (disch := decide) only [wm_up_t, wm_up_k, md_u_t, mq_g_t]) (by first | rfl | simp (disch := decide) only [wm_up_t, wm_up_k, md_u_t, mq_g_t])
      · first | exact nZ | (simp (disch := decide) only [wm_up_t, wm_up_k, md_u_t, mq_g_t]; exact nZ)
    exact hQ _ _ _ _ rfl hJ
  repeat' first
    | refine And.intro ?_ ?_
    | (intro L9 (hL9 : ∀ t j y, t ≠ 25 ∨ y ≠ g 0 7 → L9 t j y = L t j y) hb9)
    | (intro I3 (e3 : I3 = wm_up I 10 2 (g 0 3) 0); subst e3)
    | refine Exists.intro _ (And.intro (show _ = _ from by assumption) ?_)
    | refine Exists.intro _ (And.intro rfl (And.intro (by assumption) ?_))
    | refine Exists.intro _ (And.intro rfl ?_)
    | (intro h; try omega)
    | omega
    | exact e0 L9 hL9 hb9
    | exact Nat.le_of_ble_eq_true rfl
    | assumption
def sc_6 (as : List wi_V) (h : wc_H) (q : wi_Q1 wc_H) (qt : wi_Q2 wc_H) : Prop := wc_sTJ as (fun x w => wc_f h fun tg ln I L R n => ∃ M, wk_J (tg, ln, I, L, R, n) x M ∧ (∀ h', wk_Z sm_93 [wi_rf (some 11), .inr (.inl w)] M h' x 0 (fun b => b = none) → q none h') ∧ (∀ h', wk_Z sm_93 [wi_rf (some 11), .inr (.inl w)] M h' x 1 (fun b => b = none) → qt 1 h') ∧ (∀ h', wk_Z sm_93 [wi_rf (some 11), .inr (.inl w)] M h' x 2 (fun b => b = none) → qt 2 h'))
theorem cm_6 {l : Launch} {D : va_G} {aC : wm_Y} {b0 : Nat} (hl0 : l.stackTraces = false) : wm_sp l D aC b0 6 (wi_lf (wc_Rl wc_ok) sc_6) := by
  refine wi_method (wc_lw wc_ok) 6 (cx := fun id => if id = 72 then sc_72 else fun _ _ _ _ => False) (ids := ci_6) (tb := tb_6) (by decide +kernel) hl0 (wm_cxc (cm_72 hl0) oi_6 (fun h => wm_cxn h)) (wm_tb_ok tk_6) (by decide +kernel) [] 300 (fun as h q qt hs => ?_)
  obtain ⟨x, w, rfl, hs1⟩ := wc_sTJ_e hs
  clear hs
  obtain ⟨tg, ln, I, L, R, n⟩ := h
  have hs := id hs1
  clear hs1
  simp only [wc_f] at hs
  refine ⟨rfl, fun _ _ _ _ _ _ _ => False, mq_nc, ?_⟩
  obtain ⟨M, hJ, f0, f1, f2⟩ := hs
  obtain ⟨cd, lm, st, sg, el, dr, sz, pr, wc, sp, nw, A, B, rfl, g, gd, ct, hK, hM⟩ := mq_f_e hJ
  clear hJ
  obtain ⟨nR, nS, nD, nC, nV, nT, nW, nO, nQ, nZ⟩ := id hM
  obtain ⟨⟨u1, u2, u3⟩, ⟨u4, u5, u6, u7, u8, u9, u10, u11⟩, ⟨u12, u13, u14, u15, u16, u17, u18, u19⟩⟩ := id nR
  obtain ⟨hn, kN, kB, kS, kA, kV, kD, kR, kT, kU, kX1, kX2, kX3, kW⟩ := id hK
  obtain ⟨k0, k7, k8, k9, k10, k11, k12, k13⟩ := id kN
  obtain ⟨⟨b1, b2, b3, b4, b5, b6, b7, b8, b9⟩, ⟨c1, c2, c3, c4, c5, c6, c7, c8⟩, ⟨d1, d2, d3, d4, d5, d6, d7, d8, d9, d10, d11⟩⟩ := id kB
  obtain ⟨w1, w2, w3⟩ := id kW
  have eX : (w < 0 ∨ 1152921504606846976 < w) → ∀ n', n ≤ n' → qt 1 (tg, ln, I, L, R, n') := by
    intro z0 n9 hn9
    refine f1 _ (fun Q T hQ => ?_)
    repeat' first
      | refine And.intro ?_ ?_
      | (intro h; try omega)
      | omega
      | exact hQ _ _ _ _ rfl ⟨g, gd, ct, wk_K_n hK hn9, hM⟩
      | assumption
  have eY : (0 ≤ w ∧ w ≤ 1152921504606846976 ∧ wc = 16) → ∀ n', n ≤ n' → qt 2 (tg, ln, I, L, R, n') := by
    intro z0 n9 hn9
    refine f2 _ (fun Q T hQ => ?_)
    repeat' first
      | refine And.intro ?_ ?_
      | (intro h; try omega)
      | omega
      | exact hQ _ _ _ _ rfl ⟨g, gd, ct, wk_K_n hK hn9, hM⟩
      | assumption
  have w64 : (64 * I 10 2 (g 0 3)).toNat = (64 * wc).toNat := by rw [w1]
  have e0 : 0 ≤ w → w ≤ 1152921504606846976 → wc < 16 → ∀ I1, (∀ t j y, ¬ (t = 10 ∧ j = 2 ∧ y = g 0 3) → ¬ (t = 24 ∧ y = g 0 5 ∧ (64 * I 10 2 (g 0 3)).toNat ≤ j ∧ j < (64 * I 10 2 (g 0 3)).toNat + 64) → I1 t j y = I t j y) → (∀ j, (64 * I 10 2 (g 0 3)).toNat ≤ j → j < (64 * I 10 2 (g 0 3)).toNat + 64 → I1 24 j (g 0 5) = 0) → I1 10 2 (g 0 3) = I 10 2 (g 0 3) + 1 → q none (tg, ln, I1, wm_up L 23 (I 10 2 (g 0 3)).toNat (g 0 4) w, R, n) := by
    intro y1 y2 y3 I1 hI hz hc
    rw [w1] at hI hz hc ⊢
    refine f0 _ (fun Q T hQ => ?_)
    have it : ∀ t, t ≠ 10 → t ≠ 24 → I1 t = I t := fun t z1 z2 => funext fun j => funext fun y => hI t j y (fun z => z1 z.1) (fun z => z2 z.1)
    have hJ : wk_J (tg, ln, I1, wm_up L 23 wc.toNat (g 0 4) w, R, n) x ([0, lm, st, sg, el, dr, sz, pr, wc + 1, sp, nw], mq_g A 51 (64 * wc).toNat 64 (fun _ => 0), md_u B 52 wc.toNat w) := by
      refine ⟨g, gd, ct, ⟨?_, ?_, ?_, ?_, ?_, ?_, ?_, ?_, ?_, ?_, ?_, ?_, ?_, ?_⟩, ⟨?_, ?_, ?_, ?_, ?_, ?_, ?_, ?_, ?_, ?_⟩⟩
      · first | exact hn | (simp (disch := decide) only [wm_up_t, wm_up_k, md_u_t, mq_g_t]; exact hn)
      · rw [it 2 (by decide) (by decide)]; simp (disch := decide) only [wm_up_t, wm_up_k, md_u_t, mq_g_t]; exact kN
      · first | exact kB | (simp (disch := decide) only [wm_up_t, wm_up_k, md_u_t, mq_g_t]; exact kB)
      · rw [it 5 (by decide) (by decide)]; simp (disch := decide) only [wm_up_t, wm_up_k, md_u_t, mq_g_t]; exact kS
      · rw [it 5 (by decide) (by decide)]; simp (disch := decide) only [wm_up_t, wm_up_k, md_u_t, mq_g_t]; exact kA
      · rw [it 26 (by decide) (by decide), it 27 (by decide) (by decide)]; simp (disch := decide) only [wm_up_t, wm_up_k, md_u_t, mq_g_t]; exact kV
      · rw [it 3 (by decide) (by decide)]; simp (disch := decide) only [wm_up_t, wm_up_k, md_u_t, mq_g_t]; exact kD
      · exact wc_rv_x (wc_rv_e (Nat.le_refl _) ⟨it 4 (by decide) (by decide), it 7 (by decide) (by decide), it 9 (by decide) (by decide), by simp (disch := decide) only [wm_up_t, wm_up_k, md_u_t, mq_g_t], rfl, rfl, rfl⟩ kR) (fun d hd => ⟨by simp (disch := decide) only [wm_up_t, wm_up_k, md_u_t, mq_g_t], rfl⟩)
      · first | exact kT | (simp (disch := decide) only [wm_up_t, wm_up_k, md_u_t, mq_g_t]; exact kT)
      · rw [it 8 (by decide) (by decide)]; simp (disch := decide) only [wm_up_t, wm_up_k, md_u_t, mq_g_t]; exact kU
      · first | exact kX1 | (simp (disch := decide) only [wm_up_t, wm_up_k, md_u_t, mq_g_t]; exact kX1)
      · first | exact kX2 | (simp (disch := decide) only [wm_up_t, wm_up_k, md_u_t, mq_g_t]; exact kX2)
      · first | exact kX3 | (simp (disch := decide) only [wm_up_t, wm_up_k, md_u_t, mq_g_t]; exact kX3)
      · refine ⟨hc, fun j hj => ?_, fun j hj => ?_⟩
        · by_cases z : j = wc.toNat
          · rw [z, wm_up_self, md_u_s]
          · rw [wm_up_k z, md_u_k z]
            exact w2 j (by omega)
        · by_cases z : (64 * wc).toNat ≤ j
          · rw [hz j z (by omega), mq_g_i z (by omega)]
          · rw [hI 24 j (g 0 5) (fun y => absurd y.1 (by decide)) (fun y => z y.2.2.1), mq_g_o (Or.inl (by omega))]
            exact w3 j (by omega)
      · exact ⟨⟨u1, u2, u3⟩, ⟨u4, u5, u6, u7, u8, u9, u10, u11⟩, ⟨u12, u13, by omega, by omega, u16, u17, u18, u19⟩⟩
      · first | exact nS | (simp (disch := decide) only [wm_up_t, wm_up_k, md_u_t, mq_g_t]; exact nS)
      · first | exact nD | (simp (disch := decide) only [wm_up_t, wm_up_k, md_u_t, mq_g_t]; exact nD)
      · first | exact nC | (simp (disch := decide) only [wm_up_t, wm_up_k, md_u_t, mq_g_t]; exact nC)
      · first | exact nV | (simp (disch := decide) only [wm_up_t, wm_up_k, md_u_t, mq_g_t]; exact nV)
      · first | exact nT | (simp (disch := decide) only [wm_up_t, wm_up_k, md_u_t, mq_g_t]; exact nT)
      · intro j hj
        by_cases z : j = wc.toNat
        · rw [z, md_u_s]; exact ⟨y1, y2⟩
        · rw [md_u_k z]; exact nW j (by omega)
      · first | exact nO | (simp (disch := decide) only [wm_up_t, wm_up_k, md_u_t, mq_g_t]; exact nO)
      · exact wn_Q_e nQ (by first | rfl | simp (disch := decide) only [wm_up_t, wm_up_k, md_u_t, mq_g_t]) (by first | rfl | simp (disch := decide) only [wm_up_t, wm_up_k, md_u_t, mq_g_t]) (by first | rfl | simp (disch := decide) only [wm_up_t, wm_up_k, md_u_t, mq_g_t])
      · first | exact nZ | (simp (disch := decide) only [wm_up_t, wm_up_k, md_u_t, mq_g_t]; exact nZ)
    repeat' first
      | refine And.intro ?_ ?_
      | (intro h; try omega)
      | omega
      | exact hQ _ _ _ _ rfl hJ
      | assumption
  repeat' first
    | refine And.intro ?_ ?_
    | (intro n9 (h9 : n ≤ n9))
    | (intro I9 p1 p2 p3)
    | refine Exists.intro _ (And.intro (show _ = _ from by assumption) ?_)
    | refine Exists.intro _ (And.intro rfl (And.intro (by assumption) ?_))
    | refine Exists.intro _ (And.intro rfl ?_)
    | (intro h; try omega)
    | omega
    | exact eX (by omega) _ (by assumption)
    | exact eY (by omega) _ (by assumption)
    | exact e0 (by omega) (by omega) (by omega) I9 p1 p2 p3
    | exact Nat.le_of_ble_eq_true rfl
    | assumption
def sc_7 (as : List wi_V) (h : wc_H) (q : wi_Q1 wc_H) (qt : wi_Q2 wc_H) : Prop := wc_sTII as (fun x k v => wc_f h fun tg ln I L R n => ∃ M, wk_J (tg, ln, I, L, R, n) x M ∧ (∀ h', wk_Z sm_94 [wi_rf (some 11), .inl k, .inl v] M h' x 0 (fun b => b = none) → q none h') ∧ (∀ h', wk_Z sm_94 [wi_rf (some 11), .inl k, .inl v] M h' x 1 (fun b => b = none) → qt 3 h') ∧ (∀ h', wk_Z sm_94 [wi_rf (some 11), .inl k, .inl v] M h' x 2 (fun b => b = none) → qt 2 h'))
theorem cm_7 {l : Launch} {D : va_G} {aC : wm_Y} {b0 : Nat} (hl0 : l.stackTraces = false) : wm_sp l D aC b0 7 (wi_lf (wc_Rl wc_ok) sc_7) := by
  refine wi_method (wc_lw wc_ok) 7 (cx := fun id => if id = 73 then sc_73 else fun _ _ _ _ => False) (ids := ci_7) (tb := tb_7) (by decide +kernel) hl0 (wm_cxc (cm_73 hl0) oi_7 (fun h => wm_cxn h)) (wm_tb_ok tk_7) (by decide +kernel) [] 300 (fun as h q qt hs => ?_)
  obtain ⟨x, k, v, rfl, hs1⟩ := wc_sTII_e hs
  clear hs
  obtain ⟨tg, ln, I, L, R, n⟩ := h
  have hs := id hs1
  clear hs1
  simp only [wc_f] at hs
  refine ⟨rfl, fun _ _ _ _ _ _ _ => False, mq_nc, ?_⟩
  obtain ⟨M, hJ, f0, f1, f2⟩ := hs
  obtain ⟨cd, lm, st, sg, el, dr, sz, pr, wc, sp, nw, A, B, rfl, g, gd, ct, hK, hM⟩ := mq_f_e hJ
  clear hJ
  obtain ⟨nR, nS, nD, nC, nV, nT, nW, nO, nQ, nZ⟩ := id hM
  obtain ⟨⟨u1, u2, u3⟩, ⟨u4, u5, u6, u7, u8, u9, u10, u11⟩, ⟨u12, u13, u14, u15, u16, u17, u18, u19⟩⟩ := id nR
  obtain ⟨hn, kN, kB, kS, kA, kV, kD, kR, kT, kU, kX1, kX2, kX3, kW⟩ := id hK
  obtain ⟨k0, k7, k8, k9, k10, k11, k12, k13⟩ := id kN
  obtain ⟨⟨b1, b2, b3, b4, b5, b6, b7, b8, b9⟩, ⟨c1, c2, c3, c4, c5, c6, c7, c8⟩, ⟨d1, d2, d3, d4, d5, d6, d7, d8, d9, d10, d11⟩⟩ := id kB
  obtain ⟨w1, w2, w3⟩ := id kW
  have eX : (k < 0 ∨ 63 < k) → ∀ n', n ≤ n' → qt 3 (tg, ln, I, L, R, n') := by
    intro z0 n9 hn9
    refine f1 _ (fun Q T hQ => ?_)
    repeat' first
      | refine And.intro ?_ ?_
      | (intro h; try omega)
      | omega
      | exact hQ _ _ _ _ rfl ⟨g, gd, ct, wk_K_n hK hn9, hM⟩
      | assumption
  have eY : (0 ≤ k ∧ k ≤ 63 ∧ wc = 0) → ∀ n', n ≤ n' → qt 2 (tg, ln, I, L, R, n') := by
    intro z0 n9 hn9
    refine f2 _ (fun Q T hQ => ?_)
    repeat' first
      | refine And.intro ?_ ?_
      | (intro h; try omega)
      | omega
      | exact hQ _ _ _ _ rfl ⟨g, gd, ct, wk_K_n hK hn9, hM⟩
      | assumption
  have e0 : 0 ≤ k → k ≤ 63 → wc ≠ 0 → q none (tg, ln, wm_up I 24 ((I 10 2 (g 0 3) - 1) * 64 + k).toNat (g 0 5) v, L, R, n) := by
    intro y1 y2 y3
    rw [w1]
    refine f0 _ (fun Q T hQ => ?_)
    have ej : ((wc - 1) * 64 + k).toNat = (64 * wc - 64 + k).toNat := by omega
    have hJ : wk_J (tg, ln, wm_up I 24 ((wc - 1) * 64 + k).toNat (g 0 5) v, L, R, n) x ([0, lm, st, sg, el, dr, sz, pr, wc, sp, nw], md_u A 51 (64 * wc - 64 + k).toNat v, B) := by
      refine ⟨g, gd, ct, ⟨?_, ?_, ?_, ?_, ?_, ?_, ?_, ?_, ?_, ?_, ?_, ?_, ?_, ?_⟩, ⟨?_, ?_, ?_, ?_, ?_, ?_, ?_, ?_, ?_, ?_⟩⟩
      · first | exact hn | (simp (disch := decide) only [wm_up_t, wm_up_k, md_u_t, mq_g_t]; exact hn)
      · first | exact kN | (simp (disch := decide) only [wm_up_t, wm_up_k, md_u_t, mq_g_t]; exact kN)
      · first | exact kB | (simp (disch := decide) only [wm_up_t, wm_up_k, md_u_t, mq_g_t]; exact kB)
      · first | exact kS | (simp (disch := decide) only [wm_up_t, wm_up_k, md_u_t, mq_g_t]; exact kS)
      · first | exact kA | (simp (disch := decide) only [wm_up_t, wm_up_k, md_u_t, mq_g_t]; exact kA)
      · first | exact kV | (simp (disch := decide) only [wm_up_t, wm_up_k, md_u_t, mq_g_t]; exact kV)
      · first | exact kD | (simp (disch := decide) only [wm_up_t, wm_up_k, md_u_t, mq_g_t]; exact kD)
      · exact wc_rv_x (wc_rv_e (Nat.le_refl _) (by refine ⟨?_, ?_, ?_, ?_, ?_, ?_, ?_⟩ <;> first | rfl | simp (disch := decide) only [wm_up_t, wm_up_k, md_u_t, mq_g_t]) kR) (fun d hd => ⟨by first | rfl | simp (disch := decide) only [wm_up_t, wm_up_k, md_u_t, mq_g_t], rfl⟩)
      · first | exact kT | (simp (disch := decide) only [wm_up_t, wm_up_k, md_u_t, mq_g_t]; exact kT)
      · first | exact kU | (simp (disch := decide) only [wm_up_t, wm_up_k, md_u_t, mq_g_t]; exact kU)
      · first | exact kX1 | (simp (disch := decide) only [wm_up_t, wm_up_k, md_u_t, mq_g_t]; exact kX1)
      · first | exact kX2 | (simp (disch := decide) only [wm_up_t, wm_up_k, md_u_t, mq_g_t]; exact kX2)
      · first | exact kX3 | (simp (disch := decide) only [wm_up_t, wm_up_k, md_u_t, mq_g_t]; exact kX3)
      · rw [ej]
        refine ⟨?_, w2, fun j hj => ?_⟩
        · rw [wm_up_t (by decide)]
          exact w1
        · by_cases z : j = (64 * wc - 64 + k).toNat
          · rw [z, wm_up_self, md_u_s]
          · rw [wm_up_k z, md_u_k z]
            exact w3 j hj
      · first | exact nR | (simp (disch := decide) only [wm_up_t, wm_up_k, md_u_t, mq_g_t]; exact nR)
      · first | exact nS | (simp (disch := decide) only [wm_up_t, wm_up_k, md_u_t, mq_g_t]; exact nS)
      · first | exact nD | (simp (disch := decide) only [wm_up_t, wm_up_k, md_u_t, mq_g_t]; exact nD)
      · first | exact nC | (simp (disch := decide) only [wm_up_t, wm_up_k, md_u_t, mq_g_t]; exact nC)
      · first | exact nV | (simp (disch := decide) only [wm_up_t, wm_up_k, md_u_t, mq_g_t]; exact nV)
      · first | exact nT | (simp (disch := decide) only [wm_up_t, wm_up_k, md_u_t, mq_g_t]; exact nT)
      · first | exact nW | (simp (disch := decide) only [wm_up_t, wm_up_k, md_u_t, mq_g_t]; exact nW)
      · first | exact nO | (simp (disch := decide) only [wm_up_t, wm_up_k, md_u_t, mq_g_t]; exact nO)
      · exact wn_Q_e nQ (by first | rfl | simp (disch := decide) only [wm_up_t, wm_up_k, md_u_t, mq_g_t]) (by first | rfl | simp (disch := decide) only [wm_up_t, wm_up_k, md_u_t, mq_g_t]) (by first | rfl | simp (disch := decide) only [wm_up_t, wm_up_k, md_u_t, mq_g_t])
      · first | exact nZ | (simp (disch := decide) only [wm_up_t, wm_up_k, md_u_t, mq_g_t]; exact nZ)
    repeat' first
      | refine And.intro ?_ ?_
      | (intro h; try omega)
      | omega
      | exact hQ _ _ _ _ rfl hJ
      | assumption
  repeat' first
    | refine And.intro ?_ ?_
    | (intro n9 (h9 : n ≤ n9))
    | refine Exists.intro _ (And.intro (show _ = _ from by assumption) ?_)
    | refine Exists.intro _ (And.intro rfl (And.intro (by assumption) ?_))
    | refine Exists.intro _ (And.intro rfl ?_)
    | (intro h; try omega)
    | omega
    | exact eX (by omega) _ (by assumption)
    | exact eY (by omega) _ (by assumption)
    | exact e0 (by omega) (by omega) (by omega)
    | exact Nat.le_of_ble_eq_true rfl
    | assumption
