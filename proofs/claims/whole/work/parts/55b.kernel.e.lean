/-! THE KERNEL, 5b: pending, projected -/
def sc_23 (as : List wi_V) (h : wc_H) (q : wi_Q1 wc_H) (qt : wi_Q2 wc_H) : Prop := wc_sTIII as (fun x p s k => wc_f h fun tg ln I L R n => ∃ M, wk_J (tg, ln, I, L, R, n) x M ∧ (∀ (r : Int) h', wk_Z sm_117 [wi_rf (some 11), .inl p, .inl s, .inl k] M h' x 0 (fun b => b = some (.inl r)) → q (some (.inl r)) h') ∧ (∀ h', wk_Z sm_117 [wi_rf (some 11), .inl p, .inl s, .inl k] M h' x 1 (fun b => ∃ v, b = some (.inl v)) → qt 3 h'))
theorem cm_23 {l : Launch} {D : va_G} {aC : wm_Y} {b0 : Nat} (hl0 : l.stackTraces = false) : wm_sp l D aC b0 23 (wi_lf (wc_Rl wc_ok) sc_23) := by
  refine wi_method (wc_lw wc_ok) 23 (cx := fun id => if id = 25 then sc_25 else if id = 26 then sc_26 else if id = 27 then sc_27 else if id = 38 then sc_38 else if id = 50 then sc_50 else fun _ _ _ _ => False) (ids := ci_23) (tb := tb_23) (by decide +kernel) hl0 (wm_cxc (cm_25 hl0) oi_23 (fun h => wm_cxc (cm_26 hl0) h (fun h => wm_cxc (cm_27 hl0) h (fun h => wm_cxc (cm_38 hl0) h (fun h => wm_cxc (cm_50 hl0) h (fun h => wm_cxn h)))))) (wm_tb_ok tk_23) (by decide +kernel) [] 300 (fun as h q qt hs => ?_)
  obtain ⟨x, p, s, k, rfl, hs1⟩ := wc_sTIII_e hs
  clear hs
  obtain ⟨tg, ln, I, L, R, n⟩ := h
  have hs := id hs1
  clear hs1
  simp only [wc_f] at hs
  refine ⟨rfl, fun _ _ _ _ _ _ _ => False, mq_nc, ?_⟩
  obtain ⟨M, hJ, f0, f1⟩ := hs
  obtain ⟨cd, lm, st, sg, el, dr, sz, pr, wc, sp, nw, A, B, rfl, g, gd, ct, hK, hM⟩ := mq_f_e hJ
  clear hJ
  obtain ⟨nR, nS, nD, nC, nV, nT, nW, nO, nQ, nZ⟩ := id hM
  obtain ⟨⟨u1, u2, u3⟩, ⟨u4, u5, u6, u7, u8, u9, u10, u11⟩, ⟨u12, u13, u14, u15, u16, u17, u18, u19⟩⟩ := id nR
  obtain ⟨hn, kN, kB, kS, kA, kV, kD, kR, kT, kU, kX1, kX2, kX3, kW⟩ := id hK
  obtain ⟨k0, k7, k8, k9, k10, k11, k12, k13⟩ := id kN
  obtain ⟨⟨b1, b2, b3, b4, b5, b6, b7, b8, b9⟩, ⟨c1, c2, c3, c4, c5, c6, c7, c8⟩, ⟨d1, d2, d3, d4, d5, d6, d7, d8, d9, d10, d11⟩⟩ := id kB
  obtain ⟨w1, w2, w3⟩ := id kW
  have eX : (p < 0 ∨ pr ≤ p ∨ s < 0 ∨ sg ≤ s ∨ (0 ≤ s ∧ s < sg ∧ (k < 0 ∨ A 31 s.toNat ≤ k))) → ∀ n', n ≤ n' → qt 3 (tg, ln, I, L, R, n') := by
    intro z0 n9 hn9
    refine f1 _ (fun Q T hQ => ?_)
    repeat' first
      | refine And.intro ?_ ?_
      | exact wn_S_2 nS u7
      | (intro h; try omega)
      | omega
      | exact hQ _ _ _ _ ⟨_, rfl⟩ ⟨g, gd, ct, wk_K_n hK hn9, hM⟩
      | assumption
  by_cases hp : 0 ≤ p ∧ p < pr
  · obtain ⟨t1, t2, t3, t4, t5, t6, t7, t8, t9⟩ := kT.1 p.toNat (by omega)
    by_cases hs9 : 0 ≤ s ∧ s < sg
    · obtain ⟨s1, s2, s3, s4, s5, s6, s7, s8, s9, s10⟩ := kS.1 s.toNat (by omega)
      obtain ⟨y1, y2, y3, y4, y5, y6⟩ := nS.1 s.toNat (by omega)
      have dcs := kD s.toNat (by omega)
      by_cases hk : 0 ≤ k ∧ k < A 31 s.toNat
      · obtain ⟨nd1, nd2, nd3⟩ := nD.1 s.toNat (by omega)
        have uq := fun (d : Nat) (hd : (d : Int) < dr) e => wn_D_u nD nS (s := s.toNat) (k := k) (by omega) hk.1 hk.2 hd e
        obtain ⟨r1, r2, r3, cs, ids, r4, r5⟩ := id kR
        have e0 : (∀ b ∈ gd s.toNat, A 37 b.2 ≠ p) → q (some (.inl (-1))) (tg, ln, I, L, R, n) := by
          intro z0
          refine f0 _ _ (fun Q T hQ => ?_)
          have no : ∀ d : Int, 0 ≤ d → d < dr → A 37 d.toNat = p → A 38 d.toNat = A 32 s.toNat + k → False := fun d x1 x2 x3 x4 => by
            obtain ⟨c, hc, e1, e2⟩ := uq d.toNat (by omega) x4
            exact z0 c hc (e2.symm.trans x3)
          repeat' first
            | refine And.intro ?_ ?_
            | exact wn_S_2 nS u7
            | (intro d9 x1 x2 x3 x4)
            | (intro h; try omega)
            | omega
            | exact (no _ (by assumption) (by assumption) (by assumption) (by assumption)).elim
            | exact hQ _ _ _ _ rfl ⟨g, gd, ct, hK, hM⟩
            | assumption
        have e1 : ∀ c ∈ gd s.toNat, A 37 c.2 = p → q (some (.inl (((cs (c.2 + k.toNat)).length : Int)))) (tg, ln, I, L, R, n) := by
          intro c hc z0
          have hcd : c.2 + k.toNat < dr.toNat := by have := (nd3 c hc).1; omega
          have ex := (nd3 c hc).2 k.toNat (by omega)
          have rowd := nQ.1 (c.2 + k.toNat) (by omega)
          refine f0 _ _ (fun Q T hQ => ?_)
          have one : ∀ d : Int, 0 ≤ d → d < dr → A 37 d.toNat = p → A 38 d.toNat = A 32 s.toNat + k → d = ((c.2 + k.toNat : Nat) : Int) := fun d x1 x2 x3 x4 => by
            obtain ⟨c', hc', e1, e2⟩ := uq d.toNat (by omega) x4
            have : c' = c := wl_pw (f := fun c : Nat × Nat => A 37 c.2) nd2 hc' hc (by show A 37 c'.2 = A 37 c.2; omega)
            rw [this] at e1
            omega
          have bad : ¬ ∀ j : Nat, (j : Int) < dr → ¬ (A 37 j = p ∧ A 38 j = A 32 s.toNat + k) := fun z => z (c.2 + k.toNat) (by omega) ⟨by rw [ex.1]; exact z0, by rw [ex.2]; omega⟩
          have rr := r5 _ hcd
          simp only at rr
          have rs := (nC.1 (c.2 + k.toNat) (by omega)).1
          repeat' first
            | refine And.intro ?_ ?_
            | exact wn_S_2 nS u7
            | (intro (x1 : ∀ j : Nat, (j : Int) < dr → ¬ (A 37 j = p ∧ A 38 j = A 32 s.toNat + k)))
            | (intro d9 x1 x2 x3 x4)
            | (intro h; try omega)
            | omega
            | exact absurd (by assumption) bad
            | (cases one _ (by assumption) (by assumption) (by assumption) (by assumption); exact hQ _ _ _ _ (by rw [rowd, ← rr.2, wc_cn_len]) ⟨g, gd, ct, hK, hM⟩)
            | assumption
        repeat' first
          | refine And.intro ?_ ?_
          | (intro n9 (h9 : n ≤ n9))
          | (intro q9 (e9 : (_ : Option Nat) = some q9); cases e9)
          | (intro (e9 : (some _ : Option Nat) = none); cases e9)
          | (intro (e9 : (none : Option Nat) = none); clear e9)
          | (intro P9 c9 S9 e9 e10 e11; have hc9 : c9 ∈ gd s.toNat := (by rw [e9]; simp); obtain ⟨m1, m2, ra, m3, m4, m5, m6⟩ := wc_dc_mem dcs hc9; have m7 := m6 k.toNat (by omega); have m8 : k < ln ra := (by omega); have hcd9 : c9.2 + k.toNat < dr.toNat := (by have := (nd3 c9 hc9).1; omega); obtain ⟨i1, i2, i3⟩ := r4.2.1 _ hcd9; have i4 : ∀ a ∈ cs (c9.2 + k.toNat), tg a = 9 := fun a ha => (r4.2.2.2.2.2.2.2.1 a (Or.inr ⟨_, hcd9, ha⟩)).1; have i5 : (cs (c9.2 + k.toNat)).length ≤ 100000 := (by have := mq_sum_le (g := fun d => ((ct d).length : Int)) (fun d => Int.natCast_nonneg _) hcd9; have i6 := congrArg List.length (r5 _ hcd9).2; rw [wc_cn_len] at i6; omega))
          | (intro (z9 : ∀ b ∈ gd s.toNat, A 37 b.2 ≠ p))
          | refine Exists.intro _ (Exists.intro _ (Exists.intro _ (Exists.intro _ (And.intro dcs ?_))))
          | refine Exists.intro (cs (c9.2 + k.toNat)) (And.intro i3 (And.intro i4 (And.intro i5 ?_)))
          | refine Exists.intro _ (And.intro m3 (And.intro m4 ?_))
          | refine Exists.intro _ (And.intro m7 ?_)
          | refine Exists.intro _ (And.intro (show _ = _ from by assumption) ?_)
          | refine Exists.intro _ (And.intro rfl (And.intro (by assumption) ?_))
          | refine Exists.intro _ (And.intro rfl ?_)
          | (intro h; try omega)
          | omega
          | exact eX (by omega) _ (by assumption)
          | exact e0 z9
          | exact e1 c9 hc9 e11
          | exact Nat.le_of_ble_eq_true rfl
          | assumption
      · repeat' first
          | refine And.intro ?_ ?_
          | (intro n9 (h9 : n ≤ n9))
          | refine Exists.intro _ (And.intro (show _ = _ from by assumption) ?_)
          | refine Exists.intro _ (And.intro rfl (And.intro (by assumption) ?_))
          | refine Exists.intro _ (And.intro rfl ?_)
          | (intro h; try omega)
          | omega
          | exact eX (by omega) _ (by assumption)
          | exact Nat.le_of_ble_eq_true rfl
          | assumption
    · repeat' first
        | refine And.intro ?_ ?_
        | (intro n9 (h9 : n ≤ n9))
        | refine Exists.intro _ (And.intro (show _ = _ from by assumption) ?_)
        | refine Exists.intro _ (And.intro rfl (And.intro (by assumption) ?_))
        | refine Exists.intro _ (And.intro rfl ?_)
        | (intro h; try omega)
        | omega
        | exact eX (by omega) _ (by assumption)
        | exact Nat.le_of_ble_eq_true rfl
        | assumption
  · repeat' first
      | refine And.intro ?_ ?_
      | (intro n9 (h9 : n ≤ n9))
      | refine Exists.intro _ (And.intro (show _ = _ from by assumption) ?_)
      | refine Exists.intro _ (And.intro rfl (And.intro (by assumption) ?_))
      | refine Exists.intro _ (And.intro rfl ?_)
      | (intro h; try omega)
      | omega
      | exact eX (by omega) _ (by assumption)
      | exact Nat.le_of_ble_eq_true rfl
      | assumption
def sc_24 (as : List wi_V) (h : wc_H) (q : wi_Q1 wc_H) (qt : wi_Q2 wc_H) : Prop := wc_sTIIIJ as (fun x p s k t => wc_f h fun tg ln I L R n => ∃ M, wk_J (tg, ln, I, L, R, n) x M ∧ (∀ (r : Int) h', wk_Z sm_118 [wi_rf (some 11), .inl p, .inl s, .inl k, .inr (.inl t)] M h' x 0 (fun b => b = some (.inl r)) → q (some (.inl r)) h') ∧ (∀ h', wk_Z sm_118 [wi_rf (some 11), .inl p, .inl s, .inl k, .inr (.inl t)] M h' x 1 (fun b => ∃ v, b = some (.inl v)) → qt 3 h') ∧ (∀ h', wk_Z sm_118 [wi_rf (some 11), .inl p, .inl s, .inl k, .inr (.inl t)] M h' x 2 (fun b => ∃ v, b = some (.inl v)) → qt 1 h'))
theorem cm_24 {l : Launch} {D : va_G} {aC : wm_Y} {b0 : Nat} (hl0 : l.stackTraces = false) : wm_sp l D aC b0 24 (wi_lf (wc_Rl wc_ok) sc_24) := by
  refine wi_method (wc_lw wc_ok) 24 (cx := fun id => if id = 25 then sc_25 else if id = 26 then sc_26 else if id = 27 then sc_27 else if id = 40 then sc_40 else if id = 50 then sc_50 else fun _ _ _ _ => False) (ids := ci_24) (tb := tb_24) (by decide +kernel) hl0 (wm_cxc (cm_25 hl0) oi_24 (fun h => wm_cxc (cm_26 hl0) h (fun h => wm_cxc (cm_27 hl0) h (fun h => wm_cxc (cm_40 hl0) h (fun h => wm_cxc (cm_50 hl0) h (fun h => wm_cxn h)))))) (wm_tb_ok tk_24) (by decide +kernel) [] 300 (fun as h q qt hs => ?_)
  obtain ⟨x, p, s, k, t, rfl, hs1⟩ := wc_sTIIIJ_e hs
  clear hs
  obtain ⟨tg, ln, I, L, R, n⟩ := h
  have hs := id hs1
  clear hs1
  simp only [wc_f] at hs
  refine ⟨rfl, fun _ _ _ _ _ _ _ => False, mq_nc, ?_⟩
  obtain ⟨M, hJ, f0, f1, f2⟩ := hs
  obtain ⟨cd, lm, st, sg, el, dr, sz, pr, wc, sp, nw, A, B, rfl, g, gd, ct, hK, hM⟩ := mq_f_e hJ
  clear hJ
  obtain ⟨nR, nS, nD, nC, nV, nT, nW, nO, nQ, nZ⟩ := id hM
  obtain ⟨⟨u1, u2, u3⟩, ⟨u4, u5, u6, u7, u8, u9, u10, u11⟩, ⟨u12, u13, u14, u15, u16, u17, u18, u19⟩⟩ := id nR
  obtain ⟨hn, kN, kB, kS, kA, kV, kD, kR, kT, kU, kX1, kX2, kX3, kW⟩ := id hK
  obtain ⟨k0, k7, k8, k9, k10, k11, k12, k13⟩ := id kN
  obtain ⟨⟨b1, b2, b3, b4, b5, b6, b7, b8, b9⟩, ⟨c1, c2, c3, c4, c5, c6, c7, c8⟩, ⟨d1, d2, d3, d4, d5, d6, d7, d8, d9, d10, d11⟩⟩ := id kB
  obtain ⟨w1, w2, w3⟩ := id kW
  have eX : (p < 0 ∨ pr ≤ p ∨ s < 0 ∨ sg ≤ s ∨ (0 ≤ s ∧ s < sg ∧ (k < 0 ∨ A 31 s.toNat ≤ k))) → ∀ n', n ≤ n' → qt 3 (tg, ln, I, L, R, n') := by
    intro z0 n9 hn9
    refine f1 _ (fun Q T hQ => ?_)
    repeat' first
      | refine And.intro ?_ ?_
      | exact wn_S_2 nS u7
      | (intro h; try omega)
      | omega
      | exact hQ _ _ _ _ ⟨_, rfl⟩ ⟨g, gd, ct, wk_K_n hK hn9, hM⟩
      | assumption
  by_cases hp : 0 ≤ p ∧ p < pr
  · obtain ⟨t1, t2, t3, t4, t5, t6, t7, t8, t9⟩ := kT.1 p.toNat (by omega)
    by_cases hs9 : 0 ≤ s ∧ s < sg
    · obtain ⟨s1, s2, s3, s4, s5, s6, s7, s8, s9, s10⟩ := kS.1 s.toNat (by omega)
      obtain ⟨y1, y2, y3, y4, y5, y6⟩ := nS.1 s.toNat (by omega)
      have dcs := kD s.toNat (by omega)
      by_cases hk : 0 ≤ k ∧ k < A 31 s.toNat
      · obtain ⟨nd1, nd2, nd3⟩ := nD.1 s.toNat (by omega)
        have uq := fun (d : Nat) (hd : (d : Int) < dr) e => wn_D_u nD nS (s := s.toNat) (k := k) (by omega) hk.1 hk.2 hd e
        obtain ⟨r1, r2, r3, cs, ids, r4, r5⟩ := id kR
        have eY : (t < nw) → ∀ n', n ≤ n' → qt 1 (tg, ln, I, L, R, n') := by
          intro z0 n9 hn9
          refine f2 _ (fun Q T hQ => ?_)
          repeat' first
            | refine And.intro ?_ ?_
            | exact wn_S_2 nS u7
            | (intro h; try omega)
            | omega
            | exact hQ _ _ _ _ ⟨_, rfl⟩ ⟨g, gd, ct, wk_K_n hK hn9, hM⟩
            | assumption
        have e0 : nw ≤ t → (∀ b ∈ gd s.toNat, A 37 b.2 ≠ p) → q (some (.inl (0))) (tg, ln, I, L, R, n) := by
          intro zt z0
          refine f0 _ _ (fun Q T hQ => ?_)
          have no : ∀ d : Int, 0 ≤ d → d < dr → A 37 d.toNat = p → A 38 d.toNat = A 32 s.toNat + k → False := fun d x1 x2 x3 x4 => by
            obtain ⟨c, hc, e1, e2⟩ := uq d.toNat (by omega) x4
            exact z0 c hc (e2.symm.trans x3)
          repeat' first
            | refine And.intro ?_ ?_
            | exact wn_S_2 nS u7
            | (intro d9 x1 x2 x3 x4)
            | (intro h; try omega)
            | omega
            | exact (no _ (by assumption) (by assumption) (by assumption) (by assumption)).elim
            | exact hQ _ _ _ _ rfl ⟨g, gd, ct, hK, hM⟩
            | assumption
        have e1 : nw ≤ t → ∀ c ∈ gd s.toNat, A 37 c.2 = p → q (some (.inl (wc_va t (I 4 2 (g 7 (c.2 + k.toNat))) (wc_cn I L (cs (c.2 + k.toNat)))))) (tg, ln, I, L, R, n) := by
          intro zt c hc z0
          have hcd : c.2 + k.toNat < dr.toNat := by have := (nd3 c hc).1; omega
          have ex := (nd3 c hc).2 k.toNat (by omega)
          have rowd := nQ.1 (c.2 + k.toNat) (by omega)
          refine f0 _ _ (fun Q T hQ => ?_)
          have one : ∀ d : Int, 0 ≤ d → d < dr → A 37 d.toNat = p → A 38 d.toNat = A 32 s.toNat + k → d = ((c.2 + k.toNat : Nat) : Int) := fun d x1 x2 x3 x4 => by
            obtain ⟨c', hc', e1, e2⟩ := uq d.toNat (by omega) x4
            have : c' = c := wl_pw (f := fun c : Nat × Nat => A 37 c.2) nd2 hc' hc (by show A 37 c'.2 = A 37 c.2; omega)
            rw [this] at e1
            omega
          have bad : ¬ ∀ j : Nat, (j : Int) < dr → ¬ (A 37 j = p ∧ A 38 j = A 32 s.toNat + k) := fun z => z (c.2 + k.toNat) (by omega) ⟨by rw [ex.1]; exact z0, by rw [ex.2]; omega⟩
          have rr := r5 _ hcd
          simp only at rr
          have rs := (nC.1 (c.2 + k.toNat) (by omega)).1
          repeat' first
            | refine And.intro ?_ ?_
            | exact wn_S_2 nS u7
            | (intro (x1 : ∀ j : Nat, (j : Int) < dr → ¬ (A 37 j = p ∧ A 38 j = A 32 s.toNat + k)))
            | (intro d9 x1 x2 x3 x4)
            | (intro h; try omega)
            | omega
            | exact absurd (by assumption) bad
            | (cases one _ (by assumption) (by assumption) (by assumption) (by assumption); exact hQ _ _ _ _ (by rw [rowd, Int.toNat_natCast, rr.1, rr.2, wc_va_f rs]) ⟨g, gd, ct, hK, hM⟩)
            | assumption
        repeat' first
          | refine And.intro ?_ ?_
          | (intro n9 (h9 : n ≤ n9))
          | (intro q9 (e9 : (_ : Option Nat) = some q9); cases e9)
          | (intro (e9 : (some _ : Option Nat) = none); cases e9)
          | (intro (e9 : (none : Option Nat) = none); clear e9)
          | (intro P9 c9 S9 e9 e10 e11; have hc9 : c9 ∈ gd s.toNat := (by rw [e9]; simp); obtain ⟨m1, m2, ra, m3, m4, m5, m6⟩ := wc_dc_mem dcs hc9; have m7 := m6 k.toNat (by omega); have m8 : k < ln ra := (by omega); have hcd9 : c9.2 + k.toNat < dr.toNat := (by have := (nd3 c9 hc9).1; omega); obtain ⟨i1, i2, i3⟩ := r4.2.1 _ hcd9; have i4 : ∀ a ∈ cs (c9.2 + k.toNat), tg a = 9 := fun a ha => (r4.2.2.2.2.2.2.2.1 a (Or.inr ⟨_, hcd9, ha⟩)).1; have i5 : (cs (c9.2 + k.toNat)).length ≤ 100000 := (by have := mq_sum_le (g := fun d => ((ct d).length : Int)) (fun d => Int.natCast_nonneg _) hcd9; have i6 := congrArg List.length (r5 _ hcd9).2; rw [wc_cn_len] at i6; omega))
          | (intro (z9 : ∀ b ∈ gd s.toNat, A 37 b.2 ≠ p))
          | refine Exists.intro _ (Exists.intro _ (Exists.intro _ (Exists.intro _ (And.intro dcs ?_))))
          | refine Exists.intro (cs (c9.2 + k.toNat)) (And.intro i3 (And.intro i4 ?_))
          | refine Exists.intro _ (And.intro m3 (And.intro m4 ?_))
          | refine Exists.intro _ (And.intro m7 ?_)
          | refine Exists.intro _ (And.intro (show _ = _ from by assumption) ?_)
          | refine Exists.intro _ (And.intro rfl (And.intro (by assumption) ?_))
          | refine Exists.intro _ (And.intro rfl ?_)
          | (intro h; try omega)
          | omega
          | exact eX (by omega) _ (by assumption)
          | exact eY (by omega) _ (by assumption)
          | exact e0 (by omega) z9
          | exact e1 (by omega) c9 hc9 e11
          | exact Nat.le_of_ble_eq_true rfl
          | assumption
      · repeat' first
          | refine And.intro ?_ ?_
          | (intro n9 (h9 : n ≤ n9))
          | refine Exists.intro _ (And.intro (show _ = _ from by assumption) ?_)
          | refine Exists.intro _ (And.intro rfl (And.intro (by assumption) ?_))
          | refine Exists.intro _ (And.intro rfl ?_)
          | (intro h; try omega)
          | omega
          | exact eX (by omega) _ (by assumption)
          | exact Nat.le_of_ble_eq_true rfl
          | assumption
    · repeat' first
        | refine And.intro ?_ ?_
        | (intro n9 (h9 : n ≤ n9))
        | refine Exists.intro _ (And.intro (show _ = _ from by assumption) ?_)
        | refine Exists.intro _ (And.intro rfl (And.intro (by assumption) ?_))
        | refine Exists.intro _ (And.intro rfl ?_)
        | (intro h; try omega)
        | omega
        | exact eX (by omega) _ (by assumption)
        | exact Nat.le_of_ble_eq_true rfl
        | assumption
  · repeat' first
      | refine And.intro ?_ ?_
      | (intro n9 (h9 : n ≤ n9))
      | refine Exists.intro _ (And.intro (show _ = _ from by assumption) ?_)
      | refine Exists.intro _ (And.intro rfl (And.intro (by assumption) ?_))
      | refine Exists.intro _ (And.intro rfl ?_)
      | (intro h; try omega)
      | omega
      | exact eX (by omega) _ (by assumption)
      | exact Nat.le_of_ble_eq_true rfl
      | assumption
