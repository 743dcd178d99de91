/-! THE KERNEL, 3: methods that read -/
theorem mq_cnt_m {P : Nat → Bool} : ∀ {n r : Nat}, r ≤ n → mq_cnt P r ≤ mq_cnt P n
  | 0, r, h => by cases Nat.le_zero.mp h; exact Int.le_refl _
  | n + 1, r, h => by
    by_cases z : r = n + 1
    · rw [z]; exact Int.le_refl _
    · have := mq_cnt_m (P := P) (n := n) (r := r) (by omega)
      simp only [mq_cnt]
      split <;> omega
theorem mq_cnt_lt {P : Nat → Bool} {n r : Nat} (h : r < n) (hp : P r = true) : mq_cnt P r < mq_cnt P n := by
  have := mq_cnt_m (P := P) (n := n) (r := r + 1) h
  simp only [mq_cnt] at this
  rw [if_pos hp] at this
  omega
theorem mq_cnt_u {P : Nat → Bool} {r j : Int} (h1 : 0 ≤ r) (h2 : 0 ≤ j) (hr : P r.toNat = true) (hj : P j.toNat = true) (h : mq_cnt P r.toNat = mq_cnt P j.toNat) : r = j := by
  apply Classical.byContradiction
  intro z
  rcases (show r < j ∨ j < r from by omega) with y | y
  · have := mq_cnt_lt (P := P) (n := j.toNat) (r := r.toNat) (by omega) hr
    omega
  · have := mq_cnt_lt (P := P) (n := r.toNat) (r := j.toNat) (by omega) hj
    omega
theorem wn_Q_e {dr sz : Int} {A B A' B' : mq_A} {ct : Nat → List (Int × Int)} (h : wn_Q dr sz A B ct) (h1 : A' 40 = A 40) (h2 : A' 42 = A 42) (h3 : B' 41 = B 41) : wn_Q dr sz A' B' ct := by
  obtain ⟨a1, a2, a3⟩ := h
  refine ⟨fun d hd => ?_, fun j hj => ?_, a3⟩
  · rw [mq_row_e h1 h2 h3]
    exact a1 d hd
  · rw [h1]
    exact a2 j hj
theorem wn_S_2 {sg el : Int} {a30 a31 a32 : Nat → Int} (h : wn_S sg el a30 a31 a32) (he : el ≤ 512) : ∀ s : Nat, (s : Int) < sg → 0 ≤ a32 s ∧ a32 s + a31 s ≤ 512 := fun s hs => by
  obtain ⟨h1, h2, h3, h4, h5, h6⟩ := h.1 s hs
  omega
def sc_20 (as : List wi_V) (h : wc_H) (q : wi_Q1 wc_H) (qt : wi_Q2 wc_H) : Prop := wc_sT as (fun x => wc_f h fun tg ln I L R n => ∃ M, wk_J (tg, ln, I, L, R, n) x M ∧ (∀ (r : Int) h', wk_Z sm_115 [wi_rf (some 11)] M h' x 0 (fun b => b = some (.inr (.inl r))) → q (some (.inr (.inl r))) h'))
theorem cm_20 {l : Launch} {D : va_G} {aC : wm_Y} {b0 : Nat} (hl0 : l.stackTraces = false) : wm_sp l D aC b0 20 (wi_lf (wc_Rl wc_ok) sc_20) := by
  refine wi_method (wc_lw wc_ok) 20 (cx := fun _ _ _ _ _ => False) (ids := ci_20) (tb := tb_20) (by decide +kernel) hl0 wm_cx0 (wm_tb_ok tk_20) (by decide +kernel) [] 300 (fun as h q qt hs => ?_)
  obtain ⟨x, rfl, hs1⟩ := wc_sT_e hs
  clear hs
  obtain ⟨tg, ln, I, L, R, n⟩ := h
  have hs := id hs1
  clear hs1
  simp only [wc_f] at hs
  refine ⟨rfl, fun _ _ _ _ _ _ _ => False, mq_nc, ?_⟩
  obtain ⟨M, hJ, f0⟩ := hs
  obtain ⟨cd, lm, st, sg, el, dr, sz, pr, wc, sp, nw, A, B, rfl, g, gd, ct, hK, hM⟩ := mq_f_e hJ
  clear hJ
  obtain ⟨nR, nS, nD, nC, nV, nT, nW, nO, nQ, nZ⟩ := id hM
  obtain ⟨⟨u1, u2, u3⟩, ⟨u4, u5, u6, u7, u8, u9, u10, u11⟩, ⟨u12, u13, u14, u15, u16, u17, u18, u19⟩⟩ := id nR
  obtain ⟨hn, kN, kB, kS, kA, kV, kD, kR, kT, kU, kX1, kX2, kX3, kW⟩ := id hK
  obtain ⟨k0, k7, k8, k9, k10, k11, k12, k13⟩ := id kN
  obtain ⟨⟨b1, b2, b3, b4, b5, b6, b7, b8, b9⟩, ⟨c1, c2, c3, c4, c5, c6, c7, c8⟩, ⟨d1, d2, d3, d4, d5, d6, d7, d8, d9, d10, d11⟩⟩ := id kB
  obtain ⟨w1, w2, w3⟩ := id kW
  repeat' first
    | refine And.intro ?_ ?_
    | refine Exists.intro _ (And.intro (show _ = _ from by assumption) ?_)
    | refine Exists.intro _ (And.intro rfl (And.intro (by assumption) ?_))
    | refine Exists.intro _ (And.intro rfl ?_)
    | (intro h; try omega)
    | omega
    | (refine f0 _ _ (fun Q T hQ => ?_); exact hQ _ _ _ _ (by rw [k12]) ⟨g, gd, ct, hK, hM⟩)
    | exact Nat.le_of_ble_eq_true rfl
    | assumption
def sc_21 (as : List wi_V) (h : wc_H) (q : wi_Q1 wc_H) (qt : wi_Q2 wc_H) : Prop := wc_sT as (fun x => wc_f h fun tg ln I L R n => ∃ M, wk_J (tg, ln, I, L, R, n) x M ∧ (∀ (r : Int) h', wk_Z sm_116 [wi_rf (some 11)] M h' x 0 (fun b => b = some (.inl r)) → q (some (.inl r)) h'))
theorem cm_21 {l : Launch} {D : va_G} {aC : wm_Y} {b0 : Nat} (hl0 : l.stackTraces = false) : wm_sp l D aC b0 21 (wi_lf (wc_Rl wc_ok) sc_21) := by
  refine wi_method (wc_lw wc_ok) 21 (cx := fun _ _ _ _ _ => False) (ids := ci_21) (tb := tb_21) (by decide +kernel) hl0 wm_cx0 (wm_tb_ok tk_21) (by decide +kernel) [] 300 (fun as h q qt hs => ?_)
  obtain ⟨x, rfl, hs1⟩ := wc_sT_e hs
  clear hs
  obtain ⟨tg, ln, I, L, R, n⟩ := h
  have hs := id hs1
  clear hs1
  simp only [wc_f] at hs
  refine ⟨rfl, fun _ _ _ _ _ _ _ => False, mq_nc, ?_⟩
  obtain ⟨M, hJ, f0⟩ := hs
  obtain ⟨cd, lm, st, sg, el, dr, sz, pr, wc, sp, nw, A, B, rfl, g, gd, ct, hK, hM⟩ := mq_f_e hJ
  clear hJ
  obtain ⟨nR, nS, nD, nC, nV, nT, nW, nO, nQ, nZ⟩ := id hM
  obtain ⟨⟨u1, u2, u3⟩, ⟨u4, u5, u6, u7, u8, u9, u10, u11⟩, ⟨u12, u13, u14, u15, u16, u17, u18, u19⟩⟩ := id nR
  obtain ⟨hn, kN, kB, kS, kA, kV, kD, kR, kT, kU, kX1, kX2, kX3, kW⟩ := id hK
  obtain ⟨k0, k7, k8, k9, k10, k11, k12, k13⟩ := id kN
  obtain ⟨⟨b1, b2, b3, b4, b5, b6, b7, b8, b9⟩, ⟨c1, c2, c3, c4, c5, c6, c7, c8⟩, ⟨d1, d2, d3, d4, d5, d6, d7, d8, d9, d10, d11⟩⟩ := id kB
  obtain ⟨w1, w2, w3⟩ := id kW
  repeat' first
    | refine And.intro ?_ ?_
    | refine Exists.intro _ (And.intro (show _ = _ from by assumption) ?_)
    | refine Exists.intro _ (And.intro rfl (And.intro (by assumption) ?_))
    | refine Exists.intro _ (And.intro rfl ?_)
    | (intro h; try omega)
    | omega
    | (refine f0 _ _ (fun Q T hQ => ?_); exact hQ _ _ _ _ (by rw [k13]) ⟨g, gd, ct, hK, hM⟩)
    | exact Nat.le_of_ble_eq_true rfl
    | assumption
def sc_15 (as : List wi_V) (h : wc_H) (q : wi_Q1 wc_H) (qt : wi_Q2 wc_H) : Prop := wc_sTI as (fun x p => wc_f h fun tg ln I L R n => ∃ M, wk_J (tg, ln, I, L, R, n) x M ∧ (∀ (r : Int) h', wk_Z sm_110 [wi_rf (some 11), .inl p] M h' x 0 (fun b => b = some (.inl r)) → q (some (.inl r)) h') ∧ (∀ h', wk_Z sm_110 [wi_rf (some 11), .inl p] M h' x 1 (fun b => ∃ v, b = some (.inl v)) → qt 3 h'))
theorem cm_15 {l : Launch} {D : va_G} {aC : wm_Y} {b0 : Nat} (hl0 : l.stackTraces = false) : wm_sp l D aC b0 15 (wi_lf (wc_Rl wc_ok) sc_15) := by
  refine wi_method (wc_lw wc_ok) 15 (cx := fun id => if id = 25 then sc_25 else fun _ _ _ _ => False) (ids := ci_15) (tb := tb_15) (by decide +kernel) hl0 (wm_cxc (cm_25 hl0) oi_15 (fun h => wm_cxn h)) (wm_tb_ok tk_15) (by decide +kernel) [] 300 (fun as h q qt hs => ?_)
  obtain ⟨x, p, rfl, hs1⟩ := wc_sTI_e hs
  clear hs
  obtain ⟨tg, ln, I, L, R, n⟩ := h
  have hs := id hs1
  clear hs1
  simp only [wc_f] at hs
  refine ⟨rfl, fun _ _ _ _ _ _ _ => False, mq_nc, ?_⟩
  obtain ⟨M, hJ, f0, f1⟩ := hs
  obtain ⟨cd, lm, st, sg, el, dr, sz, pr, wc, sp, nw, A, B, rfl, g, gd, ct, hK, hM⟩ := mq_f_e hJ
  clear hJ
  obtain ⟨nR, nS, nD, nC, nV, nT, nW, nO, nQ, nZ⟩ := id hM
  obtain ⟨⟨u1, u2, u3⟩, ⟨u4, u5, u6, u7, u8, u9, u10, u11⟩, ⟨u12, u13, u14, u15, u16, u17, u18, u19⟩⟩ := id nR
  obtain ⟨hn, kN, kB, kS, kA, kV, kD, kR, kT, kU, kX1, kX2, kX3, kW⟩ := id hK
  obtain ⟨k0, k7, k8, k9, k10, k11, k12, k13⟩ := id kN
  obtain ⟨⟨b1, b2, b3, b4, b5, b6, b7, b8, b9⟩, ⟨c1, c2, c3, c4, c5, c6, c7, c8⟩, ⟨d1, d2, d3, d4, d5, d6, d7, d8, d9, d10, d11⟩⟩ := id kB
  obtain ⟨w1, w2, w3⟩ := id kW
  have eX : (p < 0 ∨ pr ≤ p) → ∀ n', n ≤ n' → qt 3 (tg, ln, I, L, R, n') := by
    intro z0 n9 hn9
    refine f1 _ (fun Q T hQ => ?_)
    repeat' first
      | refine And.intro ?_ ?_
      | (intro h; try omega)
      | omega
      | exact hQ _ _ _ _ ⟨_, rfl⟩ ⟨g, gd, ct, wk_K_n hK hn9, hM⟩
      | assumption
  by_cases hp : 0 ≤ p ∧ p < pr
  · obtain ⟨t1, t2, t3, t4, t5, t6, t7, t8, t9⟩ := kT.1 p.toNat (by omega)
    obtain ⟨v1, v2, v3⟩ := kU p.toNat (by omega)
    have e0 :  q (some (.inl (I 8 1 (g 4 p.toNat)))) (tg, ln, I, L, R, n) := by
      refine f0 _ _ (fun Q T hQ => ?_)
      repeat' first
        | refine And.intro ?_ ?_
        | (intro h; try omega)
        | omega
        | exact hQ _ _ _ _ (by rw [v1]) ⟨g, gd, ct, hK, hM⟩
        | assumption
    repeat' first
      | refine And.intro ?_ ?_
      | (intro n9 (h9 : n ≤ n9))
      | refine Exists.intro _ (And.intro (show _ = _ from by assumption) ?_)
      | refine Exists.intro _ (And.intro rfl (And.intro (by assumption) ?_))
      | refine Exists.intro _ (And.intro rfl ?_)
      | (intro h; try omega)
      | omega
      | exact eX (by omega) _ (by assumption)
      | exact e0
      | exact Nat.le_of_ble_eq_true rfl
      | assumption
  · repeat' first
      | refine And.intro ?_ ?_
      | (intro n9 (h9 : n ≤ n9))
      | refine Exists.intro _ (And.intro (show _ = _ from by assumption) ?_)
      | refine Exists.intro _ (And.intro rfl (And.intro (by assumption) ?_))
      | refine Exists.intro _ (And.intro rfl ?_)
      | (intro h; try omega)
      | omega
      | exact eX (by omega) _ (by assumption)
      | exact Nat.le_of_ble_eq_true rfl
      | assumption
def sc_17 (as : List wi_V) (h : wc_H) (q : wi_Q1 wc_H) (qt : wi_Q2 wc_H) : Prop := wc_sTIII as (fun x s k y => wc_f h fun tg ln I L R n => ∃ M, wk_J (tg, ln, I, L, R, n) x M ∧ (∀ (r : Int) h', wk_Z sm_112 [wi_rf (some 11), .inl s, .inl k, .inl y] M h' x 0 (fun b => b = some (.inl r)) → q (some (.inl r)) h') ∧ (∀ h', wk_Z sm_112 [wi_rf (some 11), .inl s, .inl k, .inl y] M h' x 1 (fun b => ∃ v, b = some (.inl v)) → qt 3 h'))
theorem cm_17 {l : Launch} {D : va_G} {aC : wm_Y} {b0 : Nat} (hl0 : l.stackTraces = false) : wm_sp l D aC b0 17 (wi_lf (wc_Rl wc_ok) sc_17) := by
  refine wi_method (wc_lw wc_ok) 17 (cx := fun id => if id = 26 then sc_26 else if id = 27 then sc_27 else fun _ _ _ _ => False) (ids := ci_17) (tb := tb_17) (by decide +kernel) hl0 (wm_cxc (cm_26 hl0) oi_17 (fun h => wm_cxc (cm_27 hl0) h (fun h => wm_cxn h))) (wm_tb_ok tk_17) (by decide +kernel) [] 300 (fun as h q qt hs => ?_)
  obtain ⟨x, s, k, y, rfl, hs1⟩ := wc_sTIII_e hs
  clear hs
  obtain ⟨tg, ln, I, L, R, n⟩ := h
  have hs := id hs1
  clear hs1
  simp only [wc_f] at hs
  refine ⟨rfl, fun _ _ _ _ _ _ _ => False, mq_nc, ?_⟩
  obtain ⟨M, hJ, f0, f1⟩ := hs
  obtain ⟨cd, lm, st, sg, el, dr, sz, pr, wc, sp, nw, A, B, rfl, g, gd, ct, hK, hM⟩ := mq_f_e hJ
  clear hJ
  obtain ⟨nR, nS, nD, nC, nV, nT, nW, nO, nQ, nZ⟩ := id hM
  obtain ⟨⟨u1, u2, u3⟩, ⟨u4, u5, u6, u7, u8, u9, u10, u11⟩, ⟨u12, u13, u14, u15, u16, u17, u18, u19⟩⟩ := id nR
  obtain ⟨hn, kN, kB, kS, kA, kV, kD, kR, kT, kU, kX1, kX2, kX3, kW⟩ := id hK
  obtain ⟨k0, k7, k8, k9, k10, k11, k12, k13⟩ := id kN
  obtain ⟨⟨b1, b2, b3, b4, b5, b6, b7, b8, b9⟩, ⟨c1, c2, c3, c4, c5, c6, c7, c8⟩, ⟨d1, d2, d3, d4, d5, d6, d7, d8, d9, d10, d11⟩⟩ := id kB
  obtain ⟨w1, w2, w3⟩ := id kW
  have eX : (s < 0 ∨ sg ≤ s ∨ (0 ≤ s ∧ s < sg ∧ (k < 0 ∨ A 31 s.toNat ≤ k))) → ∀ n', n ≤ n' → qt 3 (tg, ln, I, L, R, n') := by
    intro z0 n9 hn9
    refine f1 _ (fun Q T hQ => ?_)
    repeat' first
      | refine And.intro ?_ ?_
      | exact wn_S_2 nS u7
      | (intro h; try omega)
      | omega
      | exact hQ _ _ _ _ ⟨_, rfl⟩ ⟨g, gd, ct, wk_K_n hK hn9, hM⟩
      | assumption
  by_cases hp : 0 ≤ s ∧ s < sg
  · obtain ⟨s1, s2, s3, s4, s5, s6, s7, s8, s9, s10⟩ := kS.1 s.toNat (by omega)
    obtain ⟨y1, y2, y3, y4, y5, y6⟩ := nS.1 s.toNat (by omega)
    by_cases hk : 0 ≤ k ∧ k < A 31 s.toNat
    · obtain ⟨v1, v2⟩ := kV s.toNat (by omega) k.toNat (by omega)
      rw [Int.toNat_of_nonneg hk.1] at v1 v2
      have l1 : k < ln (g 2 s.toNat) := by omega
      have l2 : k < ln (g 3 s.toNat) := by omega
      have e0 : (y ≠ 0) →  q (some (.inl (I 27 k.toNat (g 3 s.toNat)))) (tg, ln, I, L, R, n) := by
        intro z0
        refine f0 _ _ (fun Q T hQ => ?_)
        repeat' first
          | refine And.intro ?_ ?_
          | exact wn_S_2 nS u7
          | (intro h; try omega)
          | omega
          | exact hQ _ _ _ _ (by rw [v2]) ⟨g, gd, ct, hK, hM⟩
          | assumption
      have e1 : (y = 0) →  q (some (.inl (I 26 k.toNat (g 2 s.toNat)))) (tg, ln, I, L, R, n) := by
        intro z0
        refine f0 _ _ (fun Q T hQ => ?_)
        repeat' first
          | refine And.intro ?_ ?_
          | exact wn_S_2 nS u7
          | (intro h; try omega)
          | omega
          | exact hQ _ _ _ _ (by rw [v1]) ⟨g, gd, ct, hK, hM⟩
          | assumption
      repeat' first
        | refine And.intro ?_ ?_
        | (intro n9 (h9 : n ≤ n9))
        | refine Exists.intro _ (And.intro (show _ = _ from by assumption) ?_)
        | refine Exists.intro _ (And.intro rfl (And.intro (by assumption) ?_))
        | refine Exists.intro _ (And.intro rfl ?_)
        | (intro h; try omega)
        | omega
        | exact eX (by omega) _ (by assumption)
        | exact e0 (by omega)
        | exact e1 (by omega)
        | exact Nat.le_of_ble_eq_true rfl
        | assumption
    · repeat' first
        | refine And.intro ?_ ?_
        | (intro n9 (h9 : n ≤ n9))
        | refine Exists.intro _ (And.intro (show _ = _ from by assumption) ?_)
        | refine Exists.intro _ (And.intro rfl (And.intro (by assumption) ?_))
        | refine Exists.intro _ (And.intro rfl ?_)
        | (intro h; try omega)
        | omega
        | exact eX (by omega) _ (by assumption)
        | exact Nat.le_of_ble_eq_true rfl
        | assumption
  · repeat' first
      | refine And.intro ?_ ?_
      | (intro n9 (h9 : n ≤ n9))
      | refine Exists.intro _ (And.intro (show _ = _ from by assumption) ?_)
      | refine Exists.intro _ (And.intro rfl (And.intro (by assumption) ?_))
      | refine Exists.intro _ (And.intro rfl ?_)
      | (intro h; try omega)
      | omega
      | exact eX (by omega) _ (by assumption)
      | exact Nat.le_of_ble_eq_true rfl
      | assumption
def sc_18 (as : List wi_V) (h : wc_H) (q : wi_Q1 wc_H) (qt : wi_Q2 wc_H) : Prop := wc_sTI as (fun x s => wc_f h fun tg ln I L R n => ∃ M, wk_J (tg, ln, I, L, R, n) x M ∧ (∀ (r : Int) h', wk_Z sm_113 [wi_rf (some 11), .inl s] M h' x 0 (fun b => b = some (.inl r)) → q (some (.inl r)) h') ∧ (∀ h', wk_Z sm_113 [wi_rf (some 11), .inl s] M h' x 1 (fun b => ∃ v, b = some (.inl v)) → qt 3 h'))
theorem cm_18 {l : Launch} {D : va_G} {aC : wm_Y} {b0 : Nat} (hl0 : l.stackTraces = false) : wm_sp l D aC b0 18 (wi_lf (wc_Rl wc_ok) sc_18) := by
  refine wi_method (wc_lw wc_ok) 18 (cx := fun id => if id = 26 then sc_26 else if id = 59 then sc_59 else fun _ _ _ _ => False) (ids := ci_18) (tb := tb_18) (by decide +kernel) hl0 (wm_cxc (cm_26 hl0) oi_18 (fun h => wm_cxc (cm_59 hl0) h (fun h => wm_cxn h))) (wm_tb_ok tk_18) (by decide +kernel) [] 300 (fun as h q qt hs => ?_)
  obtain ⟨x, s, rfl, hs1⟩ := wc_sTI_e hs
  clear hs
  obtain ⟨tg, ln, I, L, R, n⟩ := h
  have hs := id hs1
  clear hs1
  simp only [wc_f] at hs
  refine ⟨rfl, fun _ _ _ _ _ _ _ => False, mq_nc, ?_⟩
  obtain ⟨M, hJ, f0, f1⟩ := hs
  obtain ⟨cd, lm, st, sg, el, dr, sz, pr, wc, sp, nw, A, B, rfl, g, gd, ct, hK, hM⟩ := mq_f_e hJ
  clear hJ
  obtain ⟨nR, nS, nD, nC, nV, nT, nW, nO, nQ, nZ⟩ := id hM
  obtain ⟨⟨u1, u2, u3⟩, ⟨u4, u5, u6, u7, u8, u9, u10, u11⟩, ⟨u12, u13, u14, u15, u16, u17, u18, u19⟩⟩ := id nR
  obtain ⟨hn, kN, kB, kS, kA, kV, kD, kR, kT, kU, kX1, kX2, kX3, kW⟩ := id hK
  obtain ⟨k0, k7, k8, k9, k10, k11, k12, k13⟩ := id kN
  obtain ⟨⟨b1, b2, b3, b4, b5, b6, b7, b8, b9⟩, ⟨c1, c2, c3, c4, c5, c6, c7, c8⟩, ⟨d1, d2, d3, d4, d5, d6, d7, d8, d9, d10, d11⟩⟩ := id kB
  obtain ⟨w1, w2, w3⟩ := id kW
  have eX : (s < 0 ∨ sg ≤ s) → ∀ n', n ≤ n' → qt 3 (tg, ln, I, L, R, n') := by
    intro z0 n9 hn9
    refine f1 _ (fun Q T hQ => ?_)
    repeat' first
      | refine And.intro ?_ ?_
      | (intro h; try omega)
      | omega
      | exact hQ _ _ _ _ ⟨_, rfl⟩ ⟨g, gd, ct, wk_K_n hK hn9, hM⟩
      | assumption
  by_cases hp : 0 ≤ s ∧ s < sg
  · obtain ⟨s1, s2, s3, s4, s5, s6, s7, s8, s9, s10⟩ := kS.1 s.toNat (by omega)
    have v1 := kA s.toNat (by omega)
    have x2 := kX2 s.toNat (by omega)
    have x3 : wc_bi L (g 0 9) s.toNat = true ↔ A 34 s.toNat ≠ 0 := ⟨fun z => (x2.mp z).2, fun z => x2.mpr ⟨by omega, z⟩⟩
    have e0 : (wc_bi L (g 0 9) s.toNat = true) →  q (some (.inl 3)) (tg, ln, I, L, R, n) := by
      intro z0
      have h9 := x3.mp z0
      refine f0 _ _ (fun Q T hQ => ?_)
      repeat' first
        | refine And.intro ?_ ?_
        | (intro h; try omega)
        | omega
        | exact hQ _ _ _ _ rfl ⟨g, gd, ct, hK, hM⟩
        | assumption
    have e1 : (wc_bi L (g 0 9) s.toNat = false) → (I 5 5 (g 1 s.toNat) ≠ 0) →  q (some (.inl 1)) (tg, ln, I, L, R, n) := by
      intro z0 z1
      have h9 : ¬ A 34 s.toNat ≠ 0 := fun z => by rw [x3.mpr z] at z0; cases z0
      refine f0 _ _ (fun Q T hQ => ?_)
      repeat' first
        | refine And.intro ?_ ?_
        | (intro h; try omega)
        | omega
        | exact hQ _ _ _ _ rfl ⟨g, gd, ct, hK, hM⟩
        | assumption
    have e2 : (wc_bi L (g 0 9) s.toNat = false) → (I 5 5 (g 1 s.toNat) = 0) →  q (some (.inl 0)) (tg, ln, I, L, R, n) := by
      intro z0 z1
      have h9 : ¬ A 34 s.toNat ≠ 0 := fun z => by rw [x3.mpr z] at z0; cases z0
      refine f0 _ _ (fun Q T hQ => ?_)
      repeat' first
        | refine And.intro ?_ ?_
        | (intro h; try omega)
        | omega
        | exact hQ _ _ _ _ rfl ⟨g, gd, ct, hK, hM⟩
        | assumption
    repeat' first
      | refine And.intro ?_ ?_
      | (intro n9 (h9 : n ≤ n9))
      | (intro (hb : wc_bi L (g 0 9) s.toNat = true))
      | (intro (hb : wc_bi L (g 0 9) s.toNat = false))
      | refine Exists.intro _ (And.intro (show _ = _ from by assumption) ?_)
      | refine Exists.intro _ (And.intro rfl (And.intro (by assumption) ?_))
      | refine Exists.intro _ (And.intro rfl ?_)
      | (intro h; try omega)
      | omega
      | exact eX (by omega) _ (by assumption)
      | exact e0 hb
      | exact e1 hb (by assumption)
      | exact e2 hb (by assumption)
      | exact Nat.le_of_ble_eq_true rfl
      | assumption
  · repeat' first
      | refine And.intro ?_ ?_
      | (intro n9 (h9 : n ≤ n9))
      | refine Exists.intro _ (And.intro (show _ = _ from by assumption) ?_)
      | refine Exists.intro _ (And.intro rfl (And.intro (by assumption) ?_))
      | refine Exists.intro _ (And.intro rfl ?_)
      | (intro h; try omega)
      | omega
      | exact eX (by omega) _ (by assumption)
      | exact Nat.le_of_ble_eq_true rfl
      | assumption
def sc_16 (as : List wi_V) (h : wc_H) (q : wi_Q1 wc_H) (qt : wi_Q2 wc_H) : Prop := wc_sTII as (fun x a i => wc_f h fun tg ln I L R n => ∃ M, wk_J (tg, ln, I, L, R, n) x M ∧ (∀ (r : Int) h', wk_Z sm_111 [wi_rf (some 11), .inl a, .inl i] M h' x 0 (fun b => b = some (.inl r)) → q (some (.inl r)) h') ∧ (∀ h', wk_Z sm_111 [wi_rf (some 11), .inl a, .inl i] M h' x 1 (fun b => ∃ v, b = some (.inl v)) → qt 1 h'))
theorem cm_16 {l : Launch} {D : va_G} {aC : wm_Y} {b0 : Nat} (hl0 : l.stackTraces = false) : wm_sp l D aC b0 16 (wi_lf (wc_Rl wc_ok) sc_16) := by
  refine wi_method (wc_lw wc_ok) 16 (cx := fun _ _ _ _ _ => False) (ids := ci_16) (tb := tb_16) (by decide +kernel) hl0 wm_cx0 (wm_tb_ok tk_16) (by decide +kernel) [24] 300 (fun as h q qt hs => ?_)
  obtain ⟨x, a, i, rfl, hs1⟩ := wc_sTII_e hs
  clear hs
  obtain ⟨tg, ln, I, L, R, n⟩ := h
  have hs := id hs1
  clear hs1
  simp only [wc_f] at hs
  obtain ⟨M, hJ, f0, f1⟩ := hs
  obtain ⟨cd, lm, st, sg, el, dr, sz, pr, wc, sp, nw, A, B, rfl, g, gd, ct, hK, hM⟩ := mq_f_e hJ
  clear hJ
  obtain ⟨nR, nS, nD, nC, nV, nT, nW, nO, nQ, nZ⟩ := id hM
  obtain ⟨⟨u1, u2, u3⟩, ⟨u4, u5, u6, u7, u8, u9, u10, u11⟩, ⟨u12, u13, u14, u15, u16, u17, u18, u19⟩⟩ := id nR
  obtain ⟨hn, kN, kB, kS, kA, kV, kD, kR, kT, kU, kX1, kX2, kX3, kW⟩ := id hK
  obtain ⟨k0, k7, k8, k9, k10, k11, k12, k13⟩ := id kN
  obtain ⟨⟨b1, b2, b3, b4, b5, b6, b7, b8, b9⟩, ⟨c1, c2, c3, c4, c5, c6, c7, c8⟩, ⟨d1, d2, d3, d4, d5, d6, d7, d8, d9, d10, d11⟩⟩ := id kB
  obtain ⟨w1, w2, w3⟩ := id kW
  have eX : (a < 0 ∨ 3 < a) → ∀ n', n ≤ n' → qt 1 (tg, ln, I, L, R, n') := by
    intro z0 n9 hn9
    refine f1 _ (fun Q T hQ => ?_)
    repeat' first
      | refine And.intro ?_ ?_
      | (intro h; try omega)
      | omega
      | exact hQ _ _ _ _ ⟨_, rfl⟩ ⟨g, gd, ct, wk_K_n hK hn9, hM⟩
      | assumption
  have e0 : 0 ≤ a → a ≤ 3 → ∀ j : Int, 0 ≤ j → j < pr → A 46 j.toNat = a → mq_cnt (fun k => decide (A 46 k = a)) j.toNat = i → q (some (.inl j)) (tg, ln, I, L, R, n) := by
    intro z0 z1 j z2 z3 z4 z5
    refine f0 _ _ (fun Q T hQ => ?_)
    have uq : ∀ r : Int, 0 ≤ r → r < pr → (fun k => decide (A 46 k = a)) r.toNat = true → mq_cnt (fun k => decide (A 46 k = a)) r.toNat = i → r = j := fun r y1 y2 y3 y4 => mq_cnt_u y1 z2 y3 (decide_eq_true z4) (y4.trans z5.symm)
    have ub := mq_cnt_lt (P := fun k => decide (A 46 k = a)) (n := pr.toNat) (r := j.toNat) (by omega) (decide_eq_true z4)
    have ub2 := (mq_cnt_b (P := fun k => decide (A 46 k = a)) j.toNat).1
    repeat' first
      | refine And.intro ?_ ?_
      | (intro r9 y1 y2 (y3 : (fun k => decide (A 46 k = a)) r9.toNat = true) y4)
      | (intro h; try omega)
      | omega
      | (cases uq _ (by assumption) (by assumption) (by assumption) (by assumption); exact hQ _ _ _ _ rfl ⟨g, gd, ct, hK, hM⟩)
      | assumption
  have e1 : 0 ≤ a → a ≤ 3 → i < 0 ∨ mq_cnt (fun k => decide (A 46 k = a)) pr.toNat ≤ i → q (some (.inl (-1))) (tg, ln, I, L, R, n) := by
    intro z0 z1 z2
    refine f0 _ _ (fun Q T hQ => ?_)
    have nb : ∀ r : Int, 0 ≤ r → r < pr → (fun k => decide (A 46 k = a)) r.toNat = true → mq_cnt (fun k => decide (A 46 k = a)) r.toNat = i → False := fun r y1 y2 y3 y4 => by
      have := mq_cnt_lt (P := fun k => decide (A 46 k = a)) (n := pr.toNat) (r := r.toNat) (by omega) y3
      have := (mq_cnt_b (P := fun k => decide (A 46 k = a)) r.toNat).1
      omega
    repeat' first
      | refine And.intro ?_ ?_
      | (intro r9 y1 y2 (y3 : (fun k => decide (A 46 k = a)) r9.toNat = true) y4)
      | (intro h; try omega)
      | omega
      | exact (nb _ (by assumption) (by assumption) (by assumption) (by assumption)).elim
      | exact hQ _ _ _ _ rfl ⟨g, gd, ct, hK, hM⟩
      | assumption
  refine ⟨rfl, fun mz pc lv sk h cu su => ∃ p : Nat, ∃ c : Int, lv = [some (wi_rf (some x)), some (.inl (a)), some (.inl (i)), some (.inl (c)), some (.inl ((p : Int)))] ∧ sk = [] ∧ h = (tg, ln, I, L, R, n) ∧ cu = 0 ∧ su = 0 ∧ mz = pr.toNat - p ∧ (0 ≤ a ∧ a ≤ 3) ∧ (p : Int) ≤ pr ∧ c = mq_cnt (fun k => decide (A 46 k = a)) p ∧ (c ≤ i ∨ i < 0), mq_c1 (fun mz lv sk h cu su hI => ?_), ?_⟩
  · obtain ⟨p, c, rfl, rfl, rfl, rfl, rfl, rfl, p0, p1, p2, p3⟩ := hI
    have ep : ((p : Int)).toNat = p := by omega
    have cb := mq_cnt_b (P := fun k => decide (A 46 k = a)) p
    by_cases hp : (p : Int) < pr
    · obtain ⟨t1, t2, t3, t4, t5, t6, t7, t8, t9⟩ := kT.1 p hp
      obtain ⟨v1, v2, v3⟩ := kU p hp
      have t1' : R 21 (p : Int).toNat (g 0 1) = some (g 4 p) := by rw [ep]; exact t1
      have l1 : (p : Int) < ln (g 0 1) := by omega
      have cs : mq_cnt (fun k => decide (A 46 k = a)) (p + 1) = mq_cnt (fun k => decide (A 46 k = a)) p + if (fun k => decide (A 46 k = a)) p = true then 1 else 0 := rfl
      have n1 : I 8 1 (g 4 p) = a → mq_cnt (fun k => decide (A 46 k = a)) (p + 1) = c + 1 := fun z => by rw [cs, if_pos (decide_eq_true (by omega)), p2]
      have n0 : I 8 1 (g 4 p) ≠ a → mq_cnt (fun k => decide (A 46 k = a)) (p + 1) = c := fun z => by rw [cs, if_neg (by simp only [decide_eq_true_eq]; omega), p2, Int.add_zero]
      have y0 : I 8 1 (g 4 p) = a → c = i → q (some (.inl (p : Int))) (tg, ln, I, L, R, n) := fun z1 z2 => e0 p0.1 p0.2 p (by omega) hp (by rw [ep, ← v1]; exact z1) (by rw [ep, ← p2]; exact z2)
      repeat' first
        | refine And.intro ?_ ?_
        | (intro n9 (h9 : n ≤ n9))
        | refine Exists.intro _ (And.intro t1' ?_)
        | refine Exists.intro _ (And.intro (show _ = _ from by assumption) ?_)
        | refine Exists.intro _ (And.intro rfl (And.intro (by assumption) ?_))
        | refine Exists.intro _ (And.intro rfl ?_)
        | (intro h; try omega)
        | omega
        | exact eX (by omega) _ (by assumption)
        | exact y0 (by assumption) (by assumption)
        | (refine Exists.intro _ (And.intro ?_ (Exists.intro (p + 1) (Exists.intro (c + 1) (And.intro rfl (And.intro rfl (And.intro rfl (And.intro rfl (And.intro rfl (And.intro rfl (?_)))))))))) <;> first | omega | exact ⟨p0, by omega, (n1 (by assumption)).symm, by omega⟩)
        | (refine Exists.intro _ (And.intro ?_ (Exists.intro (p + 1) (Exists.intro (c) (And.intro rfl (And.intro rfl (And.intro rfl (And.intro rfl (And.intro rfl (And.intro rfl (?_)))))))))) <;> first | omega | exact ⟨p0, by omega, (n0 (by assumption)).symm, p3⟩)
        | exact Nat.le_of_ble_eq_true rfl
        | assumption
    · have : (p : Int) = pr := by omega
      have y1 : q (some (.inl (-1))) (tg, ln, I, L, R, n) := e1 p0.1 p0.2 (by
        have : pr.toNat = p := by omega
        rw [this, ← p2]
        omega)
      repeat' first
        | refine And.intro ?_ ?_
        | (intro n9 (h9 : n ≤ n9))
        | refine Exists.intro _ (And.intro (show _ = _ from by assumption) ?_)
        | refine Exists.intro _ (And.intro rfl (And.intro (by assumption) ?_))
        | refine Exists.intro _ (And.intro rfl ?_)
        | (intro h; try omega)
        | omega
        | exact y1
        | exact Nat.le_of_ble_eq_true rfl
        | assumption
  · repeat' first
      | refine And.intro ?_ ?_
      | (intro n9 (h9 : n ≤ n9))
      | refine Exists.intro _ (And.intro (show _ = _ from by assumption) ?_)
      | refine Exists.intro _ (And.intro rfl (And.intro (by assumption) ?_))
      | refine Exists.intro _ (And.intro rfl ?_)
      | (intro h; try omega)
      | omega
      | exact eX (by omega) _ (by assumption)
      | (refine Exists.intro _ (Exists.intro (0) (Exists.intro (0) (And.intro rfl (And.intro rfl (And.intro rfl (And.intro rfl (And.intro rfl (And.intro rfl (?_))))))))) <;> exact ⟨⟨by omega, by omega⟩, by omega, rfl, by omega⟩)
      | exact Nat.le_of_ble_eq_true rfl
      | assumption
def sc_19 (as : List wi_V) (h : wc_H) (q : wi_Q1 wc_H) (qt : wi_Q2 wc_H) : Prop := wc_sTI as (fun x i => wc_f h fun tg ln I L R n => ∃ M, wk_J (tg, ln, I, L, R, n) x M ∧ (∀ (r : Int) h', wk_Z sm_114 [wi_rf (some 11), .inl i] M h' x 0 (fun b => b = some (.inl r)) → q (some (.inl r)) h'))
theorem cm_19 {l : Launch} {D : va_G} {aC : wm_Y} {b0 : Nat} (hl0 : l.stackTraces = false) : wm_sp l D aC b0 19 (wi_lf (wc_Rl wc_ok) sc_19) := by
  refine wi_method (wc_lw wc_ok) 19 (cx := fun id => if id = 59 then sc_59 else fun _ _ _ _ => False) (ids := ci_19) (tb := tb_19) (by decide +kernel) hl0 (wm_cxc (cm_59 hl0) oi_19 (fun h => wm_cxn h)) (wm_tb_ok tk_19) (by decide +kernel) [4] 300 (fun as h q qt hs => ?_)
  obtain ⟨x, i, rfl, hs1⟩ := wc_sTI_e hs
  clear hs
  obtain ⟨tg, ln, I, L, R, n⟩ := h
  have hs := id hs1
  clear hs1
  simp only [wc_f] at hs
  obtain ⟨M, hJ, f0⟩ := hs
  obtain ⟨cd, lm, st, sg, el, dr, sz, pr, wc, sp, nw, A, B, rfl, g, gd, ct, hK, hM⟩ := mq_f_e hJ
  clear hJ
  obtain ⟨nR, nS, nD, nC, nV, nT, nW, nO, nQ, nZ⟩ := id hM
  obtain ⟨⟨u1, u2, u3⟩, ⟨u4, u5, u6, u7, u8, u9, u10, u11⟩, ⟨u12, u13, u14, u15, u16, u17, u18, u19⟩⟩ := id nR
  obtain ⟨hn, kN, kB, kS, kA, kV, kD, kR, kT, kU, kX1, kX2, kX3, kW⟩ := id hK
  obtain ⟨k0, k7, k8, k9, k10, k11, k12, k13⟩ := id kN
  obtain ⟨⟨b1, b2, b3, b4, b5, b6, b7, b8, b9⟩, ⟨c1, c2, c3, c4, c5, c6, c7, c8⟩, ⟨d1, d2, d3, d4, d5, d6, d7, d8, d9, d10, d11⟩⟩ := id kB
  obtain ⟨w1, w2, w3⟩ := id kW
  have e0 : ∀ j : Int, 0 ≤ j → j < sg → A 34 j.toNat ≠ 0 → mq_cnt (fun k => decide (A 34 k ≠ 0)) j.toNat = i → q (some (.inl j)) (tg, ln, I, L, R, n) := by
    intro j z2 z3 z4 z5
    refine f0 _ _ (fun Q T hQ => ?_)
    have uq : ∀ r : Int, 0 ≤ r → r < sg → (fun k => decide (A 34 k ≠ 0)) r.toNat = true → mq_cnt (fun k => decide (A 34 k ≠ 0)) r.toNat = i → r = j := fun r y1 y2 y3 y4 => mq_cnt_u y1 z2 y3 (decide_eq_true z4) (y4.trans z5.symm)
    have ub := mq_cnt_lt (P := fun k => decide (A 34 k ≠ 0)) (n := sg.toNat) (r := j.toNat) (by omega) (decide_eq_true z4)
    have ub2 := (mq_cnt_b (P := fun k => decide (A 34 k ≠ 0)) j.toNat).1
    repeat' first
      | refine And.intro ?_ ?_
      | (intro r9 y1 y2 (y3 : (fun k => decide (A 34 k ≠ 0)) r9.toNat = true) y4)
      | (intro h; try omega)
      | omega
      | (cases uq _ (by assumption) (by assumption) (by assumption) (by assumption); exact hQ _ _ _ _ rfl ⟨g, gd, ct, hK, hM⟩)
      | assumption
  have e1 : i < 0 ∨ mq_cnt (fun k => decide (A 34 k ≠ 0)) sg.toNat ≤ i → q (some (.inl (-1))) (tg, ln, I, L, R, n) := by
    intro z2
    refine f0 _ _ (fun Q T hQ => ?_)
    have nb : ∀ r : Int, 0 ≤ r → r < sg → (fun k => decide (A 34 k ≠ 0)) r.toNat = true → mq_cnt (fun k => decide (A 34 k ≠ 0)) r.toNat = i → False := fun r y1 y2 y3 y4 => by
      have := mq_cnt_lt (P := fun k => decide (A 34 k ≠ 0)) (n := sg.toNat) (r := r.toNat) (by omega) y3
      have := (mq_cnt_b (P := fun k => decide (A 34 k ≠ 0)) r.toNat).1
      omega
    repeat' first
      | refine And.intro ?_ ?_
      | (intro r9 y1 y2 (y3 : (fun k => decide (A 34 k ≠ 0)) r9.toNat = true) y4)
      | (intro h; try omega)
      | omega
      | exact (nb _ (by assumption) (by assumption) (by assumption) (by assumption)).elim
      | exact hQ _ _ _ _ rfl ⟨g, gd, ct, hK, hM⟩
      | assumption
  refine ⟨rfl, fun mz pc lv sk h cu su => ∃ p : Nat, ∃ c : Int, lv = [some (wi_rf (some x)), some (.inl (i)), some (.inl (c)), some (.inl ((p : Int)))] ∧ sk = [] ∧ h = (tg, ln, I, L, R, n) ∧ cu = 0 ∧ su = 0 ∧ mz = sg.toNat - p ∧ (p : Int) ≤ sg ∧ c = mq_cnt (fun k => decide (A 34 k ≠ 0)) p ∧ (c ≤ i ∨ i < 0), mq_c1 (fun mz lv sk h cu su hI => ?_), ?_⟩
  · obtain ⟨p, c, rfl, rfl, rfl, rfl, rfl, rfl, p1, p2, p3⟩ := hI
    have ep : ((p : Int)).toNat = p := by omega
    have cb := mq_cnt_b (P := fun k => decide (A 34 k ≠ 0)) p
    by_cases hp : (p : Int) < sg
    · have x2 := kX2 p (by omega)
      have x3 : wc_bi L (g 0 9) (p : Int).toNat = true ↔ A 34 p ≠ 0 := by rw [ep]; exact ⟨fun z => (x2.mp z).2, fun z => x2.mpr ⟨hp, z⟩⟩
      have cs : mq_cnt (fun k => decide (A 34 k ≠ 0)) (p + 1) = mq_cnt (fun k => decide (A 34 k ≠ 0)) p + if (fun k => decide (A 34 k ≠ 0)) p = true then 1 else 0 := rfl
      have n1 : wc_bi L (g 0 9) (p : Int).toNat = true → mq_cnt (fun k => decide (A 34 k ≠ 0)) (p + 1) = c + 1 := fun z => by rw [cs, if_pos (decide_eq_true (x3.mp z)), p2]
      have n0 : wc_bi L (g 0 9) (p : Int).toNat = false → mq_cnt (fun k => decide (A 34 k ≠ 0)) (p + 1) = c := fun z => by rw [cs, if_neg (by simp only [decide_eq_true_eq]; intro y; rw [x3.mpr y] at z; cases z), p2, Int.add_zero]
      have y0 : wc_bi L (g 0 9) (p : Int).toNat = true → c = i → q (some (.inl (p : Int))) (tg, ln, I, L, R, n) := fun z1 z2 => e0 p (by omega) hp (by rw [ep]; exact x3.mp z1) (by rw [ep, ← p2]; exact z2)
      repeat' first
        | refine And.intro ?_ ?_
        | (intro n9 (h9 : n ≤ n9))
        | (intro (hb : wc_bi L (g 0 9) (p : Int).toNat = true))
        | (intro (hb : wc_bi L (g 0 9) (p : Int).toNat = false))
        | refine Exists.intro _ (And.intro (show _ = _ from by assumption) ?_)
        | refine Exists.intro _ (And.intro rfl (And.intro (by assumption) ?_))
        | refine Exists.intro _ (And.intro rfl ?_)
        | (intro h; try omega)
        | omega
        | exact y0 (by assumption) (by assumption)
        | (refine Exists.intro _ (And.intro ?_ (Exists.intro (p + 1) (Exists.intro (c + 1) (And.intro rfl (And.intro rfl (And.intro rfl (And.intro rfl (And.intro rfl (And.intro rfl (?_)))))))))) <;> first | omega | exact ⟨by omega, (n1 hb).symm, by omega⟩)
        | (refine Exists.intro _ (And.intro ?_ (Exists.intro (p + 1) (Exists.intro (c) (And.intro rfl (And.intro rfl (And.intro rfl (And.intro rfl (And.intro rfl (And.intro rfl (?_)))))))))) <;> first | omega | exact ⟨by omega, (n0 hb).symm, p3⟩)
        | exact Nat.le_of_ble_eq_true rfl
        | assumption
    · have : (p : Int) = sg := by omega
      have y1 : q (some (.inl (-1))) (tg, ln, I, L, R, n) := e1 (by
        have : sg.toNat = p := by omega
        rw [this, ← p2]
        omega)
      repeat' first
        | refine And.intro ?_ ?_
        | (intro n9 (h9 : n ≤ n9))
        | refine Exists.intro _ (And.intro (show _ = _ from by assumption) ?_)
        | refine Exists.intro _ (And.intro rfl (And.intro (by assumption) ?_))
        | refine Exists.intro _ (And.intro rfl ?_)
        | (intro h; try omega)
        | omega
        | exact y1
        | exact Nat.le_of_ble_eq_true rfl
        | assumption
  · repeat' first
      | refine And.intro ?_ ?_
      | (intro n9 (h9 : n ≤ n9))
      | refine Exists.intro _ (And.intro (show _ = _ from by assumption) ?_)
      | refine Exists.intro _ (And.intro rfl (And.intro (by assumption) ?_))
      | refine Exists.intro _ (And.intro rfl ?_)
      | (intro h; try omega)
      | omega
      | (refine Exists.intro _ (Exists.intro (0) (Exists.intro (0) (And.intro rfl (And.intro rfl (And.intro rfl (And.intro rfl (And.intro rfl (And.intro rfl (?_))))))))) <;> exact ⟨by omega, rfl, by omega⟩)
      | exact Nat.le_of_ble_eq_true rfl
      | assumption
