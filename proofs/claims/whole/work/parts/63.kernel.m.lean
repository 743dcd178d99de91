/-! THE KERNEL, 13: the method assign -/
theorem wk_97 {gd : Nat → List (Nat × Nat)} {cd lm st sg el dr sz pr wc sp nw p s f m mo li : Int} {A B : mq_A} {ct : Nat → List (Int × Int)} {Q : wi_Q1 mq_H} {T : wi_Q2 mq_H} (hM : wn_M gd lm st sg el dr sz pr wc sp nw A B ct) (k1 : p < 0 ∨ pr ≤ p ∨ s < 0 ∨ sg ≤ s ∨ f < 0 ∨ m < 1 ∨ A 31 s.toNat ≤ f ∨ A 31 s.toNat - f < m → Q (some (.inl 0)) ([1, lm, st, sg, el, dr, sz, pr, wc, sp, nw], A, B))
    (k2 : 0 ≤ p → p < pr → 0 ≤ s → s < sg → 0 ≤ f → 1 ≤ m → f < A 31 s.toNat → m ≤ A 31 s.toNat - f → A 46 p.toNat ≠ 0 ∨ ¬ (∃ j : Nat, (j : Int) < dr ∧ A 37 j = p ∧ A 38 j = A 32 s.toNat) ∨ wc = 0 → Q (some (.inl 0)) ([2, lm, st, sg, el, dr, sz, pr, wc, sp, nw], A, B)) (k3 : 0 ≤ p → p < pr → 0 ≤ s → s < sg → 0 ≤ f → 1 ≤ m → f < A 31 s.toNat → m ≤ A 31 s.toNat - f → A 46 p.toNat = 0 → (∃ j : Nat, (j : Int) < dr ∧ A 37 j = p ∧ A 38 j = A 32 s.toNat) → wc ≠ 0 → ¬ mq_good A B nw wc s m mo li → Q (some (.inl 0)) ([3, lm, st, sg, el, dr, sz, pr, wc, sp, nw], A, B))
    (k4 : 0 ≤ p → p < pr → 0 ≤ s → s < sg → 0 ≤ f → 1 ≤ m → f < A 31 s.toNat → m ≤ A 31 s.toNat - f → A 46 p.toNat = 0 → (∃ j : Nat, (j : Int) < dr ∧ A 37 j = p ∧ A 38 j = A 32 s.toNat) → wc ≠ 0 → mq_good A B nw wc s m mo li → 8192 < sz + m * wc → Q (some (.inl 0)) ([2, lm, st, sg, el, dr, sz, pr, wc, sp, nw], A, B))
    (k5 : 0 ≤ p → p < pr → 0 ≤ s → s < sg → 0 ≤ f → 1 ≤ m → f < A 31 s.toNat → m ≤ A 31 s.toNat - f → A 46 p.toNat = 0 → (∃ j : Nat, (j : Int) < dr ∧ A 37 j = p ∧ A 38 j = A 32 s.toNat) → wc ≠ 0 → mq_good A B nw wc s m mo li → sz + m * wc ≤ 8192 → ∀ (A1 B1 : mq_A) (sz1 del : Int), mq_am A B A1 B1 nw dr wc sz (if mo = 0 then B 52 (Int.toNat 0) else li) mo p (A 32 s.toNat + f) sz1 del m → Q (some (.inl del)) ([0, lm, st, sg, el, dr, sz1, pr, 0, sp, nw], A1, B1)) : sm_97 [wi_rf (some 11), .inl p, .inl s, .inl f, .inl m, .inl mo, .inr (.inl li)] ([cd, lm, st, sg, el, dr, sz, pr, wc, sp, nw], A, B) Q T := by
  obtain ⟨nR, nS, nD, nC, nV, nT, nW, nO, nQ, nZ⟩ := id hM
  obtain ⟨⟨u1, u2, u3⟩, ⟨u4, u5, u6, u7, u8, u9, u10, u11⟩, ⟨u12, u13, u14, u15, u16, u17, u18, u19⟩⟩ := id nR
  have prU : ∀ d1 d2 : Int, 0 ≤ d1 → d1 < dr → 0 ≤ d2 → d2 < dr → A 37 d1.toNat = A 37 d2.toNat → A 38 d1.toNat = A 38 d2.toNat → d1 = d2 := fun d1 d2 y1 y2 y3 y4 y5 y6 => by
    obtain ⟨s1, q1, c, q2, q3, q4⟩ := nD.2 d1.toNat (by omega)
    have e1 := ((nD.1 s1 q1).2.2 c q2).2 (d1.toNat - c.2) (by omega)
    rw [show c.2 + (d1.toNat - c.2) = d1.toNat from by omega] at e1
    obtain ⟨c2, z1, z2, z3⟩ := wn_D_u nD nS q1 (k := ((d1.toNat - c.2 : Nat) : Int)) (by omega) (by omega) (d := d2.toNat) (by omega) (y6.symm.trans e1.2)
    have : c2 = c := wl_pw (f := fun c : Nat × Nat => A 37 c.2) (nD.1 s1 q1).2.1 z1 q2 (by show A 37 c2.2 = A 37 c.2; omega)
    rw [this] at z2
    omega
  have prE : (∃ j : Nat, (j : Int) < dr ∧ A 37 j = p ∧ A 38 j = A 32 s.toNat) → ∀ k : Int, 0 ≤ k → k < A 31 s.toNat → ∃ j : Nat, (j : Int) < dr ∧ A 37 j = p ∧ A 38 j = A 32 s.toNat + k := fun ⟨j, y1, y2, y3⟩ k y4 y5 => by
    have hs9 : (s.toNat : Int) < sg := by
      apply Classical.byContradiction
      intro z
      have := nZ.1 s.toNat (by omega)
      omega
    obtain ⟨c, hc, e1, e2⟩ := wn_D_u nD nS (s := s.toNat) (k := 0) hs9 (by omega) (by omega) y1 (by omega)
    obtain ⟨e3, e4⟩ := (nD.1 s.toNat hs9).2.2 c hc
    obtain ⟨e5, e6⟩ := e4 k.toNat (by omega)
    exact ⟨c.2 + k.toNat, by omega, by omega, by omega⟩
  exact ⟨u5, u13, u8, u9, u14, u15, u10, u11, u18, u19, fun j y1 y2 => nW j.toNat (by omega), fun s y1 => (by have := nS.1 s y1; omega), prU, prE, k1, k2, k3, k4, k5⟩
def sc_9 (as : List wi_V) (h : wc_H) (q : wi_Q1 wc_H) (qt : wi_Q2 wc_H) : Prop := wc_sTIIIIIJ as (fun x p s f m mo li => wc_f h fun tg ln I L R n => ∃ M, wk_J (tg, ln, I, L, R, n) x M ∧ (∀ (r : Int) h', wk_Z sm_97 [wi_rf (some 11), .inl p, .inl s, .inl f, .inl m, .inl mo, .inr (.inl li)] M h' x 0 (fun b => b = some (.inl r)) → q (some (.inl r)) h') ∧ (∀ h', wk_Z sm_97 [wi_rf (some 11), .inl p, .inl s, .inl f, .inl m, .inl mo, .inr (.inl li)] M h' x 1 (fun b => ∃ v, b = some (.inl v)) → qt 3 h') ∧ (∀ h', wk_Z sm_97 [wi_rf (some 11), .inl p, .inl s, .inl f, .inl m, .inl mo, .inr (.inl li)] M h' x 2 (fun b => ∃ v, b = some (.inl v)) → qt 2 h') ∧ (∀ h', wk_Z sm_97 [wi_rf (some 11), .inl p, .inl s, .inl f, .inl m, .inl mo, .inr (.inl li)] M h' x 3 (fun b => ∃ v, b = some (.inl v)) → qt 1 h'))
set_option maxHeartbeats 8000000 in
set_option maxRecDepth 4000 in
theorem cm_9 {l : Launch} {D : va_G} {aC : wm_Y} {b0 : Nat} (hl0 : l.stackTraces = false) : wm_sp l D aC b0 9 (wi_lf (wc_Rl wc_ok) sc_9) := by
  refine wi_method (wc_lw wc_ok) 9 (cx := fun id => if id = 25 then sc_25 else if id = 26 then sc_26 else if id = 27 then sc_27 else if id = 28 then sc_28 else if id = 29 then sc_29 else if id = 30 then sc_30 else if id = 50 then sc_50 else if id = 77 then sc_77 else fun _ _ _ _ => False) (ids := ci_9) (tb := tb_9) (by decide +kernel) hl0 (wm_cxc (cm_25 hl0) oi_9 (fun h => wm_cxc (cm_26 hl0) h (fun h => wm_cxc (cm_27 hl0) h (fun h => wm_cxc (cm_28 hl0) h (fun h => wm_cxc (cm_29 hl0) h (fun h => wm_cxc (cm_30 hl0) h (fun h => wm_cxc (cm_50 hl0) h (fun h => wm_cxc (cm_77 hl0) h (fun h => wm_cxn h))))))))) (wm_tb_ok tk_9) (by decide +kernel) [166] 350 (fun as h q qt hs => ?_)
  obtain ⟨x, p, s, f, m, mo, li, rfl, hs1⟩ := wc_sTIIIIIJ_e hs
  clear hs
  obtain ⟨tg, ln, I, L, R, n⟩ := h
  have hs := id hs1
  clear hs1
  simp only [wc_f] at hs
  obtain ⟨M, hJ, f0, f1, f2, f3⟩ := hs
  obtain ⟨cd, lm, st, sg, el, dr, sz, pr, wc, sp, nw, A, B, rfl, g, gd, ct, hK, hM⟩ := mq_f_e hJ
  clear hJ
  obtain ⟨nR, nS, nD, nC, nV, nT, nW, nO, nQ, nZ⟩ := id hM
  obtain ⟨⟨u1, u2, u3⟩, ⟨u4, u5, u6, u7, u8, u9, u10, u11⟩, ⟨u12, u13, u14, u15, u16, u17, u18, u19⟩⟩ := id nR
  obtain ⟨hn, kN, kB, kS, kA, kV, kD, kR, kT, kU, kX1, kX2, kX3, kW⟩ := id hK
  obtain ⟨k0, k7, k8, k9, k10, k11, k12, k13⟩ := id kN
  obtain ⟨⟨b1, b2, b3, b4, b5, b6, b7, b8, b9⟩, ⟨c1, c2, c3, c4, c5, c6, c7, c8⟩, ⟨d1, d2, d3, d4, d5, d6, d7, d8, d9, d10, d11⟩⟩ := id kB
  obtain ⟨w1, w2, w3⟩ := id kW
  have eX : (p < 0 ∨ pr ≤ p ∨ s < 0 ∨ sg ≤ s ∨ (0 ≤ s ∧ s < sg ∧ (f < 0 ∨ m < 1 ∨ A 31 s.toNat ≤ f ∨ A 31 s.toNat - f < m))) → ∀ n', n ≤ n' → qt 3 (tg, ln, I, L, R, n') := fun z0 n9 hn9 => f1 _ (fun Q T hQ => wk_97 hM (fun _ => hQ _ _ _ _ ⟨_, rfl⟩ ⟨g, gd, ct, wk_K_n hK hn9, hM⟩) (fun _ _ _ _ _ _ _ _ => by omega) (fun _ _ _ _ _ _ _ _ => by omega) (fun _ _ _ _ _ _ _ _ => by omega) (fun _ _ _ _ _ _ _ _ => by omega))
  by_cases hp : 0 ≤ p ∧ p < pr
  · obtain ⟨t1, t2, t3, t4, t5, t6, t7, t8, t9⟩ := kT.1 p.toNat (by omega)
    obtain ⟨v1, v2, v3⟩ := kU p.toNat (by omega)
    by_cases hs9 : 0 ≤ s ∧ s < sg
    · obtain ⟨s1, s2, s3, s4, s5, s6, s7, s8, s9, s10⟩ := kS.1 s.toNat (by omega)
      obtain ⟨y1, y2, y3, y4, y5, y6⟩ := nS.1 s.toNat (by omega)
      have dcs := kD s.toNat (by omega)
      by_cases he : 0 ≤ f ∧ 1 ≤ m ∧ f + m ≤ A 31 s.toNat
      · obtain ⟨nd1, nd2, nd3⟩ := nD.1 s.toNat (by omega)
        obtain ⟨g1, g2, g3, cs, ids, g4, g5⟩ := id kR
        have iu : I 7 0 (g 0 2) = sz := (wc_rv_n g4 g5).trans nQ.2.2.symm
        have hb : 0 ≤ m * wc ∧ m * wc ≤ 1024 := ⟨Int.mul_nonneg (by omega) u14, by have := Int.mul_le_mul (show m ≤ 64 from by omega) u15 u14 (by omega); omega⟩
        have hbI : m * I 10 2 (g 0 3) = m * wc := by rw [w1]
        have dr1 : ∀ c ∈ gd s.toNat, A 37 c.2 = p → (∃ j : Nat, (j : Int) < dr ∧ A 37 j = p ∧ A 38 j = A 32 s.toNat) := fun c hc e => by
          obtain ⟨e1, e2⟩ := nd3 c hc
          have := e2 0 (by omega)
          exact ⟨c.2, by omega, e, by have h9 := this.2; rw [Nat.add_zero] at h9; omega⟩
        have dr0 : (∀ b ∈ gd s.toNat, A 37 b.2 ≠ p) → ¬ (∃ j : Nat, (j : Int) < dr ∧ A 37 j = p ∧ A 38 j = A 32 s.toNat) := fun z ⟨j, x1, x2, x3⟩ => by
          obtain ⟨c, hc, e1, e2⟩ := wn_D_u nD nS (s := s.toNat) (k := 0) (by omega) (by omega) (by omega) x1 (by omega)
          exact z c hc (e2.symm.trans x2)
        have gA : mq_good A B nw wc s m mo li → wc ≠ 0 → ((0 ≤ mo ∧ mo ≤ 1) ∨ (mo = 2 ∧ 0 ≤ li ∧ li ≤ L 23 0 (g 0 4))) := fun h hw => by
          have := w2 0 (by omega)
          have h4 := h.2.2.2
          have h1 := h.1
          rw [show Int.toNat 0 = 0 from rfl] at h4
          omega
        have gB : mq_good A B nw wc s m mo li → wc ≠ 0 → ((∀ j : Int, 1 ≤ j → j < I 10 2 (g 0 3) → L 23 (j - 1).toNat (g 0 4) < L 23 j.toNat (g 0 4)) ∧ L 23 (I 10 2 (g 0 3) - 1).toNat (g 0 4) ≤ 1152921504606846976 - L 2 12 x) := fun h hw => by
          rw [w1]
          refine ⟨fun j x1 x2 => ?_, ?_⟩
          · rw [w2 _ (by omega), w2 _ (by omega)]
            exact h.2.1 j x1 x2
          · rw [w2 _ (by omega)]
            have := h.1.2.2
            omega
        have gC : mq_good A B nw wc s m mo li → wc ≠ 0 → (∀ i : Int, 0 ≤ i → i < I 10 2 (g 0 3) → ∀ k : Int, 0 ≤ k → k < m → (I 5 0 (g 1 s.toNat) = 2 ∨ (0 ≤ I 24 (i * 64 + k).toNat (g 0 5) ∧ I 24 (i * 64 + k).toNat (g 0 5) ≤ 8))) := fun h hw i x1 x2 k x3 x4 => by
          rw [w1] at x2
          rw [w3 _ (by omega), s3, show (i * 64 + k).toNat = (64 * i + k).toNat from by omega]
          exact h.2.2.1 i x1 x2 k x3 x4
        have gG : wc ≠ 0 → ((0 ≤ mo ∧ mo ≤ 1) ∨ (mo = 2 ∧ 0 ≤ li ∧ li ≤ L 23 0 (g 0 4))) → ((∀ j : Int, 1 ≤ j → j < I 10 2 (g 0 3) → L 23 (j - 1).toNat (g 0 4) < L 23 j.toNat (g 0 4)) ∧ L 23 (I 10 2 (g 0 3) - 1).toNat (g 0 4) ≤ 1152921504606846976 - L 2 12 x) → (∀ i : Int, 0 ≤ i → i < I 10 2 (g 0 3) → ∀ k : Int, 0 ≤ k → k < m → (I 5 0 (g 1 s.toNat) = 2 ∨ (0 ≤ I 24 (i * 64 + k).toNat (g 0 5) ∧ I 24 (i * 64 + k).toNat (g 0 5) ≤ 8))) → mq_good A B nw wc s m mo li := fun hw h1 h2 h3 => by
          rw [w1] at h2 h3
          have e0 := w2 0 (by omega)
          refine ⟨⟨by omega, by omega, ?_⟩, fun j x1 x2 => ?_, fun i x1 x2 k x3 x4 => ?_, ?_⟩
          · have h9 := h2.2
            rw [w2 _ (by omega)] at h9
            omega
          · have h9 := h2.1 j x1 x2
            rw [w2 _ (by omega), w2 _ (by omega)] at h9
            exact h9
          · have h9 := h3 i x1 x2 k x3 x4
            rw [w3 _ (by omega), s3, show (i * 64 + k).toNat = (64 * i + k).toNat from by omega] at h9
            exact h9
          · rw [show Int.toNat 0 = 0 from rfl, ← e0]
            omega
        have eY : (A 46 p.toNat ≠ 0 ∨ ¬ (∃ j : Nat, (j : Int) < dr ∧ A 37 j = p ∧ A 38 j = A 32 s.toNat) ∨ wc = 0) → ∀ n', n ≤ n' → qt 2 (tg, ln, I, L, R, n') := fun z0 n9 hn9 => f2 _ (fun Q T hQ => wk_97 hM (fun z => absurd z (by omega)) (fun _ _ _ _ _ _ _ _ _ => hQ _ _ _ _ ⟨_, rfl⟩ ⟨g, gd, ct, wk_K_n hK hn9, hM⟩) (fun _ _ _ _ _ _ _ _ h1 h2 h3 => (z0.elim (fun z => z h1) (fun z => z.elim (fun y => y h2) h3)).elim) (fun _ _ _ _ _ _ _ _ h1 h2 h3 => (z0.elim (fun z => z h1) (fun z => z.elim (fun y => y h2) h3)).elim) (fun _ _ _ _ _ _ _ _ h1 h2 h3 => (z0.elim (fun z => z h1) (fun z => z.elim (fun y => y h2) h3)).elim))
        have eZ : A 46 p.toNat = 0 → (∃ j : Nat, (j : Int) < dr ∧ A 37 j = p ∧ A 38 j = A 32 s.toNat) → wc ≠ 0 → ¬ mq_good A B nw wc s m mo li → ∀ n', n ≤ n' → qt 1 (tg, ln, I, L, R, n') := fun z0 z1 z2 z3 n9 hn9 => f3 _ (fun Q T hQ => wk_97 hM (fun z => absurd z (by omega)) (fun _ _ _ _ _ _ _ _ h => (h.elim (fun z => z z0) (fun z => z.elim (fun y => y z1) z2)).elim) (fun _ _ _ _ _ _ _ _ _ _ _ _ => hQ _ _ _ _ ⟨_, rfl⟩ ⟨g, gd, ct, wk_K_n hK hn9, hM⟩) (fun _ _ _ _ _ _ _ _ _ _ _ h => absurd h z3) (fun _ _ _ _ _ _ _ _ _ _ _ h => absurd h z3))
        have eW : A 46 p.toNat = 0 → (∃ j : Nat, (j : Int) < dr ∧ A 37 j = p ∧ A 38 j = A 32 s.toNat) → wc ≠ 0 → mq_good A B nw wc s m mo li → 8192 < sz + m * wc → ∀ n', n ≤ n' → qt 2 (tg, ln, I, L, R, n') := fun z0 z1 z2 z3 z4 n9 hn9 => f2 _ (fun Q T hQ => wk_97 hM (fun z => absurd z (by omega)) (fun _ _ _ _ _ _ _ _ h => (h.elim (fun z => z z0) (fun z => z.elim (fun y => y z1) z2)).elim) (fun _ _ _ _ _ _ _ _ _ _ _ h => absurd z3 h) (fun _ _ _ _ _ _ _ _ _ _ _ _ _ => hQ _ _ _ _ ⟨_, rfl⟩ ⟨g, gd, ct, wk_K_n hK hn9, hM⟩) (fun _ _ _ _ _ _ _ _ _ _ _ _ h => absurd z4 (Int.not_lt.mpr h)))
        have e0 : A 46 p.toNat = 0 → (∃ j : Nat, (j : Int) < dr ∧ A 37 j = p ∧ A 38 j = A 32 s.toNat) → wc ≠ 0 → mq_good A B nw wc s m mo li → sz + m * wc ≤ 8192 → ∀ (tg3 ln3 : Nat → Nat) (I3 L3 : wm_F Int) (R3 : wm_F (Option Nat)) (n3 : Nat) (ct3 : Nat → List (Int × Int)) (c : Nat × Nat) (kb lim del : Int) (gl : Nat → Int), c ∈ gd s.toNat → A 37 c.2 = p → kb = (if mo = 0 then B 52 (Int.toNat 0) else li) → ((mo = 1 ∧ lim = 0) ∨ (mo ≠ 1 ∧ lim = 1)) → wk_aa ct ct3 (c.2 + f.toNat) (nw + B 52 0) kb lim (fun j => A 51 j) (fun j => mq_ns A B nw (j : Int) wc.toNat) gl m.toNat → del = mq_sum gl m.toNat → wc_rv (tg3, ln3, I3, L3, R3, n3) (g 0 2) dr.toNat (g 7) (A 39) ct3 → wc_fx (tg, ln, I, L, R, n) (tg3, ln3, I3, L3, R3, n3) → wc_hn (tg3, ln3, I3, L3, R3, n3) → q (some (.inl del)) (tg3, ln3, wm_up I3 10 2 (g 0 3) 0, L3, R3, n3) := by
          intro z0 z1 z2 z3 z4 tg3 ln3 I3 L3 R3 n3 ct3 c kb lim del gl x1 x2 x3 x4 x5 x6 x7 x8 x9
          refine f0 _ _ (fun Q T hQ => ?_)
          exact wk_97 hM (fun z => absurd z (by omega)) (fun _ _ _ _ _ _ _ _ h => (h.elim (fun z => z z0) (fun z => z.elim (fun y => y z1) z2)).elim) (fun _ _ _ _ _ _ _ _ _ _ _ h => absurd z3 h) (fun _ _ _ _ _ _ _ _ _ _ _ _ h => absurd h (Int.not_lt.mpr z4)) (fun _ _ _ _ _ _ _ _ _ _ _ _ _ A1 B1 sz1 del' ha => by
            obtain ⟨o1, o2⟩ := wk_as hK hM hs9.1 hs9.2 he.1 he.2.1 he.2.2 x1 x2 (by omega) z3 x3 x4 x5 x6 x7 x8 x9 ha
            exact hQ _ _ _ _ (by rw [o1]) o2)
        refine ⟨rfl, fun mz pc lv sk h cu su => ∃ k : Nat, ∃ c : Nat × Nat, ∃ kb : Int, ∃ del : Int, ∃ gl : Nat → Int, ∃ tg3 : Nat → Nat, ∃ ln3 : Nat → Nat, ∃ I3 : wm_F Int, ∃ L3 : wm_F Int, ∃ R3 : wm_F (Option Nat), ∃ n3 : Nat, ∃ ct3 : Nat → List (Int × Int), lv = [some (wi_rf (some x)), some (.inl (p)), some (.inl (s)), some (.inl (f)), some (.inl (m)), some (.inl (mo)), some (.inr (.inl (li))), none, some (wi_rf (some (g 4 p.toNat))), some (wi_rf (some (g 1 s.toNat))), some (wi_rf (some c.1)), some (.inr (.inl (kb))), none, some (.inl (del)), some (.inl ((k : Int)))] ∧ sk = [] ∧ h = (tg3, ln3, I3, L3, R3, n3) ∧ cu = 3 + 16 * k ∧ su = 18 + 48 * k ∧ mz = m.toNat - k ∧ (A 46 p.toNat = 0 ∧ wc ≠ 0 ∧ mq_good A B nw wc s m mo li ∧ sz + m * wc ≤ 8192 ∧ c ∈ gd s.toNat ∧ A 37 c.2 = p ∧ kb = (if mo = 0 then B 52 (Int.toNat 0) else li)) ∧ (k : Int) ≤ m ∧ wk_aa ct ct3 (c.2 + f.toNat) (nw + B 52 0) kb (if mo = 1 then 0 else 1) (fun j => A 51 j) (fun j => mq_ns A B nw (j : Int) wc.toNat) gl k ∧ del = mq_sum gl k ∧ (0 ≤ del ∧ del ≤ 8192 * k) ∧ mq_sum (fun d => ((ct3 d).length : Int)) dr.toNat = sz + k * wc - del ∧ wc_rv (tg3, ln3, I3, L3, R3, n3) (g 0 2) dr.toNat (g 7) (A 39) ct3 ∧ wc_fx (tg, ln, I, L, R, n) (tg3, ln3, I3, L3, R3, n3) ∧ wc_hn (tg3, ln3, I3, L3, R3, n3), mq_c1 (fun mz lv sk h cu su hI => ?_), ?_⟩
        · obtain ⟨k, c, kb, del, gl, tg3, ln3, I3, L3, R3, n3, ct3, rfl, rfl, rfl, rfl, rfl, rfl, ⟨z0, z2, z3, z4, x1, x2, x3⟩, p1, p2, p3, ⟨p4, p5⟩, p6, p7, p8, p9⟩ := hI
          obtain ⟨h1', h2', h3', h4'⟩ := id p8
          simp only at h1' h2' h4'
          have z1 := dr1 c x1 x2
          have tgo : ∀ q, tg q ≠ 0 → tg3 q = tg q ∧ ln3 q = ln q := fun q hq => h2' q (hn q hq)
          have iT : ∀ t, t ≠ 4 → t ≠ 7 → t ≠ 9 → I3 t = I t := fun t y1 y2 y3 => (h4' t y1 y2 y3).1
          have lT : ∀ t, t ≠ 4 → t ≠ 7 → t ≠ 9 → L3 t = L t := fun t y1 y2 y3 => (h4' t y1 y2 y3).2.1
          have rT : ∀ t, t ≠ 4 → t ≠ 7 → t ≠ 9 → R3 t = R t := fun t y1 y2 y3 => (h4' t y1 y2 y3).2.2
          have T : ∀ q t, tg q = t → t ≠ 0 → tg3 q = t := fun q t h1 h2 => (tgo q (by rw [h1]; exact h2)).1.trans h1
          have TL : ∀ q t, tg q = t → t ≠ 0 → ln3 q = ln q := fun q t h1 h2 => (tgo q (by rw [h1]; exact h2)).2
          have b1' := T _ _ b1 (by decide)
          have c1' : R3 2 4 x = some (g 0 3) := by rw [rT 2 (by decide) (by decide) (by decide)]; exact c1
          have c2' := T _ _ c2 (by decide)
          have c3' : R3 10 0 (g 0 3) = some (g 0 4) := by rw [rT 10 (by decide) (by decide) (by decide)]; exact c3
          have c4' := T _ _ c4 (by decide)
          have c5' : ln3 (g 0 4) = 16 := (TL _ _ c4 (by decide)).trans c5
          have c6' : R3 10 1 (g 0 3) = some (g 0 5) := by rw [rT 10 (by decide) (by decide) (by decide)]; exact c6
          have c7' := T _ _ c7 (by decide)
          have c8' : ln3 (g 0 5) = 1024 := (TL _ _ c7 (by decide)).trans c8
          have w1' : I3 10 2 (g 0 3) = wc := by rw [iT 10 (by decide) (by decide) (by decide)]; exact w1
          have nw' : L3 2 12 x = nw := by rw [lT 2 (by decide) (by decide) (by decide)]; exact k12
          have l23 : ∀ j : Nat, (j : Int) < wc → L3 23 j (g 0 4) = B 52 j := fun j hj => by rw [lT 23 (by decide) (by decide) (by decide)]; exact w2 j hj
          have i24 : ∀ j : Nat, (j : Int) < 64 * wc → I3 24 j (g 0 5) = A 51 j := fun j hj => by rw [iT 24 (by decide) (by decide) (by decide)]; exact w3 j hj
          by_cases hk : (k : Int) < m
          · obtain ⟨m1, m2, ra, m3, m4, m5, m6⟩ := wc_dc_mem dcs x1
            have m1' := T _ _ m1 (by decide)
            have m3' : R3 3 1 c.1 = some ra := by rw [rT 3 (by decide) (by decide) (by decide)]; exact m3
            have m4' := T _ _ m4 (by decide)
            have m5' : ln3 ra = (A 31 s.toNat).toNat := (TL _ _ m4 (by decide)).trans m5
            have fk : (f + (k : Int)).toNat = f.toNat + k := by omega
            have m7 : R3 22 (f + (k : Int)).toNat ra = some (g 7 (c.2 + f.toNat + k)) := by rw [rT 22 (by decide) (by decide) (by decide), fk, m6 _ (by omega), Nat.add_assoc]
            have m8 : f + (k : Int) < ln3 ra := by omega
            have e1 := (nd3 c x1).1
            have hd : c.2 + f.toNat + k < dr.toNat := by omega
            have r4 : tg3 (g 7 (c.2 + f.toNat + k)) = 4 := by obtain ⟨-, -, -, cs3, ids3, r1, -⟩ := id p7; exact (r1.2.1 _ hd).1
            have ctk : ct3 (c.2 + f.toNat + k) = ct (c.2 + f.toNat + k) := p2.1 _ (fun j hj => by omega)
            have room : mq_sum (fun d => ((ct3 d).length : Int)) dr.toNat + I3 10 2 (g 0 3) ≤ 8192 := by
              rw [w1', p6]
              have : ((k : Int) + 1) * wc ≤ m * wc := Int.mul_le_mul_of_nonneg_right (by omega) u14
              have h9 : ((k : Int) + 1) * wc = k * wc + wc := by rw [Int.add_mul, Int.one_mul]
              omega
            have hlim : (if mo = 1 then (0 : Int) else 1) = 0 ∨ (if mo = 1 then (0 : Int) else 1) = 1 := by split <;> simp
            have hB0 : 0 ≤ B 52 0 ∧ B 52 0 ≤ 1152921504606846976 := nW 0 (by omega)
            have hkb : (if mo = 1 then (0 : Int) else 1) ≠ 0 → 0 ≤ kb ∧ kb ≤ 1152921504606846976 := fun z => by
              rw [x3]
              have h9 := z3.2.2.2
              have h8 := z3.1
              rw [show Int.toNat 0 = 0 from rfl] at h9 ⊢
              by_cases y : mo = 0
              · rw [if_pos y]; exact hB0
              · rw [if_neg y]
                by_cases y2 : mo = 1
                · rw [if_pos y2] at z; exact absurd rfl z
                · omega
            have q1 : 1 ≤ I3 10 2 (g 0 3) ∧ I3 10 2 (g 0 3) ≤ 16 ∧ 0 ≤ (k : Int) ∧ (k : Int) < 64 ∧ 0 ≤ L3 2 12 x ∧ L3 2 12 x ≤ 1152921504606846976 := by omega
            have q2 : ∀ j : Nat, (j : Int) < I3 10 2 (g 0 3) → 0 ≤ L3 23 j (g 0 4) ∧ L3 23 j (g 0 4) ≤ 1152921504606846976 := fun j hj => by rw [l23 j (by omega)]; exact nW j (by omega)
            have len3 : ((ct3 (c.2 + f.toNat + k)).length : Int) ≤ 8192 := by
              have := mq_sum_le (g := fun d => ((ct3 d).length : Int)) (fun d => Int.natCast_nonneg _) hd
              have h9 := p7.2.2.1
              omega
            have nx : ∀ (tg4 ln4 : Nat → Nat) (I4 L4 : wm_F Int) (R4 : wm_F (Option Nat)) (n4 : Nat) l2, wc_rv (tg4, ln4, I4, L4, R4, n4) (g 0 2) dr.toNat (g 7) (A 39) (wc_u ct3 (c.2 + f.toNat + k) (l2 ++ wk_nl I3 L3 (g 0 4) (g 0 5) (L3 2 12 x) (k : Int).toNat (I3 10 2 (g 0 3)).toNat)) → wc_fx (tg3, ln3, I3, L3, R3, n3) (tg4, ln4, I4, L4, R4, n4) → wk_l2 (ct3 (c.2 + f.toNat + k)) (L3 2 12 x + L3 23 0 (g 0 4)) kb (I3 24 (k : Int).toNat (g 0 5)) (if mo = 1 then 0 else 1) l2 → l2.length ≤ (ct3 (c.2 + f.toNat + k)).length →
                ∃ gl' ct4, wk_aa ct ct4 (c.2 + f.toNat) (nw + B 52 0) kb (if mo = 1 then 0 else 1) (fun j => A 51 j) (fun j => mq_ns A B nw (j : Int) wc.toNat) gl' (k + 1) ∧ del + (((ct3 (c.2 + f.toNat + k)).length : Int) - l2.length) = mq_sum gl' (k + 1) ∧ mq_sum (fun d => ((ct4 d).length : Int)) dr.toNat = sz + (k + 1 : Nat) * wc - (del + (((ct3 (c.2 + f.toNat + k)).length : Int) - l2.length)) ∧ wc_rv (tg4, ln4, I4, L4, R4, n4) (g 0 2) dr.toNat (g 7) (A 39) ct4 ∧ wc_fx (tg, ln, I, L, R, n) (tg4, ln4, I4, L4, R4, n4) := by
              intro tg4 ln4 I4 L4 R4 n4 l2 a1 a2 a4 a5
              rw [Int.toNat_natCast, w1', nw'] at a1
              rw [Int.toNat_natCast, nw', l23 0 (by omega), i24 k (by omega), ctk] at a4
              rw [ctk] at a5
              rw [wk_nl_ns (A := A) (B := B) l23 i24 (by omega) wc.toNat (by omega)] at a1
              refine ⟨_, _, wk_aa_s p2 a4 a5, ?_, ?_, a1, wc_fx_tr p8 a2⟩
              · rw [ctk]
                simp only [mq_sum]
                rw [wc_u_s, mq_sum_x (g := wc_u gl k _) (g' := gl) (fun j hj => if_neg (by omega)), p3]
              · have e : (fun d => ((wc_u ct3 (c.2 + f.toNat + k) (l2 ++ mq_ns A B nw (k : Int) wc.toNat) d).length : Int)) = wc_u (fun d => ((ct3 d).length : Int)) (c.2 + f.toNat + k) ((l2.length + wc.toNat : Nat) : Int) := by
                  funext d
                  by_cases z : d = c.2 + f.toNat + k
                  · simp only [wc_u, if_pos z, List.length_append, mq_ns_l]
                  · simp only [wc_u, if_neg z]
                rw [e, mq_sum_u hd, p6]
                have h9 : (((k + 1 : Nat) : Int)) * wc = k * wc + wc := by rw [Int.natCast_succ, Int.add_mul, Int.one_mul]
                omega
            repeat' first
              | refine And.intro ?_ ?_
              | (intro h9 l9 a1 a2 a3 a4 a5; obtain ⟨tg4, ln4, I4, L4, R4, n4⟩ := h9; have a4' : wk_l2 (ct3 (c.2 + f.toNat + k)) (L3 2 12 x + L3 23 0 (g 0 4)) kb (I3 24 (k : Int).toNat (g 0 5)) (if mo = 1 then 0 else 1) l9 := (by first | (rw [if_pos h19]; exact a4) | (rw [if_neg h19]; exact a4)); obtain ⟨gl4, ct4, o1, o2, o3, o4, o5⟩ := nx tg4 ln4 I4 L4 R4 n4 l9 a1 a2 a4' a5; have o6 : (0 : Int) ≤ ((ct3 (c.2 + f.toNat + k)).length : Int) - l9.length := (by omega))
              | refine Exists.intro _ (And.intro m3' (And.intro m4' ?_))
              | refine Exists.intro _ (And.intro m7 ?_)
              | refine Exists.intro _ (And.intro (show _ = _ from by assumption) ?_)
              | refine Exists.intro _ (And.intro rfl (And.intro (by assumption) ?_))
              | refine Exists.intro _ (And.intro rfl ?_)
              | (intro h; try omega)
              | omega
              | (refine Exists.intro _ (And.intro ?_ (Exists.intro (k + 1) (Exists.intro c (Exists.intro kb (Exists.intro _ (Exists.intro gl4 (Exists.intro _ (Exists.intro _ (Exists.intro _ (Exists.intro _ (Exists.intro _ (Exists.intro _ (Exists.intro ct4 (And.intro rfl (And.intro rfl (And.intro rfl (And.intro (by first | rfl | omega | (simp only [wm_mc, wm_ms]; omega)) (And.intro (by first | rfl | omega | (simp only [wm_mc, wm_ms]; omega)) (And.intro rfl ?_))))))))))))))))))) <;> first | omega | exact ⟨⟨z0, z2, z3, z4, x1, x2, x3⟩, by omega, o1, o2, by omega, o3, o4, o5, a3⟩)
              | (have h19 : mo = 1 := (by omega); have hl9 := hlim; have hk9 := hkb; rw [if_pos h19] at hl9 hk9; refine Exists.intro (g 0 2) (Exists.intro dr.toNat (Exists.intro (c.2 + f.toNat + k) (Exists.intro (g 7) (Exists.intro (A 39) (Exists.intro ct3 (Exists.intro (g 0 3) (Exists.intro (g 0 4) (Exists.intro (g 0 5) (And.intro ⟨c1', c2', c3', c4', c5', c6', c7', c8'⟩ (And.intro q1 (And.intro q2 (And.intro hl9 (And.intro hk9 (And.intro hd (And.intro rfl (And.intro p7 (And.intro room (And.intro p9 ?_)))))))))))))))))))
              | (have h19 : ¬ mo = 1 := (by omega); have hl9 := hlim; have hk9 := hkb; rw [if_neg h19] at hl9 hk9; refine Exists.intro (g 0 2) (Exists.intro dr.toNat (Exists.intro (c.2 + f.toNat + k) (Exists.intro (g 7) (Exists.intro (A 39) (Exists.intro ct3 (Exists.intro (g 0 3) (Exists.intro (g 0 4) (Exists.intro (g 0 5) (And.intro ⟨c1', c2', c3', c4', c5', c6', c7', c8'⟩ (And.intro q1 (And.intro q2 (And.intro hl9 (And.intro hk9 (And.intro hd (And.intro rfl (And.intro p7 (And.intro room (And.intro p9 ?_)))))))))))))))))))
              | (simp only [wm_mr, wm_mc, wm_ms]; omega)
              | exact Nat.le_of_ble_eq_true rfl
              | assumption
          · have ek : m.toNat = k := by omega
            have fin := e0 z0 z1 z2 z3 z4 tg3 ln3 I3 L3 R3 n3 ct3 c kb (if mo = 1 then 0 else 1) del gl x1 x2 x3 (by split <;> omega) (by rw [ek]; exact p2) (by rw [ek]; exact p3) p7 p8 p9
            repeat' first
              | refine And.intro ?_ ?_
              | (intro I9 (e9 : I9 = wm_up I3 10 2 (g 0 3) 0); subst e9)
              | refine Exists.intro _ (And.intro (show _ = _ from by assumption) ?_)
              | refine Exists.intro _ (And.intro rfl (And.intro (by assumption) ?_))
              | refine Exists.intro _ (And.intro rfl ?_)
              | (intro h; try omega)
              | omega
              | exact fin
              | (simp only [wm_mr, wm_mc, wm_ms]; omega)
              | exact Nat.le_of_ble_eq_true rfl
              | assumption
        · have l04 : (0 : Int) < ln (g 0 4) := by omega
          repeat' first
            | refine And.intro ?_ ?_
            | (intro n9 (h9 : n ≤ n9))
            | (intro P9 c9 S9 e9 e10 e11; have hc9 : c9 ∈ gd s.toNat := (by rw [e9]; simp); have z1 := dr1 c9 hc9 e11)
            | (intro (z9 : ∀ b ∈ gd s.toNat, A 37 b.2 ≠ p))
            | refine Exists.intro _ (Exists.intro _ (Exists.intro _ (Exists.intro _ (And.intro dcs ?_))))
            | (intro (g19 : ((0 ≤ mo ∧ mo ≤ 1) ∨ (mo = 2 ∧ 0 ≤ li ∧ li ≤ L 23 0 (g 0 4)))))
            | (intro (n19 : ¬ ((0 ≤ mo ∧ mo ≤ 1) ∨ (mo = 2 ∧ 0 ≤ li ∧ li ≤ L 23 0 (g 0 4)))))
            | (intro (g29 : ((∀ j : Int, 1 ≤ j → j < I 10 2 (g 0 3) → L 23 (j - 1).toNat (g 0 4) < L 23 j.toNat (g 0 4)) ∧ L 23 (I 10 2 (g 0 3) - 1).toNat (g 0 4) ≤ 1152921504606846976 - L 2 12 x)))
            | (intro (n29 : ¬ ((∀ j : Int, 1 ≤ j → j < I 10 2 (g 0 3) → L 23 (j - 1).toNat (g 0 4) < L 23 j.toNat (g 0 4)) ∧ L 23 (I 10 2 (g 0 3) - 1).toNat (g 0 4) ≤ 1152921504606846976 - L 2 12 x)))
            | (intro (g39 : (∀ i : Int, 0 ≤ i → i < I 10 2 (g 0 3) → ∀ k : Int, 0 ≤ k → k < m → (I 5 0 (g 1 s.toNat) = 2 ∨ (0 ≤ I 24 (i * 64 + k).toNat (g 0 5) ∧ I 24 (i * 64 + k).toNat (g 0 5) ≤ 8)))))
            | (intro (n39 : ¬ (∀ i : Int, 0 ≤ i → i < I 10 2 (g 0 3) → ∀ k : Int, 0 ≤ k → k < m → (I 5 0 (g 1 s.toNat) = 2 ∨ (0 ≤ I 24 (i * 64 + k).toNat (g 0 5) ∧ I 24 (i * 64 + k).toNat (g 0 5) ≤ 8)))))
            | (intro q9 (e9 : (_ : Option Nat) = some q9); cases e9)
            | (intro (e9 : (some _ : Option Nat) = none); cases e9)
            | (intro (e9 : (none : Option Nat) = none); clear e9)
            | refine Exists.intro _ (And.intro (show _ = _ from by assumption) ?_)
            | refine Exists.intro _ (And.intro rfl (And.intro (by assumption) ?_))
            | refine Exists.intro _ (And.intro rfl ?_)
            | (intro h; try omega)
            | omega
            | exact eX (by omega) _ (by assumption)
            | exact eY (Or.inl (by omega)) _ (by assumption)
            | exact eY (Or.inr (Or.inl (dr0 z9))) _ (by assumption)
            | exact eY (Or.inr (Or.inr (by omega))) _ (by assumption)
            | exact eZ (by omega) z1 (by omega) (fun y => n19 (gA y (by omega))) _ (by assumption)
            | exact eZ (by omega) z1 (by omega) (fun y => n29 (gB y (by omega))) _ (by assumption)
            | exact eZ (by omega) z1 (by omega) (fun y => n39 (gC y (by omega))) _ (by assumption)
            | exact eW (by omega) z1 (by omega) (gG (by omega) g19 g29 g39) (by omega) _ (by assumption)
            | (have gg9 := gG (by omega) g19 g29 g39; refine Exists.intro _ (Exists.intro 0 (Exists.intro c9 (Exists.intro _ (Exists.intro 0 (Exists.intro (fun _ => 0) (Exists.intro _ (Exists.intro _ (Exists.intro _ (Exists.intro _ (Exists.intro _ (Exists.intro _ (Exists.intro ct (And.intro rfl (And.intro rfl (And.intro rfl (And.intro (by first | rfl | omega | (simp only [wm_mc, wm_ms]; omega)) (And.intro (by first | rfl | omega | (simp only [wm_mc, wm_ms]; omega)) (And.intro rfl ?_)))))))))))))))))) <;> exact ⟨⟨by omega, by omega, gg9, by omega, hc9, e11, (by rw [if_pos (by omega)]; exact w2 0 (by omega))⟩, by omega, ⟨fun _ _ => rfl, fun j hj => absurd hj (Nat.not_lt_zero _)⟩, rfl, by omega, by rw [← nQ.2.2]; omega, kR, wc_fx_rf, hn⟩)
            | (have gg9 := gG (by omega) g19 g29 g39; refine Exists.intro _ (Exists.intro 0 (Exists.intro c9 (Exists.intro _ (Exists.intro 0 (Exists.intro (fun _ => 0) (Exists.intro _ (Exists.intro _ (Exists.intro _ (Exists.intro _ (Exists.intro _ (Exists.intro _ (Exists.intro ct (And.intro rfl (And.intro rfl (And.intro rfl (And.intro (by first | rfl | omega | (simp only [wm_mc, wm_ms]; omega)) (And.intro (by first | rfl | omega | (simp only [wm_mc, wm_ms]; omega)) (And.intro rfl ?_)))))))))))))))))) <;> exact ⟨⟨by omega, by omega, gg9, by omega, hc9, e11, (by rw [if_neg (by omega)])⟩, by omega, ⟨fun _ _ => rfl, fun j hj => absurd hj (Nat.not_lt_zero _)⟩, rfl, by omega, by rw [← nQ.2.2]; omega, kR, wc_fx_rf, hn⟩)
            | (simp only [wm_mr, wm_mc, wm_ms]; omega)
            | exact Nat.le_of_ble_eq_true rfl
            | assumption
      · refine ⟨rfl, fun _ _ _ _ _ _ _ => False, mq_c1 (fun _ _ _ _ _ _ hI => hI.elim), ?_⟩
        repeat' first
          | refine And.intro ?_ ?_
          | (intro n9 (h9 : n ≤ n9))
          | refine Exists.intro _ (And.intro (show _ = _ from by assumption) ?_)
          | refine Exists.intro _ (And.intro rfl (And.intro (by assumption) ?_))
          | refine Exists.intro _ (And.intro rfl ?_)
          | (intro h; try omega)
          | omega
          | exact eX (by omega) _ (by assumption)
          | exact Nat.le_of_ble_eq_true rfl
          | assumption
    · refine ⟨rfl, fun _ _ _ _ _ _ _ => False, mq_c1 (fun _ _ _ _ _ _ hI => hI.elim), ?_⟩
      repeat' first
        | refine And.intro ?_ ?_
        | (intro n9 (h9 : n ≤ n9))
        | refine Exists.intro _ (And.intro (show _ = _ from by assumption) ?_)
        | refine Exists.intro _ (And.intro rfl (And.intro (by assumption) ?_))
        | refine Exists.intro _ (And.intro rfl ?_)
        | (intro h; try omega)
        | omega
        | exact eX (by omega) _ (by assumption)
        | exact Nat.le_of_ble_eq_true rfl
        | assumption
  · refine ⟨rfl, fun _ _ _ _ _ _ _ => False, mq_c1 (fun _ _ _ _ _ _ hI => hI.elim), ?_⟩
    repeat' first
      | refine And.intro ?_ ?_
      | (intro n9 (h9 : n ≤ n9))
      | refine Exists.intro _ (And.intro (show _ = _ from by assumption) ?_)
      | refine Exists.intro _ (And.intro rfl (And.intro (by assumption) ?_))
      | refine Exists.intro _ (And.intro rfl ?_)
      | (intro h; try omega)
      | omega
      | exact eX (by omega) _ (by assumption)
      | exact Nat.le_of_ble_eq_true rfl
      | assumption
