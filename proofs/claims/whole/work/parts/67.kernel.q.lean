/-! THE KERNEL, 17: the method drive -/
def sc_36n : List wi_V → wc_H → wi_Q1 wc_H → wi_Q2 wc_H → Prop := wc_fr wc_ok sc_36
theorem cm_36n {l : Launch} {D : va_G} {aC : wm_Y} {b0 : Nat} (hl0 : l.stackTraces = false) : wm_sp l D aC b0 36 (wi_lf (wc_Rl wc_ok) sc_36n) := wc_free (cm_36 hl0)
theorem wk_dn_f {tg ln : Nat → Nat} {I L : wm_F Int} {R : wm_F (Option Nat)} {n : Nat} {tg2 ln2 : Nat → Nat} {I2 L2 : wm_F Int} {R2 : wm_F (Option Nat)} {n2 : Nat} {p : Int} {w st : Nat} {oth : Option Nat} (h : wc_dn (wc_nt tg n 3, wc_nt ln n 0, wc_nz I n 3, wc_nz L n 3, wc_nn R n 3, n + 1) (tg2, ln2, I2, L2, R2, n2) n p w st oth w) :
    n2 = n + 2 + w ∧ (∀ q, q < n → tg2 q = tg q ∧ ln2 q = ln q) ∧ (∀ t j q, q < n → I2 t j q = I t j q) ∧ (∀ t j q, q < n → L2 t j q = L t j q) ∧ (∀ t j q, q < n → R2 t j q = R t j q) ∧ (tg2 n = 3 ∧ I2 3 0 n = p ∧ R2 3 1 n = some (n + 1) ∧ R2 3 2 n = oth ∧ tg2 (n + 1) = 22 ∧ ln2 (n + 1) = w) ∧ (∀ k, k < w → R2 22 k (n + 1) = some (n + 2 + k) ∧ tg2 (n + 2 + k) = 4 ∧ R2 4 0 (n + 2 + k) = some st ∧ R2 4 1 (n + 2 + k) = none ∧ I2 4 2 (n + 2 + k) = 0) := by
  obtain ⟨d1, d2, d3, d4, d5, d6, d7, d8, d9, d10⟩ := h
  simp only at d1 d2 d3 d4 d5 d6 d7 d8 d9 d10
  have ne : ∀ q, q < n → q ≠ n := fun q hq => Nat.ne_of_lt hq
  refine ⟨by omega, fun q hq => ?_, fun t j q hq => ?_, fun t j q hq => ?_, fun t j q hq => ?_, ⟨?_, d8, d6, d7, d3, d4⟩, fun k hk => ?_⟩
  · have := d2 q (by omega)
    rw [this.1, this.2]
    exact ⟨if_neg (ne q hq), if_neg (ne q hq)⟩
  · rw [(d10 t j q (by omega) (fun y => ne q hq y.2)).1]
    exact if_neg (fun y => ne q hq y.2)
  · rw [(d10 t j q (by omega) (fun y => ne q hq y.2)).2.1]
    exact if_neg (fun y => ne q hq y.2)
  · rw [(d10 t j q (by omega) (fun y => ne q hq y.2)).2.2]
    exact if_neg (fun y => ne q hq y.2)
  · rw [(d2 n (by omega)).1]
    exact if_pos rfl
  · obtain ⟨e1, e2, e3, e4⟩ := d9 k hk
    exact ⟨e1, d5 k hk, e2, e3, e4⟩
theorem wk_87 {gd : Nat → List (Nat × Nat)} {cd lm st sg el dr sz pr wc sp nw p s : Int} {A B : mq_A} {ct : Nat → List (Int × Int)} {Q : wi_Q1 mq_H} {T : wi_Q2 mq_H} (hM : wn_M gd lm st sg el dr sz pr wc sp nw A B ct) (k1 : p < 0 ∨ pr ≤ p ∨ s < 0 ∨ sg ≤ s → Q none ([1, lm, st, sg, el, dr, sz, pr, wc, sp, nw], A, B)) (k2 : 0 ≤ p → p < pr → 0 ≤ s → s < sg → st ≠ 0 → Q none ([2, lm, st, sg, el, dr, sz, pr, wc, sp, nw], A, B))
    (k3 : 0 ≤ p → p < pr → 0 ≤ s → s < sg → st = 0 → (∃ j : Nat, (j : Int) < dr ∧ A 37 j = p ∧ A 38 j = A 32 s.toNat) → Q none ([0, lm, st, sg, el, dr, sz, pr, wc, sp, nw], A, B)) (k4 : 0 ≤ p → p < pr → 0 ≤ s → s < sg → st = 0 → ¬ (∃ j : Nat, (j : Int) < dr ∧ A 37 j = p ∧ A 38 j = A 32 s.toNat) → ((A 30 s.toNat = 2 ∧ gd s.toNat ≠ []) ∨ 512 < dr + A 31 s.toNat) → Q none ([2, lm, st, sg, el, dr, sz, pr, wc, sp, nw], A, B))
    (k5 : 0 ≤ p → p < pr → 0 ≤ s → s < sg → st = 0 → ¬ (∃ j : Nat, (j : Int) < dr ∧ A 37 j = p ∧ A 38 j = A 32 s.toNat) → ¬ ((A 30 s.toNat = 2 ∧ gd s.toNat ≠ []) ∨ 512 < dr + A 31 s.toNat) → Q none ([0, lm, st, sg, el, dr + A 31 s.toNat, sz, pr, wc, sp, nw], mq_g (mq_g A 37 dr.toNat (A 31 s.toNat).toNat (fun _ => p)) 38 dr.toNat (A 31 s.toNat).toNat (fun j => A 32 s.toNat + ((j - dr.toNat : Nat) : Int)), B)) : sm_87 [wi_rf (some 11), .inl p, .inl s] ([cd, lm, st, sg, el, dr, sz, pr, wc, sp, nw], A, B) Q T := by
  obtain ⟨nR, nS, nD, nC, nV, nT, nW, nO, nQ, nZ⟩ := id hM
  obtain ⟨⟨u1, u2, u3⟩, ⟨u4, u5, u6, u7, u8, u9, u10, u11⟩, ⟨u12, u13, u14, u15, u16, u17, u18, u19⟩⟩ := id nR
  have ne : 0 ≤ s → s < sg → ((∃ j : Nat, (j : Int) < dr ∧ A 38 j = A 32 s.toNat) ↔ gd s.toNat ≠ []) := fun y1 y2 => by
    constructor
    · rintro ⟨j, x1, x2⟩ e
      obtain ⟨c, hc, -⟩ := wn_D_u nD nS (s := s.toNat) (k := 0) (by omega) (by omega) (by have := nS.1 s.toNat (by omega); omega) x1 (by omega)
      rw [e] at hc
      cases hc
    · intro h
      cases hl : gd s.toNat with
      | nil => exact absurd hl h
      | cons c r =>
        have hc : c ∈ gd s.toNat := by rw [hl]; exact List.mem_cons_self
        obtain ⟨e1, e2⟩ := (nD.1 s.toNat (by omega)).2.2 c hc
        have e3 := nS.1 s.toNat (by omega)
        have := (e2 0 (by omega)).2
        rw [Nat.add_zero] at this
        exact ⟨c.2, by omega, by omega⟩
  have nd : (∀ j : Nat, (j : Int) < dr → ¬ (A 37 j = p ∧ A 38 j = A 32 s.toNat)) → ¬ (∃ j : Nat, (j : Int) < dr ∧ A 37 j = p ∧ A 38 j = A 32 s.toNat) := fun h ⟨j, x1, x2, x3⟩ => h j x1 ⟨x2, x3⟩
  refine ⟨u5, u8, u9, fun s y1 => (by have := nS.1 s y1; omega), k1, k2, fun a b c d e f x1 x2 x3 x4 => k3 a b c d e ⟨f.toNat, by omega, x3, x4⟩, fun a b c d e h1 h2 => k4 a b c d e (nd h1) ?_, fun a b c d e h1 h2 => k5 a b c d e (nd h1) (fun y => h2 ?_)⟩
  · rw [ne c d] at h2
    exact h2
  · rw [ne c d]
    exact y
def sc_3 (as : List wi_V) (h : wc_H) (q : wi_Q1 wc_H) (qt : wi_Q2 wc_H) : Prop := wc_sTII as (fun x p s => wc_f h fun tg ln I L R n => ∃ M, wk_J (tg, ln, I, L, R, n) x M ∧ (∀ h', wk_Z sm_87 [wi_rf (some 11), .inl p, .inl s] M h' x 0 (fun b => b = none) → q none h') ∧ (∀ h', wk_Z sm_87 [wi_rf (some 11), .inl p, .inl s] M h' x 1 (fun b => b = none) → qt 3 h') ∧ (∀ h', wk_Z sm_87 [wi_rf (some 11), .inl p, .inl s] M h' x 2 (fun b => b = none) → qt 2 h'))
set_option maxHeartbeats 4000000 in
theorem cm_3 {l : Launch} {D : va_G} {aC : wm_Y} {b0 : Nat} (hl0 : l.stackTraces = false) : wm_sp l D aC b0 3 (wi_lf (wc_Rl wc_ok) sc_3) := by
  refine wi_method (wc_lw wc_ok) 3 (cx := fun id => if id = 25 then sc_25 else if id = 26 then sc_26 else if id = 36 then sc_36n else if id = 50 then sc_50 else fun _ _ _ _ => False) (ids := ci_3) (tb := tb_3) (by decide +kernel) hl0 (wm_cxc (cm_25 hl0) oi_3 (fun h => wm_cxc (cm_26 hl0) h (fun h => wm_cxc (cm_36n hl0) h (fun h => wm_cxc (cm_50 hl0) h (fun h => wm_cxn h))))) (wm_tb_ok tk_3) (by decide +kernel) [] 300 (fun as h q qt hs => ?_)
  obtain ⟨x, p, s, rfl, hs1⟩ := wc_sTII_e hs
  clear hs
  obtain ⟨tg, ln, I, L, R, n⟩ := h
  have hs := id hs1
  clear hs1
  simp only [wc_f] at hs
  refine ⟨rfl, fun _ _ _ _ _ _ _ => False, mq_nc, ?_⟩
  obtain ⟨M, hJ, f0, f1, f2⟩ := hs
  obtain ⟨cd, lm, st, sg, el, dr, sz, pr, wc, sp, nw, A, B, rfl, g, gd, ct, hK, hM⟩ := mq_f_e hJ
  clear hJ
  obtain ⟨nR, nS, nD, nC, nV, nT, nW, nO, nQ, nZ⟩ := id hM
  obtain ⟨⟨u1, u2, u3⟩, ⟨u4, u5, u6, u7, u8, u9, u10, u11⟩, ⟨u12, u13, u14, u15, u16, u17, u18, u19⟩⟩ := id nR
  obtain ⟨hn, kN, kB, kS, kA, kV, kD, kR, kT, kU, kX1, kX2, kX3, kW⟩ := id hK
  obtain ⟨k0, k7, k8, k9, k10, k11, k12, k13⟩ := id kN
  obtain ⟨⟨b1, b2, b3, b4, b5, b6, b7, b8, b9⟩, ⟨c1, c2, c3, c4, c5, c6, c7, c8⟩, ⟨d1, d2, d3, d4, d5, d6, d7, d8, d9, d10, d11⟩⟩ := id kB
  obtain ⟨w1, w2, w3⟩ := id kW
  have eX : (p < 0 ∨ pr ≤ p ∨ s < 0 ∨ sg ≤ s) → ∀ n', n ≤ n' → qt 3 (tg, ln, I, L, R, n') := fun z0 n9 hn9 => f1 _ (fun Q T hQ => wk_87 hM (fun _ => hQ _ _ _ _ rfl ⟨g, gd, ct, wk_K_n hK hn9, hM⟩) (fun _ _ _ _ => by omega) (fun _ _ _ _ => by omega) (fun _ _ _ _ => by omega) (fun _ _ _ _ => by omega))
  by_cases hp : 0 ≤ p ∧ p < pr
  · obtain ⟨t1, t2, t3, t4, t5, t6, t7, t8, t9⟩ := kT.1 p.toNat (by omega)
    by_cases hs9 : 0 ≤ s ∧ s < sg
    · obtain ⟨s1, s2, s3, s4, s5, s6, s7, s8, s9, s10⟩ := kS.1 s.toNat (by omega)
      obtain ⟨y1, y2, y3, y4, y5, y6⟩ := nS.1 s.toNat (by omega)
      obtain ⟨nd1, nd2, nd3⟩ := nD.1 s.toNat (by omega)
      have dcs := kD s.toNat (by omega)
      have dr1 : ∀ c ∈ gd s.toNat, A 37 c.2 = p → (∃ j : Nat, (j : Int) < dr ∧ A 37 j = p ∧ A 38 j = A 32 s.toNat) := fun c hc e => by
        obtain ⟨e1, e2⟩ := nd3 c hc
        have := e2 0 (by omega)
        exact ⟨c.2, by omega, e, by have h9 := this.2; rw [Nat.add_zero] at h9; omega⟩
      have dr0 : (∀ b ∈ gd s.toNat, A 37 b.2 ≠ p) → ¬ (∃ j : Nat, (j : Int) < dr ∧ A 37 j = p ∧ A 38 j = A 32 s.toNat) := fun z ⟨j, x1, x2, x3⟩ => by
        obtain ⟨c, hc, e1, e2⟩ := wn_D_u nD nS (s := s.toNat) (k := 0) (by omega) (by omega) (by omega) x1 (by omega)
        exact z c hc (e2.symm.trans x2)
      have eY : st ≠ 0 → ∀ n', n ≤ n' → qt 2 (tg, ln, I, L, R, n') := fun z0 n9 hn9 => f2 _ (fun Q T hQ => wk_87 hM (fun _ => by omega) (fun _ _ _ _ _ => hQ _ _ _ _ rfl ⟨g, gd, ct, wk_K_n hK hn9, hM⟩) (fun _ _ _ _ h => absurd h z0) (fun _ _ _ _ h => absurd h z0) (fun _ _ _ _ h => absurd h z0))
      have eZ : st = 0 → (∀ b ∈ gd s.toNat, A 37 b.2 ≠ p) → ((A 30 s.toNat = 2 ∧ gd s.toNat ≠ []) ∨ 512 < dr + A 31 s.toNat) → ∀ n', n ≤ n' → qt 2 (tg, ln, I, L, R, n') := fun z0 z1 z2 n9 hn9 => f2 _ (fun Q T hQ => wk_87 hM (fun _ => by omega) (fun _ _ _ _ h => absurd z0 h) (fun _ _ _ _ _ h => absurd h (dr0 z1)) (fun _ _ _ _ _ _ _ => hQ _ _ _ _ rfl ⟨g, gd, ct, wk_K_n hK hn9, hM⟩) (fun _ _ _ _ _ _ h => absurd z2 h))
      have e0 : st = 0 → ∀ c ∈ gd s.toNat, A 37 c.2 = p → q none (tg, ln, I, L, R, n) := fun z0 c hc z1 => f0 _ (fun Q T hQ => wk_87 hM (fun _ => by omega) (fun _ _ _ _ h => absurd z0 h) (fun _ _ _ _ _ _ => hQ _ _ _ _ rfl ⟨g, gd, ct, hK, hM⟩) (fun _ _ _ _ _ h => absurd (dr1 c hc z1) h) (fun _ _ _ _ _ h => absurd (dr1 c hc z1) h))
      have e1 : st = 0 → (∀ b ∈ gd s.toNat, A 37 b.2 ≠ p) → ¬ ((A 30 s.toNat = 2 ∧ gd s.toNat ≠ []) ∨ 512 < dr + A 31 s.toNat) → ∀ (tg2 ln2 : Nat → Nat) (I2 L2 : wm_F Int) (R2 : wm_F (Option Nat)) (n2 : Nat), wc_dn (wc_nt tg n 3, wc_nt ln n 0, wc_nz I n 3, wc_nz L n 3, wc_nn R n 3, n + 1) (tg2, ln2, I2, L2, R2, n2) n p (A 31 s.toNat).toNat (g 0 2) (R 5 4 (g 1 s.toNat)) (A 31 s.toNat).toNat → wc_hn (tg2, ln2, I2, L2, R2, n2) → q none (tg2, ln2, wm_up I2 2 10 x (dr + A 31 s.toNat), L2, wm_up R2 5 4 (g 1 s.toNat) (some n), n2) := by
        intro z0 z1 z2 tg2 ln2 I2 L2 R2 n2 hd hh
        subst z0
        obtain ⟨e1, e2, e3, e4, e5, ⟨e6, e7, e8, e9, e10, e11⟩, e12⟩ := wk_dn_f hd
        have xn : x < n := hn x (by rw [b1]; decide)
        have hJ := wk_dv (tg' := tg2) (ln' := ln2) (I' := wm_up I2 2 10 x (dr + A 31 s.toNat)) (L' := L2) (R' := wm_up R2 5 4 (g 1 s.toNat) (some n)) (n' := n2) (p := p) (s := s) hK hM hs9 (by omega) z1 e1 e2 (fun t j q hq hz => by
          rw [← e3 t j q hq]
          simp only [wm_up]
          rw [if_neg (fun y => hz ⟨y.1, y.2.2, y.2.1⟩)]) e4 (fun t j q hq hz => by
          rw [← e5 t j q hq]
          simp only [wm_up]
          rw [if_neg hz]) ⟨wm_up_self, wm_up_self⟩ ⟨e6, by rw [wm_up_t (by decide)]; exact e7, by rw [wm_up_t (by decide)]; exact e8, by rw [wm_up_t (by decide)]; exact e9, e10, e11⟩ (fun k hk => by
          rw [wm_up_t (by decide), wm_up_t (by decide), wm_up_t (by decide)]
          exact e12 k hk) hh
        exact f0 _ (fun Q T hQ => wk_87 hM (fun _ => by omega) (fun _ _ _ _ h => absurd rfl h) (fun _ _ _ _ _ h => absurd h (dr0 z1)) (fun _ _ _ _ _ _ h => absurd h z2) (fun _ _ _ _ _ _ _ => hQ _ _ _ _ rfl hJ))
      have xn : x < n := hn x (by rw [b1]; decide)
      have sn : g 1 s.toNat < n := hn _ (by rw [s2]; decide)
      have tx : wc_nt tg n 3 x = 2 := (if_neg (Nat.ne_of_lt xn)).trans b1
      have ts : wc_nt tg n 3 (g 1 s.toNat) = 5 := (if_neg (Nat.ne_of_lt sn)).trans s2
      have tn : wc_nt tg n 3 n = 3 := if_pos rfl
      have r23 : wc_nn R n 3 2 3 x = some (g 0 2) := (if_neg (fun y => absurd y.1 (by decide))).trans b8
      have r54 : wc_nn R n 3 5 4 (g 1 s.toNat) = R 5 4 (g 1 s.toNat) := if_neg (fun y => absurd y.1 (by decide))
      have i51 : wc_nz I n 3 5 1 (g 1 s.toNat) = A 31 s.toNat := (if_neg (fun y => absurd y.1 (by decide))).trans s4
      have hn1 : wc_hn (wc_nt tg n 3, wc_nt ln n 0, wc_nz I n 3, wc_nz L n 3, wc_nn R n 3, n + 1) := fun q hq => by
        by_cases z : q = n
        · rw [z]; exact Nat.lt_succ_self _
        · have : tg q ≠ 0 := fun y => hq ((if_neg z).trans y)
          exact Nat.lt_succ_of_lt (hn q this)
      have aft : ∀ (tg2 ln2 : Nat → Nat) (I2 L2 : wm_F Int) (R2 : wm_F (Option Nat)) (n2 : Nat) (oth : Option Nat), wc_dn (wc_nt tg n 3, wc_nt ln n 0, wc_nz I n 3, wc_nz L n 3, wc_nn R n 3, n + 1) (tg2, ln2, I2, L2, R2, n2) n p (wc_nz I n 3 5 1 (g 1 s.toNat)).toNat (g 0 2) oth (wc_nz I n 3 5 1 (g 1 s.toNat)).toNat → tg2 x = 2 ∧ tg2 (g 1 s.toNat) = 5 ∧ I2 2 10 x = dr ∧ I2 5 1 (g 1 s.toNat) = A 31 s.toNat := fun tg2 ln2 I2 L2 R2 n2 oth hd => by
        obtain ⟨e1, e2, e3, e4, e5, -, -⟩ := wk_dn_f hd
        exact ⟨(e2 x xn).1.trans b1, (e2 _ sn).1.trans s2, (e3 2 10 x xn).trans k10, (e3 5 1 _ sn).trans s4⟩
      have h54 : (gd s.toNat = [] ∧ R 5 4 (g 1 s.toNat) = none) ∨ (gd s.toNat ≠ [] ∧ ∃ c, R 5 4 (g 1 s.toNat) = some c) := by
        cases hl : gd s.toNat with
        | nil => rw [hl] at dcs; exact Or.inl ⟨rfl, dcs⟩
        | cons c r => rw [hl] at dcs; exact Or.inr ⟨fun y => (by cases y), c.1, dcs.1⟩
      rcases h54 with ⟨hg, h5⟩ | ⟨hg, c5, h5⟩
      · rw [h5] at r54
        repeat' first
          | refine And.intro ?_ ?_
          | (intro n9 (h9 : n ≤ n9))
          | (intro P9 c9 S9 e9 e10 e11; have hc9 : c9 ∈ gd s.toNat := (by rw [e9]; simp))
          | (intro tg1 ln1 I1 L1 R1 (e1 : tg1 = wc_nt tg n 3) (e2 : ln1 = wc_nt ln n 0) (e3 : I1 = wc_nz I n 3) (e4 : L1 = wc_nz L n 3) (e5 : R1 = wc_nn R n 3); subst e1 e2 e3 e4 e5)
          | (intro h9 d9 G9; obtain ⟨tg2, ln2, I2, L2, R2, n2⟩ := h9; obtain ⟨a1, a2, a3, a4⟩ := aft tg2 ln2 I2 L2 R2 n2 _ d9)
          | (intro I9 (e9 : I9 = wm_up I2 2 10 x (I2 2 10 x + I2 5 1 (g 1 s.toNat))); rw [a3, a4] at e9; subst e9)
          | (intro R9 (e9 : R9 = wm_up R2 5 4 (g 1 s.toNat) (some n)); subst e9)
          | (intro (z9 : ∀ b ∈ gd s.toNat, A 37 b.2 ≠ p))
          | refine Exists.intro _ (Exists.intro _ (Exists.intro _ (Exists.intro _ (And.intro dcs ?_))))
          | exact hn1
          | (intro q9 (e9 : (some _ : Option Nat) = some q9); cases e9; exact a9n)
          | (intro q9 (e9 : (_ : Option Nat) = some q9); cases e9)
          | (intro (e9 : (some _ : Option Nat) = none); cases e9)
          | (intro (e9 : (none : Option Nat) = none); clear e9)
          | refine Exists.intro _ (And.intro (show _ = _ from by assumption) ?_)
          | refine Exists.intro _ (And.intro rfl (And.intro (by assumption) ?_))
          | refine Exists.intro _ (And.intro rfl ?_)
          | (intro h; try omega)
          | omega
          | exact eX (by omega) _ (by assumption)
          | exact eY (by omega) _ (by assumption)
          | exact e0 (by omega) c9 hc9 e11
          | exact eZ (by omega) z9 (Or.inr (by omega)) _ (by assumption)
          | exact eZ (by omega) z9 (Or.inl ⟨by omega, hg⟩) _ (by assumption)
          | (rw [i51, ← h5] at d9; exact e1 (by omega) z9 (fun y => y.elim (fun y => (by first | exact y.2 hg | omega)) (fun y => (by omega))) tg2 ln2 I2 L2 R2 n2 d9 G9.1)
          | (simp only [wm_mr, wm_mc, wm_ms]; omega)
          | exact Nat.le_of_ble_eq_true rfl
          | assumption
      · rw [h5] at r54
        repeat' first
          | refine And.intro ?_ ?_
          | (intro n9 (h9 : n ≤ n9))
          | (intro P9 c9 S9 e9 e10 e11; have hc9 : c9 ∈ gd s.toNat := (by rw [e9]; simp))
          | (intro tg1 ln1 I1 L1 R1 (e1 : tg1 = wc_nt tg n 3) (e2 : ln1 = wc_nt ln n 0) (e3 : I1 = wc_nz I n 3) (e4 : L1 = wc_nz L n 3) (e5 : R1 = wc_nn R n 3); subst e1 e2 e3 e4 e5)
          | (intro h9 d9 G9; obtain ⟨tg2, ln2, I2, L2, R2, n2⟩ := h9; obtain ⟨a1, a2, a3, a4⟩ := aft tg2 ln2 I2 L2 R2 n2 _ d9)
          | (intro I9 (e9 : I9 = wm_up I2 2 10 x (I2 2 10 x + I2 5 1 (g 1 s.toNat))); rw [a3, a4] at e9; subst e9)
          | (intro R9 (e9 : R9 = wm_up R2 5 4 (g 1 s.toNat) (some n)); subst e9)
          | (intro (z9 : ∀ b ∈ gd s.toNat, A 37 b.2 ≠ p))
          | refine Exists.intro _ (Exists.intro _ (Exists.intro _ (Exists.intro _ (And.intro dcs ?_))))
          | exact hn1
          | (intro q9 (e9 : (some _ : Option Nat) = some q9); cases e9; exact a9n)
          | (intro q9 (e9 : (_ : Option Nat) = some q9); cases e9)
          | (intro (e9 : (some _ : Option Nat) = none); cases e9)
          | (intro (e9 : (none : Option Nat) = none); clear e9)
          | refine Exists.intro _ (And.intro (show _ = _ from by assumption) ?_)
          | refine Exists.intro _ (And.intro rfl (And.intro (by assumption) ?_))
          | refine Exists.intro _ (And.intro rfl ?_)
          | (intro h; try omega)
          | omega
          | exact eX (by omega) _ (by assumption)
          | exact eY (by omega) _ (by assumption)
          | exact e0 (by omega) c9 hc9 e11
          | exact eZ (by omega) z9 (Or.inr (by omega)) _ (by assumption)
          | exact eZ (by omega) z9 (Or.inl ⟨by omega, hg⟩) _ (by assumption)
          | (rw [i51, ← h5] at d9; exact e1 (by omega) z9 (fun y => y.elim (fun y => (by first | exact y.2 hg | omega)) (fun y => (by omega))) tg2 ln2 I2 L2 R2 n2 d9 G9.1)
          | (simp only [wm_mr, wm_mc, wm_ms]; omega)
          | exact Nat.le_of_ble_eq_true rfl
          | assumption
    · repeat' first
        | refine And.intro ?_ ?_
        | (intro n9 (h9 : n ≤ n9))
        | refine Exists.intro _ (And.intro (show _ = _ from by assumption) ?_)
        | refine Exists.intro _ (And.intro rfl (And.intro (by assumption) ?_))
        | refine Exists.intro _ (And.intro rfl ?_)
        | (intro h; try omega)
        | omega
        | exact eX (by omega) _ (by assumption)
        | exact Nat.le_of_ble_eq_true rfl
        | assumption
  · repeat' first
      | refine And.intro ?_ ?_
      | (intro n9 (h9 : n ≤ n9))
      | refine Exists.intro _ (And.intro (show _ = _ from by assumption) ?_)
      | refine Exists.intro _ (And.intro rfl (And.intro (by assumption) ?_))
      | refine Exists.intro _ (And.intro rfl ?_)
      | (intro h; try omega)
      | omega
      | exact eX (by omega) _ (by assumption)
      | exact Nat.le_of_ble_eq_true rfl
      | assumption
