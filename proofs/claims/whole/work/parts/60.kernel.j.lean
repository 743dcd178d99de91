/-! THE KERNEL, 10: start -/
def wk_x (A : mq_A) (gd : Nat → List (Nat × Nat)) (s k : Nat) : Int := wc_to (A 30 s) (A 35 (A 32 s + k).toNat) (fun _ => A 35 (A 32 s + k).toNat) k (gd s)
/-- the signals below s have begun -/
def wk_sd (I I2 : wm_F Int) (g : Nat → Nat → Nat) (gd : Nat → List (Nat × Nat)) (sg dr : Int) (A : mq_A) (s : Nat) : Prop :=
  (∀ t j a, t ≠ 26 → t ≠ 27 → ¬ (t = 4 ∧ j = 2) → I2 t j a = I t j a) ∧ (∀ d : Nat, (d : Int) < dr → ¬ wk_sb gd (A 31) s d → I2 4 2 (g 7 d) = I 4 2 (g 7 d)) ∧ (∀ s' : Nat, s' < s → ∀ c ∈ gd s', ∀ k : Nat, (k : Int) < A 31 s' → I2 4 2 (g 7 (c.2 + k)) = A 35 (A 32 s' + k).toNat) ∧
  (∀ s' : Nat, s' < s → ∀ k : Nat, (k : Int) < A 31 s' → I2 26 k (g 2 s') = wk_x A gd s' k ∧ I2 27 k (g 3 s') = wk_x A gd s' k) ∧ (∀ s' : Nat, s ≤ s' → (s' : Int) < sg → ∀ k : Nat, (k : Int) < A 31 s' → I2 26 k (g 2 s') = A 35 (A 32 s' + k).toNat)
theorem wk_sd_s {I I2 I3 : wm_F Int} {g : Nat → Nat → Nat} {gd : Nat → List (Nat × Nat)} {sg dr el : Int} {A : mq_A} {s : Nat} {a37 a38 : Nat → Int} (hS : wn_S sg el (A 30) (A 31) (A 32)) (hD : wn_D gd sg dr (A 31) (A 32) a37 a38) (hs : (s : Int) < sg) (hgv : ∀ s' : Nat, (s' : Int) < sg → s' ≠ s → g 2 s' ≠ g 2 s ∧ g 3 s' ≠ g 3 s) (h : wk_sd I I2 g gd sg dr A s) (h50 : I2 5 0 (g 1 s) = A 30 s) (hb : wc_bg I2 I3 (g 1 s) dr.toNat (g 7) (gd s) [] (g 2 s) (g 3 s) (A 31 s).toNat) : wk_sd I I3 g gd sg dr A (s + 1) := by
  obtain ⟨h1, h2, h3, h4, h5⟩ := h
  obtain ⟨b1, b2, b3, b4, b5, b6, b7⟩ := hb
  have hx : ∀ k : Nat, (k : Int) < A 31 s → wc_bx I2 (g 1 s) (g 2 s) (gd s) k = wk_x A gd s k := fun k hk => by
    unfold wc_bx wk_x
    rw [h50, h5 s (Nat.le_refl _) hs k hk]
  have dj : ∀ (d s' : Nat), wc_in (gd s) (A 31 s).toNat d → (s' : Int) < sg → s' ≠ s → ¬ wc_in (gd s') (A 31 s').toNat d := fun d s' x1 x2 x3 x4 => x3 (wk_in_u hD hS x2 hs x4 x1)
  refine ⟨fun t j a x1 x2 x3 => (b1 t j a x1 x2 x3).trans (h1 t j a x1 x2 x3), fun d hd z => ?_, fun s' hs' c hc k hk => ?_, fun s' hs' k hk => ?_, fun s' x1 x2 k hk => ?_⟩
  · rw [b4 d (by omega) (fun y => z ⟨s, Nat.lt_succ_self _, y⟩) (fun c hc => by cases hc)]
    exact h2 d hd (fun y => by obtain ⟨s', y1, y2⟩ := y; exact z ⟨s', by omega, y2⟩)
  · by_cases z : s' = s
    · subst z
      rw [b5 c hc k (by omega)]
      exact h5 s' (Nat.le_refl _) hs k hk
    · have hin : wc_in (gd s') (A 31 s').toNat (c.2 + k) := ⟨c, hc, by omega, by omega⟩
      have hd := ((hD.1 s' (by omega)).2.2 c hc).1
      rw [b4 (c.2 + k) (by omega) (fun y => dj _ s' y (by omega) z hin) (fun c hc => by cases hc)]
      exact h3 s' (by omega) c hc k hk
  · by_cases z : s' = s
    · subst z
      obtain ⟨e1, e2⟩ := b7 k (by omega)
      rw [e1, e2, hx k hk]
      exact ⟨rfl, rfl⟩
    · obtain ⟨g2, g3⟩ := hgv s' (by omega) z
      rw [b2 k _ (Or.inl g2), b3 k _ (Or.inl g3)]
      exact h4 s' (by omega) k hk
  · obtain ⟨g2, g3⟩ := hgv s' x2 (by omega)
    rw [b2 k _ (Or.inl g2)]
    exact h5 s' (by omega) x2 k hk
theorem wc_rv_v {tg ln : Nat → Nat} {I L I' : wm_F Int} {R : wm_F (Option Nat)} {n : Nat} {st D : Nat} {rw : Nat → Nat} {vl vl' : Nat → Int} {ct : Nat → List (Int × Int)} (h : wc_rv (tg, ln, I, L, R, n) st D rw vl ct) (h1 : I' 7 = I 7) (h2 : I' 9 = I 9) (h3 : ∀ d, d < D → I' 4 2 (rw d) = vl' d) : wc_rv (tg, ln, I', L, R, n) st D rw vl' ct := by
  obtain ⟨a1, a2, a3, cs, ids, a4, a5⟩ := h
  refine ⟨a1, a2, a3, cs, ids, wc_rk_m (h := (tg, ln, I, L, R, n)) (h' := (tg, ln, I', L, R, n)) (Nat.le_refl _) (fun _ _ => rfl) (fun q hq => ⟨by simp only; rw [h1], rfl, rfl, rfl, rfl⟩) a4, fun d hd => ⟨h3 d hd, ?_⟩⟩
  rw [← (a5 d hd).2]
  exact List.map_congr_left (fun a ha => by simp only; rw [h2])
def wk_td (I2 I3 : wm_F Int) (g : Nat → Nat → Nat) (pr : Int) (p : Nat) : Prop := (∀ t j a, ¬ (t = 8 ∧ j = 1) → I3 t j a = I2 t j a) ∧ (∀ p' : Nat, p' < p → I3 8 1 (g 4 p') = 0)
theorem wk_td_s {I2 I3 : wm_F Int} {g : Nat → Nat → Nat} {pr : Int} {p : Nat} (h : wk_td I2 I3 g pr p) : wk_td I2 (wm_up I3 8 1 (g 4 p) 0) g pr (p + 1) := by
  obtain ⟨h1, h2⟩ := h
  refine ⟨fun t j a z => ?_, fun p' hp' => ?_⟩
  · simp only [wm_up]
    rw [if_neg (fun y => z ⟨y.1, y.2.1⟩)]
    exact h1 t j a z
  · by_cases z : g 4 p' = g 4 p
    · rw [z, wm_up_self]
    · rw [wm_up_q z]
      exact h2 p' (by
        by_cases y : p' = p
        · exact absurd (by rw [y]) z
        · omega)
theorem wk_st {tg ln : Nat → Nat} {I L I2 I3 : wm_F Int} {R : wm_F (Option Nat)} {n x : Nat} {g : Nat → Nat → Nat} {gd : Nat → List (Nat × Nat)} {lm sg el dr sz pr wc sp nw : Int} {A B : mq_A} {ct : Nat → List (Int × Int)}
    (hK : wk_K (tg, ln, I, L, R, n) x g gd lm 0 sg el dr pr wc sp nw A B ct) (hM : wn_M gd lm 0 sg el dr sz pr wc sp nw A B ct) (hU : wk_sd (wm_up I 2 11 x 1) I2 g gd sg dr A sg.toNat) (hW : wk_td I2 I3 g pr pr.toNat) {A1 : mq_A} (m1 : ∀ t, t ≠ 35 → t ≠ 36 → t ≠ 46 → A1 t = mq_v0 A dr t) (m2 : A1 46 = mq_g A 46 0 pr.toNat (fun _ => 0) 46) (m3 : mq_sd A (mq_v0 A dr) A1 dr sg) : wk_J (tg, ln, I3, L, R, n) x ([0, lm, 1, sg, el, dr, sz, pr, wc, sp, nw], A1, B) := by
  obtain ⟨nR, nS, nD, nC, nV, nT, nW, nO, nQ, nZ⟩ := id hM
  obtain ⟨⟨u1, u2, u3⟩, ⟨u4, u5, u6, u7, u8, u9, u10, u11⟩, ⟨u12, u13, u14, u15, u16, u17, u18, u19⟩⟩ := id nR
  obtain ⟨hn, kN, kB, kS, kA, kV, kD, kR, kT, kU, kX1, kX2, kX3, kW⟩ := id hK
  obtain ⟨k0, k7, k8, k9, k10, k11, k12, k13⟩ := id kN
  obtain ⟨f1, f2, f3, f4, -⟩ := hU
  obtain ⟨w1, w2⟩ := hW
  have aT : ∀ t, t ≠ 35 → t ≠ 36 → t ≠ 46 → t ≠ 39 → A1 t = A t := fun t x1 x2 x3 x4 => by rw [m1 t x1 x2 x3, mq_v0_t x4]
  have a30 := aT 30 (by decide) (by decide) (by decide) (by decide)
  have a31 := aT 31 (by decide) (by decide) (by decide) (by decide)
  have a32 := aT 32 (by decide) (by decide) (by decide) (by decide)
  have a33 := aT 33 (by decide) (by decide) (by decide) (by decide)
  have a34 := aT 34 (by decide) (by decide) (by decide) (by decide)
  have a37 := aT 37 (by decide) (by decide) (by decide) (by decide)
  have a38 := aT 38 (by decide) (by decide) (by decide) (by decide)
  have a40 := aT 40 (by decide) (by decide) (by decide) (by decide)
  have a42 := aT 42 (by decide) (by decide) (by decide) (by decide)
  have a47 := aT 47 (by decide) (by decide) (by decide) (by decide)
  have a49 := aT 49 (by decide) (by decide) (by decide) (by decide)
  have a50 := aT 50 (by decide) (by decide) (by decide) (by decide)
  have a51 := aT 51 (by decide) (by decide) (by decide) (by decide)
  have v39 : ∀ d : Nat, (d : Int) < dr → mq_v0 A dr 39 d = A 35 (A 38 d).toNat := fun d hd => mq_g_i (Nat.zero_le _) (by omega)
  have a39 : A1 39 = mq_v0 A dr 39 := m1 39 (by decide) (by decide) (by decide)
  have inD : ∀ (s : Nat) c k, (s : Int) < sg → c ∈ gd s → ((k : Nat) : Int) < A 31 s → ((c.2 + k : Nat) : Int) < dr ∧ A 38 (c.2 + k) = A 32 s + k := fun s c k hs hc hk => by
    obtain ⟨q1, q2⟩ := (nD.1 s hs).2.2 c hc
    exact ⟨by omega, (q2 k hk).2⟩
  have vd : ∀ (s : Nat) c k, (s : Int) < sg → c ∈ gd s → ((k : Nat) : Int) < A 31 s → mq_v0 A dr 39 (c.2 + k) = A 35 (A 32 s + k).toNat := fun s c k hs hc hk => by
    obtain ⟨q1, q2⟩ := inD s c k hs hc hk
    rw [v39 _ q1, q2]
  have made : ∀ s k : Nat, (s : Int) < sg → (k : Int) < A 31 s → mq_made (mq_v0 A dr) dr s (A 32 s + k) = wk_x A gd s k := fun s k hs hk => by
    have e := wk_made (A := mq_v0 A dr) (gd := gd) (sg := sg) (dr := dr) (el := el) (by rw [mq_v0_t (by decide), mq_v0_t (by decide), mq_v0_t (by decide), mq_v0_t (by decide)]; exact nD) (by rw [mq_v0_t (by decide), mq_v0_t (by decide), mq_v0_t (by decide)]; exact nS) u8 hs (by rw [mq_v0_t (by decide)]; exact hk) (fun h2 c hc => by
      rw [vd s c k hs hc hk]
      rw [mq_v0_t (by decide)] at h2
      exact nV rfl s hs h2 k hk)
    rw [mq_v0_t (by decide), mq_v0_t (by decide), mq_v0_t (by decide)] at e
    rw [e]
    unfold wk_x
    exact wc_to_c (fun c hc => vd s c k hs hc hk)
  have cov : ∀ d : Nat, (d : Int) < dr → I3 4 2 (g 7 d) = A1 39 d := fun d hd => by
    obtain ⟨s, hs, c, hc, y1, y2⟩ := nD.2 d hd
    have e : d = c.2 + (d - c.2) := by omega
    rw [w1 4 2 _ (by omega), a39, e, f3 s (by omega) c hc (d - c.2) (by omega), vd s c (d - c.2) hs hc (by omega)]
  have iT : ∀ t, t ≠ 26 → t ≠ 27 → t ≠ 4 → t ≠ 8 → t ≠ 2 → I3 t = I t := fun t x1 x2 x3 x4 x5 => funext fun j => funext fun y => by
    rw [w1 t j y (fun z => x4 z.1), f1 t j y x1 x2 (fun z => x3 z.1), wm_up_t x5]
  have i2 : I3 2 = wm_up I 2 11 x 1 2 := funext fun j => funext fun y => by rw [w1 2 j y (by omega), f1 2 j y (by decide) (by decide) (by omega)]
  have sgv : ∀ s : Nat, (s : Int) < sg → ∀ k : Nat, (k : Int) < A 31 s → I3 26 k (g 2 s) = A1 35 (A 32 s + k).toNat ∧ I3 27 k (g 3 s) = A1 36 (A 32 s + k).toNat := fun s hs k hk => by
    obtain ⟨e1, e2⟩ := f4 s (by omega) k hk
    obtain ⟨e3, e4⟩ := m3 s (by omega) hs (A 32 s + k) (by rw [Int.toNat_natCast]; omega) (by rw [Int.toNat_natCast]; omega)
    rw [w1 26 k _ (by omega), w1 27 k _ (by omega), e1, e2, e3, e4, made s k hs hk]
    exact ⟨rfl, rfl⟩
  have a46 : ∀ p : Nat, (p : Int) < pr → A1 46 p = 0 := fun p hp => by
    rw [m2]
    exact mq_g_i (Nat.zero_le _) (by omega)
  have i8 : ∀ j, j ≠ 1 → I3 8 j = I 8 j := fun j hj => funext fun y => by rw [w1 8 j y (by omega), f1 8 j y (by decide) (by decide) (by omega), wm_up_t (by decide)]
  refine ⟨g, gd, ct, ⟨hn, ?_, kB, ?_, ?_, ?_, ?_, ?_, kT, ?_, ?_, ?_, ?_, ?_⟩, ⟨?_, ?_, ?_, ?_, ?_, ?_, nW, ?_, ?_, ?_⟩⟩
  · rw [i2]
    exact ⟨by rw [wm_up_k (by decide)]; exact k0, by rw [wm_up_k (by decide)]; exact k7, by rw [wm_up_k (by decide)]; exact k8, by rw [wm_up_k (by decide)]; exact k9, by rw [wm_up_k (by decide)]; exact k10, wm_up_self, k12, by rw [wm_up_k (by decide)]; exact k13⟩
  · rw [iT 5 (by decide) (by decide) (by decide) (by decide) (by decide), a30, a31]
    exact kS
  · rw [iT 5 (by decide) (by decide) (by decide) (by decide) (by decide), a33]
    exact kA
  · rw [a31, a32]
    exact sgv
  · rw [iT 3 (by decide) (by decide) (by decide) (by decide) (by decide), a31, a37]
    exact kD
  · exact wc_rv_v kR (iT 7 (by decide) (by decide) (by decide) (by decide) (by decide)) (iT 9 (by decide) (by decide) (by decide) (by decide) (by decide)) (fun d hd => cov d (by omega))
  · intro p hp
    obtain ⟨q1, q2, q3⟩ := kU p hp
    rw [w2 p (by omega), a46 p hp, i8 2 (by decide), a47]
    exact ⟨rfl, q2, q3⟩
  · rw [a50]; exact kX1
  · rw [a34]; exact kX2
  · rw [a49]; exact kX3
  · rw [iT 10 (by decide) (by decide) (by decide) (by decide) (by decide), iT 24 (by decide) (by decide) (by decide) (by decide) (by decide), a51]
    exact kW
  · exact ⟨⟨u1, u2, Or.inr rfl⟩, ⟨u4, u5, u6, u7, u8, u9, u10, u11⟩, ⟨u12, u13, u14, u15, u16, u17, u18, u19⟩⟩
  · rw [a30, a31, a32]; exact nS
  · rw [a31, a32, a37, a38]; exact nD
  · rw [a30, a31]
    refine ⟨nC.1, fun s hs h2 d hd => ⟨?_, (nC.2 s hs h2 d hd).2⟩⟩
    obtain ⟨c, hc, y1, y2⟩ := hd
    have e : d = c.2 + (d - c.2) := by omega
    rw [a39, e, vd s c (d - c.2) hs hc (by omega)]
    exact nV rfl s hs h2 (d - c.2) (by omega)
  · intro z
    cases z
  · intro p hp
    obtain ⟨q1, q2, q3⟩ := nT p hp
    rw [a46 p hp, a47]
    exact ⟨by omega, q2, q3⟩
  · rw [a50]; exact nO
  · exact wn_Q_e nQ a40 a42 rfl
  · rw [a31]; exact ⟨nZ.1, fun z => (by cases z)⟩
def sc_5 (as : List wi_V) (h : wc_H) (q : wi_Q1 wc_H) (qt : wi_Q2 wc_H) : Prop := wc_sT as (fun x => wc_f h fun tg ln I L R n => ∃ M, wk_J (tg, ln, I, L, R, n) x M ∧ (∀ h', wk_Z sm_90 [wi_rf (some 11)] M h' x 0 (fun b => b = none) → q none h') ∧ (∀ h', wk_Z sm_90 [wi_rf (some 11)] M h' x 1 (fun b => b = none) → qt 2 h'))
theorem cm_5 {l : Launch} {D : va_G} {aC : wm_Y} {b0 : Nat} (hl0 : l.stackTraces = false) : wm_sp l D aC b0 5 (wi_lf (wc_Rl wc_ok) sc_5) := by
  refine wi_method (wc_lw wc_ok) 5 (cx := fun id => if id = 51 then sc_51 else fun _ _ _ _ => False) (ids := ci_5) (tb := tb_5) (by decide +kernel) hl0 (wm_cxc (cm_51 hl0) oi_5 (fun h => wm_cxn h)) (wm_tb_ok tk_5) (by decide +kernel) [24, 49] 300 (fun as h q qt hs => ?_)
  obtain ⟨x, rfl, hs1⟩ := wc_sT_e hs
  clear hs
  obtain ⟨tg, ln, I, L, R, n⟩ := h
  have hs := id hs1
  clear hs1
  simp only [wc_f] at hs
  obtain ⟨M, hJ, f0, f1⟩ := hs
  obtain ⟨cd, lm, st, sg, el, dr, sz, pr, wc, sp, nw, A, B, rfl, g, gd, ct, hK, hM⟩ := mq_f_e hJ
  clear hJ
  obtain ⟨nR, nS, nD, nC, nV, nT, nW, nO, nQ, nZ⟩ := id hM
  obtain ⟨⟨u1, u2, u3⟩, ⟨u4, u5, u6, u7, u8, u9, u10, u11⟩, ⟨u12, u13, u14, u15, u16, u17, u18, u19⟩⟩ := id nR
  obtain ⟨hn, kN, kB, kS, kA, kV, kD, kR, kT, kU, kX1, kX2, kX3, kW⟩ := id hK
  obtain ⟨k0, k7, k8, k9, k10, k11, k12, k13⟩ := id kN
  obtain ⟨⟨b1, b2, b3, b4, b5, b6, b7, b8, b9⟩, ⟨c1, c2, c3, c4, c5, c6, c7, c8⟩, ⟨d1, d2, d3, d4, d5, d6, d7, d8, d9, d10, d11⟩⟩ := id kB
  obtain ⟨w1, w2, w3⟩ := id kW
  have eX : (st ≠ 0) → ∀ n', n ≤ n' → qt 2 (tg, ln, I, L, R, n') := by
    intro z0 n9 hn9
    refine f1 _ (fun Q T hQ => ?_)
    repeat' first
      | refine And.intro ?_ ?_
      | exact fun d y1 y2 => (by obtain ⟨s9, q1, c9, q2, q3, q4⟩ := nD.2 d.toNat (by omega); obtain ⟨q5, q6⟩ := (nD.1 s9 q1).2.2 c9 q2; obtain ⟨q7, q8⟩ := q6 (d.toNat - c9.2) (by omega); rw [show c9.2 + (d.toNat - c9.2) = d.toNat from by omega] at q8; have := nS.1 s9 q1; omega)
      | exact fun s y1 y2 => (by have := nS.1 s.toNat (by omega); omega)
      | exact fun s y1 y2 => (by have := nS.2 s.toNat (s + 1).toNat (by omega) (by omega); exact this)
      | (intro h; try omega)
      | omega
      | exact hQ _ _ _ _ rfl ⟨g, gd, ct, wk_K_n hK hn9, hM⟩
      | assumption
  have e0 : st = 0 → ∀ I2 I3, wk_sd (wm_up I 2 11 x 1) I2 g gd sg dr A sg.toNat → wk_td I2 I3 g pr pr.toNat → q none (tg, ln, I3, L, R, n) := by
    intro z0 I2 I3 z1 z2
    subst z0
    refine f0 _ (fun Q T hQ => ?_)
    repeat' first
      | refine And.intro ?_ ?_
      | exact fun d y1 y2 => (by obtain ⟨s9, q1, c9, q2, q3, q4⟩ := nD.2 d.toNat (by omega); obtain ⟨q5, q6⟩ := (nD.1 s9 q1).2.2 c9 q2; obtain ⟨q7, q8⟩ := q6 (d.toNat - c9.2) (by omega); rw [show c9.2 + (d.toNat - c9.2) = d.toNat from by omega] at q8; have := nS.1 s9 q1; omega)
      | exact fun s y1 y2 => (by have := nS.1 s.toNat (by omega); omega)
      | exact fun s y1 y2 => (by have := nS.2 s.toNat (s + 1).toNat (by omega) (by omega); exact this)
      | (intro A9 (x1 : ∀ t, t ≠ 35 → t ≠ 36 → t ≠ 46 → A9 t = mq_v0 A dr t) (x2 : A9 46 = mq_g A 46 0 pr.toNat (fun _ => 0) 46) (x3 : mq_sd A (mq_v0 A dr) A9 dr sg))
      | (intro h; try omega)
      | omega
      | exact hQ _ _ _ _ rfl (wk_st hK hM z1 z2 x1 x2 x3)
      | assumption
  refine ⟨rfl, fun mz pc lv sk h cu su => match pc with | 24 => ∃ s : Nat, ∃ I2 : wm_F Int, lv = [some (wi_rf (some x)), some (.inl ((s : Int)))] ∧ sk = [] ∧ h = (tg, ln, I2, L, R, n) ∧ cu = 0 ∧ su = 0 ∧ mz = 1000 + sg.toNat - s ∧ st = 0 ∧ (s : Int) ≤ sg ∧ wk_sd (wm_up I 2 11 x 1) I2 g gd sg dr A s | 49 => ∃ p : Nat, ∃ I2 : wm_F Int, ∃ I3 : wm_F Int, lv = [some (wi_rf (some x)), some (.inl ((p : Int)))] ∧ sk = [] ∧ h = (tg, ln, I3, L, R, n) ∧ cu = 0 ∧ su = 0 ∧ mz = pr.toNat - p ∧ st = 0 ∧ (p : Int) ≤ pr ∧ wk_sd (wm_up I 2 11 x 1) I2 g gd sg dr A sg.toNat ∧ wk_td I2 I3 g pr p | _ => False, mq_c2 (fun mz lv sk h cu su hI => ?_) (fun mz lv sk h cu su hI => ?_), ?_⟩
  · obtain ⟨s, I2, rfl, rfl, rfl, rfl, rfl, rfl, p0, p1, p2⟩ := hI
    have es : ((s : Int)).toNat = s := by omega
    obtain ⟨f1', f2', f3', f4', f5'⟩ := id p2
    have k7' : I2 2 7 x = sg := by rw [f1' 2 7 x (by decide) (by decide) (by omega), wm_up_k (by decide)]; exact k7
    by_cases hs : (s : Int) < sg
    · obtain ⟨s1, s2, s3, s4, s5, s6, s7, s8, s9, s10⟩ := kS.1 s hs
      obtain ⟨y1, y2, y3, y4, y5, y6⟩ := nS.1 s hs
      obtain ⟨nd1, nd2, nd3⟩ := nD.1 s hs
      obtain ⟨-, -, -, cs, ids, r1, r2⟩ := id kR
      have s1' : R 20 (s : Int).toNat (g 0 0) = some (g 1 s) := by rw [es]; exact s1
      have l1 : (s : Int) < ln (g 0 0) := by omega
      have i5 : ∀ j y, I2 5 j y = I 5 j y := fun j y => by rw [f1' 5 j y (by decide) (by decide) (by omega), wm_up_t (by decide)]
      have hw : I2 5 1 (g 1 s) = ((A 31 s).toNat : Int) := by rw [i5, s4]; omega
      have hw2 : (A 31 s).toNat ≤ 64 := by omega
      have i3 : I2 3 = I 3 := funext fun j => funext fun y => by rw [f1' 3 j y (by decide) (by decide) (by omega), wm_up_t (by decide)]
      have dcs : wc_dc tg ln (I2 3) (R 3) (R 22) (A 31 s).toNat (g 7) (A 37) (R 5 4 (g 1 s)) (gd s) := by rw [i3]; exact kD s hs
      have hcD : ∀ c ∈ gd s, c.2 + (A 31 s).toNat ≤ dr.toNat := fun c hc => by have := (nd3 c hc).1; omega
      have lv1 : ln (g 2 s) = (A 31 s).toNat := by omega
      have lv2 : ln (g 3 s) = (A 31 s).toNat := by omega
      have h50 : I2 5 0 (g 1 s) = A 30 s := by rw [i5]; exact s3
      have h26 : I2 5 0 (g 1 s) ≠ 2 → ∀ k : Nat, k < (A 31 s).toNat → 0 ≤ I2 26 k (g 2 s) ∧ I2 26 k (g 2 s) ≤ 8 := fun z k hk => by
        rw [f5' s (Nat.le_refl _) hs k (by omega)]
        exact nV p0 s hs (by rw [← h50]; exact z) k (by omega)
      have rt : ∀ d, d < dr.toNat → tg (g 7 d) = 4 := fun d hd => (r1.2.1 d hd).1
      have nx : ∀ I3, wc_bg I2 I3 (g 1 s) dr.toNat (g 7) (gd s) [] (g 2 s) (g 3 s) (A 31 s).toNat → wk_sd (wm_up I 2 11 x 1) I3 g gd sg dr A (s + 1) := fun I3 hb => wk_sd_s nS nD hs (fun s' x1 x2 => (kS.2 s' s x1 hs x2).2) p2 h50 hb
      repeat' first
        | refine And.intro ?_ ?_
        | refine Exists.intro _ (And.intro s1' ?_)
        | refine Exists.intro (A 31 s).toNat (Exists.intro (g 7) (Exists.intro (A 37) (Exists.intro (gd s) (Exists.intro dr.toNat (Exists.intro (g 2 s) (Exists.intro (g 3 s) (And.intro hw (And.intro hw2 (And.intro dcs (And.intro s5 (And.intro s6 (And.intro lv1 (And.intro s8 (And.intro s9 (And.intro lv2 (And.intro rt (And.intro r1.2.2.1 (And.intro hcD (And.intro nd1 (And.intro h26 ?_))))))))))))))))))))
        | (intro I9 (z9 : wc_bg I2 I9 (g 1 s) dr.toNat (g 7) (gd s) [] (g 2 s) (g 3 s) (A 31 s).toNat); have n9 := nx I9 z9)
        | refine Exists.intro _ (And.intro (show _ = _ from by assumption) ?_)
        | refine Exists.intro _ (And.intro rfl (And.intro (by assumption) ?_))
        | refine Exists.intro _ (And.intro rfl ?_)
        | (intro h; try omega)
        | omega
        | (refine Exists.intro _ (And.intro ?_ (Exists.intro (s + 1) (Exists.intro (_) (And.intro rfl (And.intro rfl (And.intro rfl (And.intro rfl (And.intro rfl (And.intro rfl (?_)))))))))) <;> first | omega | exact ⟨p0, by omega, n9⟩)
        | exact Nat.le_of_ble_eq_true rfl
        | assumption
    · have e9 : sg.toNat = s := by omega
      have p3 : wk_sd (wm_up I 2 11 x 1) I2 g gd sg dr A sg.toNat := by rw [e9]; exact p2
      have p4 : wk_td I2 I2 g pr 0 := ⟨fun _ _ _ _ => rfl, fun p' y => by omega⟩
      repeat' first
        | refine And.intro ?_ ?_
        | refine Exists.intro _ (And.intro (show _ = _ from by assumption) ?_)
        | refine Exists.intro _ (And.intro rfl (And.intro (by assumption) ?_))
        | refine Exists.intro _ (And.intro rfl ?_)
        | (intro h; try omega)
        | omega
        | (refine Exists.intro _ (And.intro ?_ (Exists.intro (0) (Exists.intro (I2) (Exists.intro (_) (And.intro rfl (And.intro rfl (And.intro rfl (And.intro rfl (And.intro rfl (And.intro rfl (?_))))))))))) <;> first | omega | exact ⟨p0, by omega, p3, p4⟩)
        | exact Nat.le_of_ble_eq_true rfl
        | assumption
  · obtain ⟨p, I2, I3, rfl, rfl, rfl, rfl, rfl, rfl, p0, p1, p2, p3⟩ := hI
    have ep : ((p : Int)).toNat = p := by omega
    have k8' : I3 2 8 x = pr := by rw [p3.1 2 8 x (by omega), p2.1 2 8 x (by decide) (by decide) (by omega), wm_up_k (by decide)]; exact k8
    by_cases hp : (p : Int) < pr
    · obtain ⟨t1, t2, t3, t4, t5, t6, t7, t8, t9⟩ := kT.1 p hp
      have t1' : R 21 (p : Int).toNat (g 0 1) = some (g 4 p) := by rw [ep]; exact t1
      have l1 : (p : Int) < ln (g 0 1) := by omega
      have n9 := wk_td_s p3
      repeat' first
        | refine And.intro ?_ ?_
        | refine Exists.intro _ (And.intro t1' ?_)
        | (intro I9 (e9 : I9 = wm_up I3 8 1 (g 4 p) 0); subst e9)
        | refine Exists.intro _ (And.intro (show _ = _ from by assumption) ?_)
        | refine Exists.intro _ (And.intro rfl (And.intro (by assumption) ?_))
        | refine Exists.intro _ (And.intro rfl ?_)
        | (intro h; try omega)
        | omega
        | (refine Exists.intro _ (And.intro ?_ (Exists.intro (p + 1) (Exists.intro (I2) (Exists.intro (_) (And.intro rfl (And.intro rfl (And.intro rfl (And.intro rfl (And.intro rfl (And.intro rfl (?_))))))))))) <;> first | omega | exact ⟨p0, by omega, p2, n9⟩)
        | exact Nat.le_of_ble_eq_true rfl
        | assumption
    · have e9 : pr.toNat = p := by omega
      have f1 := e0 p0 I2 I3 p2 (by rw [e9]; exact p3)
      repeat' first
        | refine And.intro ?_ ?_
        | refine Exists.intro _ (And.intro (show _ = _ from by assumption) ?_)
        | refine Exists.intro _ (And.intro rfl (And.intro (by assumption) ?_))
        | refine Exists.intro _ (And.intro rfl ?_)
        | (intro h; try omega)
        | omega
        | exact f1
        | exact Nat.le_of_ble_eq_true rfl
        | assumption
  · have p3 : wk_sd (wm_up I 2 11 x 1) (wm_up I 2 11 x 1) g gd sg dr A 0 := ⟨fun _ _ _ _ _ _ => rfl, fun _ _ _ => rfl, fun s' y => by omega, fun s' y => by omega, fun s' _ hs' k hk => by rw [wm_up_t (by decide)]; exact (kV s' hs' k hk).1⟩
    repeat' first
      | refine And.intro ?_ ?_
      | (intro n9 (h9 : n ≤ n9))
      | (intro I9 (e9 : I9 = wm_up I 2 11 x 1); subst e9)
      | refine Exists.intro _ (And.intro (show _ = _ from by assumption) ?_)
      | refine Exists.intro _ (And.intro rfl (And.intro (by assumption) ?_))
      | refine Exists.intro _ (And.intro rfl ?_)
      | (intro h; try omega)
      | omega
      | exact eX (by omega) _ (by assumption)
      | (refine Exists.intro _ (Exists.intro (0) (Exists.intro (_) (And.intro rfl (And.intro rfl (And.intro rfl (And.intro rfl (And.intro rfl (And.intro rfl (?_))))))))) <;> exact ⟨by omega, by omega, p3⟩)
      | exact Nat.le_of_ble_eq_true rfl
      | assumption
