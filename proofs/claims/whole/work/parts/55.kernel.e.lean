/-! THE KERNEL, 5: suspend, first, pending, projected -/
theorem wn_S_i {sg el : Int} {a30 a31 a32 : Nat → Int} (h : wn_S sg el a30 a31 a32) {s s' : Nat} {k k' : Int} (hs : (s : Int) < sg) (hs' : (s' : Int) < sg) (h1 : 0 ≤ k) (h2 : k < a31 s) (h3 : 0 ≤ k') (h4 : k' < a31 s') (e : a32 s + k = a32 s' + k') : s = s' ∧ k = k' := by
  have hss : s = s' := by
    apply Classical.byContradiction
    intro z
    rcases Nat.lt_or_gt_of_ne z with y | y
    · have := h.2 s s' y hs'
      omega
    · have := h.2 s' s y hs
      omega
  subst hss
  exact ⟨rfl, by omega⟩
theorem wl_pw {α β : Type} {f : α → β} : ∀ {l : List α}, l.Pairwise (fun a b => f a ≠ f b) → ∀ {a b : α}, a ∈ l → b ∈ l → f a = f b → a = b
  | [], _, _, _, ha, _, _ => by cases ha
  | c :: r, h, a, b, ha, hb, e => by
    obtain ⟨h1, h2⟩ := List.pairwise_cons.mp h
    rcases List.mem_cons.mp ha with ha2 | ha2
    · rcases List.mem_cons.mp hb with hb2 | hb2
      · rw [ha2, hb2]
      · rw [ha2] at e
        exact absurd e (h1 b hb2)
    · rcases List.mem_cons.mp hb with hb2 | hb2
      · rw [hb2] at e
        exact absurd e.symm (h1 a ha2)
      · exact wl_pw h2 ha2 hb2 e
theorem wc_dc_mem {tg ln : Nat → Nat} {I3 : Nat → Nat → Int} {R3 R22 : Nat → Nat → Option Nat} {w : Nat} {rw : Nat → Nat} {pp : Nat → Int} : ∀ {l : List (Nat × Nat)} {o : Option Nat}, wc_dc tg ln I3 R3 R22 w rw pp o l → ∀ {c : Nat × Nat}, c ∈ l → tg c.1 = 3 ∧ I3 0 c.1 = pp c.2 ∧ ∃ ra, R3 1 c.1 = some ra ∧ tg ra = 22 ∧ ln ra = w ∧ ∀ k, k < w → R22 k ra = some (rw (c.2 + k))
  | [], _, _, c, hc => by cases hc
  | b :: r, o, h, c, hc => by
    obtain ⟨a1, a2, a3, a4, a5⟩ := h
    rcases List.mem_cons.mp hc with rfl | hc
    · exact ⟨a2, a3, a4⟩
    · exact wc_dc_mem a5 hc
theorem wn_D_u {gd : Nat → List (Nat × Nat)} {sg dr el : Int} {a30 a31 a32 a37 a38 : Nat → Int} (h : wn_D gd sg dr a31 a32 a37 a38) (hS : wn_S sg el a30 a31 a32) {s d : Nat} {k : Int} (hs : (s : Int) < sg) (h1 : 0 ≤ k) (h2 : k < a31 s) (hd : (d : Int) < dr) (e : a38 d = a32 s + k) : ∃ c ∈ gd s, d = c.2 + k.toNat ∧ a37 d = a37 c.2 := by
  obtain ⟨s', hs', c, hc, y1, y2⟩ := h.2 d hd
  obtain ⟨g1, g2, g3⟩ := h.1 s' hs'
  obtain ⟨g4, g5⟩ := g3 c hc
  have e1 : d = c.2 + (d - c.2) := by omega
  obtain ⟨g6, g7⟩ := g5 (d - c.2) (by omega)
  rw [← e1] at g6 g7
  obtain ⟨i1, i2⟩ := wn_S_i hS hs' hs (k := ((d - c.2 : Nat) : Int)) (by omega) (by omega) h1 h2 (g7.symm.trans e)
  subst i1
  exact ⟨c, hc, by omega, g6⟩
theorem wc_va_f {t : Int} : ∀ {l : List (Int × Int)} {v : Int}, l.Pairwise (fun a b => a.1 < b.1) → wc_va t v l = l.foldl (mq_va t) v
  | [], v, _ => rfl
  | y :: r, v, h => by
    obtain ⟨h1, h2⟩ := List.pairwise_cons.mp h
    simp only [wc_va, List.foldl_cons]
    by_cases z : y.1 ≤ t
    · rw [if_pos z, show mq_va t v y = y.2 from if_pos z]
      exact wc_va_f h2
    · rw [if_neg z, show mq_va t v y = v from if_neg z]
      have : ∀ (l : List (Int × Int)) (v : Int), (∀ b ∈ l, t < b.1) → l.foldl (mq_va t) v = v := by
        intro l
        induction l with
        | nil => intro v _; rfl
        | cons b r ih =>
          intro v hb
          simp only [List.foldl_cons]
          rw [show mq_va t v b = v from if_neg (by have := hb b List.mem_cons_self; omega)]
          exact ih v (fun c hc => hb c (List.mem_cons_of_mem _ hc))
      rw [this r v (fun b hb => by have := h1 b hb; omega)]
def sc_11 (as : List wi_V) (h : wc_H) (q : wi_Q1 wc_H) (qt : wi_Q2 wc_H) : Prop := wc_sTIIJ as (fun x p a w => wc_f h fun tg ln I L R n => (a = 0 ∨ a = 1) ∧ ∃ M, wk_J (tg, ln, I, L, R, n) x M ∧ (∀ h', wk_Z sm_101 [wi_rf (some 11), .inl p, .inl a, .inr (.inl w)] M h' x 0 (fun b => b = none) → q none h') ∧ (∀ h', wk_Z sm_101 [wi_rf (some 11), .inl p, .inl a, .inr (.inl w)] M h' x 1 (fun b => b = none) → qt 3 h') ∧ (∀ h', wk_Z sm_101 [wi_rf (some 11), .inl p, .inl a, .inr (.inl w)] M h' x 2 (fun b => b = none) → qt 1 h') ∧ (∀ h', wk_Z sm_101 [wi_rf (some 11), .inl p, .inl a, .inr (.inl w)] M h' x 3 (fun b => b = none) → qt 2 h'))
theorem cm_11 {l : Launch} {D : va_G} {aC : wm_Y} {b0 : Nat} (hl0 : l.stackTraces = false) : wm_sp l D aC b0 11 (wi_lf (wc_Rl wc_ok) sc_11) := by
  refine wi_method (wc_lw wc_ok) 11 (cx := fun id => if id = 25 then sc_25 else if id = 61 then sc_61 else if id = 62 then sc_62 else fun _ _ _ _ => False) (ids := ci_11) (tb := tb_11) (by decide +kernel) hl0 (wm_cxc (cm_25 hl0) oi_11 (fun h => wm_cxc (cm_61 hl0) h (fun h => wm_cxc (cm_62 hl0) h (fun h => wm_cxn h)))) (wm_tb_ok tk_11) (by decide +kernel) [] 300 (fun as h q qt hs => ?_)
  obtain ⟨x, p, a, w, rfl, hs1⟩ := wc_sTIIJ_e hs
  clear hs
  obtain ⟨tg, ln, I, L, R, n⟩ := h
  have hs := id hs1
  clear hs1
  simp only [wc_f] at hs
  refine ⟨rfl, fun _ _ _ _ _ _ _ => False, mq_nc, ?_⟩
  obtain ⟨hprem, hs⟩ := hs
  obtain ⟨M, hJ, f0, f1, f2, f3⟩ := hs
  obtain ⟨cd, lm, st, sg, el, dr, sz, pr, wc, sp, nw, A, B, rfl, g, gd, ct, hK, hM⟩ := mq_f_e hJ
  clear hJ
  obtain ⟨nR, nS, nD, nC, nV, nT, nW, nO, nQ, nZ⟩ := id hM
  obtain ⟨⟨u1, u2, u3⟩, ⟨u4, u5, u6, u7, u8, u9, u10, u11⟩, ⟨u12, u13, u14, u15, u16, u17, u18, u19⟩⟩ := id nR
  obtain ⟨hn, kN, kB, kS, kA, kV, kD, kR, kT, kU, kX1, kX2, kX3, kW⟩ := id hK
  obtain ⟨k0, k7, k8, k9, k10, k11, k12, k13⟩ := id kN
  obtain ⟨⟨b1, b2, b3, b4, b5, b6, b7, b8, b9⟩, ⟨c1, c2, c3, c4, c5, c6, c7, c8⟩, ⟨d1, d2, d3, d4, d5, d6, d7, d8, d9, d10, d11⟩⟩ := id kB
  obtain ⟨w1, w2, w3⟩ := id kW
  have eX : (p < 0 ∨ pr ≤ p) → ∀ n', n ≤ n' → qt 3 (tg, ln, I, L, R, n') := by
    intro z0 n9 hn9
    refine f1 _ (fun Q T hQ => ?_)
    repeat' first
      | refine And.intro ?_ ?_
      | exact fun j y1 y2 => nO j.toNat (by omega)
      | (intro h; try omega)
      | omega
      | exact hQ _ _ _ _ rfl ⟨g, gd, ct, wk_K_n hK hn9, hM⟩
      | assumption
  have eY : (0 ≤ p ∧ p < pr ∧ (w < -1 ∨ 1152921504606846976 - nw < w)) → ∀ n', n ≤ n' → qt 1 (tg, ln, I, L, R, n') := by
    intro z0 n9 hn9
    refine f2 _ (fun Q T hQ => ?_)
    repeat' first
      | refine And.intro ?_ ?_
      | exact fun j y1 y2 => nO j.toNat (by omega)
      | (intro h; try omega)
      | omega
      | exact hQ _ _ _ _ rfl ⟨g, gd, ct, wk_K_n hK hn9, hM⟩
      | assumption
  by_cases hp : 0 ≤ p ∧ p < pr
  · obtain ⟨t1, t2, t3, t4, t5, t6, t7, t8, t9⟩ := kT.1 p.toNat (by omega)
    obtain ⟨v1, v2, v3⟩ := kU p.toNat (by omega)
    have ti : ∀ p' : Nat, (p' : Int) < pr → p' ≠ p.toNat → g 4 p' ≠ g 4 p.toNat ∧ g 6 p' ≠ g 6 p.toNat := fun p' y1 y2 => kT.2 p' p.toNat y1 (by omega) y2
    have eZ : (-1 ≤ w ∧ w ≤ 1152921504606846976 - nw ∧ A 46 p.toNat ≠ 0) → ∀ n', n ≤ n' → qt 2 (tg, ln, I, L, R, n') := by
      intro z0 n9 hn9
      refine f3 _ (fun Q T hQ => ?_)
      repeat' first
        | refine And.intro ?_ ?_
        | exact fun j y1 y2 => nO j.toNat (by omega)
        | (intro h; try omega)
        | omega
        | exact hQ _ _ _ _ rfl ⟨g, gd, ct, wk_K_n hK hn9, hM⟩
        | assumption
    have e0 : -1 ≤ w → w ≤ 1152921504606846976 - nw → A 46 p.toNat = 0 → ∀ u : Int, (w < 0 → u = -1) → (0 ≤ w → u = nw + w) → ∀ L1 L2, (∀ t j y, t ≠ 25 ∨ y ≠ g 6 p.toNat → L1 t j y = wm_up L 8 3 (g 4 p.toNat) u t j y) → (∀ s, s < 256 → wc_bi L1 (g 6 p.toNat) s = wc_bi (wm_up L 8 3 (g 4 p.toNat) u) (g 0 7) s) → (∀ t j y, t ≠ 25 ∨ y ≠ g 0 7 → L2 t j y = L1 t j y) → (∀ s, s < 256 → wc_bi L2 (g 0 7) s = false) → q none (tg, ln, wm_up (wm_up I 8 1 (g 4 p.toNat) 1) 8 2 (g 4 p.toNat) a, L2, R, n) := by
      intro z1 z2 z3 u hu1 hu2 L1 L2 h1 h2 h3 h4
      refine f0 _ (fun Q T hQ => ?_)
      have lt : ∀ t, t ≠ 25 → L2 t = wm_up L 8 3 (g 4 p.toNat) u t := fun t ht => funext fun j => funext fun y => (h3 t j y (Or.inl ht)).trans (h1 t j y (Or.inl ht))
      have l25 : ∀ j y, y ≠ g 0 7 → y ≠ g 6 p.toNat → L2 25 j y = L 25 j y := fun j y y1 y2 => by
        rw [h3 25 j y (Or.inr y1), h1 25 j y (Or.inr y2), wm_up_t (by decide)]
      have b6 : ∀ s, s < 256 → (wc_bt (L2 25 (s / 64) (g 6 p.toNat)) (s % 64) = true ↔ wk_e1 (A 50) s) := fun s hs => by
        have e1 : wc_bt (L2 25 (s / 64) (g 6 p.toNat)) (s % 64) = wc_bi L1 (g 6 p.toNat) s := by
          rw [h3 25 _ _ (Or.inr t8)]
          rfl
        have e2 : wc_bi (wm_up L 8 3 (g 4 p.toNat) u) (g 0 7) s = wc_bt (L 25 (s / 64) (g 0 7)) (s % 64) := by
          unfold wc_bi
          rw [wm_up_t (by decide)]
        rw [e1, h2 s hs, e2]
        exact kX1 s hs
      have A49 : ∀ (p' s : Nat), s < 200 → mq_g (mq_g (md_u (md_u A 46 p.toNat 1) 47 p.toNat a) 49 (200 * p).toNat 200 (fun k => A 50 (k - (200 * p).toNat))) 50 0 200 (fun _ => 0) 49 (200 * p' + s) = if p' = p.toNat then A 50 s else A 49 (200 * p' + s) := fun p' s hs => by
        rw [mq_g_t (by decide)]
        by_cases z : p' = p.toNat
        · rw [if_pos z, mq_g_i (by omega) (by omega)]
          congr 1
          omega
        · rw [if_neg z, mq_g_o (by omega), md_u_t (by decide), md_u_t (by decide)]
      have hJ : wk_J (tg, ln, wm_up (wm_up I 8 1 (g 4 p.toNat) 1) 8 2 (g 4 p.toNat) a, L2, R, n) x ([0, lm, st, sg, el, dr, sz, pr, wc, sp, nw], mq_g (mq_g (md_u (md_u A 46 p.toNat 1) 47 p.toNat a) 49 (200 * p).toNat 200 (fun k => A 50 (k - (200 * p).toNat))) 50 0 200 (fun _ => 0), md_u B 48 p.toNat u) := by
        refine ⟨g, gd, ct, ⟨?_, ?_, ?_, ?_, ?_, ?_, ?_, ?_, ?_, ?_, ?_, ?_, ?_, ?_⟩, ⟨?_, ?_, ?_, ?_, ?_, ?_, ?_, ?_, ?_, ?_⟩⟩
        · first | exact hn | (simp (disch := decide) only [wm_up_t, wm_up_k, md_u_t, mq_g_t]; exact hn)
        · rw [lt 2 (by decide)]; simp (disch := decide) only [wm_up_t, wm_up_k, md_u_t, mq_g_t]; exact kN
        · first | exact kB | (simp (disch := decide) only [wm_up_t, wm_up_k, md_u_t, mq_g_t]; exact kB)
        · first | exact kS | (simp (disch := decide) only [wm_up_t, wm_up_k, md_u_t, mq_g_t]; exact kS)
        · first | exact kA | (simp (disch := decide) only [wm_up_t, wm_up_k, md_u_t, mq_g_t]; exact kA)
        · first | exact kV | (simp (disch := decide) only [wm_up_t, wm_up_k, md_u_t, mq_g_t]; exact kV)
        · first | exact kD | (simp (disch := decide) only [wm_up_t, wm_up_k, md_u_t, mq_g_t]; exact kD)
        · exact wc_rv_x (wc_rv_e (Nat.le_refl _) ⟨by simp (disch := decide) only [wm_up_t, wm_up_k, md_u_t, mq_g_t], by simp (disch := decide) only [wm_up_t, wm_up_k, md_u_t, mq_g_t], by simp (disch := decide) only [wm_up_t, wm_up_k, md_u_t, mq_g_t], by rw [lt 9 (by decide)]; simp (disch := decide) only [wm_up_t, wm_up_k, md_u_t, mq_g_t], rfl, rfl, rfl⟩ kR) (fun d hd => ⟨by simp (disch := decide) only [wm_up_t, wm_up_k, md_u_t, mq_g_t], rfl⟩)
        · first | exact kT | (simp (disch := decide) only [wm_up_t, wm_up_k, md_u_t, mq_g_t]; exact kT)
        · rw [lt 8 (by decide)]
          intro p' hp'
          obtain ⟨q1, q2, q3⟩ := kU p' hp'
          simp (disch := decide) only [mq_g_t]
          by_cases z : p' = p.toNat
          · rw [z]
            refine ⟨?_, ?_, ?_⟩
            · rw [wm_up_k (by decide), wm_up_self, md_u_t (by decide), md_u_s]
            · rw [wm_up_self, md_u_s]
            · rw [wm_up_self, md_u_s]
          · have y := (ti p' hp' z).1
            rw [wm_up_q y, wm_up_q y, wm_up_q y, wm_up_q y, wm_up_q y, md_u_t (by decide), md_u_k z, md_u_k z, md_u_t (by decide), md_u_k z]
            exact ⟨q1, q2, q3⟩
        · intro s hs
          have e9 : wc_bt (L2 25 (s / 64) (g 0 7)) (s % 64) = false := h4 s hs
          rw [e9]
          refine ⟨fun z => (by cases z), fun z => ?_⟩
          obtain ⟨z1, z2⟩ := z
          exact absurd (mq_g_i (Nat.zero_le _) (by omega)) z2
        · simp (disch := decide) only [wm_up_t, wm_up_k, md_u_t, mq_g_t]
          exact fun s hs => by rw [l25 _ _ (Ne.symm d11) (Ne.symm t9)]; exact kX2 s hs
        · intro p' hp' s hs
          by_cases z : p' = p.toNat
          · rw [z, b6 s hs]
            unfold wk_e1 wk_e3
            constructor
            · intro y
              refine ⟨y.1, ?_⟩
              rw [A49 p.toNat s y.1, if_pos rfl]
              exact y.2
            · intro y
              have y2 := y.2
              rw [A49 p.toNat s y.1, if_pos rfl] at y2
              exact ⟨y.1, y2⟩
          · rw [l25 _ _ (kT.1 p' hp').2.2.2.2.2.2.2.1 (ti p' hp' z).2, kX3 p' hp' s hs]
            unfold wk_e3
            constructor
            · intro y
              refine ⟨y.1, ?_⟩
              rw [A49 p' s y.1, if_neg z]
              exact y.2
            · intro y
              have y2 := y.2
              rw [A49 p' s y.1, if_neg z] at y2
              exact ⟨y.1, y2⟩
        · rw [lt 23 (by decide)]; simp (disch := decide) only [wm_up_t, wm_up_k, md_u_t, mq_g_t]; exact kW
        · first | exact nR | (simp (disch := decide) only [wm_up_t, wm_up_k, md_u_t, mq_g_t]; exact nR)
        · first | exact nS | (simp (disch := decide) only [wm_up_t, wm_up_k, md_u_t, mq_g_t]; exact nS)
        · first | exact nD | (simp (disch := decide) only [wm_up_t, wm_up_k, md_u_t, mq_g_t]; exact nD)
        · first | exact nC | (simp (disch := decide) only [wm_up_t, wm_up_k, md_u_t, mq_g_t]; exact nC)
        · first | exact nV | (simp (disch := decide) only [wm_up_t, wm_up_k, md_u_t, mq_g_t]; exact nV)
        · intro p' hp'
          obtain ⟨q1, q2, q3⟩ := nT p' hp'
          simp (disch := decide) only [mq_g_t]
          by_cases z : p' = p.toNat
          · rw [z, md_u_s, md_u_s, md_u_t (by decide), md_u_s]
            exact ⟨by omega, hprem, by omega, by omega⟩
          · rw [md_u_t (by decide), md_u_k z, md_u_k z, md_u_t (by decide), md_u_k z]
            exact ⟨q1, q2, q3⟩
        · first | exact nW | (simp (disch := decide) only [wm_up_t, wm_up_k, md_u_t, mq_g_t]; exact nW)
        · exact fun j hj => Or.inl (mq_g_i (Nat.zero_le _) (by omega))
        · exact wn_Q_e nQ (by first | rfl | simp (disch := decide) only [wm_up_t, wm_up_k, md_u_t, mq_g_t]) (by first | rfl | simp (disch := decide) only [wm_up_t, wm_up_k, md_u_t, mq_g_t]) (by first | rfl | simp (disch := decide) only [wm_up_t, wm_up_k, md_u_t, mq_g_t])
        · refine ⟨?_, fun z => ?_⟩
          · simp (disch := decide) only [mq_g_t, md_u_t]
            exact nZ.1
          · obtain ⟨z1, z2, z3, z4⟩ := nZ.2 z
            simp (disch := decide) only [mq_g_t (t := 50), mq_g_t (t := 49) (t' := 33), mq_g_t (t := 49) (t' := 34), mq_g_t (t := 49) (t' := 35), mq_g_t (t := 49) (t' := 36), mq_g_t (t := 49) (t' := 39), mq_g_t (t := 49) (t' := 47), md_u_t (t := 46), md_u_t (t := 47) (t' := 33), md_u_t (t := 47) (t' := 34), md_u_t (t := 47) (t' := 35), md_u_t (t := 47) (t' := 36), md_u_t (t := 47) (t' := 39)]
            refine ⟨z1, z2, z3, fun p' hp' => ⟨?_, fun s' hs' => ?_⟩⟩
            · rw [md_u_k (by omega), md_u_t (by decide)]
              exact (z4 p' hp').1
            · have := A49 p' s' hs'
              rw [if_neg (by omega), mq_g_t (by decide)] at this
              rw [this]
              exact (z4 p' hp').2 s' hs'
      repeat' first
        | refine And.intro ?_ ?_
        | exact fun j y1 y2 => nO j.toNat (by omega)
        | (intro (u9 : Int) (x1 : w < 0 → u9 = -1) x2)
        | (intro h; try omega)
        | omega
        | (have e9 : u9 = u := (by omega); rw [e9]; exact hQ _ _ _ _ rfl hJ)
        | assumption
    repeat' first
      | refine And.intro ?_ ?_
      | (intro n9 (h9 : n ≤ n9))
      | (intro L9 (hL9 : ∀ t j y, t ≠ 25 ∨ y ≠ g 6 p.toNat → L9 t j y = wm_up L 8 3 (g 4 p.toNat) _ t j y) hb9)
      | (intro L10 (hL10 : ∀ t j y, t ≠ 25 ∨ y ≠ g 0 7 → L10 t j y = L9 t j y) hb10)
      | (intro I3 (e3 : I3 = wm_up I 8 1 (g 4 p.toNat) 1); subst e3)
      | (intro I3 (e3 : I3 = wm_up (wm_up I 8 1 (g 4 p.toNat) 1) 8 2 (g 4 p.toNat) a); subst e3)
      | (intro L3 (e3 : L3 = wm_up L 8 3 (g 4 p.toNat) _); subst e3)
      | refine Exists.intro _ (And.intro (show _ = _ from by assumption) ?_)
      | refine Exists.intro _ (And.intro rfl (And.intro (by assumption) ?_))
      | refine Exists.intro _ (And.intro rfl ?_)
      | (intro h; try omega)
      | omega
      | exact eX (by omega) _ (by assumption)
      | exact eY (by omega) _ (by assumption)
      | exact eZ (by omega) _ (by assumption)
      | exact e0 (by omega) (by omega) (by omega) (-1) (fun _ => rfl) (fun z => by omega) L9 L10 hL9 hb9 hL10 hb10
      | exact e0 (by omega) (by omega) (by omega) (L 2 12 x + w) (fun z => by omega) (fun z => by omega) L9 L10 hL9 hb9 hL10 hb10
      | exact Nat.le_of_ble_eq_true rfl
      | assumption
  · repeat' first
      | refine And.intro ?_ ?_
      | (intro n9 (h9 : n ≤ n9))
      | refine Exists.intro _ (And.intro (show _ = _ from by assumption) ?_)
      | refine Exists.intro _ (And.intro rfl (And.intro (by assumption) ?_))
      | refine Exists.intro _ (And.intro rfl ?_)
      | (intro h; try omega)
      | omega
      | exact eX (by omega) _ (by assumption)
      | exact Nat.le_of_ble_eq_true rfl
      | assumption
def sc_4 (as : List wi_V) (h : wc_H) (q : wi_Q1 wc_H) (qt : wi_Q2 wc_H) : Prop := wc_sTIII as (fun x s k v => wc_f h fun tg ln I L R n => ∃ M, wk_J (tg, ln, I, L, R, n) x M ∧ (∀ h', wk_Z sm_89 [wi_rf (some 11), .inl s, .inl k, .inl v] M h' x 0 (fun b => b = none) → q none h') ∧ (∀ h', wk_Z sm_89 [wi_rf (some 11), .inl s, .inl k, .inl v] M h' x 1 (fun b => b = none) → qt 3 h') ∧ (∀ h', wk_Z sm_89 [wi_rf (some 11), .inl s, .inl k, .inl v] M h' x 2 (fun b => b = none) → qt 1 h') ∧ (∀ h', wk_Z sm_89 [wi_rf (some 11), .inl s, .inl k, .inl v] M h' x 3 (fun b => b = none) → qt 2 h'))
theorem cm_4 {l : Launch} {D : va_G} {aC : wm_Y} {b0 : Nat} (hl0 : l.stackTraces = false) : wm_sp l D aC b0 4 (wi_lf (wc_Rl wc_ok) sc_4) := by
  refine wi_method (wc_lw wc_ok) 4 (cx := fun id => if id = 26 then sc_26 else if id = 27 then sc_27 else if id = 49 then sc_49 else fun _ _ _ _ => False) (ids := ci_4) (tb := tb_4) (by decide +kernel) hl0 (wm_cxc (cm_26 hl0) oi_4 (fun h => wm_cxc (cm_27 hl0) h (fun h => wm_cxc (cm_49 hl0) h (fun h => wm_cxn h)))) (wm_tb_ok tk_4) (by decide +kernel) [] 300 (fun as h q qt hs => ?_)
  obtain ⟨x, s, k, v, rfl, hs1⟩ := wc_sTIII_e hs
  clear hs
  obtain ⟨tg, ln, I, L, R, n⟩ := h
  have hs := id hs1
  clear hs1
  simp only [wc_f] at hs
  refine ⟨rfl, fun _ _ _ _ _ _ _ => False, mq_nc, ?_⟩
  obtain ⟨M, hJ, f0, f1, f2, f3⟩ := hs
  obtain ⟨cd, lm, st, sg, el, dr, sz, pr, wc, sp, nw, A, B, rfl, g, gd, ct, hK, hM⟩ := mq_f_e hJ
  clear hJ
  obtain ⟨nR, nS, nD, nC, nV, nT, nW, nO, nQ, nZ⟩ := id hM
  obtain ⟨⟨u1, u2, u3⟩, ⟨u4, u5, u6, u7, u8, u9, u10, u11⟩, ⟨u12, u13, u14, u15, u16, u17, u18, u19⟩⟩ := id nR
  obtain ⟨hn, kN, kB, kS, kA, kV, kD, kR, kT, kU, kX1, kX2, kX3, kW⟩ := id hK
  obtain ⟨k0, k7, k8, k9, k10, k11, k12, k13⟩ := id kN
  obtain ⟨⟨b1, b2, b3, b4, b5, b6, b7, b8, b9⟩, ⟨c1, c2, c3, c4, c5, c6, c7, c8⟩, ⟨d1, d2, d3, d4, d5, d6, d7, d8, d9, d10, d11⟩⟩ := id kB
  obtain ⟨w1, w2, w3⟩ := id kW
  have eX : (s < 0 ∨ sg ≤ s ∨ (0 ≤ s ∧ s < sg ∧ (k < 0 ∨ A 31 s.toNat ≤ k))) → ∀ n', n ≤ n' → qt 3 (tg, ln, I, L, R, n') := by
    intro z0 n9 hn9
    refine f1 _ (fun Q T hQ => ?_)
    repeat' first
      | refine And.intro ?_ ?_
      | exact wn_S_2 nS u7
      | (intro h; try omega)
      | omega
      | exact hQ _ _ _ _ rfl ⟨g, gd, ct, wk_K_n hK hn9, hM⟩
      | assumption
  by_cases hp : 0 ≤ s ∧ s < sg
  · obtain ⟨s1, s2, s3, s4, s5, s6, s7, s8, s9, s10⟩ := kS.1 s.toNat (by omega)
    obtain ⟨y1, y2, y3, y4, y5, y6⟩ := nS.1 s.toNat (by omega)
    by_cases hk : 0 ≤ k ∧ k < A 31 s.toNat
    · have l1 : k < ln (g 2 s.toNat) := by omega
      have eY : (A 30 s.toNat ≠ 2 ∧ (v < 0 ∨ 8 < v)) → ∀ n', n ≤ n' → qt 1 (tg, ln, I, L, R, n') := by
        intro z0 n9 hn9
        refine f2 _ (fun Q T hQ => ?_)
        repeat' first
          | refine And.intro ?_ ?_
          | exact wn_S_2 nS u7
          | (intro h; try omega)
          | omega
          | exact hQ _ _ _ _ rfl ⟨g, gd, ct, wk_K_n hK hn9, hM⟩
          | assumption
      have eZ : ((A 30 s.toNat = 2 ∨ (0 ≤ v ∧ v ≤ 8)) ∧ st ≠ 0) → ∀ n', n ≤ n' → qt 2 (tg, ln, I, L, R, n') := by
        intro z0 n9 hn9
        refine f3 _ (fun Q T hQ => ?_)
        repeat' first
          | refine And.intro ?_ ?_
          | exact wn_S_2 nS u7
          | (intro h; try omega)
          | omega
          | exact hQ _ _ _ _ rfl ⟨g, gd, ct, wk_K_n hK hn9, hM⟩
          | assumption
      have e0 : (A 30 s.toNat = 2 ∨ (0 ≤ v ∧ v ≤ 8)) → st = 0 → q none (tg, ln, wm_up I 26 k.toNat (g 2 s.toNat) v, L, R, n) := by
        intro z0 z1
        refine f0 _ (fun Q T hQ => ?_)
        have ii : ∀ (s' k' : Nat), (s' : Int) < sg → (k' : Int) < A 31 s' → (A 32 s' + k').toNat = (A 32 s.toNat + k).toNat → s' = s.toNat ∧ k' = k.toNat := fun s' k' h1 h2 h3 => by
          have g5 := (nS.1 s' h1).2.2.2.2.1
          obtain ⟨i1, i2⟩ := wn_S_i nS h1 (s' := s.toNat) (by omega) (k := (k' : Int)) (k' := k) (by omega) h2 hk.1 hk.2 (by omega)
          exact ⟨i1, by omega⟩
        have hJ : wk_J (tg, ln, wm_up I 26 k.toNat (g 2 s.toNat) v, L, R, n) x ([0, lm, st, sg, el, dr, sz, pr, wc, sp, nw], md_u A 35 (A 32 s.toNat + k).toNat v, B) := by
          refine ⟨g, gd, ct, ⟨?_, ?_, ?_, ?_, ?_, ?_, ?_, ?_, ?_, ?_, ?_, ?_, ?_, ?_⟩, ⟨?_, ?_, ?_, ?_, ?_, ?_, ?_, ?_, ?_, ?_⟩⟩
          · first | exact hn | (simp (disch := decide) only [wm_up_t, wm_up_k, md_u_t, mq_g_t]; exact hn)
          · first | exact kN | (simp (disch := decide) only [wm_up_t, wm_up_k, md_u_t, mq_g_t]; exact kN)
          · first | exact kB | (simp (disch := decide) only [wm_up_t, wm_up_k, md_u_t, mq_g_t]; exact kB)
          · first | exact kS | (simp (disch := decide) only [wm_up_t, wm_up_k, md_u_t, mq_g_t]; exact kS)
          · first | exact kA | (simp (disch := decide) only [wm_up_t, wm_up_k, md_u_t, mq_g_t]; exact kA)
          · simp (disch := decide) only [wm_up_t, md_u_t]
            intro s' hs' k' hk'
            obtain ⟨q1, q2⟩ := kV s' hs' k' hk'
            refine ⟨?_, q2⟩
            by_cases z : s' = s.toNat ∧ k' = k.toNat
            · rw [z.1, z.2, wm_up_self, Int.toNat_of_nonneg hk.1, md_u_s]
            · rw [md_u_k (fun y => z (ii s' k' hs' hk' y))]
              by_cases z2 : s' = s.toNat
              · rw [wm_up_k (fun y => z ⟨z2, y⟩)]
                exact q1
              · rw [wm_up_q (kS.2 s' s.toNat hs' (by omega) z2).2.1]
                exact q1
          · first | exact kD | (simp (disch := decide) only [wm_up_t, wm_up_k, md_u_t, mq_g_t]; exact kD)
          · exact wc_rv_x (wc_rv_e (Nat.le_refl _) (by refine ⟨?_, ?_, ?_, ?_, ?_, ?_, ?_⟩ <;> first | rfl | simp (disch := decide) only [wm_up_t, wm_up_k, md_u_t, mq_g_t]) kR) (fun d hd => ⟨by first | rfl | simp (disch := decide) only [wm_up_t, wm_up_k, md_u_t, mq_g_t], rfl⟩)
          · first | exact kT | (simp (disch := decide) only [wm_up_t, wm_up_k, md_u_t, mq_g_t]; exact kT)
          · first | exact kU | (simp (disch := decide) only [wm_up_t, wm_up_k, md_u_t, mq_g_t]; exact kU)
          · first | exact kX1 | (simp (disch := decide) only [wm_up_t, wm_up_k, md_u_t, mq_g_t]; exact kX1)
          · first | exact kX2 | (simp (disch := decide) only [wm_up_t, wm_up_k, md_u_t, mq_g_t]; exact kX2)
          · first | exact kX3 | (simp (disch := decide) only [wm_up_t, wm_up_k, md_u_t, mq_g_t]; exact kX3)
          · first | exact kW | (simp (disch := decide) only [wm_up_t, wm_up_k, md_u_t, mq_g_t]; exact kW)
          · first | exact nR | (simp (disch := decide) only [wm_up_t, wm_up_k, md_u_t, mq_g_t]; exact nR)
          · first | exact nS | (simp (disch := decide) only [wm_up_t, wm_up_k, md_u_t, mq_g_t]; exact nS)
          · first | exact nD | (simp (disch := decide) only [wm_up_t, wm_up_k, md_u_t, mq_g_t]; exact nD)
          · first | exact nC | (simp (disch := decide) only [wm_up_t, wm_up_k, md_u_t, mq_g_t]; exact nC)
          · simp (disch := decide) only [md_u_t]
            intro _ s' hs' h2 k' hk'
            by_cases z : s' = s.toNat ∧ k' = k.toNat
            · rw [z.1] at h2
              rw [z.1, z.2, Int.toNat_of_nonneg hk.1, md_u_s]
              exact z0.resolve_left h2
            · rw [md_u_k (fun y => z (ii s' k' hs' hk' y))]
              exact nV z1 s' hs' h2 k' hk'
          · first | exact nT | (simp (disch := decide) only [wm_up_t, wm_up_k, md_u_t, mq_g_t]; exact nT)
          · first | exact nW | (simp (disch := decide) only [wm_up_t, wm_up_k, md_u_t, mq_g_t]; exact nW)
          · first | exact nO | (simp (disch := decide) only [wm_up_t, wm_up_k, md_u_t, mq_g_t]; exact nO)
          · exact wn_Q_e nQ (by first | rfl | simp (disch := decide) only [wm_up_t, wm_up_k, md_u_t, mq_g_t]) (by first | rfl | simp (disch := decide) only [wm_up_t, wm_up_k, md_u_t, mq_g_t]) (by first | rfl | simp (disch := decide) only [wm_up_t, wm_up_k, md_u_t, mq_g_t])
          · refine ⟨?_, fun z => ?_⟩
            · simp (disch := decide) only [md_u_t]
              exact nZ.1
            · obtain ⟨q1, q2, q3, q4⟩ := nZ.2 z
              simp (disch := decide) only [md_u_t]
              refine ⟨q1, fun j hj => ⟨?_, (q2 j hj).2⟩, q3, q4⟩
              rw [md_u_k (by omega)]
              exact (q2 j hj).1
        repeat' first
          | refine And.intro ?_ ?_
          | exact wn_S_2 nS u7
          | (intro h; try omega)
          | omega
          | exact hQ _ _ _ _ rfl hJ
          | assumption
      repeat' first
        | refine And.intro ?_ ?_
        | (intro n9 (h9 : n ≤ n9))
        | (intro I3 (e3 : I3 = wm_up I 26 k.toNat (g 2 s.toNat) v); subst e3)
        | refine Exists.intro _ (And.intro (show _ = _ from by assumption) ?_)
        | refine Exists.intro _ (And.intro rfl (And.intro (by assumption) ?_))
        | refine Exists.intro _ (And.intro rfl ?_)
        | (intro h; try omega)
        | omega
        | exact eX (by omega) _ (by assumption)
        | exact eY (by omega) _ (by assumption)
        | exact eZ (by omega) _ (by assumption)
        | exact e0 (by omega) (by omega)
        | exact Nat.le_of_ble_eq_true rfl
        | assumption
    · repeat' first
        | refine And.intro ?_ ?_
        | (intro n9 (h9 : n ≤ n9))
        | refine Exists.intro _ (And.intro (show _ = _ from by assumption) ?_)
        | refine Exists.intro _ (And.intro rfl (And.intro (by assumption) ?_))
        | refine Exists.intro _ (And.intro rfl ?_)
        | (intro h; try omega)
        | omega
        | exact eX (by omega) _ (by assumption)
        | exact Nat.le_of_ble_eq_true rfl
        | assumption
  · repeat' first
      | refine And.intro ?_ ?_
      | (intro n9 (h9 : n ≤ n9))
      | refine Exists.intro _ (And.intro (show _ = _ from by assumption) ?_)
      | refine Exists.intro _ (And.intro rfl (And.intro (by assumption) ?_))
      | refine Exists.intro _ (And.intro rfl ?_)
      | (intro h; try omega)
      | omega
      | exact eX (by omega) _ (by assumption)
      | exact Nat.le_of_ble_eq_true rfl
      | assumption
