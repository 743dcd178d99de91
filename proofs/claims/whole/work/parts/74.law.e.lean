/-! THE LAW, 5: what stays between its calls -/
theorem wk_J_g {tg ln tg' ln' : Nat → Nat} {I L I' L' : wm_F Int} {R R' : wm_F (Option Nat)} {n n' x : Nat} {M : mq_H} (hn' : ∀ q, tg' q ≠ 0 → q < n') (hnn : n ≤ n') (ht : ∀ q, tg q ≠ 0 → tg' q = tg q ∧ ln' q = ln q) (h : ∀ t, t < 28 → t ≠ 11 → I' t = I t ∧ L' t = L t ∧ R' t = R t) (k : wk_J (tg, ln, I, L, R, n) x M) : wk_J (tg', ln', I', L', R', n') x M := by
  obtain ⟨cd, lm, st, sg, el, dr, sz, pr, wc, sp, nw, A, B, rfl, g, gd, ct, hK, hM⟩ := mq_f_e (wk_J_c (I' := I') (L' := L') (R' := R') h k)
  refine ⟨g, gd, ct, ?_, hM⟩
  obtain ⟨hn, kN, kB, kS, kA, kV, kD, kR, kT, kU, kX1, kX2, kX3, kW⟩ := id hK
  have T : ∀ q t, t ≠ 0 → tg q = t → tg' q = t := fun q t h0 e => (ht q (by rw [e]; exact h0)).1.trans e
  have N : ∀ q t k, t ≠ 0 → tg q = t → ln q = k → ln' q = k := fun q t k h0 e e2 => (ht q (by rw [e]; exact h0)).2.trans e2
  have N2 : ∀ q t (k : Int), t ≠ 0 → tg q = t → (ln q : Int) = k → (ln' q : Int) = k := fun q t k h0 e e2 => by rw [(ht q (by rw [e]; exact h0)).2]; exact e2
  refine ⟨hn', kN, ?_, ?_, kA, kV, ?_, ?_, ?_, kU, kX1, kX2, kX3, kW⟩
  · obtain ⟨⟨b1, b2, b3, b4, b5, b6, b7, b8, b9⟩, ⟨c1, c2, c3, c4, c5, c6, c7, c8⟩, ⟨d1, d2, d3, d4, d5, d6, d7, d8, d9, d10, d11⟩⟩ := id kB
    exact ⟨⟨T _ _ (by decide) b1, b2, T _ _ (by decide) b3, N _ _ _ (by decide) b3 b4, b5, T _ _ (by decide) b6, N _ _ _ (by decide) b6 b7, b8, T _ _ (by decide) b9⟩, ⟨c1, T _ _ (by decide) c2, c3, T _ _ (by decide) c4, N _ _ _ (by decide) c4 c5, c6, T _ _ (by decide) c7, N _ _ _ (by decide) c7 c8⟩, ⟨d1, T _ _ (by decide) d2, d3, T _ _ (by decide) d4, N _ _ _ (by decide) d4 d5, d6, T _ _ (by decide) d7, d8, T _ _ (by decide) d9, N _ _ _ (by decide) d9 d10, d11⟩⟩
  · refine ⟨fun s hs => ?_, kS.2⟩
    obtain ⟨s1, s2, s3, s4, s5, s6, s7, s8, s9, s10⟩ := kS.1 s hs
    exact ⟨s1, T _ _ (by decide) s2, s3, s4, s5, T _ _ (by decide) s6, N2 _ _ _ (by decide) s6 s7, s8, T _ _ (by decide) s9, N2 _ _ _ (by decide) s9 s10⟩
  · exact fun s hs => wk_dc_m ht (fun q _ => ⟨rfl, rfl, rfl, fun _ => rfl⟩) (fun c _ => rfl) (kD s hs)
  · obtain ⟨a1, a2, a3, cs, ids, a4, a5⟩ := kR
    exact ⟨Nat.lt_of_lt_of_le a1 hnn, fun d hd => Nat.lt_of_lt_of_le (a2 d hd) hnn, a3, cs, ids, wc_rk_m (h := (tg, ln, I', L', R', n)) (h' := (tg', ln', I', L', R', n')) hnn (fun q hq => (ht q hq).1) (fun q hq => ⟨rfl, rfl, rfl, rfl, rfl⟩) a4, a5⟩
  · refine ⟨fun p hp => ?_, kT.2⟩
    obtain ⟨t1, t2, t3, t4, t5, t6, t7, t8, t9⟩ := kT.1 p hp
    exact ⟨t1, T _ _ (by decide) t2, t3, T _ _ (by decide) t4, t5, T _ _ (by decide) t6, N _ _ _ (by decide) t6 t7, t8, t9⟩
/-- the model, the out array and the script -/
def wl_Q (b Lw m out : Nat) (ad : Nat → Nat) (M : mq_H) (h : wc_H) : Prop := wl_R h m ad M ∧ (h.1 out = 28 ∧ h.2.1 out = 1) ∧ h.1 b = 1 ∧ h.2.1 b = Lw
theorem wl_Q_g {b Lw m out : Nat} {ad : Nat → Nat} {M : mq_H} {h h' : wc_H} (k : wl_Q b Lw m out ad M h) (hn : wc_hn h) (g : wc_G wc_ok h h') : wl_Q b Lw m out ad M h' ∧ h'.2.2.1 1 = h.2.2.1 1 := by
  obtain ⟨k1, ⟨k2, k3⟩, k4, k5⟩ := k
  obtain ⟨-, g2, g3, g4⟩ := id g
  have o1 := g3 out (hn out (by rw [k2]; decide))
  have o2 := g3 b (hn b (by rw [k4]; decide))
  exact ⟨⟨wl_R_c k1 hn g, ⟨o1.1.trans k2, o1.2.trans k3⟩, o2.1.trans k4, o2.2.trans k5⟩, (g4 1 rfl).1⟩
def wl_wr (h : wc_H) (out : Nat) (r : Int) : wc_H := (h.1, h.2.1, h.2.2.1, wm_up h.2.2.2.1 28 0 out r, h.2.2.2.2.1, h.2.2.2.2.2)
theorem wl_Q_o {b Lw m out : Nat} {ad : Nat → Nat} {M : mq_H} {h : wc_H} {r : Int} (k : wl_Q b Lw m out ad M h) : wl_Q b Lw m out ad M (wl_wr h out r) ∧ (wl_wr h out r).2.2.2.1 28 0 out = r := by
  obtain ⟨⟨r1, r2, r3, r4⟩, k2⟩ := k
  refine ⟨⟨⟨r1, ?_, fun x hx => ?_, r4⟩, k2⟩, wm_up_self⟩
  · rw [r2]
    simp only [wl_wr]
    rw [wm_up_t (by decide)]
  · obtain ⟨a1, a2, a3, a4, a5⟩ := r3 x hx
    have := md_as_t x hx
    refine ⟨a1, a2, a3, a4, fun k => ?_⟩
    simp only [wl_wr]
    rw [wm_up_t (by omega)]
    exact a5 k
theorem wl_J_o {h : wc_H} {x out : Nat} {r : Int} {M : mq_H} (k : wk_J h x M) : wk_J (wl_wr h out r) x M := by
  obtain ⟨tg, ln, I, L, R, n⟩ := h
  exact wk_J_c (fun t t1 t2 => ⟨rfl, wm_up_t (by omega), rfl⟩) k
theorem wl_Q_s {b Lw m out : Nat} {ad : Nat → Nat} {M M' : mq_H} {h h2 : wc_H} (k : wl_Q b Lw m out ad M h) (s : wl_S h h2 m ad M') : wl_Q b Lw m out ad M' h2 ∧ h2.2.2.1 1 = h.2.2.1 1 ∧ h2.2.2.2.1 28 = h.2.2.2.1 28 := by
  obtain ⟨-, ⟨k2, k3⟩, k4, k5⟩ := k
  obtain ⟨s0, s1, s2, s3, s4, s5⟩ := s
  rw [← s1] at k2 k4
  rw [← s2] at k3 k5
  exact ⟨⟨s0, ⟨k2, k3⟩, k4, k5⟩, (s3 1 (by decide) (by decide)).1, (s3 28 (by decide) (by decide)).2⟩
/-- what the model says of the last call -/
theorem wl_79 {h : wc_H} {m : Nat} {ad : Nat → Nat} {cd : Int} {F : List Int} {A B : mq_A} {q : wi_Q1 wc_H} {qt : wi_Q2 wc_H} (k : wl_R h m ad (cd :: F, A, B)) (hq : ∀ h2, wl_S h h2 m ad (cd :: F, A, B) → q (some (.inl cd)) h2) : wl_m sm_79 [wi_rf (some m)] h q qt := by
  refine ⟨m, [], ad, (cd :: F, A, B), rfl, fun v hv => absurd hv List.not_mem_nil, k, ?_⟩
  have e := k.2.1
  simp only [List.cons.injEq] at e
  obtain ⟨e0, e⟩ := e
  subst e
  exact ⟨trivial, fun h2 hs => hq h2 hs⟩
/-- the loop: i = 1 + 8 j -/
def wl_B (pc n j cu su Lw : Nat) : Prop := (pc = 33 → n = 3 * (600 - j) ∧ cu ≤ 36 + 1028 * j ∧ su ≤ 68360 + 3096 * j ∧ j ≤ 512) ∧ (pc ≠ 33 → pc ≠ 1517 → n + 1 = 3 * (600 - j) ∧ cu ≤ 36 + 1028 * j ∧ su ≤ 68360 + 3096 * j ∧ 9 + 8 * j ≤ Lw) ∧ (pc = 1517 → n + 2 = 3 * (600 - j) ∧ cu ≤ 36 + 1028 * (j + 1) ∧ su ≤ 68360 + 3096 * (j + 1) ∧ 9 + 8 * j ≤ Lw)
def wl_I (b Lw n pc : Nat) (lv : wi_L) (st : List wi_V) (h : wc_H) (cu su : Nat) : Prop := ∃ (x m out : Nat) (ad : Nat → Nat) (M : mq_H) (i : Int) (a5 a6 : Option wi_V) (j : Nat), lv = [some (wi_rf (some b)), some (wi_rf (some x)), some (wi_rf (some m)), some (wi_rf (some out)), some (.inl i), a5, a6] ∧ st = [] ∧ (wk_J h x M ∧ wl_Q b Lw m out ad M h) ∧ i = 1 + 8 * (j : Int) ∧ wl_B pc n j cu su Lw
theorem wl_fin {b Lw n : Nat} {x m out : Nat} {ad : Nat → Nat} {M : mq_H} {i : Int} {a5 a6 : Option wi_V} {j : Nat} {h : wc_H} {cu su : Nat} (hJ : wk_J h x M) (hQ : wl_Q b Lw m out ad M h) (hi : i = 1 + 8 * (j : Int)) (hL : Lw ≤ 4097) (h1 : n + 1 = 3 * (600 - j)) (h2 : cu ≤ 36 + 1028 * (j + 1)) (h3 : su ≤ 68360 + 3096 * (j + 1)) (h4 : 9 + 8 * j ≤ Lw) :
    ∃ n', n' < n ∧ wl_I b Lw n' 1517 [some (wi_rf (some b)), some (wi_rf (some x)), some (wi_rf (some m)), some (wi_rf (some out)), some (.inl i), a5, a6] [] h cu su :=
  ⟨n - 1, by omega, x, m, out, ad, M, i, a5, a6, j, rfl, rfl, ⟨hJ, hQ⟩, hi, fun e => absurd e (by omega), fun _ e => absurd rfl e, fun _ => ⟨by omega, h2, h3, h4⟩⟩
