/-! THE KERNEL, 14: new signals and processes -/
/-- the old part of a heap that has grown -/
theorem wk_old {tg ln : Nat → Nat} {I L : wm_F Int} {R : wm_F (Option Nat)} {n x : Nat} {tg' ln' : Nat → Nat} {I' L' : wm_F Int} {R' : wm_F (Option Nat)} {n' : Nat} {g : Nat → Nat → Nat} {gd : Nat → List (Nat × Nat)} {lm st sg el dr pr wc sp nw : Int} {A B : mq_A} {ct : Nat → List (Int × Int)}
    (hK : wk_K (tg, ln, I, L, R, n) x g gd lm st sg el dr pr wc sp nw A B ct) (hnn : n ≤ n') (h1 : ∀ q, q < n → tg' q = tg q ∧ ln' q = ln q) (h2 : ∀ t j q, q < n → t ≠ 2 → I' t j q = I t j q) (h3 : ∀ t j q, q < n → L' t j q = L t j q) (h4 : ∀ t j q : Nat, q < n → ¬ (t = 20 ∧ sg ≤ (j : Int)) → ¬ (t = 21 ∧ pr ≤ (j : Int)) → ¬ (t = 5 ∧ j = 4) → R' t j q = R t j q) :
    wk_B tg' ln' (R' 2) (R' 6) (R' 10) x (g 0) ∧ wk_S tg' ln' (I' 5 0) (I' 5 1) (R' 5 2) (R' 5 3) (R' 20) (g 0) (g 1) (g 2) (g 3) sg (A 30) (A 31) ∧ wk_A (I' 5 5) (g 1) sg (A 33) ∧ wk_V (I' 26) (I' 27) (g 2) (g 3) sg (A 31) (A 32) (A 35) (A 36) ∧
    (∀ s : Nat, (s : Int) < sg → wc_dc tg' ln' (I' 3) (R' 3) (R' 22) (A 31 s).toNat (g 7) (A 37) (R 5 4 (g 1 s)) (gd s)) ∧ wc_rv (tg', ln', I', L', R', n') (g 0 2) dr.toNat (g 7) (A 39) ct ∧ wk_T tg' ln' (R' 8 0) (R' 6) (R' 21) (g 0) (g 4) (g 5) (g 6) pr ∧ wk_U (I' 8 1) (I' 8 2) (L' 8 3) (g 4) pr (A 46) (A 47) (B 48) ∧
    wk_X (L' 25) (g 0 7) (wk_e1 (A 50)) ∧ wk_X (L' 25) (g 0 9) (wk_e2 sg (A 34)) ∧ (∀ p : Nat, (p : Int) < pr → wk_X (L' 25) (g 6 p) (wk_e3 (A 49) p)) ∧ wk_W (I' 10 2) (I' 24) (L' 23) (g 0) wc (A 51) (B 52) := by
  obtain ⟨hn, kN, kB, kS, kA, kV, kD, kR, kT, kU, kX1, kX2, kX3, kW⟩ := id hK
  obtain ⟨⟨b1, b2, b3, b4, b5, b6, b7, b8, b9⟩, ⟨c1, c2, c3, c4, c5, c6, c7, c8⟩, ⟨d1, d2, d3, d4, d5, d6, d7, d8, d9, d10, d11⟩⟩ := id kB
  have N : ∀ q t, tg q = t → t ≠ 0 → q < n := fun q t e z => hn q (by rw [e]; exact z)
  have T : ∀ q t, tg q = t → t ≠ 0 → tg' q = t := fun q t e z => (h1 q (N q t e z)).1.trans e
  have TL : ∀ q t, tg q = t → t ≠ 0 → ln' q = ln q := fun q t e z => (h1 q (N q t e z)).2
  have RR : ∀ t j q u, tg q = u → u ≠ 0 → t ≠ 20 → t ≠ 21 → t ≠ 5 → R' t j q = R t j q := fun t j q u e z y1 y2 y3 => h4 t j q (N q u e z) (fun k => y1 k.1) (fun k => y2 k.1) (fun k => y3 k.1)
  refine ⟨⟨⟨T _ _ b1 (by decide), (RR _ _ _ _ b1 (by decide) (by decide) (by decide) (by decide)).trans b2, T _ _ b3 (by decide), (TL _ _ b3 (by decide)).trans b4, (RR _ _ _ _ b1 (by decide) (by decide) (by decide) (by decide)).trans b5, T _ _ b6 (by decide), (TL _ _ b6 (by decide)).trans b7, (RR _ _ _ _ b1 (by decide) (by decide) (by decide) (by decide)).trans b8, T _ _ b9 (by decide)⟩, ⟨(RR _ _ _ _ b1 (by decide) (by decide) (by decide) (by decide)).trans c1, T _ _ c2 (by decide), (RR _ _ _ _ c2 (by decide) (by decide) (by decide) (by decide)).trans c3, T _ _ c4 (by decide), (TL _ _ c4 (by decide)).trans c5, (RR _ _ _ _ c2 (by decide) (by decide) (by decide) (by decide)).trans c6, T _ _ c7 (by decide), (TL _ _ c7 (by decide)).trans c8⟩, ⟨(RR _ _ _ _ b1 (by decide) (by decide) (by decide) (by decide)).trans d1, T _ _ d2 (by decide), (RR _ _ _ _ d2 (by decide) (by decide) (by decide) (by decide)).trans d3, T _ _ d4 (by decide), (TL _ _ d4 (by decide)).trans d5, (RR _ _ _ _ b1 (by decide) (by decide) (by decide) (by decide)).trans d6, T _ _ d7 (by decide), (RR _ _ _ _ d7 (by decide) (by decide) (by decide) (by decide)).trans d8, T _ _ d9 (by decide), (TL _ _ d9 (by decide)).trans d10, d11⟩⟩, ⟨fun s hs => ?_, kS.2⟩, fun s hs => ?_, fun s hs k hk => ?_, fun s hs => ?_, ?_, ⟨fun p hp => ?_, kT.2⟩, fun p hp => ?_, fun s hs => ?_, fun s hs => ?_, fun p hp s hs => ?_, ?_⟩
  · obtain ⟨s1, s2, s3, s4, s5, s6, s7, s8, s9, s10⟩ := kS.1 s hs
    have m := N _ _ s2 (by decide)
    exact ⟨(h4 20 s _ (N _ _ b3 (by decide)) (by omega) (by omega) (by omega)).trans s1, T _ _ s2 (by decide), (h2 5 0 _ m (by decide)).trans s3, (h2 5 1 _ m (by decide)).trans s4, (h4 5 2 _ m (by omega) (by omega) (by omega)).trans s5, T _ _ s6 (by decide), by rw [TL _ _ s6 (by decide)]; exact s7, (h4 5 3 _ m (by omega) (by omega) (by omega)).trans s8, T _ _ s9 (by decide), by rw [TL _ _ s9 (by decide)]; exact s10⟩
  · rw [h2 5 5 _ (N _ _ (kS.1 s hs).2.1 (by decide)) (by decide)]
    exact kA s hs
  · obtain ⟨s1, s2, s3, s4, s5, s6, s7, s8, s9, s10⟩ := kS.1 s hs
    rw [h2 26 k _ (N _ _ s6 (by decide)) (by decide), h2 27 k _ (N _ _ s9 (by decide)) (by decide)]
    exact kV s hs k hk
  · exact wk_dc_m (fun q hq => h1 q (hn q hq)) (fun q hq => ⟨h2 3 0 q (hn q hq) (by decide), h4 3 1 q (hn q hq) (by omega) (by omega) (by omega), h4 3 2 q (hn q hq) (by omega) (by omega) (by omega), fun k => h4 22 k q (hn q hq) (by omega) (by omega) (by omega)⟩) (fun _ _ => rfl) (kD s hs)
  · exact wc_rv_m (h := (tg, ln, I, L, R, n)) hnn (fun q hq => (h1 q (hn q hq)).1) (fun t j q ht hq => ⟨h2 t j q (hn q hq) (by omega), h3 t j q (hn q hq), h4 t j q (hn q hq) (by omega) (by omega) (by omega)⟩) kR
  · obtain ⟨t1, t2, t3, t4, t5, t6, t7, t8, t9⟩ := kT.1 p hp
    exact ⟨(h4 21 p _ (N _ _ b6 (by decide)) (by omega) (by omega) (by omega)).trans t1, T _ _ t2 (by decide), (RR _ _ _ _ t2 (by decide) (by decide) (by decide) (by decide)).trans t3, T _ _ t4 (by decide), (RR _ _ _ _ t4 (by decide) (by decide) (by decide) (by decide)).trans t5, T _ _ t6 (by decide), (TL _ _ t6 (by decide)).trans t7, t8, t9⟩
  · have m := N _ _ (kT.1 p hp).2.1 (by decide)
    rw [h2 8 1 _ m (by decide), h2 8 2 _ m (by decide), h3 8 3 _ m]
    exact kU p hp
  · rw [h3 25 _ _ (N _ _ d4 (by decide))]
    exact kX1 s hs
  · rw [h3 25 _ _ (N _ _ d9 (by decide))]
    exact kX2 s hs
  · rw [h3 25 _ _ (N _ _ (kT.1 p hp).2.2.2.2.2.1 (by decide))]
    exact kX3 p hp s hs
  · obtain ⟨w1, w2, w3⟩ := kW
    refine ⟨(h2 10 2 _ (N _ _ c2 (by decide)) (by decide)).trans w1, fun j hj => ?_, fun j hj => ?_⟩
    · rw [h3 23 j _ (N _ _ c4 (by decide))]
      exact w2 j hj
    · rw [h2 24 j _ (N _ _ c7 (by decide)) (by decide)]
      exact w3 j hj
def wk_g1 (g : Nat → Nat → Nat) (s n : Nat) : Nat → Nat → Nat := fun i j => if j = s ∧ (i = 1 ∨ i = 2 ∨ i = 3) then n + (i - 1) else g i j
theorem wk_g1_o {g : Nat → Nat → Nat} {s n i j : Nat} (h : j ≠ s) : wk_g1 g s n i j = g i j := if_neg (fun z => h z.1)
theorem wk_g1_f {g : Nat → Nat → Nat} {s n i : Nat} (h : i ≠ 1 ∧ i ≠ 2 ∧ i ≠ 3) : wk_g1 g s n i = g i := funext fun j => if_neg (fun z => by omega)
theorem wk_g1_s {g : Nat → Nat → Nat} {s n i : Nat} (h : i = 1 ∨ i = 2 ∨ i = 3) : wk_g1 g s n i s = n + (i - 1) := if_pos ⟨rfl, h⟩
def wk_g4 (g : Nat → Nat → Nat) (s n : Nat) : Nat → Nat → Nat := fun i j => if j = s ∧ (i = 4 ∨ i = 5 ∨ i = 6) then n + (i - 4) else g i j
theorem wk_g4_o {g : Nat → Nat → Nat} {s n i j : Nat} (h : j ≠ s) : wk_g4 g s n i j = g i j := if_neg (fun z => h z.1)
theorem wk_g4_f {g : Nat → Nat → Nat} {s n i : Nat} (h : i ≠ 4 ∧ i ≠ 5 ∧ i ≠ 6) : wk_g4 g s n i = g i := funext fun j => if_neg (fun z => by omega)
theorem wk_g4_s {g : Nat → Nat → Nat} {s n i : Nat} (h : i = 4 ∨ i = 5 ∨ i = 6) : wk_g4 g s n i s = n + (i - 4) := if_pos ⟨rfl, h⟩
/-- a new signal -/
theorem wk_sg {tg ln : Nat → Nat} {I L : wm_F Int} {R : wm_F (Option Nat)} {n x : Nat} {tg' ln' : Nat → Nat} {I' L' : wm_F Int} {R' : wm_F (Option Nat)} {g : Nat → Nat → Nat} {gd : Nat → List (Nat × Nat)} {lm sg el dr sz pr wc sp nw c m : Int} {A B : mq_A} {ct : Nat → List (Int × Int)}
    (hK : wk_K (tg, ln, I, L, R, n) x g gd lm 0 sg el dr pr wc sp nw A B ct) (hM : wn_M gd lm 0 sg el dr sz pr wc sp nw A B ct) (q1 : sg < 200) (q2 : el + m ≤ 512) (q3 : 0 ≤ c ∧ c ≤ 2) (q4 : 1 ≤ m ∧ m ≤ 64)
    (h1 : ∀ q, q < n → tg' q = tg q ∧ ln' q = ln q) (h2 : ∀ t j q, q < n → ¬ (t = 2 ∧ q = x ∧ (j = 7 ∨ j = 9)) → I' t j q = I t j q) (h3 : ∀ t j q, q < n → L' t j q = L t j q) (h4 : ∀ t j q, q < n → ¬ (t = 20 ∧ j = sg.toNat ∧ q = g 0 0) → R' t j q = R t j q) (h5 : I' 2 7 x = sg + 1 ∧ I' 2 9 x = el + m ∧ R' 20 sg.toNat (g 0 0) = some n)
    (h6 : tg' n = 5 ∧ I' 5 0 n = c ∧ I' 5 1 n = m ∧ I' 5 5 n = 0 ∧ R' 5 2 n = some (n + 1) ∧ R' 5 3 n = some (n + 2) ∧ R' 5 4 n = none) (h7 : tg' (n + 1) = 26 ∧ ln' (n + 1) = m.toNat ∧ tg' (n + 2) = 27 ∧ ln' (n + 2) = m.toNat ∧ (∀ j, I' 26 j (n + 1) = 0 ∧ I' 27 j (n + 2) = 0)) (h8 : ∀ q, tg' q ≠ 0 → q < n + 3) :
    wk_J (tg', ln', I', L', R', n + 3) x ([0, lm, 0, sg + 1, el + m, dr, sz, pr, wc, sp, nw], md_u (md_u (md_u A 30 sg.toNat c) 31 sg.toNat m) 32 sg.toNat el, B) := by
  obtain ⟨nR, nS, nD, nC, nV, nT, nW, nO, nQ, nZ⟩ := id hM
  obtain ⟨⟨u1, u2, u3⟩, ⟨u4, u5, u6, u7, u8, u9, u10, u11⟩, ⟨u12, u13, u14, u15, u16, u17, u18, u19⟩⟩ := id nR
  obtain ⟨hn, ⟨k0, k7, k8, k9, k10, k11, k12, k13⟩, kB, kS, kA, kV, kD, kR, kT, kU, kX1, kX2, kX3, kW⟩ := id hK
  obtain ⟨z1, z2, z3, z4⟩ := nZ.2 rfl
  have xn : x < n := hn x (by rw [kB.1.1]; decide)
  obtain ⟨oB, oS, oA, oV, oD, oR, oT, oU, oX1, oX2, oX3, oW⟩ := wk_old (n' := n + 3) hK (by omega) h1 (fun t j q a b => h2 t j q a (fun y => b y.1)) h3 (fun t j q a b c d => h4 t j q a (fun y => b ⟨y.1, by omega⟩))
  have sn : ∀ s : Nat, (s : Int) < sg → s ≠ sg.toNat := fun s hs => by omega
  have on : ∀ s : Nat, (s : Int) < sg → g 1 s < n ∧ g 2 s < n ∧ g 3 s < n := fun s hs => ⟨hn _ (by rw [(kS.1 s hs).2.1]; decide), hn _ (by rw [(kS.1 s hs).2.2.2.2.2.1]; decide), hn _ (by rw [(kS.1 s hs).2.2.2.2.2.2.2.2.1]; decide)⟩
  have g0 : wk_g1 g sg.toNat n 0 = g 0 := wk_g1_f (by omega)
  have g4 : wk_g1 g sg.toNat n 4 = g 4 := wk_g1_f (by omega)
  have g5 : wk_g1 g sg.toNat n 5 = g 5 := wk_g1_f (by omega)
  have g6 : wk_g1 g sg.toNat n 6 = g 6 := wk_g1_f (by omega)
  have g7 : wk_g1 g sg.toNat n 7 = g 7 := wk_g1_f (by omega)
  have cs : ∀ s : Nat, (s : Int) < sg + 1 → (s : Int) < sg ∨ s = sg.toNat := fun s hs => by omega
  have a30o : ∀ s : Nat, s ≠ sg.toNat → md_u (md_u (md_u A 30 sg.toNat c) 31 sg.toNat m) 32 sg.toNat el 30 s = A 30 s ∧ md_u (md_u (md_u A 30 sg.toNat c) 31 sg.toNat m) 32 sg.toNat el 31 s = A 31 s ∧ md_u (md_u (md_u A 30 sg.toNat c) 31 sg.toNat m) 32 sg.toNat el 32 s = A 32 s := fun s hs => by
    refine ⟨?_, ?_, ?_⟩
    · rw [md_u_k hs, md_u_k hs, md_u_k hs]
    · rw [md_u_k hs, md_u_k hs, md_u_k hs]
    · rw [md_u_k hs, md_u_k hs, md_u_k hs]
  have a30n : md_u (md_u (md_u A 30 sg.toNat c) 31 sg.toNat m) 32 sg.toNat el 30 sg.toNat = c ∧ md_u (md_u (md_u A 30 sg.toNat c) 31 sg.toNat m) 32 sg.toNat el 31 sg.toNat = m ∧ md_u (md_u (md_u A 30 sg.toNat c) 31 sg.toNat m) 32 sg.toNat el 32 sg.toNat = el := by
    refine ⟨?_, ?_, md_u_s⟩
    · rw [md_u_t (by decide), md_u_t (by decide), md_u_s]
    · rw [md_u_t (by decide), md_u_s]
  have aT : ∀ t, t ≠ 30 → t ≠ 31 → t ≠ 32 → md_u (md_u (md_u A 30 sg.toNat c) 31 sg.toNat m) 32 sg.toNat el t = A t := fun t y1 y2 y3 => by rw [md_u_t y3, md_u_t y2, md_u_t y1]
  generalize hA' : md_u (md_u (md_u A 30 sg.toNat c) 31 sg.toNat m) 32 sg.toNat el = A' at *
  have gdo : ∀ s : Nat, s ≠ sg.toNat → (fun s => if s = sg.toNat then [] else gd s) s = gd s := fun s hs => if_neg hs
  have gdn : (fun s => if s = sg.toNat then [] else gd s) sg.toNat = [] := if_pos rfl
  generalize hgd : (fun s => if s = sg.toNat then ([] : List (Nat × Nat)) else gd s) = gd' at *
  have inn : ∀ s d, (s : Nat) = sg.toNat → ¬ wc_in (gd' s) (A' 31 s).toNat d := fun s d e z => by
    rw [e, gdn] at z
    obtain ⟨y, hy, -⟩ := z
    cases hy
  refine ⟨wk_g1 g sg.toNat n, gd', ct, ⟨h8, ⟨?_, h5.1, ?_, h5.2.1, ?_, ?_, ?_, ?_⟩, ?_, ⟨fun s hs => ?_, fun s s' hs hs' hss => ?_⟩, fun s hs => ?_, fun s hs k hk => ?_, fun s hs => ?_, ?_, ?_, ?_, ?_, fun s hs => ?_, ?_, ?_⟩, ⟨?_, ⟨fun s hs => ?_, fun s s2 hss hs => ?_⟩, ⟨fun s hs => ?_, fun d hd => ?_⟩, ⟨nC.1, fun s hs h30 d hd => ?_⟩, fun _ s hs h30 k hk => ?_, ?_, nW, ?_, ?_, ⟨fun s hs => ?_, fun _ => ⟨fun s hs => ?_, fun j hj => ?_, ?_, ?_⟩⟩⟩⟩
  · exact (h2 2 0 x xn (by omega)).trans k0
  · exact (h2 2 8 x xn (by omega)).trans k8
  · exact (h2 2 10 x xn (by omega)).trans k10
  · exact (h2 2 11 x xn (by omega)).trans k11
  · exact (h3 2 12 x xn).trans k12
  · exact (h2 2 13 x xn (by omega)).trans k13
  · rw [g0]; exact oB
  · rw [g0]
    rcases cs s hs with z | z
    · rw [wk_g1_o (sn s z), wk_g1_o (sn s z), wk_g1_o (sn s z), (a30o s (sn s z)).1, (a30o s (sn s z)).2.1]
      exact oS.1 s z
    · rw [z, wk_g1_s (by omega), wk_g1_s (by omega), wk_g1_s (by omega), a30n.1, a30n.2.1]
      exact ⟨h5.2.2, h6.1, h6.2.1, h6.2.2.1, h6.2.2.2.2.1, h7.1, by rw [show n + (2 - 1) = n + 1 from rfl, h7.2.1]; omega, h6.2.2.2.2.2.1, h7.2.2.1, by rw [show n + (3 - 1) = n + 2 from rfl, h7.2.2.2.1]; omega⟩
  · rcases cs s hs with z | z <;> rcases cs s' hs' with z' | z'
    · rw [wk_g1_o (sn s z), wk_g1_o (sn s z), wk_g1_o (sn s z), wk_g1_o (sn s' z'), wk_g1_o (sn s' z'), wk_g1_o (sn s' z')]
      exact kS.2 s s' z z' hss
    · rw [z', wk_g1_o (sn s z), wk_g1_o (sn s z), wk_g1_o (sn s z), wk_g1_s (by omega), wk_g1_s (by omega), wk_g1_s (by omega)]
      have := on s z
      omega
    · rw [z, wk_g1_o (sn s' z'), wk_g1_o (sn s' z'), wk_g1_o (sn s' z'), wk_g1_s (by omega), wk_g1_s (by omega), wk_g1_s (by omega)]
      have := on s' z'
      omega
    · exact absurd (z.trans z'.symm) hss
  · rw [aT 33 (by decide) (by decide) (by decide)]
    rcases cs s hs with z | z
    · rw [wk_g1_o (sn s z)]
      exact oA s z
    · rw [z, wk_g1_s (by omega), (z1 sg.toNat (by omega)).1]
      exact h6.2.2.2.1
  · rw [aT 35 (by decide) (by decide) (by decide), aT 36 (by decide) (by decide) (by decide)]
    rcases cs s hs with z | z
    · rw [(a30o s (sn s z)).2.1] at hk
      rw [wk_g1_o (sn s z), wk_g1_o (sn s z), (a30o s (sn s z)).2.2]
      exact oV s z k hk
    · rw [z, wk_g1_s (by omega), wk_g1_s (by omega), a30n.2.2, (z2 _ (by omega)).1, (z2 _ (by omega)).2]
      exact ⟨(h7.2.2.2.2 k).1, (h7.2.2.2.2 k).2⟩
  · rw [g7, aT 37 (by decide) (by decide) (by decide)]
    rcases cs s hs with z | z
    · rw [wk_g1_o (sn s z), gdo s (sn s z), (a30o s (sn s z)).2.1, h4 5 4 _ (on s z).1 (by omega)]
      exact oD s z
    · rw [z, wk_g1_s (by omega), gdn]
      exact h6.2.2.2.2.2.2
  · rw [g0, g7, aT 39 (by decide) (by decide) (by decide)]; exact oR
  · rw [g0, g4, g5, g6]; exact oT
  · rw [g4, aT 46 (by decide) (by decide) (by decide), aT 47 (by decide) (by decide) (by decide)]; exact oU
  · rw [g0, aT 50 (by decide) (by decide) (by decide)]; exact oX1
  · rw [g0, aT 34 (by decide) (by decide) (by decide), oX2 s hs]
    constructor
    · intro y
      exact ⟨by have := y.1; omega, y.2⟩
    · intro y
      refine ⟨?_, y.2⟩
      apply Classical.byContradiction
      intro w
      exact y.2 (z1 s (by omega)).2
  · rw [g6, aT 49 (by decide) (by decide) (by decide)]; exact oX3
  · rw [g0, aT 51 (by decide) (by decide) (by decide)]; exact oW
  · exact ⟨⟨u1, u2, u3⟩, ⟨by omega, by omega, by omega, by omega, u8, u9, u10, u11⟩, ⟨u12, u13, u14, u15, u16, u17, u18, u19⟩⟩
  · rcases cs s hs with z | z
    · rw [(a30o s (sn s z)).1, (a30o s (sn s z)).2.1, (a30o s (sn s z)).2.2]
      have := nS.1 s z
      omega
    · rw [z, a30n.1, a30n.2.1, a30n.2.2]
      omega
  · rcases cs s2 hs with z | z
    · rw [(a30o s (sn s (by omega))).2.1, (a30o s (sn s (by omega))).2.2, (a30o s2 (sn s2 z)).2.2]
      exact nS.2 s s2 hss z
    · rw [(a30o s (sn s (by omega))).2.1, (a30o s (sn s (by omega))).2.2, z, a30n.2.2]
      have := nS.1 s (by omega)
      omega
  · rcases cs s hs with z | z
    · rw [gdo s (sn s z), (a30o s (sn s z)).2.1, (a30o s (sn s z)).2.2, aT 37 (by decide) (by decide) (by decide), aT 38 (by decide) (by decide) (by decide)]
      exact nD.1 s z
    · rw [z, gdn]
      exact ⟨List.Pairwise.nil, List.Pairwise.nil, fun c hc => (by cases hc)⟩
  · obtain ⟨s, y1, y2⟩ := nD.2 d hd
    exact ⟨s, by omega, by rw [gdo s (sn s y1), (a30o s (sn s y1)).2.1]; exact y2⟩
  · rcases cs s hs with z | z
    · rw [gdo s (sn s z), (a30o s (sn s z)).2.1] at hd
      rw [(a30o s (sn s z)).1] at h30
      rw [aT 39 (by decide) (by decide) (by decide)]
      exact nC.2 s z h30 d hd
    · exact absurd hd (inn s d z)
  · rw [aT 35 (by decide) (by decide) (by decide)]
    rcases cs s hs with z | z
    · rw [(a30o s (sn s z)).1] at h30
      rw [(a30o s (sn s z)).2.1] at hk
      rw [(a30o s (sn s z)).2.2]
      exact nV rfl s z h30 k hk
    · rw [z, a30n.2.2, (z2 _ (by omega)).1]
      omega
  · rw [aT 46 (by decide) (by decide) (by decide), aT 47 (by decide) (by decide) (by decide)]; exact nT
  · rw [aT 50 (by decide) (by decide) (by decide)]; exact nO
  · exact wn_Q_e nQ (aT 40 (by decide) (by decide) (by decide)) (aT 42 (by decide) (by decide) (by decide)) rfl
  · rw [(a30o s (by omega)).2.1]; exact nZ.1 s (by omega)
  · rw [aT 33 (by decide) (by decide) (by decide), aT 34 (by decide) (by decide) (by decide)]; exact z1 s (by omega)
  · rw [aT 35 (by decide) (by decide) (by decide), aT 36 (by decide) (by decide) (by decide)]; exact z2 j (by omega)
  · rw [aT 39 (by decide) (by decide) (by decide)]; exact z3
  · rw [aT 47 (by decide) (by decide) (by decide), aT 49 (by decide) (by decide) (by decide)]; exact z4
/-- a new process -/
theorem wk_pr {tg ln : Nat → Nat} {I L : wm_F Int} {R : wm_F (Option Nat)} {n x : Nat} {tg' ln' : Nat → Nat} {I' L' : wm_F Int} {R' : wm_F (Option Nat)} {g : Nat → Nat → Nat} {gd : Nat → List (Nat × Nat)} {lm sg el dr sz pr wc sp nw : Int} {A B : mq_A} {ct : Nat → List (Int × Int)}
    (hK : wk_K (tg, ln, I, L, R, n) x g gd lm 0 sg el dr pr wc sp nw A B ct) (hM : wn_M gd lm 0 sg el dr sz pr wc sp nw A B ct) (q1 : pr < 64)
    (h1 : ∀ q, q < n → tg' q = tg q ∧ ln' q = ln q) (h2 : ∀ t j q, q < n → ¬ (t = 2 ∧ q = x ∧ j = 8) → I' t j q = I t j q) (h3 : ∀ t j q, q < n → L' t j q = L t j q) (h4 : ∀ t j q, q < n → ¬ (t = 21 ∧ j = pr.toNat ∧ q = g 0 1) → R' t j q = R t j q) (h5 : I' 2 8 x = pr + 1 ∧ R' 21 pr.toNat (g 0 1) = some n)
    (h6 : tg' n = 8 ∧ I' 8 1 n = 1 ∧ I' 8 2 n = 0 ∧ L' 8 3 n = -1 ∧ R' 8 0 n = some (n + 1)) (h7 : tg' (n + 1) = 6 ∧ R' 6 0 (n + 1) = some (n + 2) ∧ tg' (n + 2) = 25 ∧ ln' (n + 2) = 4 ∧ (∀ j, L' 25 j (n + 2) = 0)) (h8 : ∀ q, tg' q ≠ 0 → q < n + 3) :
    wk_J (tg', ln', I', L', R', n + 3) x ([0, lm, 0, sg, el, dr, sz, pr + 1, wc, sp, nw], md_u A 46 pr.toNat 1, md_u B 48 pr.toNat (-1)) := by
  obtain ⟨nR, nS, nD, nC, nV, nT, nW, nO, nQ, nZ⟩ := id hM
  obtain ⟨⟨u1, u2, u3⟩, ⟨u4, u5, u6, u7, u8, u9, u10, u11⟩, ⟨u12, u13, u14, u15, u16, u17, u18, u19⟩⟩ := id nR
  obtain ⟨hn, ⟨k0, k7, k8, k9, k10, k11, k12, k13⟩, kB, kS, kA, kV, kD, kR, kT, kU, kX1, kX2, kX3, kW⟩ := id hK
  obtain ⟨z1, z2, z3, z4⟩ := nZ.2 rfl
  have xn : x < n := hn x (by rw [kB.1.1]; decide)
  obtain ⟨oB, oS, oA, oV, oD, oR, oT, oU, oX1, oX2, oX3, oW⟩ := wk_old (n' := n + 3) hK (by omega) h1 (fun t j q a b => h2 t j q a (fun y => b y.1)) h3 (fun t j q a b c d => h4 t j q a (fun y => c ⟨y.1, by omega⟩))
  have sn : ∀ p : Nat, (p : Int) < pr → p ≠ pr.toNat := fun s hs => by omega
  have on : ∀ p : Nat, (p : Int) < pr → g 4 p < n ∧ g 6 p < n := fun p hp => ⟨hn _ (by rw [(kT.1 p hp).2.1]; decide), hn _ (by rw [(kT.1 p hp).2.2.2.2.2.1]; decide)⟩
  have g0 : wk_g4 g pr.toNat n 0 = g 0 := wk_g4_f (by omega)
  have g1 : wk_g4 g pr.toNat n 1 = g 1 := wk_g4_f (by omega)
  have g2 : wk_g4 g pr.toNat n 2 = g 2 := wk_g4_f (by omega)
  have g3 : wk_g4 g pr.toNat n 3 = g 3 := wk_g4_f (by omega)
  have g7 : wk_g4 g pr.toNat n 7 = g 7 := wk_g4_f (by omega)
  have cs : ∀ p : Nat, (p : Int) < pr + 1 → (p : Int) < pr ∨ p = pr.toNat := fun s hs => by omega
  have aT : ∀ t, t ≠ 46 → md_u A 46 pr.toNat 1 t = A t := fun t y => md_u_t y
  have w7 : g 0 7 < n := hn _ (by rw [kB.2.2.2.2.2.1]; decide)
  have w9 : g 0 9 < n := hn _ (by rw [kB.2.2.2.2.2.2.2.2.2.2.1]; decide)
  refine ⟨wk_g4 g pr.toNat n, gd, ct, ⟨h8, ⟨?_, ?_, h5.1, ?_, ?_, ?_, ?_, ?_⟩, ?_, ?_, ?_, ?_, ?_, ?_, ⟨fun p hp => ?_, fun p p' hp hp' hpp => ?_⟩, fun p hp => ?_, ?_, ?_, fun p hp s hs => ?_, ?_⟩, ⟨?_, ?_, ?_, ?_, ?_, fun p hp => ?_, ?_, ?_, ?_, ?_⟩⟩
  · exact (h2 2 0 x xn (by omega)).trans k0
  · exact (h2 2 7 x xn (by omega)).trans k7
  · exact (h2 2 9 x xn (by omega)).trans k9
  · exact (h2 2 10 x xn (by omega)).trans k10
  · exact (h2 2 11 x xn (by omega)).trans k11
  · exact (h3 2 12 x xn).trans k12
  · exact (h2 2 13 x xn (by omega)).trans k13
  · rw [g0]; exact oB
  · rw [g0, g1, g2, g3, aT 30 (by decide), aT 31 (by decide)]; exact oS
  · rw [g1, aT 33 (by decide)]; exact oA
  · rw [g2, g3, aT 31 (by decide), aT 32 (by decide), aT 35 (by decide), aT 36 (by decide)]; exact oV
  · rw [g1, g7, aT 31 (by decide), aT 37 (by decide)]
    intro s hs
    rw [h4 5 4 _ (hn _ (by rw [(kS.1 s hs).2.1]; decide)) (by omega)]
    exact oD s hs
  · rw [g0, g7, aT 39 (by decide)]; exact oR
  · rw [g0]
    rcases cs p hp with z | z
    · rw [wk_g4_o (sn p z), wk_g4_o (sn p z), wk_g4_o (sn p z)]
      exact oT.1 p z
    · rw [z, wk_g4_s (by omega), wk_g4_s (by omega), wk_g4_s (by omega)]
      exact ⟨h5.2, h6.1, h6.2.2.2.2, h7.1, h7.2.1, h7.2.2.1, h7.2.2.2.1, by omega, by omega⟩
  · rcases cs p hp with z | z <;> rcases cs p' hp' with z' | z'
    · rw [wk_g4_o (sn p z), wk_g4_o (sn p z), wk_g4_o (sn p' z'), wk_g4_o (sn p' z')]
      exact kT.2 p p' z z' hpp
    · rw [z', wk_g4_o (sn p z), wk_g4_o (sn p z), wk_g4_s (by omega), wk_g4_s (by omega)]
      have := on p z
      omega
    · rw [z, wk_g4_o (sn p' z'), wk_g4_o (sn p' z'), wk_g4_s (by omega), wk_g4_s (by omega)]
      have := on p' z'
      omega
    · exact absurd (z.trans z'.symm) hpp
  · rw [aT 47 (by decide)]
    rcases cs p hp with z | z
    · rw [wk_g4_o (sn p z), md_u_k (sn p z), md_u_k (sn p z)]
      exact oU p z
    · rw [z, wk_g4_s (by omega), md_u_s, md_u_s, (z4 pr.toNat (by omega)).1]
      exact ⟨h6.2.1, h6.2.2.1, h6.2.2.2.1⟩
  · rw [g0, aT 50 (by decide)]; exact oX1
  · rw [g0, aT 34 (by decide)]; exact oX2
  · rw [aT 49 (by decide)]
    rcases cs p hp with z | z
    · rw [wk_g4_o (sn p z)]
      exact oX3 p z s hs
    · rw [z, wk_g4_s (by omega), show n + (6 - 4) = n + 2 from rfl, h7.2.2.2.2]
      have e : wc_bt 0 (s % 64) = false := by
        unfold wc_bt
        rw [show Int64.ofInt 0 = 0 from rfl]
        simp
      rw [e]
      exact ⟨fun y => (by cases y), fun y => absurd ((z4 pr.toNat (by omega)).2 s y.1) y.2⟩
  · rw [g0, aT 51 (by decide), md_u_t (by decide)]; exact oW
  · exact ⟨⟨u1, u2, u3⟩, ⟨u4, u5, u6, u7, u8, u9, u10, u11⟩, ⟨by omega, by omega, u14, u15, u16, u17, u18, u19⟩⟩
  · rw [aT 30 (by decide), aT 31 (by decide), aT 32 (by decide)]; exact nS
  · rw [aT 31 (by decide), aT 32 (by decide), aT 37 (by decide), aT 38 (by decide)]; exact nD
  · rw [aT 30 (by decide), aT 31 (by decide), aT 39 (by decide)]; exact nC
  · rw [aT 30 (by decide), aT 31 (by decide), aT 32 (by decide), aT 35 (by decide)]; exact nV
  · rw [aT 47 (by decide)]
    rcases cs p hp with z | z
    · rw [md_u_k (sn p z), md_u_k (sn p z)]
      exact nT p z
    · rw [z, md_u_s, md_u_s, (z4 pr.toNat (by omega)).1]
      omega
  · rw [md_u_t (by decide)]; exact nW
  · rw [aT 50 (by decide)]; exact nO
  · exact wn_Q_e nQ (aT 40 (by decide)) (aT 42 (by decide)) (md_u_t (by decide))
  · rw [aT 31 (by decide), aT 33 (by decide), aT 34 (by decide), aT 35 (by decide), aT 36 (by decide), aT 39 (by decide), aT 47 (by decide), aT 49 (by decide)]
    exact ⟨nZ.1, fun _ => ⟨z1, z2, z3, fun p hp => z4 p (by omega)⟩⟩
