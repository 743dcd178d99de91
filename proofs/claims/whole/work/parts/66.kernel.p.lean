/-! THE KERNEL, 16: a new driver -/
theorem wk_dc_r {tg ln : Nat → Nat} {I3 : Nat → Nat → Int} {R3 R22 : Nat → Nat → Option Nat} {w : Nat} {rw rw' : Nat → Nat} {pp pp' : Nat → Int} : ∀ {l : List (Nat × Nat)} {o : Option Nat}, (∀ c ∈ l, pp' c.2 = pp c.2 ∧ ∀ k, k < w → rw' (c.2 + k) = rw (c.2 + k)) → wc_dc tg ln I3 R3 R22 w rw pp o l → wc_dc tg ln I3 R3 R22 w rw' pp' o l
  | [], _, _, h => h
  | c :: r, o, hp, h => by
    obtain ⟨a1, a2, a3, ⟨ra, b1, b2, b3, b4⟩, a5⟩ := h
    obtain ⟨e1, e2⟩ := hp c List.mem_cons_self
    exact ⟨a1, a2, by rw [e1]; exact a3, ⟨ra, b1, b2, b3, fun k hk => by rw [e2 k hk]; exact b4 k hk⟩, wk_dc_r (fun b hb => hp b (List.mem_cons_of_mem _ hb)) a5⟩
theorem mq_sum_add {g : Nat → Int} {D : Nat} : ∀ {w : Nat}, (∀ d, D ≤ d → d < D + w → g d = 0) → mq_sum g (D + w) = mq_sum g D
  | 0, _ => rfl
  | w + 1, h => by
    show mq_sum g (D + w) + g (D + w) = _
    rw [mq_sum_add (w := w) (fun d h1 h2 => h d h1 (by omega)), h (D + w) (by omega) (by omega)]
    omega
/-- more rows, all empty -/
theorem wc_rv_a {tg ln : Nat → Nat} {I L : wm_F Int} {R : wm_F (Option Nat)} {n : Nat} {st D w b : Nat} {rw rw' : Nat → Nat} {vl : Nat → Int} {ct ct' : Nat → List (Int × Int)} (h : wc_rv (tg, ln, I, L, R, n) st D rw vl ct) (h0 : ∀ d, d < D → rw d < b) (h1 : ∀ d, d < D → rw' d = rw d ∧ ct' d = ct d) (h2 : ∀ k, k < w → rw' (D + k) = b + k ∧ ct' (D + k) = [] ∧ tg (b + k) = 4 ∧ R 4 0 (b + k) = some st ∧ R 4 1 (b + k) = none ∧ I 4 2 (b + k) = vl (D + k) ∧ b + k < n) : wc_rv (tg, ln, I, L, R, n) st (D + w) rw' vl ct' := by
  obtain ⟨a1, a2, a3, cs, ids, ⟨k1, k2, k3, k4, k4b, k5, k6, k7, k8⟩, a5⟩ := h
  simp only at a1 a2 k1 k2 k4 k7 k8 a5
  have cases9 : ∀ d, d < D + w → d < D ∨ ∃ k, k < w ∧ d = D + k := fun d hd => by
    by_cases z : d < D
    · exact Or.inl z
    · exact Or.inr ⟨d - D, by omega, by omega⟩
  have co : ∀ d, d < D → (fun d => if d < D then cs d else []) d = cs d := fun d hd => if_pos hd
  have cn : ∀ k, (fun d => if d < D then cs d else []) (D + k) = [] := fun k => if_neg (by omega)
  generalize (fun d => if d < D then cs d else []) = cs' at co cn
  have s1 : mq_sum (fun d => ((ct' d).length : Int)) (D + w) = mq_sum (fun d => ((ct d).length : Int)) D := by
    rw [mq_sum_add (fun d h3 h4 => ?_)]
    · exact mq_sum_x (fun d hd => by rw [(h1 d hd).2])
    · rw [show d = D + (d - D) from by omega, (h2 (d - D) (by omega)).2.1]
      rfl
  refine ⟨a1, fun d hd => ?_, by rw [s1]; exact a3, cs', ids, ⟨k1, fun d hd => ?_, fun d d' hd hd' e => ?_, k4, k4b, fun d hd => ?_, fun d d' hd hd' hne a ha => ?_, fun a ha => ?_, ?_⟩, fun d hd => ?_⟩
  · rcases cases9 d hd with z | ⟨k, z, rfl⟩
    · rw [(h1 d z).1]; exact a2 d z
    · rw [(h2 k z).1]; exact (h2 k z).2.2.2.2.2.2
  · rcases cases9 d hd with z | ⟨k, z, rfl⟩
    · rw [(h1 d z).1, co d z]; exact k2 d z
    · obtain ⟨x1, x2, x3, x4, x5, x6, x7⟩ := h2 k z
      simp only
      rw [x1, cn k]
      exact ⟨x3, x4, x5⟩
  · rcases cases9 d hd with z | ⟨k, z, rfl⟩ <;> rcases cases9 d' hd' with z' | ⟨k', z', rfl⟩
    · rw [(h1 d z).1, (h1 d' z').1] at e
      exact k3 d d' z z' e
    · rw [(h1 d z).1, (h2 k' z').1] at e
      have := h0 d z
      omega
    · rw [(h1 d' z').1, (h2 k z).1] at e
      have := h0 d' z'
      omega
    · rw [(h2 k z).1, (h2 k' z').1] at e
      omega
  · rcases cases9 d hd with z | ⟨k, z, rfl⟩
    · rw [co d z]; exact k5 d z
    · rw [cn k, List.nil_append]; exact k4b
  · rcases cases9 d hd with z | ⟨k, z, rfl⟩
    · rw [co d z] at ha
      rcases cases9 d' hd' with z' | ⟨k', z', rfl⟩
      · rw [co d' z']; exact k6 d d' z z' hne a ha
      · rw [cn k']; exact fun y => (by cases y)
    · rw [cn k] at ha
      cases ha
  · rcases ha with ha | ⟨d, hd, ha⟩
    · exact k7 a (Or.inl ha)
    · rcases cases9 d hd with z | ⟨k, z, rfl⟩
      · rw [co d z] at ha
        exact k7 a (Or.inr ⟨d, z, ha⟩)
      · rw [cn k] at ha
        cases ha
  · simp only
    rw [k8, mq_sum_add (fun d h3 h4 => ?_)]
    · exact mq_sum_x (fun d hd => by rw [co d hd])
    · rw [show d = D + (d - D) from by omega, cn]
      rfl
  · rcases cases9 d hd with z | ⟨k, z, rfl⟩
    · rw [(h1 d z).1, (h1 d z).2, co d z]; exact a5 d z
    · obtain ⟨x1, x2, x3, x4, x5, x6, x7⟩ := h2 k z
      simp only
      rw [x1, x2, cn k]
      exact ⟨x6, rfl⟩
theorem mq_row_nil {A B : mq_A} {d : Int} : ∀ {n : Nat}, (∀ j, j < n → A 40 j ≠ d) → mq_row A B d n = []
  | 0, _ => rfl
  | n + 1, h => by
    simp only [mq_row]
    rw [if_neg (h n (Nat.lt_succ_self _))]
    exact mq_row_nil (fun j hj => h j (by omega))
def wk_g7 (g : Nat → Nat → Nat) (d w b : Nat) : Nat → Nat → Nat := fun i j => if i = 7 ∧ d ≤ j ∧ j < d + w then b + (j - d) else g i j
theorem wk_g7_f {g : Nat → Nat → Nat} {d w b i : Nat} (h : i ≠ 7) : wk_g7 g d w b i = g i := funext fun j => if_neg (fun z => h z.1)
theorem wk_g7_o {g : Nat → Nat → Nat} {d w b j : Nat} (h : j < d) : wk_g7 g d w b 7 j = g 7 j := if_neg (fun z => by omega)
theorem wk_g7_s {g : Nat → Nat → Nat} {d w b k : Nat} (h : k < w) : wk_g7 g d w b 7 (d + k) = b + k := by
  show (if 7 = 7 ∧ d ≤ d + k ∧ d + k < d + w then b + (d + k - d) else g 7 (d + k)) = b + k
  rw [if_pos ⟨rfl, by omega, by omega⟩]
  omega
/-- a new driver -/
theorem wk_dv {tg ln : Nat → Nat} {I L : wm_F Int} {R : wm_F (Option Nat)} {n x : Nat} {tg' ln' : Nat → Nat} {I' L' : wm_F Int} {R' : wm_F (Option Nat)} {n' : Nat} {g : Nat → Nat → Nat} {gd : Nat → List (Nat × Nat)} {lm sg el dr sz pr wc sp nw p s : Int} {A B : mq_A} {ct : Nat → List (Int × Int)}
    (hK : wk_K (tg, ln, I, L, R, n) x g gd lm 0 sg el dr pr wc sp nw A B ct) (hM : wn_M gd lm 0 sg el dr sz pr wc sp nw A B ct) (q1 : 0 ≤ s ∧ s < sg) (q2 : dr + A 31 s.toNat ≤ 512) (q3 : ∀ b ∈ gd s.toNat, A 37 b.2 ≠ p)
    (h0 : n' = n + 2 + (A 31 s.toNat).toNat) (h1 : ∀ q, q < n → tg' q = tg q ∧ ln' q = ln q) (h2 : ∀ t j q, q < n → ¬ (t = 2 ∧ q = x ∧ j = 10) → I' t j q = I t j q) (h3 : ∀ t j q, q < n → L' t j q = L t j q) (h4 : ∀ t j q, q < n → ¬ (t = 5 ∧ j = 4 ∧ q = g 1 s.toNat) → R' t j q = R t j q) (h5 : I' 2 10 x = dr + A 31 s.toNat ∧ R' 5 4 (g 1 s.toNat) = some n)
    (h6 : tg' n = 3 ∧ I' 3 0 n = p ∧ R' 3 1 n = some (n + 1) ∧ R' 3 2 n = R 5 4 (g 1 s.toNat) ∧ tg' (n + 1) = 22 ∧ ln' (n + 1) = (A 31 s.toNat).toNat) (h7 : ∀ k, k < (A 31 s.toNat).toNat → R' 22 k (n + 1) = some (n + 2 + k) ∧ tg' (n + 2 + k) = 4 ∧ R' 4 0 (n + 2 + k) = some (g 0 2) ∧ R' 4 1 (n + 2 + k) = none ∧ I' 4 2 (n + 2 + k) = 0) (h8 : ∀ q, tg' q ≠ 0 → q < n') :
    wk_J (tg', ln', I', L', R', n') x ([0, lm, 0, sg, el, dr + A 31 s.toNat, sz, pr, wc, sp, nw], mq_g (mq_g A 37 dr.toNat (A 31 s.toNat).toNat (fun _ => p)) 38 dr.toNat (A 31 s.toNat).toNat (fun j => A 32 s.toNat + ((j - dr.toNat : Nat) : Int)), B) := by
  obtain ⟨nR, nS, nD, nC, nV, nT, nW, nO, nQ, nZ⟩ := id hM
  obtain ⟨⟨u1, u2, u3⟩, ⟨u4, u5, u6, u7, u8, u9, u10, u11⟩, ⟨u12, u13, u14, u15, u16, u17, u18, u19⟩⟩ := id nR
  obtain ⟨hn, ⟨k0, k7, k8, k9, k10, k11, k12, k13⟩, kB, kS, kA, kV, kD, kR, kT, kU, kX1, kX2, kX3, kW⟩ := id hK
  obtain ⟨z1, z2, z3, z4⟩ := nZ.2 rfl
  obtain ⟨y1, y2, y3, y4, y5, y6⟩ := nS.1 s.toNat (by omega)
  have xn : x < n := hn x (by rw [kB.1.1]; decide)
  have nn : n ≤ n' := by omega
  obtain ⟨oB, oS, oA, oV, oD, oR, oT, oU, oX1, oX2, oX3, oW⟩ := wk_old (n' := n') hK nn h1 (fun t j q a b => h2 t j q a (fun y => b y.1)) h3 (fun t j q a b c d => h4 t j q a (fun y => d ⟨y.1, y.2.1⟩))
  generalize hw : (A 31 s.toNat).toNat = w at *
  have hwi : A 31 s.toNat = (w : Int) := by omega
  have aT : ∀ t, t ≠ 37 → t ≠ 38 → mq_g (mq_g A 37 dr.toNat w (fun _ => p)) 38 dr.toNat w (fun j => A 32 s.toNat + ((j - dr.toNat : Nat) : Int)) t = A t := fun t x1 x2 => by rw [mq_g_t x2, mq_g_t x1]
  have a37o : ∀ d : Nat, d < dr.toNat → mq_g (mq_g A 37 dr.toNat w (fun _ => p)) 38 dr.toNat w (fun j => A 32 s.toNat + ((j - dr.toNat : Nat) : Int)) 37 d = A 37 d ∧ mq_g (mq_g A 37 dr.toNat w (fun _ => p)) 38 dr.toNat w (fun j => A 32 s.toNat + ((j - dr.toNat : Nat) : Int)) 38 d = A 38 d := fun d hd => by
    refine ⟨?_, ?_⟩
    · rw [mq_g_t (by decide), mq_g_o (Or.inl hd)]
    · rw [mq_g_o (Or.inl hd), mq_g_t (by decide)]
  have a37n : ∀ k : Nat, k < w → mq_g (mq_g A 37 dr.toNat w (fun _ => p)) 38 dr.toNat w (fun j => A 32 s.toNat + ((j - dr.toNat : Nat) : Int)) 37 (dr.toNat + k) = p ∧ mq_g (mq_g A 37 dr.toNat w (fun _ => p)) 38 dr.toNat w (fun j => A 32 s.toNat + ((j - dr.toNat : Nat) : Int)) 38 (dr.toNat + k) = A 32 s.toNat + k := fun k hk => by
    refine ⟨?_, ?_⟩
    · rw [mq_g_t (by decide), mq_g_i (by omega) (by omega)]
    · rw [mq_g_i (by omega) (by omega), show dr.toNat + k - dr.toNat = k from by omega]
  generalize mq_g (mq_g A 37 dr.toNat w (fun _ => p)) 38 dr.toNat w (fun j => A 32 s.toNat + ((j - dr.toNat : Nat) : Int)) = A' at *
  have gdo : ∀ s', s' ≠ s.toNat → (fun s' => if s' = s.toNat then (n, dr.toNat) :: gd s' else gd s') s' = gd s' := fun s' hs => if_neg hs
  have gdn : (fun s' => if s' = s.toNat then (n, dr.toNat) :: gd s' else gd s') s.toNat = (n, dr.toNat) :: gd s.toNat := if_pos rfl
  generalize (fun s' => if s' = s.toNat then (n, dr.toNat) :: gd s' else gd s') = gd' at gdo gdn ⊢
  have g0 : wk_g7 g dr.toNat w (n + 2) 0 = g 0 := wk_g7_f (by decide)
  have g1 : wk_g7 g dr.toNat w (n + 2) 1 = g 1 := wk_g7_f (by decide)
  have g2 : wk_g7 g dr.toNat w (n + 2) 2 = g 2 := wk_g7_f (by decide)
  have g3 : wk_g7 g dr.toNat w (n + 2) 3 = g 3 := wk_g7_f (by decide)
  have g4 : wk_g7 g dr.toNat w (n + 2) 4 = g 4 := wk_g7_f (by decide)
  have g5 : wk_g7 g dr.toNat w (n + 2) 5 = g 5 := wk_g7_f (by decide)
  have g6 : wk_g7 g dr.toNat w (n + 2) 6 = g 6 := wk_g7_f (by decide)
  have cD : ∀ (s' : Nat), (s' : Int) < sg → ∀ c ∈ gd s', c.2 + (A 31 s').toNat ≤ dr.toNat ∧ 1 ≤ (A 31 s').toNat := fun s' hs' c hc => by
    have := ((nD.1 s' hs').2.2 c hc).1
    have := nS.1 s' hs'
    omega
  have inO : ∀ (s' d : Nat), (s' : Int) < sg → wc_in (gd s') (A 31 s').toNat d → d < dr.toNat := fun s' d hs' ⟨c, hc, x1, x2⟩ => by
    have := (cD s' hs' c hc).1
    omega
  have inN : ∀ d, wc_in (gd' s.toNat) w d → wc_in (gd s.toNat) w d ∨ ∃ k, k < w ∧ d = dr.toNat + k := fun d ⟨c, hc, x1, x2⟩ => by
    rw [gdn] at hc
    rcases List.mem_cons.mp hc with rfl | hc
    · simp only at x1 x2
      exact Or.inr ⟨d - dr.toNat, by omega, by omega⟩
    · exact Or.inl ⟨c, hc, x1, x2⟩
  have dcO : ∀ s' : Nat, (s' : Int) < sg → wc_dc tg' ln' (I' 3) (R' 3) (R' 22) (A 31 s').toNat (wk_g7 g dr.toNat w (n + 2) 7) (A' 37) (R 5 4 (g 1 s')) (gd s') := fun s' hs' => wk_dc_r (fun c hc => by
    have := cD s' hs' c hc
    exact ⟨(a37o c.2 (by omega)).1, fun k hk => wk_g7_o (by omega)⟩) (oD s' hs')
  have ctn : ∀ k, (fun d => if d < dr.toNat then ct d else []) (dr.toNat + k) = [] := fun k => if_neg (by omega)
  have cto : ∀ d, d < dr.toNat → (fun d => if d < dr.toNat then ct d else []) d = ct d := fun d hd => if_pos hd
  generalize (fun d => if d < dr.toNat then ct d else []) = ct' at ctn cto
  have rw0 : ∀ d, d < dr.toNat → g 7 d < n := fun d hd => kR.2.1 d hd
  have e9 : (dr + A 31 s.toNat).toNat = dr.toNat + w := by omega
  have cd9 : ∀ d : Nat, (d : Int) < dr + A 31 s.toNat → d < dr.toNat ∨ ∃ k, k < w ∧ d = dr.toNat + k := fun d hd => by
    by_cases z : d < dr.toNat
    · exact Or.inl z
    · exact Or.inr ⟨d - dr.toNat, by omega, by omega⟩
  refine ⟨wk_g7 g dr.toNat w (n + 2), gd', ct', ⟨h8, ⟨?_, ?_, ?_, ?_, h5.1, ?_, ?_, ?_⟩, ?_, ?_, ?_, ?_, fun s' hs' => ?_, ?_, ?_, ?_, ?_, ?_, ?_, ?_⟩, ⟨?_, ?_, ⟨fun s' hs' => ?_, fun d hd => ?_⟩, ⟨fun d hd => ?_, fun s' hs' h30 d hd => ?_⟩, ?_, ?_, nW, ?_, ⟨fun d hd => ?_, fun j hj => ?_, ?_⟩, ?_⟩⟩
  · exact (h2 2 0 x xn (by omega)).trans k0
  · exact (h2 2 7 x xn (by omega)).trans k7
  · exact (h2 2 8 x xn (by omega)).trans k8
  · exact (h2 2 9 x xn (by omega)).trans k9
  · exact (h2 2 11 x xn (by omega)).trans k11
  · exact (h3 2 12 x xn).trans k12
  · exact (h2 2 13 x xn (by omega)).trans k13
  · rw [g0]; exact oB
  · rw [g0, g1, g2, g3, aT 30 (by decide) (by decide), aT 31 (by decide) (by decide)]; exact oS
  · rw [g1, aT 33 (by decide) (by decide)]; exact oA
  · rw [g2, g3, aT 31 (by decide) (by decide), aT 32 (by decide) (by decide), aT 35 (by decide) (by decide), aT 36 (by decide) (by decide)]; exact oV
  · rw [g1, aT 31 (by decide) (by decide)]
    by_cases z : s' = s.toNat
    · subst z
      rw [gdn, h5.2, hw]
      refine ⟨rfl, h6.1, ?_, ⟨n + 1, h6.2.2.1, h6.2.2.2.2.1, h6.2.2.2.2.2, fun k hk => ?_⟩, ?_⟩
      · have := (a37n 0 (by omega)).1
        rw [Nat.add_zero] at this
        simp only
        rw [this]
        exact h6.2.1
      · rw [wk_g7_s hk]
        exact (h7 k hk).1
      · simp only
        rw [h6.2.2.2.1, ← hw]
        rw [← hw] at dcO
        exact dcO s.toNat hs'
    · rw [gdo s' z, h4 5 4 _ (hn _ (by rw [(kS.1 s' hs').2.1]; decide)) (fun y => (kS.2 s' s.toNat hs' (by omega) z).1 y.2.2)]
      exact dcO s' hs'
  · rw [g0, aT 39 (by decide) (by decide), e9]
    refine wc_rv_a (b := n + 2) oR (fun d hd => Nat.lt_of_lt_of_le (rw0 d hd) (by omega)) (fun d hd => ⟨wk_g7_o hd, cto d hd⟩) (fun k hk => ?_)
    obtain ⟨x1, x2, x3, x4, x5⟩ := h7 k hk
    exact ⟨wk_g7_s hk, ctn k, x2, x3, x4, by rw [z3 (dr.toNat + k) (by omega)]; exact x5, by omega⟩
  · rw [g0, g4, g5, g6]; exact oT
  · rw [g4, aT 46 (by decide) (by decide), aT 47 (by decide) (by decide)]; exact oU
  · rw [g0, aT 50 (by decide) (by decide)]; exact oX1
  · rw [g0, aT 34 (by decide) (by decide)]; exact oX2
  · rw [g6, aT 49 (by decide) (by decide)]; exact oX3
  · rw [g0, aT 51 (by decide) (by decide)]; exact oW
  · exact ⟨⟨u1, u2, u3⟩, ⟨u4, u5, u6, u7, by omega, by omega, u10, u11⟩, ⟨u12, u13, u14, u15, u16, u17, u18, u19⟩⟩
  · rw [aT 30 (by decide) (by decide), aT 31 (by decide) (by decide), aT 32 (by decide) (by decide)]; exact nS
  · rw [aT 31 (by decide) (by decide), aT 32 (by decide) (by decide)]
    obtain ⟨nd1, nd2, nd3⟩ := nD.1 s' hs'
    have old : ∀ c ∈ gd s', ((c.2 + (A 31 s').toNat : Nat) : Int) ≤ dr + A 31 s.toNat ∧ ∀ k : Nat, (k : Int) < A 31 s' → A' 37 (c.2 + k) = A' 37 c.2 ∧ A' 38 (c.2 + k) = A 32 s' + k := fun c hc => by
      have hc1 := cD s' hs' c hc
      refine ⟨by omega, fun k hk => ?_⟩
      rw [(a37o (c.2 + k) (by omega)).1, (a37o (c.2 + k) (by omega)).2, (a37o c.2 (by omega)).1]
      exact (nd3 c hc).2 k hk
    have pw : (gd s').Pairwise (fun a b => A' 37 a.2 ≠ A' 37 b.2) := List.Pairwise.imp_of_mem (fun {a b} ha hb h => by
      have h1 := cD s' hs' a ha
      have h2 := cD s' hs' b hb
      rw [(a37o a.2 (by omega)).1, (a37o b.2 (by omega)).1]
      exact h) nd2
    by_cases z : s' = s.toNat
    · subst z
      rw [gdn]
      refine ⟨List.pairwise_cons.mpr ⟨fun b hb => (cD _ hs' b hb).1, nd1⟩, List.pairwise_cons.mpr ⟨fun b hb => ?_, pw⟩, fun c hc => ?_⟩
      · have h1 := cD _ hs' b hb
        have := (a37n 0 (by omega)).1
        rw [Nat.add_zero] at this
        simp only
        rw [this, (a37o b.2 (by omega)).1]
        exact fun y => q3 b hb y.symm
      · rcases List.mem_cons.mp hc with rfl | hc
        · refine ⟨by simp only; omega, fun k hk => ?_⟩
          have := (a37n 0 (by omega)).1
          rw [Nat.add_zero] at this
          simp only
          rw [(a37n k (by omega)).1, (a37n k (by omega)).2, this]
          exact ⟨rfl, rfl⟩
        · exact old c hc
    · rw [gdo s' z]
      exact ⟨nd1, pw, old⟩
  · rw [aT 31 (by decide) (by decide)]
    rcases cd9 d hd with z | ⟨k, hk, rfl⟩
    · obtain ⟨s', x1, c, hc, x2⟩ := nD.2 d (by omega)
      refine ⟨s', x1, c, ?_, x2⟩
      by_cases z9 : s' = s.toNat
      · rw [z9, gdn]
        rw [z9] at hc
        exact List.mem_cons_of_mem _ hc
      · rw [gdo s' z9]; exact hc
    · exact ⟨s.toNat, by omega, (n, dr.toNat), by rw [gdn]; exact List.mem_cons_self, by simp only; omega, by simp only; omega⟩
  · rcases cd9 d hd with z | ⟨k, hk, rfl⟩
    · rw [cto d z]; exact nC.1 d (by omega)
    · rw [ctn k]
      exact ⟨List.Pairwise.nil, fun y hy => (by cases hy)⟩
  · rw [aT 30 (by decide) (by decide)] at h30
    rw [aT 31 (by decide) (by decide)] at hd
    rw [aT 39 (by decide) (by decide)]
    have oldc : wc_in (gd s') (A 31 s').toNat d → (0 ≤ A 39 d ∧ A 39 d ≤ 8) ∧ ∀ y ∈ ct' d, 0 ≤ y.2 ∧ y.2 ≤ 8 := fun hd => by
      rw [cto d (inO s' d hs' hd)]
      exact nC.2 s' hs' h30 d hd
    by_cases z : s' = s.toNat
    · subst z
      rw [hw] at hd oldc
      rcases inN d hd with hd | ⟨k, hk, rfl⟩
      · exact oldc hd
      · rw [ctn k, z3 (dr.toNat + k) (by omega)]
        exact ⟨by omega, fun y hy => (by cases hy)⟩
    · rw [gdo s' z] at hd
      exact oldc hd
  · rw [aT 30 (by decide) (by decide), aT 31 (by decide) (by decide), aT 32 (by decide) (by decide), aT 35 (by decide) (by decide)]; exact nV
  · rw [aT 46 (by decide) (by decide), aT 47 (by decide) (by decide)]; exact nT
  · rw [aT 50 (by decide) (by decide)]; exact nO
  · rw [mq_row_e (aT 40 (by decide) (by decide)) (aT 42 (by decide) (by decide)) rfl]
    rcases cd9 d hd with z | ⟨k, hk, rfl⟩
    · rw [cto d z]; exact nQ.1 d (by omega)
    · rw [ctn k]
      exact mq_row_nil (fun j hj y => by have := nQ.2.1 j (by omega); omega)
  · rw [aT 40 (by decide) (by decide)]
    have := nQ.2.1 j hj
    omega
  · rw [e9, mq_sum_add (fun d h3 h4 => ?_)]
    · refine nQ.2.2.trans (mq_sum_x (fun d hd => by rw [cto d hd]))
    · rw [show d = dr.toNat + (d - dr.toNat) from by omega, ctn]
      rfl
  · rw [aT 31 (by decide) (by decide), aT 33 (by decide) (by decide), aT 34 (by decide) (by decide), aT 35 (by decide) (by decide), aT 36 (by decide) (by decide), aT 39 (by decide) (by decide), aT 47 (by decide) (by decide), aT 49 (by decide) (by decide)]
    exact ⟨nZ.1, fun _ => ⟨z1, z2, fun d hd => z3 d (by omega), z4⟩⟩
