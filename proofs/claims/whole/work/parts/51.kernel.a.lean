/-! THE KERNEL, 1: what a heap of the class is to a state of the model -/
def wk_N (I2 L2 : Nat → Nat → Int) (x : Nat) (lm st sg el dr pr sp nw : Int) : Prop := I2 0 x = lm ∧ I2 7 x = sg ∧ I2 8 x = pr ∧ I2 9 x = el ∧ I2 10 x = dr ∧ I2 11 x = st ∧ L2 12 x = nw ∧ I2 13 x = sp
def wk_B (tg ln : Nat → Nat) (R2 R6 R10 : Nat → Nat → Option Nat) (x : Nat) (z : Nat → Nat) : Prop :=
  (tg x = 2 ∧ R2 1 x = some (z 0) ∧ tg (z 0) = 20 ∧ ln (z 0) = 200 ∧ R2 2 x = some (z 1) ∧ tg (z 1) = 21 ∧ ln (z 1) = 64 ∧ R2 3 x = some (z 2) ∧ tg (z 2) = 7) ∧
  (R2 4 x = some (z 3) ∧ tg (z 3) = 10 ∧ R10 0 (z 3) = some (z 4) ∧ tg (z 4) = 23 ∧ ln (z 4) = 16 ∧ R10 1 (z 3) = some (z 5) ∧ tg (z 5) = 24 ∧ ln (z 5) = 1024) ∧
  (R2 5 x = some (z 6) ∧ tg (z 6) = 6 ∧ R6 0 (z 6) = some (z 7) ∧ tg (z 7) = 25 ∧ ln (z 7) = 4 ∧ R2 6 x = some (z 8) ∧ tg (z 8) = 6 ∧ R6 0 (z 8) = some (z 9) ∧ tg (z 9) = 25 ∧ ln (z 9) = 4 ∧ z 7 ≠ z 9)
def wk_S (tg ln : Nat → Nat) (i0 i1 : Nat → Int) (r2 r3 : Nat → Option Nat) (R20 : Nat → Nat → Option Nat) (z gs gv gl : Nat → Nat) (sg : Int) (a30 a31 : Nat → Int) : Prop :=
  (∀ s : Nat, (s : Int) < sg → R20 s (z 0) = some (gs s) ∧ tg (gs s) = 5 ∧ i0 (gs s) = a30 s ∧ i1 (gs s) = a31 s ∧ r2 (gs s) = some (gv s) ∧ tg (gv s) = 26 ∧ (ln (gv s) : Int) = a31 s ∧ r3 (gs s) = some (gl s) ∧ tg (gl s) = 27 ∧ (ln (gl s) : Int) = a31 s) ∧
  (∀ s s' : Nat, (s : Int) < sg → (s' : Int) < sg → s ≠ s' → gs s ≠ gs s' ∧ gv s ≠ gv s' ∧ gl s ≠ gl s')
def wk_A (i5 : Nat → Int) (gs : Nat → Nat) (sg : Int) (a33 : Nat → Int) : Prop := ∀ s : Nat, (s : Int) < sg → i5 (gs s) = a33 s
def wk_V (I26 I27 : Nat → Nat → Int) (gv gl : Nat → Nat) (sg : Int) (a31 a32 a35 a36 : Nat → Int) : Prop := ∀ s : Nat, (s : Int) < sg → ∀ k : Nat, (k : Int) < a31 s → I26 k (gv s) = a35 (a32 s + k).toNat ∧ I27 k (gl s) = a36 (a32 s + k).toNat
def wk_D (tg ln : Nat → Nat) (I3 : Nat → Nat → Int) (R3 R22 : Nat → Nat → Option Nat) (r4 : Nat → Option Nat) (gs gr : Nat → Nat) (gd : Nat → List (Nat × Nat)) (sg : Int) (a31 a37 : Nat → Int) : Prop := ∀ s : Nat, (s : Int) < sg → wc_dc tg ln I3 R3 R22 (a31 s).toNat gr a37 (r4 (gs s)) (gd s)
def wk_T (tg ln : Nat → Nat) (r0 : Nat → Option Nat) (R6 R21 : Nat → Nat → Option Nat) (z gt ga gw : Nat → Nat) (pr : Int) : Prop :=
  (∀ p : Nat, (p : Int) < pr → R21 p (z 1) = some (gt p) ∧ tg (gt p) = 8 ∧ r0 (gt p) = some (ga p) ∧ tg (ga p) = 6 ∧ R6 0 (ga p) = some (gw p) ∧ tg (gw p) = 25 ∧ ln (gw p) = 4 ∧ gw p ≠ z 7 ∧ gw p ≠ z 9) ∧ (∀ p p' : Nat, (p : Int) < pr → (p' : Int) < pr → p ≠ p' → gt p ≠ gt p' ∧ gw p ≠ gw p')
def wk_U (i1 i2 l3 : Nat → Int) (gt : Nat → Nat) (pr : Int) (a46 a47 b48 : Nat → Int) : Prop := ∀ p : Nat, (p : Int) < pr → i1 (gt p) = a46 p ∧ i2 (gt p) = a47 p ∧ l3 (gt p) = b48 p
def wk_X (L25 : Nat → Nat → Int) (w : Nat) (P : Nat → Prop) : Prop := ∀ s : Nat, s < 256 → (wc_bt (L25 (s / 64) w) (s % 64) = true ↔ P s)
def wk_W (i2 : Nat → Int) (I24 L23 : Nat → Nat → Int) (z : Nat → Nat) (wc : Int) (a51 b52 : Nat → Int) : Prop := i2 (z 3) = wc ∧ (∀ j : Nat, (j : Int) < wc → L23 j (z 4) = b52 j) ∧ (∀ j : Nat, (j : Int) < 64 * wc → I24 j (z 5) = a51 j)
/-- the sets -/
def wk_e1 (a50 : Nat → Int) (s : Nat) : Prop := s < 200 ∧ a50 s ≠ 0
def wk_e2 (sg : Int) (a34 : Nat → Int) (s : Nat) : Prop := (s : Int) < sg ∧ a34 s ≠ 0
def wk_e3 (a49 : Nat → Int) (p s : Nat) : Prop := s < 200 ∧ a49 (200 * p + s) ≠ 0
def wk_K (h : wc_H) (x : Nat) (g : Nat → Nat → Nat) (gd : Nat → List (Nat × Nat)) (lm st sg el dr pr wc sp nw : Int) (A B : mq_A) (ct : Nat → List (Int × Int)) : Prop := wc_f h fun tg ln I L R n =>
  (∀ q, tg q ≠ 0 → q < n) ∧ wk_N (I 2) (L 2) x lm st sg el dr pr sp nw ∧ wk_B tg ln (R 2) (R 6) (R 10) x (g 0) ∧ wk_S tg ln (I 5 0) (I 5 1) (R 5 2) (R 5 3) (R 20) (g 0) (g 1) (g 2) (g 3) sg (A 30) (A 31) ∧ wk_A (I 5 5) (g 1) sg (A 33) ∧ wk_V (I 26) (I 27) (g 2) (g 3) sg (A 31) (A 32) (A 35) (A 36) ∧
  wk_D tg ln (I 3) (R 3) (R 22) (R 5 4) (g 1) (g 7) gd sg (A 31) (A 37) ∧ wc_rv (tg, ln, I, L, R, n) (g 0 2) dr.toNat (g 7) (A 39) ct ∧ wk_T tg ln (R 8 0) (R 6) (R 21) (g 0) (g 4) (g 5) (g 6) pr ∧ wk_U (I 8 1) (I 8 2) (L 8 3) (g 4) pr (A 46) (A 47) (B 48) ∧
  wk_X (L 25) (g 0 7) (wk_e1 (A 50)) ∧ wk_X (L 25) (g 0 9) (wk_e2 sg (A 34)) ∧ (∀ p : Nat, (p : Int) < pr → wk_X (L 25) (g 6 p) (wk_e3 (A 49) p)) ∧ wk_W (I 10 2) (I 24) (L 23) (g 0) wc (A 51) (B 52)
/-- what the model keeps -/
def wn_R (lm st sg el dr sz pr wc sp nw : Int) : Prop := (1 ≤ lm ∧ lm ≤ 100000 ∧ (st = 0 ∨ st = 1)) ∧ (0 ≤ sg ∧ sg ≤ 200 ∧ 0 ≤ el ∧ el ≤ 512 ∧ 0 ≤ dr ∧ dr ≤ 512 ∧ 0 ≤ sz ∧ sz ≤ 8192) ∧ (0 ≤ pr ∧ pr ≤ 64 ∧ 0 ≤ wc ∧ wc ≤ 16 ∧ 0 ≤ sp ∧ sp ≤ lm ∧ 0 ≤ nw ∧ nw ≤ 1152921504606846976)
def wn_S (sg el : Int) (a30 a31 a32 : Nat → Int) : Prop := (∀ s : Nat, (s : Int) < sg → 0 ≤ a30 s ∧ a30 s ≤ 2 ∧ 1 ≤ a31 s ∧ a31 s ≤ 64 ∧ 0 ≤ a32 s ∧ a32 s + a31 s ≤ el) ∧ (∀ s1 s2 : Nat, s1 < s2 → (s2 : Int) < sg → a32 s1 + a31 s1 ≤ a32 s2)
def wn_D (gd : Nat → List (Nat × Nat)) (sg dr : Int) (a31 a32 a37 a38 : Nat → Int) : Prop :=
  (∀ s : Nat, (s : Int) < sg → (gd s).Pairwise (fun a b => b.2 + (a31 s).toNat ≤ a.2) ∧ (gd s).Pairwise (fun a b => a37 a.2 ≠ a37 b.2) ∧ ∀ c ∈ gd s, ((c.2 + (a31 s).toNat : Nat) : Int) ≤ dr ∧ ∀ k : Nat, (k : Int) < a31 s → a37 (c.2 + k) = a37 c.2 ∧ a38 (c.2 + k) = a32 s + k) ∧
  (∀ d : Nat, (d : Int) < dr → ∃ s : Nat, (s : Int) < sg ∧ wc_in (gd s) (a31 s).toNat d)
def wn_C (gd : Nat → List (Nat × Nat)) (sg dr nw : Int) (a30 a31 a39 : Nat → Int) (ct : Nat → List (Int × Int)) : Prop :=
  (∀ d : Nat, (d : Int) < dr → (ct d).Pairwise (fun a b => a.1 < b.1) ∧ ∀ y ∈ ct d, nw ≤ y.1 ∧ y.1 ≤ 1152921504606846976) ∧ (∀ s : Nat, (s : Int) < sg → a30 s ≠ 2 → ∀ d, wc_in (gd s) (a31 s).toNat d → (0 ≤ a39 d ∧ a39 d ≤ 8) ∧ ∀ y ∈ ct d, 0 ≤ y.2 ∧ y.2 ≤ 8)
def wn_V (st sg : Int) (a30 a31 a32 a35 : Nat → Int) : Prop := st = 0 → ∀ s : Nat, (s : Int) < sg → a30 s ≠ 2 → ∀ k : Nat, (k : Int) < a31 s → 0 ≤ a35 (a32 s + k).toNat ∧ a35 (a32 s + k).toNat ≤ 8
def wn_T (pr : Int) (a46 a47 b48 : Nat → Int) : Prop := ∀ p : Nat, (p : Int) < pr → (0 ≤ a46 p ∧ a46 p ≤ 3) ∧ (a47 p = 0 ∨ a47 p = 1) ∧ -1 ≤ b48 p ∧ b48 p ≤ 1152921504606846976
def wn_W (wc : Int) (b52 : Nat → Int) : Prop := ∀ j : Nat, (j : Int) < wc → 0 ≤ b52 j ∧ b52 j ≤ 1152921504606846976
def wn_O (a50 : Nat → Int) : Prop := ∀ j : Nat, j < 200 → a50 j = 0 ∨ a50 j = 1
def wn_Q (dr sz : Int) (A B : mq_A) (ct : Nat → List (Int × Int)) : Prop := (∀ d : Nat, (d : Int) < dr → mq_row A B d sz.toNat = ct d) ∧ (∀ j : Nat, (j : Int) < sz → 0 ≤ A 40 j ∧ A 40 j < dr) ∧ sz = mq_sum (fun d => ((ct d).length : Int)) dr.toNat
def wn_Z (st sg el dr pr : Int) (a31 a33 a34 a35 a36 a39 a47 a49 : Nat → Int) : Prop := (∀ s : Nat, sg ≤ (s : Int) → a31 s = 0) ∧ (st = 0 → (∀ s : Nat, sg ≤ (s : Int) → a33 s = 0 ∧ a34 s = 0) ∧ (∀ j : Nat, el ≤ (j : Int) → a35 j = 0 ∧ a36 j = 0) ∧ (∀ d : Nat, dr ≤ (d : Int) → a39 d = 0) ∧ (∀ p : Nat, pr ≤ (p : Int) → a47 p = 0 ∧ ∀ s : Nat, s < 200 → a49 (200 * p + s) = 0))
def wn_M (gd : Nat → List (Nat × Nat)) (lm st sg el dr sz pr wc sp nw : Int) (A B : mq_A) (ct : Nat → List (Int × Int)) : Prop :=
  wn_R lm st sg el dr sz pr wc sp nw ∧ wn_S sg el (A 30) (A 31) (A 32) ∧ wn_D gd sg dr (A 31) (A 32) (A 37) (A 38) ∧ wn_C gd sg dr nw (A 30) (A 31) (A 39) ct ∧ wn_V st sg (A 30) (A 31) (A 32) (A 35) ∧ wn_T pr (A 46) (A 47) (B 48) ∧ wn_W wc (B 52) ∧ wn_O (A 50) ∧ wn_Q dr sz A B ct ∧ wn_Z st sg el dr pr (A 31) (A 33) (A 34) (A 35) (A 36) (A 39) (A 47) (A 49)
/-- a heap of the class and a state of the model that belong together -/
def wk_J (h : wc_H) (x : Nat) (M : mq_H) : Prop := mq_f M fun _ lm st sg el dr sz pr wc sp nw A B => ∃ g gd ct, wk_K h x g gd lm st sg el dr pr wc sp nw A B ct ∧ wn_M gd lm st sg el dr sz pr wc sp nw A B ct
/-- every answer of the model with this code -/
def wk_Z (sm : List wi_V → mq_H → wi_Q1 mq_H → wi_Q2 mq_H → Prop) (as : List wi_V) (M : mq_H) (h : wc_H) (x : Nat) (cd : Int) (ok : Option wi_V → Prop) : Prop := ∀ Q T, (∀ b F A B, ok b → wk_J h x (cd :: F, A, B) → Q b (cd :: F, A, B)) → sm as M Q T
theorem wk_dc_m {tg ln tg' ln' : Nat → Nat} {I3 I3' : Nat → Nat → Int} {R3 R22 R3' R22' : Nat → Nat → Option Nat} {w : Nat} {rw : Nat → Nat} {pp pp' : Nat → Int} (h1 : ∀ q, tg q ≠ 0 → tg' q = tg q ∧ ln' q = ln q) (h2 : ∀ q, tg q ≠ 0 → I3' 0 q = I3 0 q ∧ R3' 1 q = R3 1 q ∧ R3' 2 q = R3 2 q ∧ ∀ k, R22' k q = R22 k q) : ∀ {l : List (Nat × Nat)} {o : Option Nat}, (∀ c ∈ l, pp' c.2 = pp c.2) → wc_dc tg ln I3 R3 R22 w rw pp o l → wc_dc tg' ln' I3' R3' R22' w rw pp' o l
  | [], _, _, h => h
  | c :: r, o, hp, h => by
    obtain ⟨a1, a2, a3, ⟨ra, b1, b2, b3, b4⟩, a5⟩ := h
    have hc : tg c.1 ≠ 0 := by rw [a2]; decide
    have hr : tg ra ≠ 0 := by rw [b2]; decide
    obtain ⟨e1, e2, e3, e4⟩ := h2 c.1 hc
    refine ⟨a1, (h1 _ hc).1.trans a2, ?_, ⟨ra, e2.trans b1, (h1 _ hr).1.trans b2, (h1 _ hr).2.trans b3, fun k hk => ((h2 ra hr).2.2.2 k).trans (b4 k hk)⟩, ?_⟩
    · rw [e1, hp c List.mem_cons_self]
      exact a3
    · rw [e3]
      exact wk_dc_m h1 h2 (fun b hb => hp b (List.mem_cons_of_mem _ hb)) a5
theorem wc_rk_m {h h' : wc_H} {st D : Nat} {rw : Nat → Nat} {cs : Nat → List Nat} {ids : List Nat} (hn : h.2.2.2.2.2 ≤ h'.2.2.2.2.2) (h1 : ∀ q, h.1 q ≠ 0 → h'.1 q = h.1 q) (h2 : ∀ q, h.1 q ≠ 0 → h'.2.2.1 7 0 q = h.2.2.1 7 0 q ∧ h'.2.2.2.2.1 4 0 q = h.2.2.2.2.1 4 0 q ∧ h'.2.2.2.2.1 4 1 q = h.2.2.2.2.1 4 1 q ∧ h'.2.2.2.2.1 7 1 q = h.2.2.2.2.1 7 1 q ∧ h'.2.2.2.2.1 9 2 q = h.2.2.2.2.1 9 2 q) (k : wc_rk h st D rw cs ids) : wc_rk h' st D rw cs ids := by
  obtain ⟨k1, k2, k3, k4, k4b, k5, k6, k7, k8⟩ := k
  have n7 : h.1 st ≠ 0 := by rw [k1]; decide
  have n9 : ∀ a, (a ∈ ids ∨ ∃ d, d < D ∧ a ∈ cs d) → h.1 a ≠ 0 := fun a ha => by rw [(k7 a ha).1]; decide
  refine ⟨(h1 _ n7).trans k1, fun d hd => ?_, k3, ?_, k4b, k5, k6, fun a ha => ⟨(h1 _ (n9 a ha)).trans (k7 a ha).1, Nat.lt_of_lt_of_le (k7 a ha).2 hn⟩, ?_⟩
  · have n4 : h.1 (rw d) ≠ 0 := by rw [(k2 d hd).1]; decide
    obtain ⟨e1, e2, e3, e4, e5⟩ := h2 _ n4
    refine ⟨(h1 _ n4).trans (k2 d hd).1, e2.trans (k2 d hd).2.1, ?_⟩
    rw [e3]
    exact wc_ch_c (k2 d hd).2.2 (fun a ha => (h2 a (n9 a (Or.inr ⟨d, hd, ha⟩))).2.2.2.2)
  · rw [(h2 _ n7).2.2.2.1]
    exact wc_ch_c k4 (fun a ha => (h2 a (n9 a (Or.inl ha))).2.2.2.2)
  · rw [(h2 _ n7).1]
    exact k8
theorem wc_rv_m {h h' : wc_H} {st D : Nat} {rw : Nat → Nat} {vl : Nat → Int} {ct : Nat → List (Int × Int)} (hn : h.2.2.2.2.2 ≤ h'.2.2.2.2.2) (h1 : ∀ q, h.1 q ≠ 0 → h'.1 q = h.1 q) (h2 : ∀ t j q, t = 4 ∨ t = 7 ∨ t = 9 → h.1 q ≠ 0 → h'.2.2.1 t j q = h.2.2.1 t j q ∧ h'.2.2.2.1 t j q = h.2.2.2.1 t j q ∧ h'.2.2.2.2.1 t j q = h.2.2.2.2.1 t j q) (k : wc_rv h st D rw vl ct) : wc_rv h' st D rw vl ct := by
  obtain ⟨a1, a2, a3, cs, ids, a4, a5⟩ := k
  refine ⟨Nat.lt_of_lt_of_le a1 hn, fun d hd => Nat.lt_of_lt_of_le (a2 d hd) hn, a3, cs, ids, wc_rk_m hn h1 (fun q hq => ⟨(h2 7 0 q (by omega) hq).1, (h2 4 0 q (by omega) hq).2.2, (h2 4 1 q (by omega) hq).2.2, (h2 7 1 q (by omega) hq).2.2, (h2 9 2 q (by omega) hq).2.2⟩) a4, fun d hd => ?_⟩
  have n4 : h.1 (rw d) ≠ 0 := by rw [(a4.2.1 d hd).1]; decide
  rw [(h2 4 2 _ (by omega) n4).1, ← (a5 d hd).1, ← (a5 d hd).2]
  refine ⟨rfl, List.map_congr_left (fun a ha => ?_)⟩
  have n9 : h.1 a ≠ 0 := by rw [(a4.2.2.2.2.2.2.2.1 a (Or.inr ⟨d, hd, ha⟩)).1]; decide
  rw [(h2 9 0 a (by omega) n9).2.1, (h2 9 1 a (by omega) n9).1]
theorem wc_rv_e {tg ln : Nat → Nat} {I L I' L' : wm_F Int} {R R' : wm_F (Option Nat)} {n n' : Nat} {st D : Nat} {rw : Nat → Nat} {vl : Nat → Int} {ct : Nat → List (Int × Int)} (hn : n ≤ n') (h : I' 4 = I 4 ∧ I' 7 = I 7 ∧ I' 9 = I 9 ∧ L' 9 = L 9 ∧ R' 4 = R 4 ∧ R' 7 = R 7 ∧ R' 9 = R 9) (k : wc_rv (tg, ln, I, L, R, n) st D rw vl ct) : wc_rv (tg, ln, I', L', R', n') st D rw vl ct := by
  obtain ⟨e1, e2, e3, e4, e5, e6, e7⟩ := h
  obtain ⟨a1, a2, a3, cs, ids, a4, a5⟩ := k
  refine ⟨Nat.lt_of_lt_of_le a1 hn, fun d hd => Nat.lt_of_lt_of_le (a2 d hd) hn, a3, cs, ids, wc_rk_m (h := (tg, ln, I, L, R, n)) (h' := (tg, ln, I', L', R', n')) hn (fun _ _ => rfl) (fun q hq => ?_) a4, fun d hd => ?_⟩
  · show I' 7 0 q = I 7 0 q ∧ R' 4 0 q = R 4 0 q ∧ R' 4 1 q = R 4 1 q ∧ R' 7 1 q = R 7 1 q ∧ R' 9 2 q = R 9 2 q
    rw [e2, e5, e6, e7]
    exact ⟨rfl, rfl, rfl, rfl, rfl⟩
  · show I' 4 2 (rw d) = vl d ∧ wc_cn I' L' (cs d) = ct d
    rw [e1]
    refine ⟨(a5 d hd).1, ?_⟩
    rw [← (a5 d hd).2]
    exact List.map_congr_left (fun a ha => by rw [e3, e4])
/-- only n grows -/
theorem wk_K_n {tg ln : Nat → Nat} {I L : wm_F Int} {R : wm_F (Option Nat)} {n n' x : Nat} {g : Nat → Nat → Nat} {gd : Nat → List (Nat × Nat)} {lm st sg el dr pr wc sp nw : Int} {A B : mq_A} {ct : Nat → List (Int × Int)} (h : wk_K (tg, ln, I, L, R, n) x g gd lm st sg el dr pr wc sp nw A B ct) (hn : n ≤ n') : wk_K (tg, ln, I, L, R, n') x g gd lm st sg el dr pr wc sp nw A B ct := by
  obtain ⟨k1, k2, k3, k4, k5, k6, k7, k8, k9⟩ := h
  exact ⟨fun q hq => Nat.lt_of_lt_of_le (k1 q hq) hn, k2, k3, k4, k5, k6, k7, wc_rv_e hn ⟨rfl, rfl, rfl, rfl, rfl, rfl, rfl⟩ k8, k9⟩
