/-! THE KERNEL, 11: what every contract gives besides; an element assigned -/
def wc_hn (h : wc_H) : Prop := ∀ q, h.1 q ≠ 0 → q < h.2.2.2.2.2
def wc_G (ok : Nat → Bool) (h h2 : wc_H) : Prop := wc_hn h2 ∧ h.2.2.2.2.2 ≤ h2.2.2.2.2.2 ∧ (∀ q, q < h.2.2.2.2.2 → h2.1 q = h.1 q ∧ h2.2.1 q = h.2.1 q) ∧ ∀ t, ok t = false → h2.2.2.1 t = h.2.2.1 t ∧ h2.2.2.2.1 t = h.2.2.2.1 t ∧ h2.2.2.2.2.1 t = h.2.2.2.2.1 t
def wc_fr (ok : Nat → Bool) (sp : List wi_V → wc_H → wi_Q1 wc_H → wi_Q2 wc_H → Prop) : List wi_V → wc_H → wi_Q1 wc_H → wi_Q2 wc_H → Prop := fun as h q qt => wc_hn h → sp as h (fun r h2 => wc_G ok h h2 → q r h2) (fun t h2 => wc_G ok h h2 → qt t h2)
theorem wc_free {l : Launch} {D : va_G} {aC : wm_Y} {b0 mi : Nat} {ok : Nat → Bool} {sp : List wi_V → wc_H → wi_Q1 wc_H → wi_Q2 wc_H → Prop} (h : wm_sp l D aC b0 mi (wi_lf (wc_Rl ok) sp)) : wm_sp l D aC b0 mi (wi_lf (wc_Rl ok) (wc_fr ok sp)) := by
  intro as' h' q1' q2' z
  obtain ⟨ρ, as, h0, q1, q2, z1, z2, z3, z4, z5⟩ := z
  obtain ⟨y1, ⟨e1, e2, e3, e4, e5, e6⟩, y3⟩ := id z2
  have hn0 : wc_hn h0 := fun q hq => by rw [← e6]; exact y3.1 q (by rw [e1]; exact hq)
  have key : ∀ g g', wc_Rl ok ρ h' g g' → wc_G ok h0 g := fun g g' r => by
    obtain ⟨-, ⟨x1, x2, x3, x4, x5, x6⟩, w1, w2, w3, w4⟩ := r
    refine ⟨fun q hq => ?_, ?_, fun q hq => ?_, fun t ht => ⟨?_, ?_, ?_⟩⟩
    · rw [← x6]
      exact w1 q (by rw [x1]; exact hq)
    · rw [← e6, ← x6]
      exact w2
    · have := w3 q (by rw [e6]; exact hq)
      rw [← x1, ← x2, ← e1, ← e2]
      exact this
    · funext k q
      rw [← x3, ← e3, (w4 t ht).1]
    · funext k q
      rw [← x4, ← e4, (w4 t ht).2.1]
    · rw [← x5, ← e5]
      exact (w4 t ht).2.2
  exact h as' h' q1' q2' ⟨ρ, as, h0, _, _, z1, z2, z3 hn0, fun v g v' g' hv ro rl => z4 v g v' g' (hv (key g g' rl)) ro rl, fun t g g' hv rl => z5 t g g' (hv (key g g' rl)) rl⟩
def sc_45n : List wi_V → wc_H → wi_Q1 wc_H → wi_Q2 wc_H → Prop := wc_fr wc_ok sc_45
theorem cm_45n {l : Launch} {D : va_G} {aC : wm_Y} {b0 : Nat} (hl0 : l.stackTraces = false) : wm_sp l D aC b0 45 (wi_lf (wc_Rl wc_ok) sc_45n) := wc_free (cm_45 hl0)
/-- the rows with their chains -/
def wc_rw (h : wc_H) (st D : Nat) (rw : Nat → Nat) (vl : Nat → Int) (ct : Nat → List (Int × Int)) (cs : Nat → List Nat) (ids : List Nat) : Prop := st < h.2.2.2.2.2 ∧ (∀ d, d < D → rw d < h.2.2.2.2.2) ∧ wc_rk h st D rw cs ids ∧ ∀ d, d < D → h.2.2.1 4 2 (rw d) = vl d ∧ wc_cn h.2.2.1 h.2.2.2.1 (cs d) = ct d
theorem wc_rw_x {h : wc_H} {st D : Nat} {rw : Nat → Nat} {vl : Nat → Int} {ct ct' : Nat → List (Int × Int)} {cs : Nat → List Nat} {ids : List Nat} (h1 : wc_rw h st D rw vl ct cs ids) (e : ∀ d, d < D → ct' d = ct d) : wc_rw h st D rw vl ct' cs ids := ⟨h1.1, h1.2.1, h1.2.2.1, fun d hd => by rw [e d hd]; exact h1.2.2.2 d hd⟩
theorem wc_rw_up {h h' : wc_H} {st D : Nat} {rw : Nat → Nat} {vl : Nat → Int} {ct : Nat → List (Int × Int)} {cs : Nat → List Nat} {ids ids' c' : List Nat} {l' : List (Int × Int)} (k : wc_rw h st D rw vl ct cs ids) {d0 : Nat} (hd : d0 < D) (r : wc_rs h' (rw d0) st c' ids') (f : wc_ro h h' (rw d0) st (cs d0 ++ ids)) (hs : ∀ a ∈ c' ++ ids', a ∈ cs d0 ++ ids ∨ h.2.2.2.2.2 ≤ a) (hn : h'.2.2.1 7 0 st = h.2.2.1 7 0 st + c'.length - (cs d0).length) (hv : h'.2.2.1 4 2 (rw d0) = h.2.2.1 4 2 (rw d0)) (hl : wc_cn h'.2.2.1 h'.2.2.2.1 c' = l') : wc_rw h' st D rw vl (wc_u ct d0 l') (wc_u cs d0 c') ids' := by
  obtain ⟨a1, a2, a3, a4⟩ := k
  obtain ⟨y1, y2⟩ := wc_rk_up a2 a3 hd r f hs hn
  refine ⟨Nat.lt_of_lt_of_le a1 f.1, fun d h1 => Nat.lt_of_lt_of_le (a2 d h1) f.1, y1, fun d h1 => ?_⟩
  by_cases z : d = d0
  · subst z
    simp only [wc_u, if_pos]
    exact ⟨hv.trans (a4 d hd).1, hl⟩
  · simp only [wc_u, if_neg z]
    have := y2 d h1 z
    exact ⟨this.1.trans (a4 d h1).1, this.2.trans (a4 d h1).2⟩
theorem wc_u_u {α : Type} {f : Nat → α} {d : Nat} {a b : α} : wc_u (wc_u f d a) d b = wc_u f d b := by
  funext e
  simp only [wc_u]
  split <;> rfl
theorem wc_u_s {α : Type} {f : Nat → α} {d : Nat} {a : α} : wc_u f d a d = a := if_pos rfl
def wk_nl (I L : wm_F Int) (dy em : Nat) (nw : Int) (k : Nat) : Nat → List (Int × Int)
  | 0 => []
  | w + 1 => wk_nl I L dy em nw k w ++ [(nw + L 23 w dy, I 24 (w * 64 + k) em)]
theorem wk_nl_l {I L : wm_F Int} {dy em : Nat} {nw : Int} {k : Nat} : ∀ {w : Nat}, (wk_nl I L dy em nw k w).length = w
  | 0 => rfl
  | w + 1 => by simp only [wk_nl, List.length_append, wk_nl_l]; rfl
/-- what stays of a row -/
def wk_l2 (l : List (Int × Int)) (bg kb v0 lim : Int) (l2 : List (Int × Int)) : Prop :=
  (lim = 0 → l2 = l.takeWhile (fun y => decide (y.1 < bg))) ∧ (lim ≠ 0 → ∃ Dl Kl, (l.takeWhile (fun y => decide (y.1 < bg))).dropWhile (fun y => decide (y.1 < bg - kb)) = Dl ++ Kl ∧ (∀ y ∈ Kl, y.2 = v0) ∧ (∀ b, Dl.getLast? = some b → b.2 ≠ v0) ∧ l2 = (l.takeWhile (fun y => decide (y.1 < bg))).takeWhile (fun y => decide (y.1 < bg - kb)) ++ Kl)
theorem wl_tw_all {α : Type} {p : α → Bool} {l : List α} : ∀ a ∈ l.takeWhile p, p a = true := by
  induction l with
  | nil => intro a ha; cases ha
  | cons b r ih =>
    intro a ha
    rw [List.takeWhile_cons] at ha
    split at ha
    · rename_i hb
      rcases List.mem_cons.mp ha with rfl | ha
      · exact hb
      · exact ih a ha
    · cases ha
theorem wl_tw_id {α : Type} {p : α → Bool} : ∀ {l : List α}, (∀ a ∈ l, p a = true) → l.takeWhile p = l
  | [], _ => rfl
  | a :: r, h => by
    rw [List.takeWhile_cons, if_pos (h a List.mem_cons_self), wl_tw_id (fun b hb => h b (List.mem_cons_of_mem _ hb))]
def sc_30 (as : List wi_V) (h : wc_H) (q : wi_Q1 wc_H) (qt : wi_Q2 wc_H) : Prop := wc_sTTIIJ as (fun x y k lim kb => wc_f h fun tg ln I L R n => tg x = 2 ∧ ∃ (s D d : Nat) (rw : Nat → Nat) (vl : Nat → Int) (ct : Nat → List (Int × Int)) (wv dy em : Nat), (R 2 4 x = some wv ∧ tg wv = 10 ∧ R 10 0 wv = some dy ∧ tg dy = 23 ∧ ln dy = 16 ∧ R 10 1 wv = some em ∧ tg em = 24 ∧ ln em = 1024) ∧ (1 ≤ I 10 2 wv ∧ I 10 2 wv ≤ 16 ∧ 0 ≤ k ∧ k < 64 ∧ 0 ≤ L 2 12 x ∧ L 2 12 x ≤ 1152921504606846976) ∧ (∀ j : Nat, (j : Int) < I 10 2 wv → 0 ≤ L 23 j dy ∧ L 23 j dy ≤ 1152921504606846976) ∧ (lim = 0 ∨ lim = 1) ∧ (lim ≠ 0 → 0 ≤ kb ∧ kb ≤ 1152921504606846976) ∧ d < D ∧ y = rw d ∧ wc_rv (tg, ln, I, L, R, n) s D rw vl ct ∧ mq_sum (fun d => ((ct d).length : Int)) D + I 10 2 wv ≤ 8192 ∧ wc_hn (tg, ln, I, L, R, n) ∧ ∀ h' l2, wc_rv h' s D rw vl (wc_u ct d (l2 ++ wk_nl I L dy em (L 2 12 x) k.toNat (I 10 2 wv).toNat)) → wc_fx (tg, ln, I, L, R, n) h' → wc_hn h' → wk_l2 (ct d) (L 2 12 x + L 23 0 dy) kb (I 24 k.toNat em) lim l2 → l2.length ≤ (ct d).length → q (some (.inl (((ct d).length : Int) - l2.length))) h')
theorem cm_30 {l : Launch} {D : va_G} {aC : wm_Y} {b0 : Nat} (hl0 : l.stackTraces = false) : wm_sp l D aC b0 30 (wi_lf (wc_Rl wc_ok) sc_30) := by
  refine wi_method (wc_lw wc_ok) 30 (cx := fun id => if id = 42 then sc_42 else if id = 43 then sc_43 else if id = 44 then sc_44 else if id = 45 then sc_45n else if id = 74 then sc_74 else fun _ _ _ _ => False) (ids := ci_30) (tb := tb_30) (by decide +kernel) hl0 (wm_cxc (cm_42 hl0) oi_30 (fun h => wm_cxc (cm_43 hl0) h (fun h => wm_cxc (cm_44 hl0) h (fun h => wm_cxc (cm_45n hl0) h (fun h => wm_cxc (cm_74 hl0) h (fun h => wm_cxn h)))))) (wm_tb_ok tk_30) (by decide +kernel) [51, 62] 300 (fun as h q qt hs => ?_)
  obtain ⟨x, y, k, lim, kb, rfl, hs1⟩ := wc_sTTIIJ_e hs
  clear hs
  obtain ⟨tg, ln, I, L, R, n⟩ := h
  have hs := id hs1
  clear hs1
  simp only [wc_f] at hs
  obtain ⟨b1, s, D9, d, rw, vl, ct, wv, dy, em, ⟨c1, c2, c3, c4, c5, c6, c7, c8⟩, ⟨r1, r2, r3, r4, r5, r6⟩, r7, r8, r9, hd, rfl, ⟨g1, g2, g3, cs, ids, g4, g5⟩, r10, hn, h1⟩ := hs
  have rw0 : wc_rw (tg, ln, I, L, R, n) s D9 rw vl ct cs ids := ⟨g1, g2, g4, g5⟩
  have l0 := r7 0 (by omega)
  have hln : ((cs d).length : Int) ≤ I 7 0 s ∧ I 7 0 s ≤ 8192 := by
    have e := g4.2.2.2.2.2.2.2.2
    have e2 := wc_rv_n g4 g5
    simp only at e e2
    refine ⟨?_, by omega⟩
    rw [e]
    exact mq_sum_le (g := fun d => ((cs d).length : Int)) (fun d => Int.natCast_nonneg _) hd
  have cd := (g5 d hd).2
  simp only at cd
  refine ⟨rfl, fun mz pc lv sk h cu su => match pc with | 51 => ∃ I2 : wm_F Int, ∃ R2 : wm_F (Option Nat), ∃ l2 : List (Int × Int), ∃ cs2 : Nat → List Nat, ∃ ids2 : List Nat, ∃ w9 : Option wi_V, ∃ w10 : Option wi_V, lv = [some (wi_rf (some x)), some (wi_rf (some (rw d))), some (.inl (k)), some (.inl (lim)), some (.inr (.inl (kb))), none, some (.inr (.inl ((L 2 12 x + L 23 0 dy)))), none, some (.inl (((ct d).length : Int) - l2.length)), w9, w10] ∧ sk = [] ∧ h = (tg, ln, I2, L, R2, n) ∧ cu = 0 ∧ su = 0 ∧ mz = 1000 ∧ wc_rw (tg, ln, I2, L, R2, n) s D9 rw vl (wc_u ct d l2) cs2 ids2 ∧ wc_fx (tg, ln, I, L, R, n) (tg, ln, I2, L, R2, n) ∧ wk_l2 (ct d) (L 2 12 x + L 23 0 dy) kb (I 24 k.toNat em) lim l2 ∧ l2.length ≤ (ct d).length ∧ (∀ y ∈ l2, y.1 < (L 2 12 x + L 23 0 dy)) | 62 => ∃ i : Nat, ∃ tg3 : Nat → Nat, ∃ ln3 : Nat → Nat, ∃ I3 : wm_F Int, ∃ L3 : wm_F Int, ∃ R3 : wm_F (Option Nat), ∃ n3 : Nat, ∃ l2 : List (Int × Int), ∃ cs3 : Nat → List Nat, ∃ ids3 : List Nat, lv = [some (wi_rf (some x)), some (wi_rf (some (rw d))), some (.inl (k)), some (.inl (lim)), some (.inr (.inl (kb))), none, some (.inr (.inl ((L 2 12 x + L 23 0 dy)))), none, some (.inl (((ct d).length : Int) - l2.length)), some (wi_rf ((cs3 d).getLast?)), some (.inl ((i : Int)))] ∧ sk = [] ∧ h = (tg3, ln3, I3, L3, R3, n3) ∧ cu = 0 + i ∧ su = 0 + 3 * i ∧ mz = (I 10 2 wv).toNat - i ∧ (i : Int) ≤ I 10 2 wv ∧ wc_rw (tg3, ln3, I3, L3, R3, n3) s D9 rw vl (wc_u ct d (l2 ++ wk_nl I L dy em (L 2 12 x) k.toNat i)) cs3 ids3 ∧ wc_fx (tg, ln, I, L, R, n) (tg3, ln3, I3, L3, R3, n3) ∧ wc_hn (tg3, ln3, I3, L3, R3, n3) ∧ wk_l2 (ct d) (L 2 12 x + L 23 0 dy) kb (I 24 k.toNat em) lim l2 ∧ l2.length ≤ (ct d).length | _ => False, mq_c2 (fun mz lv sk h cu su hI => ?_) (fun mz lv sk h cu su hI => ?_), ?_⟩
  · obtain ⟨I2, R2, l2, cs2, ids2, w9, w10, rfl, rfl, rfl, rfl, rfl, rfl, p1, p2, p3, p4, p5⟩ := hI
    obtain ⟨q1, q2, q3, q4⟩ := id p1
    have q5 := (q4 d hd).2
    simp only [wc_u_s] at q5
    obtain ⟨i1, i2, i3⟩ := q3.2.1 d hd
    simp only at i1 i2 i3
    have i4 : ∀ a ∈ cs2 d, tg a = 9 := fun a ha => (q3.2.2.2.2.2.2.2.1 a (Or.inr ⟨d, hd, ha⟩)).1
    have tl : (cs2 d).takeWhile (fun a => decide (L 9 0 a < L 2 12 x + L 23 0 dy)) = cs2 d := wl_tw_id (fun a ha => by
      have := p5 (L 9 0 a, I2 9 1 a) (by rw [← q5]; exact List.mem_map_of_mem ha)
      simpa using this)
    have p1' : wc_rw (tg, ln, I2, L, R2, n) s D9 rw vl (wc_u ct d (l2 ++ wk_nl I L dy em (L 2 12 x) k.toNat 0)) cs2 ids2 := by
      show wc_rw _ s D9 rw vl (wc_u ct d (l2 ++ [])) cs2 ids2
      rw [List.append_nil]
      exact p1
    repeat' first
      | refine And.intro ?_ ?_
      | refine Exists.intro (cs2 d) (And.intro i3 (And.intro i4 ?_))
      | (rw [tl])
      | refine Exists.intro _ (And.intro (show _ = _ from by assumption) ?_)
      | refine Exists.intro _ (And.intro rfl (And.intro (by assumption) ?_))
      | refine Exists.intro _ (And.intro rfl ?_)
      | (intro h; try omega)
      | omega
      | (rw [tl]; (refine Exists.intro _ (And.intro ?_ (Exists.intro (0) (Exists.intro (_) (Exists.intro (_) (Exists.intro (_) (Exists.intro (_) (Exists.intro (_) (Exists.intro (_) (Exists.intro (l2) (Exists.intro (cs2) (Exists.intro (ids2) (And.intro rfl (And.intro rfl (And.intro rfl (And.intro rfl (And.intro rfl (And.intro rfl (?_)))))))))))))))))) <;> first | omega | exact ⟨by omega, p1', p2, hn, p3, p4⟩))
      | (simp only [tl]; (refine Exists.intro _ (And.intro ?_ (Exists.intro (0) (Exists.intro (_) (Exists.intro (_) (Exists.intro (_) (Exists.intro (_) (Exists.intro (_) (Exists.intro (_) (Exists.intro (l2) (Exists.intro (cs2) (Exists.intro (ids2) (And.intro rfl (And.intro rfl (And.intro rfl (And.intro rfl (And.intro rfl (And.intro rfl (?_)))))))))))))))))) <;> first | omega | exact ⟨by omega, p1', p2, hn, p3, p4⟩))
      | exact Nat.le_of_ble_eq_true rfl
      | assumption
  · obtain ⟨i, tg3, ln3, I3, L3, R3, n3, l2, cs3, ids3, rfl, rfl, rfl, rfl, rfl, rfl, p1, p2, p3, p4, p5, p6⟩ := hI
    obtain ⟨f1, f2, f3, f4⟩ := id p3
    simp only at f1 f2 f4
    have tgo : ∀ q, tg q ≠ 0 → tg3 q = tg q ∧ ln3 q = ln q := fun q hq => f2 q (hn q hq)
    have b1' : tg3 x = 2 := (tgo x (by rw [b1]; decide)).1.trans b1
    have c1' : R3 2 4 x = some wv := by rw [(f4 2 (by decide) (by decide) (by decide)).2.2]; exact c1
    have c2' : tg3 wv = 10 := (tgo wv (by rw [c2]; decide)).1.trans c2
    have c3' : R3 10 0 wv = some dy := by rw [(f4 10 (by decide) (by decide) (by decide)).2.2]; exact c3
    have c4' : tg3 dy = 23 := (tgo dy (by rw [c4]; decide)).1.trans c4
    have c5' : ln3 dy = 16 := (tgo dy (by rw [c4]; decide)).2.trans c5
    have c6' : R3 10 1 wv = some em := by rw [(f4 10 (by decide) (by decide) (by decide)).2.2]; exact c6
    have c7' : tg3 em = 24 := (tgo em (by rw [c7]; decide)).1.trans c7
    have c8' : ln3 em = 1024 := (tgo em (by rw [c7]; decide)).2.trans c8
    have w1 : I3 10 2 wv = I 10 2 wv := by rw [(f4 10 (by decide) (by decide) (by decide)).1]
    have nw1 : L3 2 12 x = L 2 12 x := by rw [(f4 2 (by decide) (by decide) (by decide)).2.1]
    obtain ⟨q1, q2, q3, q4⟩ := id p2
    obtain ⟨i1, i2, i3⟩ := q3.2.1 d hd
    simp only at i1 i2 i3 q1 q2
    have sm : mq_sum (fun e => ((wc_u ct d (l2 ++ wk_nl I L dy em (L 2 12 x) k.toNat i) e).length : Int)) D9 = mq_sum (fun d => ((ct d).length : Int)) D9 + (l2.length + i) - (ct d).length := by
      have e : (fun e => ((wc_u ct d (l2 ++ wk_nl I L dy em (L 2 12 x) k.toNat i) e).length : Int)) = wc_u (fun d => ((ct d).length : Int)) d ((l2.length + i : Nat) : Int) := by
        funext e
        by_cases z : e = d
        · simp only [wc_u, if_pos z, List.length_append, wk_nl_l]
        · simp only [wc_u, if_neg z]
      rw [e, mq_sum_u hd]
      omega
    have iu := wc_rv_n q3 q4
    simp only at iu
    have iu0 : 0 ≤ I3 7 0 s := by
      have := q3.2.2.2.2.2.2.2.2
      simp only at this
      rw [this]
      exact mq_sum_ge (fun d => Int.natCast_nonneg _)
    have iu1 : I3 7 0 s < 100000 := by omega
    have hrs := wc_rk_rs q3 hd
    by_cases hi : (i : Int) < I 10 2 wv
    · have ei : ((i : Int)).toNat = i := by omega
      have li := r7 i hi
      have e23 : L3 23 (i : Int).toNat dy = L 23 i dy := by rw [ei, (f4 23 (by decide) (by decide) (by decide)).2.1]
      have e24 : I3 24 ((i : Int) * 64 + k).toNat em = I 24 (i * 64 + k.toNat) em := by
        rw [(f4 24 (by decide) (by decide) (by decide)).1, show ((i : Int) * 64 + k).toNat = i * 64 + k.toNat from by omega]
      have bl : (i : Int) < ln3 dy := by omega
      have hn3 : wc_hn (tg3, ln3, I3, L3, R3, n3) := p4
      have nx : ∀ a ids' h4, wc_ab (tg3, ln3, I3, L3, R3, n3) h4 (rw d) s a (cs3 d) ids3 ids' (L3 2 12 x + L3 23 (i : Int).toNat dy) (I3 24 ((i : Int) * 64 + k).toNat em) → wc_G wc_ok (tg3, ln3, I3, L3, R3, n3) h4 → wc_rw h4 s D9 rw vl (wc_u ct d (l2 ++ wk_nl I L dy em (L 2 12 x) k.toNat (i + 1))) (wc_u cs3 d (cs3 d ++ [a])) ids' ∧ wc_fx (tg, ln, I, L, R, n) h4 ∧ wc_hn h4 := by
        intro a ids' h4 hab hG
        obtain ⟨x1, x2, x3, x4, x5, x6, x7, x8, x9⟩ := hab
        have hx := wc_rw_up p2 hd x1 x2 (fun b hb => by
          rcases List.mem_append.mp hb with z | z
          · rcases List.mem_append.mp z with z | z
            · exact Or.inl (List.mem_append_left _ z)
            · rw [List.mem_singleton.mp z]
              exact x9.imp (List.mem_append_right _) id
          · exact Or.inl (List.mem_append_right _ (x8 b z))) (by
          rw [x6, List.length_append]
          simp only [List.length_singleton]
          omega) x7 (l' := wc_u ct d (l2 ++ wk_nl I L dy em (L 2 12 x) k.toNat i) d ++ [(L 2 12 x + L 23 i dy, I 24 (i * 64 + k.toNat) em)]) (by
          rw [← (q4 d hd).2]
          unfold wc_cn
          rw [List.map_append]
          congr 1
          · exact List.map_congr_left (fun b hb => by rw [(x3 b hb).1, (x3 b hb).2])
          · simp only [List.map_cons, List.map_nil]
            rw [x4, x5, e23, e24, nw1])
        rw [wc_u_u, wc_u_s, List.append_assoc] at hx
        exact ⟨hx, wc_fx_tr p3 (wc_fx_ro x2), hG.1⟩
      repeat' first
        | refine And.intro ?_ ?_
        | exact hn3
        | refine Exists.intro s (Exists.intro (cs3 d) (Exists.intro ids3 (And.intro hrs (And.intro rfl (And.intro (q2 d hd) (And.intro q1 (And.intro iu0 (And.intro iu1 ?_))))))))
        | (intro a9 ids9 h9 hab9 hG9; obtain ⟨n1, n2, n3'⟩ := nx a9 ids9 h9 hab9 hG9; obtain ⟨tg4, ln4, I4, L4, R4, n4⟩ := h9; have lst : (wc_u cs3 d (cs3 d ++ [a9]) d).getLast? = some a9 := (by rw [wc_u_s]; simp))
        | refine Exists.intro _ (And.intro (show _ = _ from by assumption) ?_)
        | refine Exists.intro _ (And.intro rfl (And.intro (by assumption) ?_))
        | refine Exists.intro _ (And.intro rfl ?_)
        | (intro h; try omega)
        | omega
        | (refine Exists.intro _ (And.intro ?_ (Exists.intro (i + 1) (Exists.intro _ (Exists.intro _ (Exists.intro _ (Exists.intro _ (Exists.intro _ (Exists.intro _ (Exists.intro l2 (Exists.intro (wc_u cs3 d (cs3 d ++ [a9])) (Exists.intro ids9 (And.intro (by rw [lst]; rfl) (And.intro rfl (And.intro rfl (And.intro (by first | rfl | omega | (simp only [wm_mc, wm_ms]; omega)) (And.intro (by first | rfl | omega | (simp only [wm_mc, wm_ms]; omega)) (And.intro rfl ?_))))))))))))))))) <;> first | omega | exact ⟨by omega, n1, n2, n3', p5, p6⟩)
        | (simp only [wm_mr, wm_mc, wm_ms]; omega)
        | exact Nat.le_of_ble_eq_true rfl
        | assumption
    · have e9 : (I 10 2 wv).toNat = i := by omega
      have f9 := h1 (tg3, ln3, I3, L3, R3, n3) l2 (by
        rw [e9]
        exact ⟨q1, q2, by rw [sm]; omega, cs3, ids3, q3, q4⟩) p3 p4 p5 p6
      repeat' first
        | refine And.intro ?_ ?_
        | refine Exists.intro _ (And.intro (show _ = _ from by assumption) ?_)
        | refine Exists.intro _ (And.intro rfl (And.intro (by assumption) ?_))
        | refine Exists.intro _ (And.intro rfl ?_)
        | (intro h; try omega)
        | omega
        | exact f9
        | (simp only [wm_mr, wm_mc, wm_ms]; omega)
        | exact Nat.le_of_ble_eq_true rfl
        | assumption
  · have hrs := wc_rk_rs g4 hd
    have l1e : wc_cn I L ((cs d).takeWhile (fun a => decide (L 9 0 a < L 2 12 x + L 23 (Int.toNat 0) dy))) = (ct d).takeWhile (fun y => decide (y.1 < L 2 12 x + L 23 0 dy)) := by
      rw [← cd]
      exact (wc_tw (P := fun t => decide (t < L 2 12 x + L 23 0 dy))).symm
    have le1 : ((cs d).takeWhile (fun a => decide (L 9 0 a < L 2 12 x + L 23 (Int.toNat 0) dy))).length + ((cs d).dropWhile (fun a => decide (L 9 0 a < L 2 12 x + L 23 (Int.toNat 0) dy))).length = (ct d).length := by
      rw [← List.length_append, List.takeWhile_append_dropWhile, ← cd, wc_cn_len]
    have lq1 : ((ct d).takeWhile (fun y => decide (y.1 < L 2 12 x + L 23 0 dy))).length = ((cs d).takeWhile (fun a => decide (L 9 0 a < L 2 12 x + L 23 (Int.toNat 0) dy))).length := by rw [← l1e, wc_cn_len]
    have r71 : (0 : Int) < ln dy := by omega
    have l0' : 0 ≤ L 23 (Int.toNat 0) dy ∧ L 23 (Int.toNat 0) dy ≤ 1152921504606846976 := l0
    have i4r : tg (rw d) = 4 := hrs.1
    have csl : (cs d).length = (ct d).length := by rw [← cd, wc_cn_len]
    have ph1 : ∀ I1 R1, wc_rs (tg, ln, I1, L, R1, n) (rw d) s ((cs d).takeWhile (fun a => decide (L 9 0 a < L 2 12 x + L 23 (Int.toNat 0) dy))) (((cs d).dropWhile (fun a => decide (L 9 0 a < L 2 12 x + L 23 (Int.toNat 0) dy))).reverse ++ ids) → wc_ro (tg, ln, I, L, R, n) (tg, ln, I1, L, R1, n) (rw d) s (cs d ++ ids) → I1 7 0 s = I 7 0 s - ((cs d).dropWhile (fun a => decide (L 9 0 a < L 2 12 x + L 23 (Int.toNat 0) dy))).length → (∀ t j a, ¬ (t = 7 ∧ j = 0 ∧ a = s) → I1 t j a = I t j a) → wc_rw (tg, ln, I1, L, R1, n) s D9 rw vl (wc_u ct d ((ct d).takeWhile (fun y => decide (y.1 < L 2 12 x + L 23 0 dy)))) (wc_u cs d ((cs d).takeWhile (fun a => decide (L 9 0 a < L 2 12 x + L 23 (Int.toNat 0) dy)))) (((cs d).dropWhile (fun a => decide (L 9 0 a < L 2 12 x + L 23 (Int.toNat 0) dy))).reverse ++ ids) ∧ wc_fx (tg, ln, I, L, R, n) (tg, ln, I1, L, R1, n) := by
      intro I1 R1 z1 z2 z3 z4
      refine ⟨wc_rw_up rw0 hd z1 z2 (fun a ha => ?_) ?_ (z4 4 2 _ (by omega)) ?_, wc_fx_ro z2⟩
      · rcases List.mem_append.mp ha with z | z
        · exact Or.inl (List.mem_append_left _ ((List.takeWhile_sublist _).subset z))
        · rcases List.mem_append.mp z with z | z
          · exact Or.inl (List.mem_append_left _ ((List.dropWhile_sublist _).subset (List.mem_reverse.mp z)))
          · exact Or.inl (List.mem_append_right _ z)
      · show I1 7 0 s = I 7 0 s + _ - _
        have := cd
        have e9 : (cs d).length = (ct d).length := by rw [← cd, wc_cn_len]
        omega
      · rw [← l1e]
        exact List.map_congr_left (fun a ha => by simp only; rw [z4 9 1 a (by omega)])
    have ph2 : ∀ I1 R1 t c, t = L 2 12 x + L 23 0 dy - kb → wc_rw (tg, ln, I1, L, R1, n) s D9 rw vl (wc_u ct d ((ct d).takeWhile (fun y => decide (y.1 < L 2 12 x + L 23 0 dy)))) (wc_u cs d ((cs d).takeWhile (fun a => decide (L 9 0 a < L 2 12 x + L 23 (Int.toNat 0) dy)))) (((cs d).dropWhile (fun a => decide (L 9 0 a < L 2 12 x + L 23 (Int.toNat 0) dy))).reverse ++ ids) → wc_fx (tg, ln, I, L, R, n) (tg, ln, I1, L, R1, n) → (∀ t j a, ¬ (t = 7 ∧ j = 0 ∧ a = s) → I1 t j a = I t j a) → c = I 24 k.toNat em → ∀ D8 K I2 R2, ((cs d).takeWhile (fun a => decide (L 9 0 a < L 2 12 x + L 23 (Int.toNat 0) dy))).dropWhile (fun a => decide (L 9 0 a < t)) = D8 ++ K → (∀ a ∈ K, I1 9 1 a = c) → (∀ b, D8.getLast? = some b → I1 9 1 b ≠ c) → wc_rs (tg, ln, I2, L, R2, n) (rw d) s (((cs d).takeWhile (fun a => decide (L 9 0 a < L 2 12 x + L 23 (Int.toNat 0) dy))).takeWhile (fun a => decide (L 9 0 a < t)) ++ K) (D8.reverse ++ (((cs d).dropWhile (fun a => decide (L 9 0 a < L 2 12 x + L 23 (Int.toNat 0) dy))).reverse ++ ids)) → wc_ro (tg, ln, I1, L, R1, n) (tg, ln, I2, L, R2, n) (rw d) s ((cs d).takeWhile (fun a => decide (L 9 0 a < L 2 12 x + L 23 (Int.toNat 0) dy)) ++ (((cs d).dropWhile (fun a => decide (L 9 0 a < L 2 12 x + L 23 (Int.toNat 0) dy))).reverse ++ ids)) → I2 7 0 s = I1 7 0 s - D8.length → (∀ t j a, ¬ (t = 7 ∧ j = 0 ∧ a = s) → I2 t j a = I1 t j a) → ∃ l2, wc_rw (tg, ln, I2, L, R2, n) s D9 rw vl (wc_u ct d l2) (wc_u cs d (((cs d).takeWhile (fun a => decide (L 9 0 a < L 2 12 x + L 23 (Int.toNat 0) dy))).takeWhile (fun a => decide (L 9 0 a < t)) ++ K)) (D8.reverse ++ (((cs d).dropWhile (fun a => decide (L 9 0 a < L 2 12 x + L 23 (Int.toNat 0) dy))).reverse ++ ids)) ∧ wc_fx (tg, ln, I, L, R, n) (tg, ln, I2, L, R2, n) ∧ wk_l2 (ct d) (L 2 12 x + L 23 0 dy) kb (I 24 k.toNat em) 1 l2 ∧ l2.length ≤ (ct d).length ∧ (∀ y ∈ l2, y.1 < L 2 12 x + L 23 0 dy) ∧ ((((cs d).dropWhile (fun a => decide (L 9 0 a < L 2 12 x + L 23 (Int.toNat 0) dy))).length : Int) + D8.length = ((ct d).length : Int) - l2.length) := by
      intro I1 R1 t c et p1 p2 p3 ec D8 K I2 R2 y1 y2 y3 y4 y5 y6 y7
      subst et ec
      have e0 : ((cs d).takeWhile (fun a => decide (L 9 0 a < L 2 12 x + L 23 (Int.toNat 0) dy))).takeWhile (fun a => decide (L 9 0 a < L 2 12 x + L 23 0 dy - kb)) ++ (D8 ++ K) = (cs d).takeWhile (fun a => decide (L 9 0 a < L 2 12 x + L 23 (Int.toNat 0) dy)) := by rw [← y1]; exact List.takeWhile_append_dropWhile
      have e0l := congrArg List.length e0
      rw [List.length_append, List.length_append] at e0l
      have hcn : ∀ l : List Nat, wc_cn I2 L l = wc_cn I L l := fun l => List.map_congr_left (fun a ha => by rw [y7 9 1 a (by omega), p3 9 1 a (by omega)])
      have tw2 : wc_cn I L (((cs d).takeWhile (fun a => decide (L 9 0 a < L 2 12 x + L 23 (Int.toNat 0) dy))).takeWhile (fun a => decide (L 9 0 a < L 2 12 x + L 23 0 dy - kb))) = ((ct d).takeWhile (fun y => decide (y.1 < L 2 12 x + L 23 0 dy))).takeWhile (fun y => decide (y.1 < L 2 12 x + L 23 0 dy - kb)) := by
        rw [← l1e]
        exact (wc_tw (P := fun t => decide (t < L 2 12 x + L 23 0 dy - kb))).symm
      have dw2 : ((ct d).takeWhile (fun y => decide (y.1 < L 2 12 x + L 23 0 dy))).dropWhile (fun y => decide (y.1 < L 2 12 x + L 23 0 dy - kb)) = wc_cn I L D8 ++ wc_cn I L K := by
        rw [← l1e, wc_dw (P := fun t => decide (t < L 2 12 x + L 23 0 dy - kb)), y1]
        unfold wc_cn
        rw [List.map_append]
      have hx := wc_rw_up p1 hd y4 (by rw [wc_u_s]; exact y5) (fun a ha => ?_) ?_ (y7 4 2 _ (by omega)) (l' := ((ct d).takeWhile (fun y => decide (y.1 < L 2 12 x + L 23 0 dy))).takeWhile (fun y => decide (y.1 < L 2 12 x + L 23 0 dy - kb)) ++ wc_cn I L K) (by
        show wc_cn I2 L (_ ++ K) = _
        rw [hcn, ← tw2]
        unfold wc_cn
        rw [List.map_append])
      · rw [wc_u_u, wc_u_u] at hx
        refine ⟨_, hx, wc_fx_tr p2 (wc_fx_ro y5), ⟨fun z => (by cases z), fun _ => ⟨_, _, dw2, fun y hy => ?_, fun b hb => ?_, rfl⟩⟩, ?_, fun y hy => ?_, ?_⟩
        · obtain ⟨a, ha, rfl⟩ := List.mem_map.mp hy
          have := y2 a ha
          rw [p3 9 1 a (by omega)] at this
          exact this
        · unfold wc_cn at hb
          rw [List.getLast?_map] at hb
          cases hD : D8.getLast? with
          | none => rw [hD] at hb; cases hb
          | some a =>
            rw [hD] at hb
            cases hb
            have := y3 a hD
            rw [p3 9 1 a (by omega)] at this
            exact this
        · rw [List.length_append, ← tw2, wc_cn_len, wc_cn_len]
          omega
        · have hy2 : y ∈ (ct d).takeWhile (fun y => decide (y.1 < L 2 12 x + L 23 0 dy)) := by
            rcases List.mem_append.mp hy with z | z
            · exact (List.takeWhile_sublist _).subset z
            · refine (List.dropWhile_sublist (fun y : Int × Int => decide (y.1 < L 2 12 x + L 23 0 dy - kb))).subset ?_
              rw [dw2]
              exact List.mem_append_right _ z
          simpa using wl_tw_all y hy2
        · rw [List.length_append, ← tw2, wc_cn_len, wc_cn_len]
          omega
      · rw [wc_u_s]
        have keep : ∀ b, b ∈ (cs d).takeWhile (fun a => decide (L 9 0 a < L 2 12 x + L 23 (Int.toNat 0) dy)) → b ∈ (cs d).takeWhile (fun a => decide (L 9 0 a < L 2 12 x + L 23 (Int.toNat 0) dy)) ++ (((cs d).dropWhile (fun a => decide (L 9 0 a < L 2 12 x + L 23 (Int.toNat 0) dy))).reverse ++ ids) := fun b hb => List.mem_append_left _ hb
        rcases List.mem_append.mp ha with z | z
        · refine Or.inl (keep a ?_)
          rw [← e0]
          rcases List.mem_append.mp z with z | z
          · exact List.mem_append_left _ z
          · exact List.mem_append_right _ (List.mem_append_right _ z)
        · rcases List.mem_append.mp z with z | z
          · refine Or.inl (keep a ?_)
            rw [← e0]
            exact List.mem_append_right _ (List.mem_append_left _ (List.mem_reverse.mp z))
          · exact Or.inl (List.mem_append_right _ z)
      · show I2 7 0 s = I1 7 0 s + _ - _
        rw [wc_u_s, List.length_append]
        omega
    repeat' first
      | refine And.intro ?_ ?_
      | refine Exists.intro s (Exists.intro (cs d) (Exists.intro ids (And.intro hrs (And.intro hln.1 (And.intro (by omega) ?_)))))
      | refine Exists.intro s (Exists.intro ((cs d).takeWhile (fun a => decide (L 9 0 a < L 2 12 x + L 23 (Int.toNat 0) dy))) (Exists.intro _ (And.intro hrs1 (And.intro (by omega) (And.intro (by omega) ?_)))))
      | (intro I1 R1 z1 z2 z3 z4; obtain ⟨ph, pf⟩ := ph1 I1 R1 z1 z2 z3 z4; have fI : ∀ t, t ≠ 4 → t ≠ 7 → t ≠ 9 → I1 t = I t := (fun t x1 x2 x3 => (pf.2.2.2 t x1 x2 x3).1); have fR : ∀ t, t ≠ 4 → t ≠ 7 → t ≠ 9 → R1 t = R t := (fun t x1 x2 x3 => (pf.2.2.2 t x1 x2 x3).2.2); have c1' : R1 2 4 x = some wv := (by rw [fR 2 (by decide) (by decide) (by decide)]; exact c1); have c3' : R1 10 0 wv = some dy := (by rw [fR 10 (by decide) (by decide) (by decide)]; exact c3); have c6' : R1 10 1 wv = some em := (by rw [fR 10 (by decide) (by decide) (by decide)]; exact c6); obtain ⟨a1, a2, a3, a4⟩ := id ph; have hrs1 := wc_rk_rs a3 hd; rw [wc_u_s] at hrs1; have e24 : I1 24 (0 * 64 + k).toNat em = I 24 k.toNat em := (by rw [fI 24 (by decide) (by decide) (by decide)]; congr 1; omega))
      | (intro D8 K8 I2 R2 y1 y2 y3 y4 y5 y6 y7; obtain ⟨l2, o1, o2, o3, o4, o5, o6⟩ := ph2 I1 R1 _ _ rfl ph pf z4 e24 D8 K8 I2 R2 y1 y2 y3 y4 y5 y6 y7)
      | refine Exists.intro _ (And.intro (show _ = _ from by assumption) ?_)
      | refine Exists.intro _ (And.intro rfl (And.intro (by assumption) ?_))
      | refine Exists.intro _ (And.intro rfl ?_)
      | (intro h; try omega)
      | omega
      | (refine Exists.intro _ (Exists.intro (_) (Exists.intro (_) (Exists.intro (l2) (Exists.intro (wc_u cs d (((cs d).takeWhile (fun a => decide (L 9 0 a < L 2 12 x + L 23 (Int.toNat 0) dy))).takeWhile (fun a => decide (L 9 0 a < L 2 12 x + L 23 0 dy - kb)) ++ K8)) (Exists.intro (D8.reverse ++ (((cs d).dropWhile (fun a => decide (L 9 0 a < L 2 12 x + L 23 (Int.toNat 0) dy))).reverse ++ ids)) (Exists.intro (_) (Exists.intro (_) (And.intro (by rw [← o6]; rfl) (And.intro rfl (And.intro rfl (And.intro rfl (And.intro rfl (And.intro rfl (?_)))))))))))))) <;> exact ⟨o1, o2, (by rw [show lim = 1 from by omega]; exact o3), o4, o5⟩)
      | (refine Exists.intro _ (Exists.intro (_) (Exists.intro (_) (Exists.intro ((ct d).takeWhile (fun y => decide (y.1 < L 2 12 x + L 23 0 dy))) (Exists.intro (wc_u cs d ((cs d).takeWhile (fun a => decide (L 9 0 a < L 2 12 x + L 23 (Int.toNat 0) dy)))) (Exists.intro (((cs d).dropWhile (fun a => decide (L 9 0 a < L 2 12 x + L 23 (Int.toNat 0) dy))).reverse ++ ids) (Exists.intro (_) (Exists.intro (_) (And.intro (by rw [show (((ct d).length : Int) - (((ct d).takeWhile (fun y => decide (y.1 < L 2 12 x + L 23 0 dy))).length : Int)) = (((cs d).dropWhile (fun a => decide (L 9 0 a < L 2 12 x + L 23 (Int.toNat 0) dy))).length : Int) from by omega]; rfl) (And.intro rfl (And.intro rfl (And.intro rfl (And.intro rfl (And.intro rfl (?_)))))))))))))) <;> exact ⟨ph, pf, ⟨fun _ => rfl, fun z => absurd (by omega) z⟩, by omega, fun y hy => (by simpa using wl_tw_all y hy)⟩)
      | (simp only [wm_mr, wm_mc, wm_ms]; omega)
      | exact Nat.le_of_ble_eq_true rfl
      | assumption
