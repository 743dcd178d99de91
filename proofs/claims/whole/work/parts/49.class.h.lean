/-! THE CLASS, 8: all rows; soonest and takeDue of a signal -/
/-- all rows: the store st, how many, their addresses, their chains, the idle ones -/
def wc_rk (h : wc_H) (st D : Nat) (rw : Nat → Nat) (cs : Nat → List Nat) (ids : List Nat) : Prop :=
  h.1 st = 7 ∧ (∀ d, d < D → h.1 (rw d) = 4 ∧ h.2.2.2.2.1 4 0 (rw d) = some st ∧ wc_ch h.2.2.2.2.1 (h.2.2.2.2.1 4 1 (rw d)) (cs d)) ∧ (∀ d d', d < D → d' < D → rw d = rw d' → d = d') ∧ wc_ch h.2.2.2.2.1 (h.2.2.2.2.1 7 1 st) ids ∧ ids.Nodup ∧ (∀ d, d < D → (cs d ++ ids).Nodup) ∧
  (∀ d d', d < D → d' < D → d ≠ d' → ∀ a ∈ cs d, a ∉ cs d') ∧ (∀ a, (a ∈ ids ∨ ∃ d, d < D ∧ a ∈ cs d) → h.1 a = 9 ∧ a < h.2.2.2.2.2) ∧ h.2.2.1 7 0 st = mq_sum (fun d => ((cs d).length : Int)) D
/-- what stays but for rows, store and transactions -/
def wc_fx (h h' : wc_H) : Prop := h.2.2.2.2.2 ≤ h'.2.2.2.2.2 ∧ (∀ a, a < h.2.2.2.2.2 → h'.1 a = h.1 a ∧ h'.2.1 a = h.2.1 a) ∧ (∀ a, h.2.2.2.2.2 ≤ a → a < h'.2.2.2.2.2 → h'.1 a = 9) ∧ ∀ t, t ≠ 4 → t ≠ 7 → t ≠ 9 → h'.2.2.1 t = h.2.2.1 t ∧ h'.2.2.2.1 t = h.2.2.2.1 t ∧ h'.2.2.2.2.1 t = h.2.2.2.2.1 t
theorem wc_fx_rf {h : wc_H} : wc_fx h h := ⟨Nat.le_refl _, fun _ _ => ⟨rfl, rfl⟩, fun a h1 h2 => by omega, fun _ _ _ _ => ⟨rfl, rfl, rfl⟩⟩
theorem wc_fx_tr {h h1 h2 : wc_H} (a : wc_fx h h1) (b : wc_fx h1 h2) : wc_fx h h2 := by
  obtain ⟨a1, a2, a3, a4⟩ := a
  obtain ⟨b1, b2, b3, b4⟩ := b
  refine ⟨by omega, fun q hq => ?_, fun q q1 q2 => ?_, fun t t1 t2 t3 => ?_⟩
  · have := b2 q (by omega)
    rw [this.1, this.2]
    exact a2 q hq
  · by_cases hq : q < h1.2.2.2.2.2
    · rw [(b2 q hq).1]
      exact a3 q q1 hq
    · exact b3 q (by omega) q2
  · obtain ⟨x1, x2, x3⟩ := b4 t t1 t2 t3
    rw [x1, x2, x3]
    exact a4 t t1 t2 t3
theorem wc_fx_ro {h h' : wc_H} {x s : Nat} {X : List Nat} (a : wc_ro h h' x s X) : wc_fx h h' := by
  obtain ⟨a1, a2, a3, a4, a5, a6⟩ := a
  refine ⟨a1, a2, a3, fun t t1 t2 t3 => ⟨?_, ?_, ?_⟩⟩
  · funext k q
    exact a4 t k q (fun z => t2 z.1) (fun z => t1 z.1) (fun z => t3 z.1)
  · funext k q
    exact a5 t k q (fun z => t3 z.1)
  · funext k q
    exact a6 t k q (fun z => t2 z.1) (fun z => t1 z.1) (fun z => t3 z.1)
theorem wc_rk_rs {h : wc_H} {st D : Nat} {rw : Nat → Nat} {cs : Nat → List Nat} {ids : List Nat} (k : wc_rk h st D rw cs ids) {d : Nat} (hd : d < D) : wc_rs h (rw d) st (cs d) ids := by
  obtain ⟨k1, k2, k3, k4, k4b, k5, k6, k7, k8⟩ := k
  refine ⟨(k2 d hd).1, (k2 d hd).2.1, k1, (k2 d hd).2.2, k4, k5 d hd, fun a ha => ?_⟩
  rcases List.mem_append.mp ha with z | z
  · exact k7 a (Or.inr ⟨d, hd, z⟩)
  · exact k7 a (Or.inl z)
def wc_u {α : Type} (f : Nat → α) (d : Nat) (v : α) : Nat → α := fun d' => if d' = d then v else f d'
theorem mq_sum_x {g g' : Nat → Int} : ∀ {D : Nat}, (∀ d, d < D → g d = g' d) → mq_sum g D = mq_sum g' D
  | 0, _ => rfl
  | D + 1, h => by
    simp only [mq_sum]
    rw [mq_sum_x (D := D) (fun d hd => h d (by omega)), h D (Nat.lt_succ_self _)]
theorem mq_sum_u {g : Nat → Int} {d : Nat} {v : Int} : ∀ {D : Nat}, d < D → mq_sum (wc_u g d v) D = mq_sum g D + v - g d
  | 0, h => absurd h (Nat.not_lt_zero _)
  | D + 1, h => by
    simp only [mq_sum]
    by_cases hd : d = D
    · subst hd
      rw [mq_sum_x (g := wc_u g d v) (g' := g) (fun e he => if_neg (by omega))]
      show _ + (if d = d then v else g d) = _
      rw [if_pos rfl]
      omega
    · rw [mq_sum_u (D := D) (by omega)]
      show _ + (if D = d then v else g D) = _
      rw [if_neg (by omega)]
      omega
theorem mq_sum_ge {g : Nat → Int} (h0 : ∀ d, 0 ≤ g d) : ∀ {D : Nat}, 0 ≤ mq_sum g D
  | 0 => Int.le_refl _
  | D + 1 => by
    simp only [mq_sum]
    have := mq_sum_ge h0 (D := D)
    have := h0 D
    omega
theorem mq_sum_le {g : Nat → Int} (h0 : ∀ d, 0 ≤ g d) {d : Nat} : ∀ {D : Nat}, d < D → g d ≤ mq_sum g D
  | 0, h => absurd h (Nat.not_lt_zero _)
  | D + 1, h => by
    simp only [mq_sum]
    by_cases hd : d = D
    · subst hd
      have := mq_sum_ge h0 (D := d)
      omega
    · have := mq_sum_le h0 (D := D) (d := d) (by omega)
      have := h0 D
      omega
theorem wc_rk_up {h h' : wc_H} {st D : Nat} {rw : Nat → Nat} {cs : Nat → List Nat} {ids ids' c' : List Nat} (hlt : ∀ d, d < D → rw d < h.2.2.2.2.2) (k : wc_rk h st D rw cs ids) {d0 : Nat} (hd : d0 < D) (r : wc_rs h' (rw d0) st c' ids') (f : wc_ro h h' (rw d0) st (cs d0 ++ ids))
    (hs : ∀ a ∈ c' ++ ids', a ∈ cs d0 ++ ids ∨ h.2.2.2.2.2 ≤ a) (hn : h'.2.2.1 7 0 st = h.2.2.1 7 0 st + c'.length - (cs d0).length) :
    wc_rk h' st D rw (wc_u cs d0 c') ids' ∧ ∀ d, d < D → d ≠ d0 → h'.2.2.1 4 2 (rw d) = h.2.2.1 4 2 (rw d) ∧ wc_cn h'.2.2.1 h'.2.2.2.1 (cs d) = wc_cn h.2.2.1 h.2.2.2.1 (cs d) := by
  obtain ⟨k1, k2, k3, k4, k4b, k5, k6, k7, k8⟩ := k
  obtain ⟨f1, f2, f3, f4, f5, f6⟩ := f
  obtain ⟨r1, r2, r3, r4, r5, r6, r7⟩ := r
  have hold : ∀ d, d < D → d ≠ d0 → ∀ a ∈ cs d, ¬ (a ∈ cs d0 ++ ids ∨ h.2.2.2.2.2 ≤ a) := by
    intro d h1 h2 a ha z
    rcases z with z | z
    · rcases List.mem_append.mp z with z | z
      · exact k6 d d0 h1 hd h2 a ha z
      · exact (List.nodup_append.mp (k5 d h1)).2.2 a ha a z rfl
    · have := (k7 a (Or.inr ⟨d, h1, ha⟩)).2
      omega
  have hx : ∀ d, d < D → d ≠ d0 → rw d ≠ rw d0 := fun d h1 h2 z => h2 (k3 d d0 h1 hd z)
  have hu : ∀ d, d ≠ d0 → wc_u cs d0 c' d = cs d := fun d z => if_neg z
  have hu0 : wc_u cs d0 c' d0 = c' := if_pos rfl
  have hch : ∀ d, d < D → d ≠ d0 → ∀ a ∈ cs d, h'.2.2.2.2.1 9 2 a = h.2.2.2.2.1 9 2 a := fun d h1 h2 a ha => f6 9 2 a (fun z => absurd z.1 (by decide)) (fun z => absurd z.1 (by decide)) (fun z => hold d h1 h2 a ha z.2)
  refine ⟨⟨r3, fun d h1 => ?_, k3, r5, (List.nodup_append.mp r6).2.1, fun d h1 => ?_, fun d d' h1 h2 h3 a ha => ?_, fun a ha => ?_, ?_⟩, fun d h1 h2 => ⟨f4 _ _ _ (fun z => absurd z.1 (by decide)) (fun z => hx d h1 h2 z.2.2) (fun z => absurd z.1 (by decide)), ?_⟩⟩
  · by_cases z : d = d0
    · rw [z, hu0]
      exact ⟨r1, r2, r4⟩
    · rw [hu d z, f6 4 0 (rw d) (fun y => absurd y.1 (by decide)) (fun y => absurd y.2.1 (by decide)) (fun y => absurd y.1 (by decide)), f6 4 1 (rw d) (fun y => absurd y.1 (by decide)) (fun y => hx d h1 z y.2.2) (fun y => absurd y.1 (by decide))]
      refine ⟨?_, (k2 d h1).2.1, wc_ch_c (k2 d h1).2.2 (hch d h1 z)⟩
      rw [(f2 _ (hlt d h1)).1]
      exact (k2 d h1).1
  · by_cases z : d = d0
    · rw [z, hu0]
      exact r6
    · rw [hu d z]
      refine List.nodup_append.mpr ⟨(List.nodup_append.mp (k5 d h1)).1, (List.nodup_append.mp r6).2.1, fun a ha b hb e => ?_⟩
      subst e
      exact hold d h1 z a ha (hs a (List.mem_append_right _ hb))
  · by_cases z : d = d0
    · subst z
      rw [hu0] at ha
      rw [hu d' (Ne.symm h3)]
      exact fun y => hold d' h2 (Ne.symm h3) a y (hs a (List.mem_append_left _ ha))
    · rw [hu d z] at ha
      by_cases z2 : d' = d0
      · subst z2
        rw [hu0]
        exact fun y => hold d h1 z a ha (hs a (List.mem_append_left _ y))
      · rw [hu d' z2]
        exact k6 d d' h1 h2 h3 a ha
  · rcases ha with ha | ⟨d, h1, ha⟩
    · exact r7 a (List.mem_append_right _ ha)
    · by_cases z : d = d0
      · subst z
        rw [hu0] at ha
        exact r7 a (List.mem_append_left _ ha)
      · rw [hu d z] at ha
        have := k7 a (Or.inr ⟨d, h1, ha⟩)
        exact ⟨(f2 a this.2).1.trans this.1, by omega⟩
  · rw [hn, k8]
    have e : (fun d => ((wc_u cs d0 c' d).length : Int)) = wc_u (fun d => ((cs d).length : Int)) d0 c'.length := by
      funext d
      by_cases z : d = d0
      · rw [z, hu0]
        exact (if_pos rfl).symm
      · rw [hu d z]
        exact (if_neg z).symm
    rw [e, mq_sum_u hd]
  · exact List.map_congr_left (fun a ha => by rw [f5 9 0 a (fun z => hold d h1 h2 a ha z.2), f4 9 1 a (fun z => absurd z.1 (by decide)) (fun z => absurd z.1 (by decide)) (fun z => hold d h1 h2 a ha z.2)])
/-- the rows with their values and contents -/
def wc_rv (h : wc_H) (st D : Nat) (rw : Nat → Nat) (vl : Nat → Int) (ct : Nat → List (Int × Int)) : Prop :=
  st < h.2.2.2.2.2 ∧ (∀ d, d < D → rw d < h.2.2.2.2.2) ∧ mq_sum (fun d => ((ct d).length : Int)) D ≤ 8192 ∧ ∃ cs ids, wc_rk h st D rw cs ids ∧ ∀ d, d < D → h.2.2.1 4 2 (rw d) = vl d ∧ wc_cn h.2.2.1 h.2.2.2.1 (cs d) = ct d
theorem wc_rv_x {h : wc_H} {st D : Nat} {rw : Nat → Nat} {vl vl' : Nat → Int} {ct ct' : Nat → List (Int × Int)} (a : wc_rv h st D rw vl ct) (e : ∀ d, d < D → vl' d = vl d ∧ ct' d = ct d) : wc_rv h st D rw vl' ct' := by
  obtain ⟨a1, a2, a3, cs, ids, a4, a5⟩ := a
  refine ⟨a1, a2, ?_, cs, ids, a4, fun d hd => ?_⟩
  · rw [mq_sum_x (fun d hd => by rw [(e d hd).2])]
    exact a3
  · rw [(e d hd).1, (e d hd).2]
    exact a5 d hd
theorem wc_cn_len {I L : wm_F Int} {l : List Nat} : (wc_cn I L l).length = l.length := by simp [wc_cn]
theorem wc_rv_n {h : wc_H} {st D : Nat} {rw : Nat → Nat} {vl : Nat → Int} {ct : Nat → List (Int × Int)} {cs : Nat → List Nat} {ids : List Nat} (k : wc_rk h st D rw cs ids) (e : ∀ d, d < D → h.2.2.1 4 2 (rw d) = vl d ∧ wc_cn h.2.2.1 h.2.2.2.1 (cs d) = ct d) : h.2.2.1 7 0 st = mq_sum (fun d => ((ct d).length : Int)) D := by
  rw [k.2.2.2.2.2.2.2.2]
  exact mq_sum_x (fun d hd => by rw [← (e d hd).2, wc_cn_len])
theorem wc_tw {I L : wm_F Int} {P : Int → Bool} : ∀ {l : List Nat}, (wc_cn I L l).takeWhile (fun y => P y.1) = wc_cn I L (l.takeWhile (fun a => P (L 9 0 a)))
  | [] => rfl
  | a :: l => by
    simp only [wc_cn, List.map_cons, List.takeWhile_cons]
    split
    · have := wc_tw (I := I) (L := L) (P := P) (l := l)
      simp only [wc_cn] at this
      rw [this, List.map_cons]
    · rfl
theorem wc_dw {I L : wm_F Int} {P : Int → Bool} : ∀ {l : List Nat}, (wc_cn I L l).dropWhile (fun y => P y.1) = wc_cn I L (l.dropWhile (fun a => P (L 9 0 a)))
  | [] => rfl
  | a :: l => by
    simp only [wc_cn, List.map_cons, List.dropWhile_cons]
    split
    · exact wc_dw (I := I) (L := L) (P := P) (l := l)
    · rfl
/-- one row takes what is due -/
def wc_dr (t : Int) (l : List (Int × Int)) : List (Int × Int) := l.dropWhile (fun y => decide (y.1 ≤ t))
theorem wc_dr_len {t : Int} {l : List (Int × Int)} : (wc_dr t l).length ≤ l.length := by
  have := List.takeWhile_append_dropWhile (p := fun y : Int × Int => decide (y.1 ≤ t)) (l := l)
  have := congrArg List.length this
  rw [List.length_append] at this
  unfold wc_dr
  omega
theorem wc_rv_due {tg ln : Nat → Nat} {I L I1 : wm_F Int} {R R1 : wm_F (Option Nat)} {n st D : Nat} {rw : Nat → Nat} {vl : Nat → Int} {ct : Nat → List (Int × Int)} {cs : Nat → List Nat} {ids : List Nat} {t : Int} (hlt : ∀ d, d < D → rw d < n) (hst : st < n) (hsm : mq_sum (fun d => ((ct d).length : Int)) D ≤ 8192) (k : wc_rk (tg, ln, I, L, R, n) st D rw cs ids) (e : ∀ d, d < D → I 4 2 (rw d) = vl d ∧ wc_cn I L (cs d) = ct d) {d0 : Nat} (hd : d0 < D)
    (z1 : wc_rs (tg, ln, I1, L, R1, n) (rw d0) st ((cs d0).dropWhile (fun a => decide (L 9 0 a ≤ t))) (((cs d0).takeWhile (fun a => decide (L 9 0 a ≤ t))).reverse ++ ids)) (z2 : wc_ro (tg, ln, I, L, R, n) (tg, ln, I1, L, R1, n) (rw d0) st (cs d0 ++ ids)) (z3 : I1 7 0 st = I 7 0 st - ((cs d0).takeWhile (fun a => decide (L 9 0 a ≤ t))).length) (z4 : I1 4 2 (rw d0) = wc_va t (I 4 2 (rw d0)) (wc_cn I L (cs d0))) (z5 : ∀ t j a, ¬ (t = 7 ∧ j = 0 ∧ a = st) → ¬ (t = 4 ∧ j = 2 ∧ a = rw d0) → I1 t j a = I t j a) :
    wc_rv (tg, ln, I1, L, R1, n) st D rw (wc_u vl d0 (wc_va t (vl d0) (ct d0))) (wc_u ct d0 (wc_dr t (ct d0))) ∧ ((cs d0).takeWhile (fun a => decide (L 9 0 a ≤ t)) = [] ↔ ∀ y, (ct d0).head? = some y → t < y.1) := by
  have e0 : (cs d0).takeWhile (fun a => decide (L 9 0 a ≤ t)) ++ (cs d0).dropWhile (fun a => decide (L 9 0 a ≤ t)) = cs d0 := List.takeWhile_append_dropWhile
  have e1 := congrArg List.length e0
  rw [List.length_append] at e1
  obtain ⟨y1, y2⟩ := wc_rk_up hlt k hd z1 z2 (fun a ha => by
    rcases List.mem_append.mp ha with z | z
    · exact Or.inl (List.mem_append_left _ ((List.dropWhile_sublist _).subset z))
    · rcases List.mem_append.mp z with z | z
      · exact Or.inl (List.mem_append_left _ ((List.takeWhile_sublist _).subset (List.mem_reverse.mp z)))
      · exact Or.inl (List.mem_append_right _ z)) (by
    show I1 7 0 st = I 7 0 st + _ - _
    rw [z3]
    omega)
  have hc : wc_cn I1 L ((cs d0).dropWhile (fun a => decide (L 9 0 a ≤ t))) = wc_dr t (ct d0) := by
    rw [← (e d0 hd).2]
    unfold wc_dr
    rw [wc_dw (P := fun x => decide (x ≤ t))]
    exact List.map_congr_left (fun a ha => by rw [z5 9 1 a (fun z => absurd z.1 (by decide)) (fun z => absurd z.1 (by decide))])
  refine ⟨⟨hst, hlt, ?_, _, _, y1, fun d h1 => ?_⟩, ?_⟩
  · have e : (fun d => ((wc_u ct d0 (wc_dr t (ct d0)) d).length : Int)) = wc_u (fun d => ((ct d).length : Int)) d0 (wc_dr t (ct d0)).length := by
      funext d
      by_cases z : d = d0
      · simp only [wc_u, if_pos z]
      · simp only [wc_u, if_neg z]
    rw [e, mq_sum_u hd]
    have := wc_dr_len (t := t) (l := ct d0)
    omega
  · by_cases z : d = d0
    · subst z
      simp only [wc_u, if_pos]
      refine ⟨?_, hc⟩
      rw [z4, (e d hd).1, (e d hd).2]
    · simp only [wc_u, if_neg z]
      have := y2 d h1 z
      have h9 := e d h1
      exact ⟨this.1.trans h9.1, this.2.trans h9.2⟩
  · rw [← (e d0 hd).2]
    cases cs d0 with
    | nil => simp [wc_cn]
    | cons a r =>
      simp only [wc_cn, List.map_cons, List.head?_cons, List.takeWhile_cons]
      constructor
      · intro z y hy
        cases hy
        split at z
        · cases z
        · rename_i h9
          simp only [decide_eq_true_eq] at h9
          omega
      · intro z
        have := z _ rfl
        rw [if_neg (by simp only [decide_eq_true_eq]; omega)]
/-- the rows of a chain of drivers, up to a row of the next one -/
def wc_in (l : List (Nat × Nat)) (w d : Nat) : Prop := ∃ c ∈ l, c.2 ≤ d ∧ d < c.2 + w
/-- the soonest of some rows -/
def wc_so (ct : Nat → List (Int × Int)) (S : Nat → Prop) (t : Int) : Prop := (t = -1 ∧ ∀ d, S d → ct d = []) ∨ (0 ≤ t ∧ (∃ d y, S d ∧ (ct d).head? = some y ∧ y.1 = t) ∧ ∀ d y, S d → (ct d).head? = some y → t ≤ y.1)
theorem wc_so_a {ct : Nat → List (Int × Int)} {S S' : Nat → Prop} {t u : Int} {d : Nat} (h : wc_so ct S t) (hS : ∀ e, S' e ↔ S e ∨ e = d) (hu : (u = -1 ∧ ct d = []) ∨ (0 ≤ u ∧ ∃ y, (ct d).head? = some y ∧ y.1 = u)) {z : Int} (hz : (t = -1 ∧ z = u) ∨ (t ≠ -1 ∧ (u = -1 ∨ t ≤ u) ∧ z = t) ∨ (t ≠ -1 ∧ u ≠ -1 ∧ u < t ∧ z = u)) : wc_so ct S' z := by
  rcases h with ⟨h1, h2⟩ | ⟨h1, ⟨d1, y1, h2, h3, h4⟩, h5⟩
  · have : z = u := by omega
    subst this
    rcases hu with ⟨u1, u2⟩ | ⟨u1, y, u2, u3⟩
    · refine Or.inl ⟨u1, fun e he => ?_⟩
      rcases (hS e).mp he with k | k
      · exact h2 e k
      · rw [k]; exact u2
    · refine Or.inr ⟨u1, ⟨d, y, (hS d).mpr (Or.inr rfl), u2, u3⟩, fun e y' he hy => ?_⟩
      rcases (hS e).mp he with k | k
      · rw [h2 e k] at hy; cases hy
      · rw [k, u2] at hy; cases hy; omega
  · rcases hu with ⟨u1, u2⟩ | ⟨u1, y, u2, u3⟩
    · have : z = t := by omega
      subst this
      refine Or.inr ⟨h1, ⟨d1, y1, (hS d1).mpr (Or.inl h2), h3, h4⟩, fun e y' he hy => ?_⟩
      rcases (hS e).mp he with k | k
      · exact h5 e y' k hy
      · rw [k, u2] at hy; cases hy
    · by_cases hle : t ≤ u
      · have : z = t := by omega
        subst this
        refine Or.inr ⟨h1, ⟨d1, y1, (hS d1).mpr (Or.inl h2), h3, h4⟩, fun e y' he hy => ?_⟩
        rcases (hS e).mp he with k | k
        · exact h5 e y' k hy
        · rw [k, u2] at hy; cases hy; omega
      · have : z = u := by omega
        subst this
        refine Or.inr ⟨u1, ⟨d, y, (hS d).mpr (Or.inr rfl), u2, u3⟩, fun e y' he hy => ?_⟩
        rcases (hS e).mp he with k | k
        · have := h5 e y' k hy; omega
        · rw [k, u2] at hy; cases hy; omega
theorem wc_so_x {ct : Nat → List (Int × Int)} {S S' : Nat → Prop} {t : Int} (h : wc_so ct S t) (hS : ∀ e, S' e ↔ S e) : wc_so ct S' t := by
  have : S' = S := funext (fun e => propext (hS e))
  rw [this]; exact h
