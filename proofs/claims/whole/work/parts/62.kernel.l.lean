/-! THE KERNEL, 12: assign -/
theorem mq_kp_1 {c : Int} : ∀ {K : List (Int × Int)}, (∀ y ∈ K, y.2 = c) → mq_kp c (K.map (fun x => (x.1, x.2, false))) = (K, true, c)
  | [], _ => rfl
  | y :: r, h => by
    have ih := mq_kp_1 (c := c) (K := r) (fun b hb => h b (List.mem_cons_of_mem _ hb))
    simp only [List.map_cons, mq_kp]
    rw [ih, if_pos (Or.inr ⟨rfl, h y List.mem_cons_self⟩), h y List.mem_cons_self]
    cases y
    simp only at h ⊢
    rw [← h _ List.mem_cons_self]
theorem mq_kp_2 {c : Int} {K : List (Int × Int)} {X : List (Int × Int × Bool)} (hX : (mq_kp c X).1 = K ∧ (mq_kp c X).2.1 = false) : ∀ {D : List (Int × Int)}, (mq_kp c (D.map (fun x => (x.1, x.2, false)) ++ X)).1 = K ∧ (mq_kp c (D.map (fun x => (x.1, x.2, false)) ++ X)).2.1 = false
  | [] => hX
  | y :: r => by
    have ih := mq_kp_2 hX (D := r)
    simp only [List.map_cons, List.cons_append, mq_kp]
    rw [if_neg (by rw [ih.2]; simp)]
    exact ⟨ih.1, rfl⟩
theorem mq_kp_3 {c : Int} {K : List (Int × Int)} {X : List (Int × Int × Bool)} (hX : (mq_kp c X).1 = K) : ∀ {P : List (Int × Int)}, (mq_kp c (P.map (fun x => (x.1, x.2, true)) ++ X)).1 = P ++ K
  | [] => hX
  | y :: r => by
    have ih := mq_kp_3 hX (P := r)
    simp only [List.map_cons, List.cons_append, mq_kp]
    rw [if_pos (Or.inl trivial), ih]
theorem wl_filter_tw {bg : Int} : ∀ {l : List (Int × Int)}, l.Pairwise (fun a b => a.1 < b.1) → l.filter (fun x => decide (x.1 < bg)) = l.takeWhile (fun x => decide (x.1 < bg))
  | [], _ => rfl
  | y :: r, h => by
    obtain ⟨h1, h2⟩ := List.pairwise_cons.mp h
    rw [List.filter_cons, List.takeWhile_cons]
    by_cases z : y.1 < bg
    · rw [if_pos (decide_eq_true z), if_pos (decide_eq_true z), wl_filter_tw h2]
    · rw [if_neg (by simpa using z), if_neg (by simpa using z)]
      exact List.filter_eq_nil_iff.mpr (fun a ha => by have := h1 a ha; simp only [decide_eq_true_eq]; omega)
theorem wl_dw_all {bg : Int} : ∀ {l : List (Int × Int)}, l.Pairwise (fun a b => a.1 < b.1) → ∀ y ∈ l.dropWhile (fun x => decide (x.1 < bg)), bg ≤ y.1
  | [], _, y, hy => by cases hy
  | a :: r, h, y, hy => by
    obtain ⟨h1, h2⟩ := List.pairwise_cons.mp h
    rw [List.dropWhile_cons] at hy
    by_cases z : a.1 < bg
    · rw [if_pos (decide_eq_true z)] at hy
      exact wl_dw_all h2 y hy
    · rw [if_neg (by simpa using z)] at hy
      rcases List.mem_cons.mp hy with rfl | hy
      · omega
      · have := h1 y hy
        omega
/-- what stays of a row, by class and model -/
theorem wk_l2_kp {l l2 : List (Int × Int)} {bg kb v0 lim mo : Int} (hs : l.Pairwise (fun a b => a.1 < b.1)) (h : wk_l2 l bg kb v0 lim l2) (hm : (mo = 1 ∧ lim = 0) ∨ (mo ≠ 1 ∧ lim = 1)) : (mq_kp v0 (mq_om bg kb mo l)).1 = l2 := by
  obtain ⟨h1, h2⟩ := h
  unfold mq_om
  rw [wl_filter_tw hs]
  rcases hm with ⟨m1, m2⟩ | ⟨m1, m2⟩
  · rw [h1 m2]
    have e : (l.takeWhile (fun y => decide (y.1 < bg))).map (fun x => (x.1, x.2, decide (mo = 1 ∨ x.1 < bg - kb))) = (l.takeWhile (fun y => decide (y.1 < bg))).map (fun x => (x.1, x.2, true)) ++ [] := by
      rw [List.append_nil]
      exact List.map_congr_left (fun a _ => by rw [decide_eq_true (Or.inl m1)])
    rw [e, mq_kp_3 (K := []) rfl, List.append_nil]
  · obtain ⟨Dl, Kl, e1, e2, e3, e4⟩ := h2 (by omega)
    have hs1 : (l.takeWhile (fun y => decide (y.1 < bg))).Pairwise (fun a b => a.1 < b.1) := hs.sublist (List.takeWhile_sublist _)
    have e0 := List.takeWhile_append_dropWhile (p := fun y : Int × Int => decide (y.1 < bg - kb)) (l := l.takeWhile (fun y => decide (y.1 < bg)))
    have mP : ((l.takeWhile (fun y => decide (y.1 < bg))).takeWhile (fun y => decide (y.1 < bg - kb))).map (fun x => (x.1, x.2, decide (mo = 1 ∨ x.1 < bg - kb))) = ((l.takeWhile (fun y => decide (y.1 < bg))).takeWhile (fun y => decide (y.1 < bg - kb))).map (fun x => (x.1, x.2, true)) := List.map_congr_left (fun a ha => by
      have := wl_tw_all a ha
      rw [decide_eq_true (Or.inr (by simpa using this))])
    have mR : ((l.takeWhile (fun y => decide (y.1 < bg))).dropWhile (fun y => decide (y.1 < bg - kb))).map (fun x => (x.1, x.2, decide (mo = 1 ∨ x.1 < bg - kb))) = (Dl ++ Kl).map (fun x => (x.1, x.2, false)) := by
      rw [← e1]
      exact List.map_congr_left (fun a ha => by
        have := wl_dw_all hs1 a ha
        rw [decide_eq_false (by omega)])
    rw [← e0, List.map_append, mP, mR, e4, List.map_append]
    refine mq_kp_3 ?_
    rcases List.eq_nil_or_concat Dl with rfl | ⟨D', b, rfl⟩
    · rw [List.map_nil, List.nil_append, mq_kp_1 e2]
    · rw [List.concat_eq_append, List.map_append, List.append_assoc]
      refine (mq_kp_2 (K := Kl) (X := [b].map (fun x => (x.1, x.2, false)) ++ Kl.map (fun x => (x.1, x.2, false))) ?_).1
      have hb := e3 b (by simp)
      simp only [List.map_cons, List.map_nil, List.cons_append, List.nil_append, mq_kp]
      rw [mq_kp_1 e2, if_neg (by simp [hb])]
      exact ⟨rfl, rfl⟩
theorem wk_l2_sub {l l2 : List (Int × Int)} {bg kb v0 lim : Int} (h : wk_l2 l bg kb v0 lim l2) : l2.Sublist l ∧ ∀ y ∈ l2, y.1 < bg := by
  have key : l2.Sublist (l.takeWhile (fun y => decide (y.1 < bg))) := by
    by_cases z : lim = 0
    · rw [h.1 z]
      exact List.Sublist.refl _
    · obtain ⟨Dl, Kl, e1, -, -, e4⟩ := h.2 z
      have e0 := List.takeWhile_append_dropWhile (p := fun y : Int × Int => decide (y.1 < bg - kb)) (l := l.takeWhile (fun y => decide (y.1 < bg)))
      rw [e4]
      have h9 : ((l.takeWhile (fun y => decide (y.1 < bg))).takeWhile (fun y => decide (y.1 < bg - kb)) ++ Kl).Sublist ((l.takeWhile (fun y => decide (y.1 < bg))).takeWhile (fun y => decide (y.1 < bg - kb)) ++ (Dl ++ Kl)) := List.Sublist.append (List.Sublist.refl _) (List.sublist_append_right _ _)
      rw [← e1, e0] at h9
      exact h9
  exact ⟨key.trans (List.takeWhile_sublist _), fun y hy => by simpa using wl_tw_all y (key.subset hy)⟩
/-- the elements below k are assigned -/
def wk_aa (ct ct3 : Nat → List (Int × Int)) (base : Nat) (bg kb lim : Int) (v0 : Nat → Int) (ns : Nat → List (Int × Int)) (gl : Nat → Int) (k : Nat) : Prop := (∀ d, (∀ j, j < k → d ≠ base + j) → ct3 d = ct d) ∧ ∀ j, j < k → ∃ l2, ct3 (base + j) = l2 ++ ns j ∧ wk_l2 (ct (base + j)) bg kb (v0 j) lim l2 ∧ l2.length ≤ (ct (base + j)).length ∧ gl j = ((ct (base + j)).length : Int) - l2.length
theorem wk_aa_s {ct ct3 : Nat → List (Int × Int)} {base : Nat} {bg kb lim : Int} {v0 : Nat → Int} {ns : Nat → List (Int × Int)} {gl : Nat → Int} {k : Nat} (h : wk_aa ct ct3 base bg kb lim v0 ns gl k) {l2 : List (Int × Int)} (h2 : wk_l2 (ct (base + k)) bg kb (v0 k) lim l2) (h3 : l2.length ≤ (ct (base + k)).length) : wk_aa ct (wc_u ct3 (base + k) (l2 ++ ns k)) base bg kb lim v0 ns (wc_u gl k (((ct (base + k)).length : Int) - l2.length)) (k + 1) := by
  obtain ⟨a1, a2⟩ := h
  refine ⟨fun d hd => ?_, fun j hj => ?_⟩
  · show (if d = base + k then _ else ct3 d) = _
    rw [if_neg (hd k (Nat.lt_succ_self _))]
    exact a1 d (fun j hj => hd j (by omega))
  · by_cases z : j = k
    · subst z
      exact ⟨l2, wc_u_s, h2, h3, wc_u_s⟩
    · obtain ⟨l3, b1, b2, b3, b4⟩ := a2 j (by omega)
      refine ⟨l3, ?_, b2, b3, ?_⟩
      · show (if base + j = base + k then _ else ct3 (base + j)) = _
        rw [if_neg (by omega)]
        exact b1
      · show (if j = k then _ else gl j) = _
        rw [if_neg z]
        exact b4
theorem wk_nl_ns {I L : wm_F Int} {dy em : Nat} {nw wc : Int} {A B : mq_A} {k : Nat} (h1 : ∀ j : Nat, (j : Int) < wc → L 23 j dy = B 52 j) (h2 : ∀ j : Nat, (j : Int) < 64 * wc → I 24 j em = A 51 j) (hk : k < 64) : ∀ w : Nat, (w : Int) ≤ wc → wk_nl I L dy em nw k w = mq_ns A B nw (k : Int) w
  | 0, _ => rfl
  | w + 1, h => by
    simp only [wk_nl, mq_ns]
    rw [wk_nl_ns h1 h2 hk w (by omega), h1 w (by omega), h2 (w * 64 + k) (by omega), show (64 * (w : Int) + (k : Int)).toNat = w * 64 + k from by omega]
theorem mq_ns_o {A B : mq_A} {nw k : Int} : ∀ {w : Nat} {y : Int × Int}, y ∈ mq_ns A B nw k w → ∃ j, j < w ∧ y = (nw + B 52 j, A 51 (64 * (j : Int) + k).toNat)
  | 0, _, h => by cases h
  | w + 1, y, h => by
    simp only [mq_ns] at h
    rcases List.mem_append.mp h with z | z
    · obtain ⟨j, j1, j2⟩ := mq_ns_o z
      exact ⟨j, by omega, j2⟩
    · exact ⟨w, Nat.lt_succ_self _, List.mem_singleton.mp z⟩
theorem mq_ri_m {B : mq_A} {w : Int} (h : mq_ri B w) : ∀ {i j : Nat}, i < j → (j : Int) < w → B 52 i < B 52 j := by
  intro i j
  induction j with
  | zero => intro h1; omega
  | succ j ih =>
    intro h1 h2
    have e := h ((j + 1 : Nat) : Int) (by omega) h2
    rw [show (((j + 1 : Nat) : Int) - 1).toNat = j from by omega, Int.toNat_natCast] at e
    by_cases z : i = j
    · rw [z]; exact e
    · have := ih (by omega) (by omega)
      omega
theorem mq_ns_pw {A B : mq_A} {nw k w : Int} (h : mq_ri B w) : ∀ {n : Nat}, (n : Int) ≤ w → (mq_ns A B nw k n).Pairwise (fun a b => a.1 < b.1)
  | 0, _ => List.Pairwise.nil
  | n + 1, hn => by
    simp only [mq_ns]
    refine List.pairwise_append.mpr ⟨mq_ns_pw h (by omega), List.pairwise_singleton _ _, fun a ha b hb => ?_⟩
    obtain ⟨j, j1, rfl⟩ := mq_ns_o ha
    rw [List.mem_singleton.mp hb]
    have := mq_ri_m h (i := j) (j := n) j1 (by omega)
    simp only
    omega
/-- the whole of an assignment, on both sides -/
theorem wk_as {tg ln : Nat → Nat} {I L : wm_F Int} {R : wm_F (Option Nat)} {n x : Nat} {tg3 ln3 : Nat → Nat} {I3 L3 : wm_F Int} {R3 : wm_F (Option Nat)} {n3 : Nat} {g : Nat → Nat → Nat} {gd : Nat → List (Nat × Nat)} {lm st sg el dr sz pr wc sp nw : Int} {A B : mq_A} {ct ct3 : Nat → List (Int × Int)} {p s f m mo li kb lim del : Int} {c : Nat × Nat} {gl : Nat → Int}
    (hK : wk_K (tg, ln, I, L, R, n) x g gd lm st sg el dr pr wc sp nw A B ct) (hM : wn_M gd lm st sg el dr sz pr wc sp nw A B ct) (hs0 : 0 ≤ s) (hs : s < sg) (hf : 0 ≤ f) (hm : 1 ≤ m) (hfm : f + m ≤ A 31 s.toNat) (hc : c ∈ gd s.toNat) (hp : A 37 c.2 = p) (hw : 1 ≤ wc) (hg : mq_good A B nw wc s m mo li) (hkb : kb = (if mo = 0 then B 52 (Int.toNat 0) else li)) (hlim : (mo = 1 ∧ lim = 0) ∨ (mo ≠ 1 ∧ lim = 1))
    (ha : wk_aa ct ct3 (c.2 + f.toNat) (nw + B 52 0) kb lim (fun j => A 51 j) (fun j => mq_ns A B nw (j : Int) wc.toNat) gl m.toNat) (hdel : del = mq_sum gl m.toNat) (hr : wc_rv (tg3, ln3, I3, L3, R3, n3) (g 0 2) dr.toNat (g 7) (A 39) ct3) (hx : wc_fx (tg, ln, I, L, R, n) (tg3, ln3, I3, L3, R3, n3)) (hn3 : wc_hn (tg3, ln3, I3, L3, R3, n3))
    {A1 B1 : mq_A} {sz1 del' : Int} (hA : mq_am A B A1 B1 nw dr wc sz (if mo = 0 then B 52 (Int.toNat 0) else li) mo p (A 32 s.toNat + f) sz1 del' m) : del' = del ∧ wk_J (tg3, ln3, wm_up I3 10 2 (g 0 3) 0, L3, R3, n3) x ([0, lm, st, sg, el, dr, sz1, pr, 0, sp, nw], A1, B1) := by
  obtain ⟨nR, nS, nD, nC, nV, nT, nW, nO, nQ, nZ⟩ := id hM
  obtain ⟨⟨u1, u2, u3⟩, ⟨u4, u5, u6, u7, u8, u9, u10, u11⟩, ⟨u12, u13, u14, u15, u16, u17, u18, u19⟩⟩ := id nR
  obtain ⟨hn, kN, kB, kS, kA, kV, kD, kR, kT, kU, kX1, kX2, kX3, kW⟩ := id hK
  obtain ⟨⟨b1, b2, b3, b4, b5, b6, b7, b8, b9⟩, ⟨c1, c2, c3, c4, c5, c6, c7, c8⟩, ⟨d1, d2, d3, d4, d5, d6, d7, d8, d9, d10, d11⟩⟩ := id kB
  rw [← hkb] at hA
  obtain ⟨m1, m2, ⟨m3, m4, m5, m6⟩, m7, m8, ⟨gm, m9, m10⟩, m11⟩ := hA
  obtain ⟨g1, g2, g3, g4⟩ := hg
  obtain ⟨nd1, nd2, nd3⟩ := nD.1 s.toNat (by omega)
  obtain ⟨e1, e2⟩ := nd3 c hc
  have mt : ∀ j : Nat, (j : Int) < m → mq_mt A dr p (A 32 s.toNat + f) ((c.2 + f.toNat + j : Nat) : Int) (j : Int) := fun j hj => by
    obtain ⟨q1, q2⟩ := e2 (f.toNat + j) (by omega)
    refine ⟨by omega, by omega, ?_, ?_⟩
    · rw [Int.toNat_natCast, Nat.add_assoc, q1]
      exact hp
    · rw [Int.toNat_natCast, Nat.add_assoc, q2]
      omega
  have mu : ∀ (d : Nat) (j : Int), 0 ≤ j → j < m → mq_mt A dr p (A 32 s.toNat + f) (d : Int) j → d = c.2 + f.toNat + j.toNat := fun d j j1 j2 h => by
    obtain ⟨q1, q2, q3, q4⟩ := h
    rw [Int.toNat_natCast] at q3 q4
    obtain ⟨c', hc', y1, y2⟩ := wn_D_u nD nS (s := s.toNat) (k := f + j) (by omega) (by omega) (by omega) q2 (by omega)
    have : c' = c := wl_pw (f := fun c : Nat × Nat => A 37 c.2) nd2 hc' hc (by show A 37 c'.2 = A 37 c.2; omega)
    rw [this] at y1
    omega
  have bgr : ∀ j : Nat, (j : Int) < wc → 0 ≤ B 52 j ∧ nw + B 52 0 ≤ nw + B 52 j ∧ nw + B 52 j ≤ 1152921504606846976 := fun j hj => by
    refine ⟨(nW j hj).1, ?_, ?_⟩
    · by_cases z : j = 0
      · rw [z]; exact Int.le_refl _
      · have := mq_ri_m g2 (i := 0) (j := j) (by omega) hj
        omega
    · have h9 := g1.2.2
      by_cases z : (j : Int) = wc - 1
      · rw [← z, Int.toNat_natCast] at h9
        exact h9
      · have := mq_ri_m g2 (i := j) (j := (wc - 1).toNat) (by omega) (by omega)
        omega
  have rowN : ∀ j : Nat, (j : Int) < m → ∃ l2, ct3 (c.2 + f.toNat + j) = l2 ++ mq_ns A B nw (j : Int) wc.toNat ∧ mq_st1 A B nw sz kb mo ((c.2 + f.toNat + j : Nat) : Int) (j : Int) = l2 ∧ (l2.Sublist (ct (c.2 + f.toNat + j)) ∧ ∀ y ∈ l2, y.1 < nw + B 52 0) ∧ gl j = ((ct (c.2 + f.toNat + j)).length : Int) - l2.length := fun j hj => by
    obtain ⟨l2, y1, y2, y3, y4⟩ := ha.2 j (by omega)
    have hd := (mt j hj).2.1
    refine ⟨l2, y1, ?_, wk_l2_sub y2, y4⟩
    unfold mq_st1
    rw [nQ.1 _ hd, show (64 * ((0 : Nat) : Int) + (j : Int)).toNat = j from by omega]
    exact wk_l2_kp (nC.1 _ hd).1 y2 hlim
  have rows : ∀ d : Nat, (d : Int) < dr → mq_row A1 B1 d sz1.toNat = ct3 d := fun d hd => by
    by_cases z : ∃ j : Nat, (j : Int) < m ∧ d = c.2 + f.toNat + j
    · obtain ⟨j, j1, rfl⟩ := z
      obtain ⟨l2, y1, y2, -, -⟩ := rowN j j1
      rw [m8 (j : Int) _ (by omega) j1 (mt j j1), y2, y1]
    · rw [m7 (d : Int) (fun j j1 j2 h => z ⟨j.toNat, by omega, mu d j j1 j2 h⟩), nQ.1 d hd]
      exact (ha.1 d (fun j hj y => z ⟨j, by omega, y⟩)).symm
  have ed : del' = del := by
    rw [m10, hdel]
    refine mq_sum_x (fun j hj => ?_)
    obtain ⟨l2, y1, y2, -, y4⟩ := rowN j (by omega)
    have := m9 (j : Int) _ (by omega) (by omega) (mt j (by omega))
    rw [Int.toNat_natCast, nQ.1 _ (mt j (by omega)).2.1, y2] at this
    rw [this, y4]
  refine ⟨ed, ?_⟩
  obtain ⟨x1, x2, x3, x4⟩ := hx
  simp only at x1 x2 x4
  have tgo : ∀ q, tg q ≠ 0 → tg3 q = tg q ∧ ln3 q = ln q := fun q hq => x2 q (hn q hq)
  have iT : ∀ t, t ≠ 4 → t ≠ 7 → t ≠ 9 → I3 t = I t := fun t y1 y2 y3 => (x4 t y1 y2 y3).1
  have lT : ∀ t, t ≠ 4 → t ≠ 7 → t ≠ 9 → L3 t = L t := fun t y1 y2 y3 => (x4 t y1 y2 y3).2.1
  have rT : ∀ t, t ≠ 4 → t ≠ 7 → t ≠ 9 → R3 t = R t := fun t y1 y2 y3 => (x4 t y1 y2 y3).2.2
  have jT : ∀ t, t ≠ 4 → t ≠ 7 → t ≠ 9 → t ≠ 10 → wm_up I3 10 2 (g 0 3) 0 t = I t := fun t y1 y2 y3 y4 => by rw [wm_up_t y4]; exact iT t y1 y2 y3
  have aT : ∀ t, t ≠ 40 → t ≠ 42 → t ≠ 44 → t ≠ 45 → A1 t = A t := m1
  have own : ∀ j : Nat, (j : Int) < sz1 → 0 ≤ A1 40 j ∧ A1 40 j < dr := fun j hj => by
    rcases m11 j (by omega) hj with ⟨j', y1, y2, y3⟩ | y
    · rw [Int.toNat_natCast] at y3
      rw [y3]
      exact nQ.2.1 j'.toNat (by omega)
    · rw [Int.toNat_natCast] at y
      exact y
  have szs : sz1 = mq_sum (fun d => ((ct3 d).length : Int)) dr.toNat := by
    have e := mq_row_sum (A := A1) (B := B1) (D := dr.toNat) (n := sz1.toNat) (fun j hj => by have := own j (by omega); omega)
    rw [Int.toNat_of_nonneg m3] at e
    refine e.trans (mq_sum_x (fun d hd => ?_))
    rw [rows d (by omega)]
  have szb : sz1 ≤ 8192 := by rw [szs]; exact hr.2.2.1
  have newc : ∀ d : Nat, (d : Int) < dr → (ct3 d).Pairwise (fun a b => a.1 < b.1) ∧ ∀ y ∈ ct3 d, nw ≤ y.1 ∧ y.1 ≤ 1152921504606846976 := fun d hd => by
    by_cases z : ∃ j : Nat, (j : Int) < m ∧ d = c.2 + f.toNat + j
    · obtain ⟨j, j1, rfl⟩ := z
      obtain ⟨l2, y1, -, ⟨y2, y3⟩, -⟩ := rowN j j1
      rw [y1]
      have nc := nC.1 _ hd
      refine ⟨List.pairwise_append.mpr ⟨nc.1.sublist y2, mq_ns_pw g2 (by omega), fun a ha b hb => ?_⟩, fun y hy => ?_⟩
      · obtain ⟨i, i1, rfl⟩ := mq_ns_o hb
        have := y3 a ha
        have := bgr i (by omega)
        simp only
        omega
      · rcases List.mem_append.mp hy with w | w
        · exact nc.2 y (y2.subset w)
        · obtain ⟨i, i1, rfl⟩ := mq_ns_o w
          have := bgr i (by omega)
          simp only
          omega
    · rw [ha.1 d (fun j hj y => z ⟨j, by omega, y⟩)]
      exact nC.1 d hd
  have newv : ∀ s' : Nat, (s' : Int) < sg → A 30 s' ≠ 2 → ∀ d, wc_in (gd s') (A 31 s').toNat d → ∀ y ∈ ct3 d, 0 ≤ y.2 ∧ y.2 ≤ 8 := fun s' hs' h2 d hd y hy => by
    by_cases z : ∃ j : Nat, (j : Int) < m ∧ d = c.2 + f.toNat + j
    · obtain ⟨j, j1, rfl⟩ := z
      obtain ⟨l2, y1, -, ⟨y2, y3⟩, -⟩ := rowN j j1
      rw [y1] at hy
      rcases List.mem_append.mp hy with w | w
      · exact (nC.2 s' hs' h2 _ hd).2 y (y2.subset w)
      · obtain ⟨i, i1, rfl⟩ := mq_ns_o w
        have hss : s' = s.toNat := wk_in_u nD nS hs' (by omega) hd ⟨c, hc, by omega, by omega⟩
        have := g3 (i : Int) (by omega) (by omega) (j : Int) (by omega) j1
        rw [hss] at h2
        exact this.resolve_left h2
    · rw [ha.1 d (fun j hj y => z ⟨j, by omega, y⟩)] at hy
      exact (nC.2 s' hs' h2 d hd).2 y hy
  have a30 := aT 30 (by decide) (by decide) (by decide) (by decide)
  have a31 := aT 31 (by decide) (by decide) (by decide) (by decide)
  have a32 := aT 32 (by decide) (by decide) (by decide) (by decide)
  have a33 := aT 33 (by decide) (by decide) (by decide) (by decide)
  have a34 := aT 34 (by decide) (by decide) (by decide) (by decide)
  have a35 := aT 35 (by decide) (by decide) (by decide) (by decide)
  have a36 := aT 36 (by decide) (by decide) (by decide) (by decide)
  have a37 := aT 37 (by decide) (by decide) (by decide) (by decide)
  have a38 := aT 38 (by decide) (by decide) (by decide) (by decide)
  have a39 := aT 39 (by decide) (by decide) (by decide) (by decide)
  have a46 := aT 46 (by decide) (by decide) (by decide) (by decide)
  have a47 := aT 47 (by decide) (by decide) (by decide) (by decide)
  have a49 := aT 49 (by decide) (by decide) (by decide) (by decide)
  have a50 := aT 50 (by decide) (by decide) (by decide) (by decide)
  have b48 := m2 48 (by decide) (by decide)
  have T : ∀ q t, tg q = t → t ≠ 0 → tg3 q = t := fun q t h1 h2 => (tgo q (by rw [h1]; exact h2)).1.trans h1
  have TL : ∀ q t, tg q = t → t ≠ 0 → ln3 q = ln q := fun q t h1 h2 => (tgo q (by rw [h1]; exact h2)).2
  refine ⟨g, gd, ct3, ⟨hn3, ?_, ?_, ?_, ?_, ?_, ?_, ?_, ?_, ?_, ?_, ?_, ?_, ?_⟩, ⟨?_, ?_, ?_, ?_, ?_, ?_, ?_, ?_, ?_, ?_⟩⟩
  · rw [jT 2 (by decide) (by decide) (by decide) (by decide), lT 2 (by decide) (by decide) (by decide)]
    exact kN
  · rw [rT 2 (by decide) (by decide) (by decide), rT 6 (by decide) (by decide) (by decide), rT 10 (by decide) (by decide) (by decide)]
    exact ⟨⟨T _ _ b1 (by decide), b2, T _ _ b3 (by decide), (TL _ _ b3 (by decide)).trans b4, b5, T _ _ b6 (by decide), (TL _ _ b6 (by decide)).trans b7, b8, T _ _ b9 (by decide)⟩, ⟨c1, T _ _ c2 (by decide), c3, T _ _ c4 (by decide), (TL _ _ c4 (by decide)).trans c5, c6, T _ _ c7 (by decide), (TL _ _ c7 (by decide)).trans c8⟩, ⟨d1, T _ _ d2 (by decide), d3, T _ _ d4 (by decide), (TL _ _ d4 (by decide)).trans d5, d6, T _ _ d7 (by decide), d8, T _ _ d9 (by decide), (TL _ _ d9 (by decide)).trans d10, d11⟩⟩
  · rw [jT 5 (by decide) (by decide) (by decide) (by decide), rT 5 (by decide) (by decide) (by decide), rT 20 (by decide) (by decide) (by decide), a30, a31]
    refine ⟨fun s' hs' => ?_, kS.2⟩
    obtain ⟨s1, s2, s3, s4, s5, s6, s7, s8, s9, s10⟩ := kS.1 s' hs'
    exact ⟨s1, T _ _ s2 (by decide), s3, s4, s5, T _ _ s6 (by decide), by rw [TL _ _ s6 (by decide)]; exact s7, s8, T _ _ s9 (by decide), by rw [TL _ _ s9 (by decide)]; exact s10⟩
  · rw [jT 5 (by decide) (by decide) (by decide) (by decide), a33]
    exact kA
  · rw [jT 26 (by decide) (by decide) (by decide) (by decide), jT 27 (by decide) (by decide) (by decide) (by decide), a31, a32, a35, a36]
    exact kV
  · rw [jT 3 (by decide) (by decide) (by decide) (by decide), rT 3 (by decide) (by decide) (by decide), rT 22 (by decide) (by decide) (by decide), rT 5 (by decide) (by decide) (by decide), a31, a37]
    exact fun s' hs' => wk_dc_m tgo (fun _ _ => ⟨rfl, rfl, rfl, fun _ => rfl⟩) (fun _ _ => rfl) (kD s' hs')
  · rw [a39]
    exact wc_rv_e (Nat.le_refl _) ⟨wm_up_t (by decide), wm_up_t (by decide), wm_up_t (by decide), rfl, rfl, rfl, rfl⟩ hr
  · rw [rT 8 (by decide) (by decide) (by decide), rT 6 (by decide) (by decide) (by decide), rT 21 (by decide) (by decide) (by decide)]
    refine ⟨fun p' hp' => ?_, kT.2⟩
    obtain ⟨t1, t2, t3, t4, t5, t6, t7, t8, t9⟩ := kT.1 p' hp'
    exact ⟨t1, T _ _ t2 (by decide), t3, T _ _ t4 (by decide), t5, T _ _ t6 (by decide), (TL _ _ t6 (by decide)).trans t7, t8, t9⟩
  · rw [jT 8 (by decide) (by decide) (by decide) (by decide), lT 8 (by decide) (by decide) (by decide), a46, a47, b48]
    exact kU
  · rw [lT 25 (by decide) (by decide) (by decide), a50]; exact kX1
  · rw [lT 25 (by decide) (by decide) (by decide), a34]; exact kX2
  · rw [lT 25 (by decide) (by decide) (by decide), a49]; exact kX3
  · exact ⟨wm_up_self, fun j hj => absurd hj (by omega), fun j hj => absurd hj (by omega)⟩
  · exact ⟨⟨u1, u2, u3⟩, ⟨u4, u5, u6, u7, u8, u9, m3, szb⟩, ⟨u12, u13, by omega, by omega, u16, u17, u18, u19⟩⟩
  · rw [a30, a31, a32]; exact nS
  · rw [a31, a32, a37, a38]; exact nD
  · rw [a30, a31, a39]
    exact ⟨newc, fun s' hs' h2 d hd => ⟨(nC.2 s' hs' h2 d hd).1, newv s' hs' h2 d hd⟩⟩
  · rw [a30, a31, a32, a35]; exact nV
  · rw [a46, a47, b48]; exact nT
  · exact fun j hj => absurd hj (by omega)
  · rw [a50]; exact nO
  · exact ⟨rows, own, szs⟩
  · rw [a31, a33, a34, a35, a36, a39, a47, a49]; exact nZ
