/-! THE CLASS, 8b: soonest and takeDue of a signal -/
def sc_52 (as : List wi_V) (h : wc_H) (q : wi_Q1 wc_H) (qt : wi_Q2 wc_H) : Prop := wc_sT as (fun x => wc_f h fun tg ln I L R n => tg x = 5 ∧ ∃ (w : Nat) (rw : Nat → Nat) (pp : Nat → Int) (l : List (Nat × Nat)) (st D : Nat) (vl : Nat → Int) (ct : Nat → List (Int × Int)), I 5 1 x = w ∧ w ≤ 64 ∧ wc_dc tg ln (I 3) (R 3) (R 22) w rw pp (R 5 4 x) l ∧ wc_rv (tg, ln, I, L, R, n) st D rw vl ct ∧ (∀ c ∈ l, c.2 + w ≤ D) ∧ (∀ d, d < D → ∀ y ∈ ct d, 0 ≤ y.1) ∧ ∀ t, wc_so ct (wc_in l w) t → q (some (.inr (.inl t))) (tg, ln, I, L, R, n))
theorem cm_52 {l : Launch} {D : va_G} {aC : wm_Y} {b0 : Nat} (hl0 : l.stackTraces = false) : wm_sp l D aC b0 52 (wi_lf (wc_Rl wc_ok) sc_52) := by
  refine wi_method (wc_lw wc_ok) 52 (cx := fun id => if id = 33 then sc_33 else if id = 39 then sc_39 else fun _ _ _ _ => False) (ids := ci_52) (tb := tb_52) (by decide +kernel) hl0 (wm_cxc (cm_33 hl0) oi_52 (fun h => wm_cxc (cm_39 hl0) h (fun h => wm_cxn h))) (wm_tb_ok tk_52) (by decide +kernel) [9, 16] 250 (fun as h q qt hs => ?_)
  obtain ⟨x, rfl, hs1⟩ := wc_sT_e hs
  clear hs
  obtain ⟨tg, ln, I, L, R, n⟩ := h
  have hs := id hs1
  clear hs1
  simp only [wc_f] at hs
  obtain ⟨a1, w, rw, pp, l, st, D, vl, ct, e1, r1, c1, ⟨g1, g2, g3, cs, ids, g4, g5⟩, c2, c3, h1⟩ := hs
  refine ⟨rfl, fun mz pc lv sk h cu su => match pc with | 9 => ∃ v : Option Nat, ∃ t : Int, ∃ P : List (Nat × Nat), ∃ r : List (Nat × Nat), ∃ w4 : Option wi_V, lv = [some (wi_rf (some x)), some (.inr (.inl (t))), none, some (wi_rf (v)), w4] ∧ sk = [] ∧ h = (tg, ln, I, L, R, n) ∧ cu = 0 ∧ su = 0 ∧ mz = 100 * r.length + 99 ∧ l = P ++ r ∧ wc_dc tg ln (I 3) (R 3) (R 22) w rw pp v r ∧ wc_so ct (wc_in P w) t | 16 => ∃ c : Nat × Nat, ∃ t : Int, ∃ P : List (Nat × Nat), ∃ r : List (Nat × Nat), ∃ k : Nat, lv = [some (wi_rf (some x)), some (.inr (.inl (t))), none, some (wi_rf (some c.1)), some (.inl ((k : Int)))] ∧ sk = [] ∧ h = (tg, ln, I, L, R, n) ∧ cu = 0 ∧ su = 0 ∧ mz = 100 * r.length + 100 + (w - k) ∧ l = P ++ c :: r ∧ k ≤ w ∧ wc_dc tg ln (I 3) (R 3) (R 22) w rw pp (some c.1) (c :: r) ∧ wc_so ct (fun d => wc_in P w d ∨ (c.2 ≤ d ∧ d < c.2 + k)) t | _ => False, mq_c2 (fun mz lv sk h cu su hI => ?_) (fun mz lv sk h cu su hI => ?_), ?_⟩
  · obtain ⟨v, t, P, r, w4, rfl, rfl, rfl, rfl, rfl, rfl, p1, p2, p3⟩ := hI
    cases r with
    | nil =>
      cases (show v = none from p2)
      rw [List.append_nil] at p1
      subst p1
      have f1 := h1 t p3
      repeat' first
        | refine And.intro ?_ ?_
        | (intro q9 (e9 : (_ : Option Nat) = some q9); cases e9)
        | (intro (e9 : (some _ : Option Nat) = none); cases e9)
        | (intro (e9 : (none : Option Nat) = none); clear e9)
        | refine Exists.intro _ (And.intro (show _ = _ from by assumption) ?_)
        | refine Exists.intro _ (And.intro rfl (And.intro (by assumption) ?_))
        | refine Exists.intro _ (And.intro rfl ?_)
        | (intro h; try omega)
        | omega
        | exact f1
        | exact Nat.le_of_ble_eq_true rfl
        | assumption
    | cons c r =>
      have p2' := id p2
      obtain ⟨rfl, b1, -⟩ := p2'
      repeat' first
        | refine And.intro ?_ ?_
        | (intro q9 (e9 : (_ : Option Nat) = some q9); cases e9)
        | (intro (e9 : (some _ : Option Nat) = none); cases e9)
        | (intro (e9 : (none : Option Nat) = none); clear e9)
        | refine Exists.intro _ (And.intro (show _ = _ from by assumption) ?_)
        | refine Exists.intro _ (And.intro rfl (And.intro (by assumption) ?_))
        | refine Exists.intro _ (And.intro rfl ?_)
        | (intro h; try omega)
        | omega
        | (refine Exists.intro _ (And.intro ?_ (Exists.intro (c) (Exists.intro (t) (Exists.intro (P) (Exists.intro (r) (Exists.intro (0) (And.intro rfl (And.intro rfl (And.intro rfl (And.intro rfl (And.intro rfl (And.intro rfl (?_))))))))))))) <;> first | (simp only [List.length_cons]; omega) | exact ⟨p1, Nat.zero_le _, p2, wc_so_x p3 (fun e => ⟨fun z => z.elim id (fun y => absurd y.2 (by omega)), Or.inl⟩)⟩)
        | exact Nat.le_of_ble_eq_true rfl
        | assumption
  · obtain ⟨c, t, P, r, k, rfl, rfl, rfl, rfl, rfl, rfl, p1, p2, p3, p4⟩ := hI
    obtain ⟨-, b1, b2, ⟨ra, b3, b4, b5, b6⟩, b7⟩ := id p3
    have hm : c ∈ l := by rw [p1]; simp
    have hD := c2 c hm
    have ek : ((k : Int)).toNat = k := by omega
    have fin : (w : Int) ≤ k → wc_so ct (wc_in (P ++ [c]) w) t := fun z => by
      have : k = w := by omega
      subst this
      refine wc_so_x p4 (fun e => ?_)
      simp [wc_in, or_and_right, exists_or]
    by_cases hk : k < w
    · have b8 := b6 k hk
      have hd : c.2 + k < D := by omega
      obtain ⟨x1, x2, x3⟩ := g4.2.1 (c.2 + k) hd
      have bl : k < ln ra := by omega
      have b8' : R 22 (k : Int).toNat ra = some (rw (c.2 + k)) := by rw [ek]; exact b8
      have m9 : ∀ a, R 4 1 (rw (c.2 + k)) = some a → tg a = 9 ∧ ∃ y, (ct (c.2 + k)).head? = some y ∧ y.1 = L 9 0 a ∧ 0 ≤ L 9 0 a := by
        intro a ha
        have h9 := wc_ch_h x3
        simp only at h9
        rw [ha] at h9
        have hma : a ∈ cs (c.2 + k) := List.mem_of_mem_head? h9.symm
        refine ⟨(g4.2.2.2.2.2.2.2.1 a (Or.inr ⟨_, hd, hma⟩)).1, (L 9 0 a, I 9 1 a), ?_, rfl, ?_⟩
        · rw [← (g5 _ hd).2]
          simp only [wc_cn, List.head?_map]
          rw [← h9]
          rfl
        · refine c3 _ hd (L 9 0 a, I 9 1 a) ?_
          rw [← (g5 _ hd).2]
          exact List.mem_map_of_mem hma
      have m0 : R 4 1 (rw (c.2 + k)) = none → ct (c.2 + k) = [] := by
        intro ha
        have h9 := wc_ch_h x3
        simp only at h9
        rw [ha] at h9
        rw [← (g5 _ hd).2, List.head?_eq_none_iff.mp h9.symm]
        rfl
      have sS : ∀ e, (wc_in P w e ∨ (c.2 ≤ e ∧ e < c.2 + (k + 1))) ↔ (wc_in P w e ∨ (c.2 ≤ e ∧ e < c.2 + k)) ∨ e = c.2 + k := fun e => ⟨fun z => by
          rcases z with z | z
          · exact Or.inl (Or.inl z)
          · by_cases y : e = c.2 + k
            · exact Or.inr y
            · exact Or.inl (Or.inr (by omega)), fun z => by
          rcases z with (z | z) | z
          · exact Or.inl z
          · exact Or.inr (by omega)
          · exact Or.inr (by omega)⟩
      have nx : ∀ u z, ((u = -1 ∧ ct (c.2 + k) = []) ∨ (0 ≤ u ∧ ∃ y, (ct (c.2 + k)).head? = some y ∧ y.1 = u)) → ((t = -1 ∧ z = u) ∨ (t ≠ -1 ∧ (u = -1 ∨ t ≤ u) ∧ z = t) ∨ (t ≠ -1 ∧ u ≠ -1 ∧ u < t ∧ z = u)) → wc_so ct (fun d => wc_in P w d ∨ (c.2 ≤ d ∧ d < c.2 + (k + 1))) z := fun u z hu hz => wc_so_a p4 sS hu hz
      repeat' first
        | refine And.intro ?_ ?_
        | (intro a9 (e9 : R 4 1 (rw (c.2 + k)) = some a9); obtain ⟨m1, y9, m2, m3, m4⟩ := m9 a9 e9; have m9y : ∃ y, (ct (c.2 + k)).head? = some y ∧ y.1 = L 9 0 a9 := ⟨y9, m2, m3⟩)
        | (intro (e9 : R 4 1 (rw (c.2 + k)) = none))
        | refine Exists.intro _ (And.intro b3 (And.intro b4 ?_))
        | refine Exists.intro _ (And.intro b8' ?_)
        | exact m1
        | (intro q9 (e9 : (_ : Option Nat) = some q9); cases e9)
        | (intro (e9 : (some _ : Option Nat) = none); cases e9)
        | (intro (e9 : (none : Option Nat) = none); clear e9)
        | refine Exists.intro _ (And.intro (show _ = _ from by assumption) ?_)
        | refine Exists.intro _ (And.intro rfl (And.intro (by assumption) ?_))
        | refine Exists.intro _ (And.intro rfl ?_)
        | (intro h; try omega)
        | omega
        | (have hnx := nx _ _ (Or.inl ⟨rfl, m0 (by assumption)⟩) (Or.inl ⟨by omega, rfl⟩); (refine Exists.intro _ (And.intro ?_ (Exists.intro (c) (Exists.intro (_) (Exists.intro (P) (Exists.intro (r) (Exists.intro (k + 1) (And.intro rfl (And.intro rfl (And.intro rfl (And.intro rfl (And.intro rfl (And.intro rfl (?_))))))))))))) <;> first | omega | exact ⟨p1, by omega, p3, hnx⟩))
        | (have hnx := nx _ _ (Or.inl ⟨rfl, m0 (by assumption)⟩) (Or.inr (Or.inl ⟨by omega, by omega, rfl⟩)); (refine Exists.intro _ (And.intro ?_ (Exists.intro (c) (Exists.intro (_) (Exists.intro (P) (Exists.intro (r) (Exists.intro (k + 1) (And.intro rfl (And.intro rfl (And.intro rfl (And.intro rfl (And.intro rfl (And.intro rfl (?_))))))))))))) <;> first | omega | exact ⟨p1, by omega, p3, hnx⟩))
        | (have hnx := nx _ _ (Or.inr ⟨by omega, m9y⟩) (Or.inl ⟨by omega, rfl⟩); (refine Exists.intro _ (And.intro ?_ (Exists.intro (c) (Exists.intro (_) (Exists.intro (P) (Exists.intro (r) (Exists.intro (k + 1) (And.intro rfl (And.intro rfl (And.intro rfl (And.intro rfl (And.intro rfl (And.intro rfl (?_))))))))))))) <;> first | omega | exact ⟨p1, by omega, p3, hnx⟩))
        | (have hnx := nx _ _ (Or.inr ⟨by omega, m9y⟩) (Or.inr (Or.inl ⟨by omega, by omega, rfl⟩)); (refine Exists.intro _ (And.intro ?_ (Exists.intro (c) (Exists.intro (_) (Exists.intro (P) (Exists.intro (r) (Exists.intro (k + 1) (And.intro rfl (And.intro rfl (And.intro rfl (And.intro rfl (And.intro rfl (And.intro rfl (?_))))))))))))) <;> first | omega | exact ⟨p1, by omega, p3, hnx⟩))
        | (have hnx := nx _ _ (Or.inr ⟨by omega, m9y⟩) (Or.inr (Or.inr ⟨by omega, by omega, by omega, rfl⟩)); (refine Exists.intro _ (And.intro ?_ (Exists.intro (c) (Exists.intro (_) (Exists.intro (P) (Exists.intro (r) (Exists.intro (k + 1) (And.intro rfl (And.intro rfl (And.intro rfl (And.intro rfl (And.intro rfl (And.intro rfl (?_))))))))))))) <;> first | omega | exact ⟨p1, by omega, p3, hnx⟩))
        | exact Nat.le_of_ble_eq_true rfl
        | assumption
    · have fin := fin (by omega)
      repeat' first
        | refine And.intro ?_ ?_
        | (intro q9 (e9 : (_ : Option Nat) = some q9); cases e9)
        | (intro (e9 : (some _ : Option Nat) = none); cases e9)
        | (intro (e9 : (none : Option Nat) = none); clear e9)
        | refine Exists.intro _ (And.intro (show _ = _ from by assumption) ?_)
        | refine Exists.intro _ (And.intro rfl (And.intro (by assumption) ?_))
        | refine Exists.intro _ (And.intro rfl ?_)
        | (intro h; try omega)
        | omega
        | (refine Exists.intro _ (And.intro ?_ (Exists.intro (_) (Exists.intro (t) (Exists.intro (P ++ [c]) (Exists.intro (r) (Exists.intro (_) (And.intro rfl (And.intro rfl (And.intro rfl (And.intro rfl (And.intro rfl (And.intro rfl (?_))))))))))))) <;> first | omega | exact ⟨by rw [p1]; simp, b7, fin⟩)
        | exact Nat.le_of_ble_eq_true rfl
        | assumption
  · repeat' first
      | refine And.intro ?_ ?_
      | refine Exists.intro _ (And.intro (show _ = _ from by assumption) ?_)
      | refine Exists.intro _ (And.intro rfl (And.intro (by assumption) ?_))
      | refine Exists.intro _ (And.intro rfl ?_)
      | (intro h; try omega)
      | omega
      | (refine Exists.intro _ (Exists.intro (_) (Exists.intro (_) (Exists.intro ([]) (Exists.intro (l) (Exists.intro (_) (And.intro rfl (And.intro rfl (And.intro rfl (And.intro rfl (And.intro rfl (And.intro rfl (?_)))))))))))) <;> exact ⟨rfl, c1, Or.inl ⟨rfl, fun d hd => (by obtain ⟨c, hc, -⟩ := hd; cases hc)⟩⟩)
      | exact Nat.le_of_ble_eq_true rfl
      | assumption
/-- the rows of S have taken what is due -/
def wc_tq (S : Nat → Prop) (t : Int) (vl : Nat → Int) (ct : Nat → List (Int × Int)) (vl' : Nat → Int) (ct' : Nat → List (Int × Int)) : Prop := ∀ d, (S d → vl' d = wc_va t (vl d) (ct d) ∧ ct' d = wc_dr t (ct d)) ∧ (¬ S d → vl' d = vl d ∧ ct' d = ct d)
def wc_ha (S : Nat → Prop) (t : Int) (ct : Nat → List (Int × Int)) : Prop := ∃ d y, S d ∧ (ct d).head? = some y ∧ y.1 ≤ t
def wc_ac (S : Nat → Prop) (t : Int) (ct : Nat → List (Int × Int)) (a : Int) : Prop := (a = 1 ∧ wc_ha S t ct) ∨ (a = 0 ∧ ¬ wc_ha S t ct)
theorem wc_ac_b {S : Nat → Prop} {t : Int} {ct : Nat → List (Int × Int)} {a : Int} (h : wc_ac S t ct a) : a = 0 ∨ a = 1 := h.elim (fun z => Or.inr z.1) (fun z => Or.inl z.1)
theorem wc_ha_s {S S' : Nat → Prop} {t : Int} {ct : Nat → List (Int × Int)} {d : Nat} (hS : ∀ e, S' e ↔ S e ∨ e = d) : wc_ha S' t ct ↔ wc_ha S t ct ∨ ¬ ∀ y, (ct d).head? = some y → t < y.1 := by
  constructor
  · rintro ⟨e, y, h1, h2, h3⟩
    rcases (hS e).mp h1 with z | z
    · exact Or.inl ⟨e, y, z, h2, h3⟩
    · subst z
      exact Or.inr (fun k => absurd (k y h2) (by omega))
  · rintro (⟨e, y, h1, h2, h3⟩ | k)
    · exact ⟨e, y, (hS e).mpr (Or.inl h1), h2, h3⟩
    · apply Classical.byContradiction
      intro z
      exact k (fun y hy => Classical.byContradiction fun h9 => z ⟨d, y, (hS d).mpr (Or.inr rfl), hy, by omega⟩)
def sc_53 (as : List wi_V) (h : wc_H) (q : wi_Q1 wc_H) (qt : wi_Q2 wc_H) : Prop := wc_sTJ as (fun x t => wc_f h fun tg ln I L R n => tg x = 5 ∧ (∀ q, tg q ≠ 0 → q < n) ∧ ∃ (w : Nat) (rw : Nat → Nat) (pp : Nat → Int) (l : List (Nat × Nat)) (st D : Nat) (vl : Nat → Int) (ct : Nat → List (Int × Int)), I 5 1 x = w ∧ w ≤ 64 ∧ wc_dc tg ln (I 3) (R 3) (R 22) w rw pp (R 5 4 x) l ∧ wc_rv (tg, ln, I, L, R, n) st D rw vl ct ∧ (∀ c ∈ l, c.2 + w ≤ D) ∧ l.Pairwise (fun a b => b.2 + w ≤ a.2) ∧ ∀ I' R' vl' ct' a, wc_rv (tg, ln, I', L, R', n) st D rw vl' ct' → wc_fx (tg, ln, I, L, R, n) (tg, ln, I', L, R', n) → wc_tq (wc_in l w) t vl ct vl' ct' → wc_ac (wc_in l w) t ct a → q (some (.inl a)) (tg, ln, I', L, R', n))
theorem cm_53 {l : Launch} {D : va_G} {aC : wm_Y} {b0 : Nat} (hl0 : l.stackTraces = false) : wm_sp l D aC b0 53 (wi_lf (wc_Rl wc_ok) sc_53) := by
  refine wi_method (wc_lw wc_ok) 53 (cx := fun id => if id = 41 then sc_41 else fun _ _ _ _ => False) (ids := ci_53) (tb := tb_53) (by decide +kernel) hl0 (wm_cxc (cm_41 hl0) oi_53 (fun h => wm_cxn h)) (wm_tb_ok tk_53) (by decide +kernel) [8, 16] 250 (fun as h q qt hs => ?_)
  obtain ⟨x, t, rfl, hs1⟩ := wc_sTJ_e hs
  clear hs
  obtain ⟨tg, ln, I, L, R, n⟩ := h
  have hs := id hs1
  clear hs1
  simp only [wc_f] at hs
  obtain ⟨a1, hn, w, rw, pp, l, st, D, vl, ct, e1, r1, c1, g0, c2, c3, h1⟩ := hs
  refine ⟨rfl, fun mz pc lv sk h cu su => match pc with | 8 => ∃ v : Option Nat, ∃ P : List (Nat × Nat), ∃ r : List (Nat × Nat), ∃ w5 : Option wi_V, ∃ I2 : wm_F Int, ∃ R2 : wm_F (Option Nat), ∃ vl2 : Nat → Int, ∃ ct2 : Nat → List (Int × Int), ∃ a : Int, lv = [some (wi_rf (some x)), some (.inr (.inl (t))), none, some (.inl (a)), some (wi_rf (v)), w5] ∧ sk = [] ∧ h = (tg, ln, I2, L, R2, n) ∧ cu = 0 ∧ su = 0 ∧ mz = 100 * r.length + 99 ∧ l = P ++ r ∧ wc_dc tg ln (I 3) (R 3) (R 22) w rw pp v r ∧ wc_rv (tg, ln, I2, L, R2, n) st D rw vl2 ct2 ∧ wc_fx (tg, ln, I, L, R, n) (tg, ln, I2, L, R2, n) ∧ wc_tq (wc_in P w) t vl ct vl2 ct2 ∧ wc_ac (wc_in P w) t ct a | 16 => ∃ c : Nat × Nat, ∃ P : List (Nat × Nat), ∃ r : List (Nat × Nat), ∃ k : Nat, ∃ I2 : wm_F Int, ∃ R2 : wm_F (Option Nat), ∃ vl2 : Nat → Int, ∃ ct2 : Nat → List (Int × Int), ∃ a : Int, lv = [some (wi_rf (some x)), some (.inr (.inl (t))), none, some (.inl (a)), some (wi_rf (some c.1)), some (.inl ((k : Int)))] ∧ sk = [] ∧ h = (tg, ln, I2, L, R2, n) ∧ cu = 0 ∧ su = 0 ∧ mz = 100 * r.length + 100 + (w - k) ∧ l = P ++ c :: r ∧ k ≤ w ∧ wc_dc tg ln (I 3) (R 3) (R 22) w rw pp (some c.1) (c :: r) ∧ wc_rv (tg, ln, I2, L, R2, n) st D rw vl2 ct2 ∧ wc_fx (tg, ln, I, L, R, n) (tg, ln, I2, L, R2, n) ∧ wc_tq (fun d => wc_in P w d ∨ (c.2 ≤ d ∧ d < c.2 + k)) t vl ct vl2 ct2 ∧ wc_ac (fun d => wc_in P w d ∨ (c.2 ≤ d ∧ d < c.2 + k)) t ct a | _ => False, mq_c2 (fun mz lv sk h cu su hI => ?_) (fun mz lv sk h cu su hI => ?_), ?_⟩
  · obtain ⟨v, P, r, w5, I2, R2, vl2, ct2, a, rfl, rfl, rfl, rfl, rfl, rfl, p1, p2, p3, p4, p5, p6⟩ := hI
    cases r with
    | nil =>
      cases (show v = none from p2)
      rw [List.append_nil] at p1
      subst p1
      have f1 := h1 _ _ _ _ _ p3 p4 p5 p6
      repeat' first
        | refine And.intro ?_ ?_
        | (intro q9 (e9 : (_ : Option Nat) = some q9); cases e9)
        | (intro (e9 : (some _ : Option Nat) = none); cases e9)
        | (intro (e9 : (none : Option Nat) = none); clear e9)
        | refine Exists.intro _ (And.intro (show _ = _ from by assumption) ?_)
        | refine Exists.intro _ (And.intro rfl (And.intro (by assumption) ?_))
        | refine Exists.intro _ (And.intro rfl ?_)
        | (intro h; try omega)
        | omega
        | exact f1
        | exact wc_ac_b p6
        | exact Nat.le_of_ble_eq_true rfl
        | assumption
    | cons c r =>
      have p2' := id p2
      obtain ⟨rfl, b1, -⟩ := p2'
      have hS : wc_in P w = (fun d => wc_in P w d ∨ (c.2 ≤ d ∧ d < c.2 + 0)) := funext (fun d => propext ⟨Or.inl, fun z => z.elim id (fun y => absurd y.2 (by omega))⟩)
      rw [hS] at p5 p6
      repeat' first
        | refine And.intro ?_ ?_
        | (intro q9 (e9 : (_ : Option Nat) = some q9); cases e9)
        | (intro (e9 : (some _ : Option Nat) = none); cases e9)
        | (intro (e9 : (none : Option Nat) = none); clear e9)
        | refine Exists.intro _ (And.intro (show _ = _ from by assumption) ?_)
        | refine Exists.intro _ (And.intro rfl (And.intro (by assumption) ?_))
        | refine Exists.intro _ (And.intro rfl ?_)
        | (intro h; try omega)
        | omega
        | (refine Exists.intro _ (And.intro ?_ (Exists.intro (c) (Exists.intro (P) (Exists.intro (r) (Exists.intro (0) (Exists.intro (_) (Exists.intro (_) (Exists.intro (vl2) (Exists.intro (ct2) (Exists.intro (_) (And.intro rfl (And.intro rfl (And.intro rfl (And.intro rfl (And.intro rfl (And.intro rfl (?_))))))))))))))))) <;> first | (simp only [List.length_cons]; omega) | exact ⟨p1, Nat.zero_le _, p2, p3, p4, p5, p6⟩)
        | exact Nat.le_of_ble_eq_true rfl
        | assumption
  · obtain ⟨c, P, r, k, I2, R2, vl2, ct2, a, rfl, rfl, rfl, rfl, rfl, rfl, p1, p2, p3, p4, p5, p6, p7⟩ := hI
    obtain ⟨-, b1, b2, ⟨ra, b3, b4, b5, b6⟩, b7⟩ := id p3
    obtain ⟨f1, f2, f3, f4⟩ := id p5
    simp only at f1 f2 f4
    have hm : c ∈ l := by rw [p1]; simp
    have hD := c2 c hm
    have ek : ((k : Int)).toNat = k := by omega
    have t5 : I2 5 1 x = w := by rw [(f4 5 (by decide) (by decide) (by decide)).1]; exact e1
    have s3 : R2 3 1 c.1 = some ra := by rw [(f4 3 (by decide) (by decide) (by decide)).2.2]; exact b3
    have s3' : R2 3 2 c.1 = R 3 2 c.1 := by rw [(f4 3 (by decide) (by decide) (by decide)).2.2]
    by_cases hk : k < w
    · have b8' : R2 22 (k : Int).toNat ra = some (rw (c.2 + k)) := by rw [ek, (f4 22 (by decide) (by decide) (by decide)).2.2]; exact b6 k hk
      have hd : c.2 + k < D := by omega
      have bl : k < ln ra := by omega
      obtain ⟨g1, g2, g3, cs, ids, g4, g5⟩ := id p4
      have hr := wc_rk_rs g4 hd
      have hr4 : tg (rw (c.2 + k)) = 4 := hr.1
      have nS : ¬ (wc_in P w (c.2 + k) ∨ (c.2 ≤ c.2 + k ∧ c.2 + k < c.2 + k)) := by
        rintro (⟨c', hc', z1, z2⟩ | z)
        · rw [p1] at c3
          have := (List.pairwise_append.mp c3).2.2 c' hc' c List.mem_cons_self
          omega
        · omega
      have sS : ∀ e, (wc_in P w e ∨ (c.2 ≤ e ∧ e < c.2 + (k + 1))) ↔ (wc_in P w e ∨ (c.2 ≤ e ∧ e < c.2 + k)) ∨ e = c.2 + k := fun e => ⟨fun z => by
          rcases z with z | z
          · exact Or.inl (Or.inl z)
          · by_cases y : e = c.2 + k
            · exact Or.inr y
            · exact Or.inl (Or.inr (by omega)), fun z => by
          rcases z with (z | z) | z
          · exact Or.inl z
          · exact Or.inr (by omega)
          · exact Or.inr (by omega)⟩
      have e7 := wc_rv_n g4 g5
      simp only at e7 g3 g5
      have len0 : ((cs (c.2 + k)).length : Int) ≤ I2 7 0 st := by
        have := g4.2.2.2.2.2.2.2.2
        simp only at this
        rw [this]
        exact mq_sum_le (g := fun d => ((cs d).length : Int)) (fun d => Int.natCast_nonneg _) hd
      have len1 : I2 7 0 st ≤ 100000 := by omega
      have v0 := (p6 (c.2 + k)).2 nS
      have nx : ∀ I1 R1, wc_rs (tg, ln, I1, L, R1, n) (rw (c.2 + k)) st ((cs (c.2 + k)).dropWhile (fun a => decide (L 9 0 a ≤ t))) (((cs (c.2 + k)).takeWhile (fun a => decide (L 9 0 a ≤ t))).reverse ++ ids) → wc_ro (tg, ln, I2, L, R2, n) (tg, ln, I1, L, R1, n) (rw (c.2 + k)) st (cs (c.2 + k) ++ ids) → I1 7 0 st = I2 7 0 st - ((cs (c.2 + k)).takeWhile (fun a => decide (L 9 0 a ≤ t))).length → I1 4 2 (rw (c.2 + k)) = wc_va t (I2 4 2 (rw (c.2 + k))) (wc_cn I2 L (cs (c.2 + k))) → (∀ t j a, ¬ (t = 7 ∧ j = 0 ∧ a = st) → ¬ (t = 4 ∧ j = 2 ∧ a = rw (c.2 + k)) → I1 t j a = I2 t j a) →
          ∃ vl3 ct3, wc_rv (tg, ln, I1, L, R1, n) st D rw vl3 ct3 ∧ wc_fx (tg, ln, I, L, R, n) (tg, ln, I1, L, R1, n) ∧ wc_tq (fun d => wc_in P w d ∨ (c.2 ≤ d ∧ d < c.2 + (k + 1))) t vl ct vl3 ct3 ∧ ∀ a', (((cs (c.2 + k)).takeWhile (fun a => decide (L 9 0 a ≤ t)) ≠ [] ∧ a' = 1) ∨ ((cs (c.2 + k)).takeWhile (fun a => decide (L 9 0 a ≤ t)) = [] ∧ a' = a)) → wc_ac (fun d => wc_in P w d ∨ (c.2 ≤ d ∧ d < c.2 + (k + 1))) t ct a' := by
        intro I1 R1 z1 z2 z3 z4 z5
        obtain ⟨y1, y2⟩ := wc_rv_due g2 g1 g3 g4 g5 hd z1 z2 z3 z4 z5
        refine ⟨_, _, y1, wc_fx_tr p5 (wc_fx_ro z2), fun d => ?_, fun a' ha => ?_⟩
        · by_cases hd2 : d = c.2 + k
          · subst hd2
            refine ⟨fun _ => ?_, fun z => absurd ((sS _).mpr (Or.inr rfl)) z⟩
            simp only [wc_u, if_pos]
            rw [v0.1, v0.2]
            exact ⟨rfl, rfl⟩
          · simp only [wc_u, if_neg hd2]
            exact ⟨fun z => (p6 d).1 (((sS d).mp z).resolve_right hd2), fun z => (p6 d).2 (fun y => z ((sS d).mpr (Or.inl y)))⟩
        · rw [v0.2] at y2
          have hh := wc_ha_s (t := t) (ct := ct) sS
          unfold wc_ac
          rw [hh]
          rcases ha with ⟨x1, x2⟩ | ⟨x1, x2⟩
          · exact Or.inl ⟨x2, Or.inr (fun z => x1 (y2.mpr z))⟩
          · have x3 := y2.mp x1
            rcases p7 with ⟨x4, x5⟩ | ⟨x4, x5⟩
            · exact Or.inl ⟨x2.trans x4, Or.inl x5⟩
            · exact Or.inr ⟨x2.trans x4, fun z => z.elim x5 (fun y => y x3)⟩
      repeat' first
        | refine And.intro ?_ ?_
        | (intro I1 R1 z1 z2 z3 z4 z5; obtain ⟨vl3, ct3, y1, y2, y3, y4⟩ := nx I1 R1 z1 z2 z3 z4 z5)
        | (intro (z9 : List.takeWhile _ _ ≠ []))
        | (intro (z9 : List.takeWhile _ _ = []))
        | refine Exists.intro st (Exists.intro (cs (c.2 + k)) (Exists.intro ids (And.intro hr (And.intro len0 (And.intro len1 ?_)))))
        | refine Exists.intro _ (And.intro s3 (And.intro b4 ?_))
        | refine Exists.intro _ (And.intro b8' ?_)
        | (intro q9 (e9 : (_ : Option Nat) = some q9); cases e9)
        | (intro (e9 : (some _ : Option Nat) = none); cases e9)
        | (intro (e9 : (none : Option Nat) = none); clear e9)
        | refine Exists.intro _ (And.intro (show _ = _ from by assumption) ?_)
        | refine Exists.intro _ (And.intro rfl (And.intro (by assumption) ?_))
        | refine Exists.intro _ (And.intro rfl ?_)
        | (intro h; try omega)
        | omega
        | (refine Exists.intro _ (And.intro ?_ (Exists.intro (c) (Exists.intro (P) (Exists.intro (r) (Exists.intro (k + 1) (Exists.intro (_) (Exists.intro (_) (Exists.intro (vl3) (Exists.intro (ct3) (Exists.intro (_) (And.intro rfl (And.intro rfl (And.intro rfl (And.intro rfl (And.intro rfl (And.intro rfl (?_))))))))))))))))) <;> first | omega | exact ⟨p1, by omega, p3, y1, y2, y3, y4 _ (Or.inr ⟨by assumption, rfl⟩)⟩)
        | (refine Exists.intro _ (And.intro ?_ (Exists.intro (c) (Exists.intro (P) (Exists.intro (r) (Exists.intro (k + 1) (Exists.intro (_) (Exists.intro (_) (Exists.intro (vl3) (Exists.intro (ct3) (Exists.intro (_) (And.intro rfl (And.intro rfl (And.intro rfl (And.intro rfl (And.intro rfl (And.intro rfl (?_))))))))))))))))) <;> first | omega | exact ⟨p1, by omega, p3, y1, y2, y3, y4 _ (Or.inl ⟨by assumption, rfl⟩)⟩)
        | exact Nat.le_of_ble_eq_true rfl
        | assumption
    · have : k = w := by omega
      subst this
      have hS : (fun d => wc_in P k d ∨ (c.2 ≤ d ∧ d < c.2 + k)) = wc_in (P ++ [c]) k := funext (fun d => propext (by simp [wc_in, or_and_right, exists_or]))
      rw [hS] at p6 p7
      repeat' first
        | refine And.intro ?_ ?_
        | (intro q9 (e9 : (_ : Option Nat) = some q9); cases e9)
        | (intro (e9 : (some _ : Option Nat) = none); cases e9)
        | (intro (e9 : (none : Option Nat) = none); clear e9)
        | refine Exists.intro _ (And.intro (show _ = _ from by assumption) ?_)
        | refine Exists.intro _ (And.intro rfl (And.intro (by assumption) ?_))
        | refine Exists.intro _ (And.intro rfl ?_)
        | (intro h; try omega)
        | omega
        | (refine Exists.intro _ (And.intro ?_ (Exists.intro (_) (Exists.intro (P ++ [c]) (Exists.intro (r) (Exists.intro (_) (Exists.intro (_) (Exists.intro (_) (Exists.intro (vl2) (Exists.intro (ct2) (Exists.intro (_) (And.intro rfl (And.intro rfl (And.intro rfl (And.intro rfl (And.intro rfl (And.intro rfl (?_))))))))))))))))) <;> first | omega | exact ⟨by rw [p1]; simp, (by first | exact b7 | (rw [s3']; exact b7)), p4, p5, p6, p7⟩)
        | exact Nat.le_of_ble_eq_true rfl
        | assumption
  · repeat' first
      | refine And.intro ?_ ?_
      | refine Exists.intro _ (And.intro (show _ = _ from by assumption) ?_)
      | refine Exists.intro _ (And.intro rfl (And.intro (by assumption) ?_))
      | refine Exists.intro _ (And.intro rfl ?_)
      | (intro h; try omega)
      | omega
      | (refine Exists.intro _ (Exists.intro (_) (Exists.intro ([]) (Exists.intro (l) (Exists.intro (_) (Exists.intro (_) (Exists.intro (_) (Exists.intro (vl) (Exists.intro (ct) (Exists.intro (0) (And.intro rfl (And.intro rfl (And.intro rfl (And.intro rfl (And.intro rfl (And.intro rfl (?_)))))))))))))))) <;> exact ⟨rfl, c1, g0, wc_fx_rf, fun d => ⟨fun hd => (by obtain ⟨c, hc, -⟩ := hd; cases hc), fun _ => ⟨rfl, rfl⟩⟩, Or.inr ⟨rfl, fun z => (by obtain ⟨d, y, ⟨c, hc, -⟩, -⟩ := z; cases hc)⟩⟩)
      | exact Nat.le_of_ble_eq_true rfl
      | assumption
