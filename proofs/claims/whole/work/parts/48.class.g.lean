/-! THE CLASS, 7: sooner, a new driver, the chain of drivers -/
def sc_33 (as : List wi_V) (h : wc_H) (q : wi_Q1 wc_H) (qt : wi_Q2 wc_H) : Prop := wc_sJJ as (fun a b => wc_f h fun tg ln I L R n => (a = -1 → q (some (.inr (.inl b))) (tg, ln, I, L, R, n)) ∧ (a ≠ -1 → b = -1 ∨ a ≤ b → q (some (.inr (.inl a))) (tg, ln, I, L, R, n)) ∧ (a ≠ -1 → b ≠ -1 → b < a → q (some (.inr (.inl b))) (tg, ln, I, L, R, n)))
theorem cm_33 {l : Launch} {D : va_G} {aC : wm_Y} {b0 : Nat} (hl0 : l.stackTraces = false) : wm_sp l D aC b0 33 (wi_lf (wc_Rl wc_ok) sc_33) := by
  refine wi_method (wc_lw wc_ok) 33 (cx := fun _ _ _ _ _ => False) (ids := ci_33) (tb := tb_33) (by decide +kernel) hl0 wm_cx0 (wm_tb_ok tk_33) (by decide +kernel) [] 250 (fun as h q qt hs => ?_)
  obtain ⟨a, b, rfl, hs1⟩ := wc_sJJ_e hs
  clear hs
  obtain ⟨tg, ln, I, L, R, n⟩ := h
  have hs := id hs1
  clear hs1
  simp only [wc_f] at hs
  refine ⟨rfl, fun _ _ _ _ _ _ _ => False, mq_nc, ?_⟩
  obtain ⟨h1, h2, h3⟩ := hs
  repeat' first
    | refine And.intro ?_ ?_
    | refine Exists.intro _ (And.intro (show _ = _ from by assumption) ?_)
    | refine Exists.intro _ (And.intro rfl (And.intro (by assumption) ?_))
    | refine Exists.intro _ (And.intro rfl ?_)
    | (intro h; try omega)
    | omega
    | exact h1 (by omega)
    | exact h2 (by omega) (by omega)
    | exact h3 (by omega) (by omega) (by omega)
    | exact Nat.le_of_ble_eq_true rfl
    | assumption
/-- a new driver with i rows so far -/
def wc_dn (h h' : wc_H) (x : Nat) (p : Int) (m : Nat) (st : Nat) (oth : Option Nat) (i : Nat) : Prop :=
  h'.2.2.2.2.2 = h.2.2.2.2.2 + 1 + i ∧ (∀ q, q < h.2.2.2.2.2 → h'.1 q = h.1 q ∧ h'.2.1 q = h.2.1 q) ∧ h'.1 h.2.2.2.2.2 = 22 ∧ h'.2.1 h.2.2.2.2.2 = m ∧ (∀ k, k < i → h'.1 (h.2.2.2.2.2 + 1 + k) = 4) ∧
  h'.2.2.2.2.1 3 1 x = some h.2.2.2.2.2 ∧ h'.2.2.2.2.1 3 2 x = oth ∧ h'.2.2.1 3 0 x = p ∧
  (∀ k, k < i → h'.2.2.2.2.1 22 k h.2.2.2.2.2 = some (h.2.2.2.2.2 + 1 + k) ∧ h'.2.2.2.2.1 4 0 (h.2.2.2.2.2 + 1 + k) = some st ∧ h'.2.2.2.2.1 4 1 (h.2.2.2.2.2 + 1 + k) = none ∧ h'.2.2.1 4 2 (h.2.2.2.2.2 + 1 + k) = 0) ∧
  (∀ t j q, q < h.2.2.2.2.2 → ¬ (t = 3 ∧ q = x) → h'.2.2.1 t j q = h.2.2.1 t j q ∧ h'.2.2.2.1 t j q = h.2.2.2.1 t j q ∧ h'.2.2.2.2.1 t j q = h.2.2.2.2.1 t j q)
theorem wc_dn_0 {tg ln : Nat → Nat} {I L : wm_F Int} {R : wm_F (Option Nat)} {n x : Nat} {p : Int} {m st : Nat} {oth : Option Nat} (hx : x < n) :
    wc_dn (tg, ln, I, L, R, n) (wc_nt tg n 22, wc_nt ln n m, wc_nz (wm_up I 3 0 x p) n 22, wc_nz L n 22, wm_up (wc_nn (wm_up R 3 2 x oth) n 22) 3 1 x (some n), n + 1) x p m st oth 0 := by
  refine ⟨rfl, fun q hq => ⟨if_neg (Nat.ne_of_lt hq), if_neg (Nat.ne_of_lt hq)⟩, if_pos rfl, if_pos rfl, fun k hk => absurd hk (Nat.not_lt_zero _), wm_up_self, ?_, ?_, fun k hk => absurd hk (Nat.not_lt_zero _), fun t j q hq z => ⟨?_, ?_, ?_⟩⟩
  · show wm_up (wc_nn (wm_up R 3 2 x oth) n 22) 3 1 x (some n) 3 2 x = oth
    rw [wm_up_k (by decide)]
    show (if 3 = 22 ∧ x = n then none else wm_up R 3 2 x oth 3 2 x) = oth
    rw [if_neg (fun y => absurd y.1 (by decide)), wm_up_self]
  · show (if 3 = 22 ∧ x = n then 0 else wm_up I 3 0 x p 3 0 x) = p
    rw [if_neg (fun y => absurd y.1 (by decide)), wm_up_self]
  · show (if t = 22 ∧ q = n then 0 else wm_up I 3 0 x p t j q) = I t j q
    rw [if_neg (fun y => absurd y.2 (Nat.ne_of_lt hq))]
    exact if_neg (fun y => z ⟨y.1, y.2.2⟩)
  · show (if t = 22 ∧ q = n then 0 else L t j q) = L t j q
    rw [if_neg (fun y => absurd y.2 (Nat.ne_of_lt hq))]
  · show (if t = 3 ∧ j = 1 ∧ q = x then some n else if t = 22 ∧ q = n then none else wm_up R 3 2 x oth t j q) = R t j q
    rw [if_neg (fun y => z ⟨y.1, y.2.2⟩), if_neg (fun y => absurd y.2 (Nat.ne_of_lt hq))]
    exact if_neg (fun y => z ⟨y.1, y.2.2⟩)
theorem wc_dn_s {h : wc_H} {tg ln : Nat → Nat} {I L : wm_F Int} {R : wm_F (Option Nat)} {n x : Nat} {p : Int} {m st : Nat} {oth : Option Nat} {i : Nat} (hx : x < h.2.2.2.2.2) (d : wc_dn h (tg, ln, I, L, R, n) x p m st oth i) :
    wc_dn h (wc_nt tg n 4, wc_nt ln n 0, wc_nz I n 4, wc_nz L n 4, wm_up (wm_up (wc_nn R n 4) 4 0 n (some st)) 22 i h.2.2.2.2.2 (some n), n + 1) x p m st oth (i + 1) := by
  obtain ⟨d1, d2, d3, d4, d5, d6, d7, d8, d9, d10⟩ := d
  simp only at d1 d2 d3 d4 d5 d6 d7 d8 d9 d10
  have eR : ∀ t j q, ¬ (t = 22 ∧ j = i ∧ q = h.2.2.2.2.2) → q ≠ n → wm_up (wm_up (wc_nn R n 4) 4 0 n (some st)) 22 i h.2.2.2.2.2 (some n) t j q = R t j q := fun t j q z1 z2 => by
    simp only [wm_up]
    rw [if_neg z1, if_neg (fun y => z2 y.2.2)]
    exact if_neg (fun y => z2 y.2)
  have eI : ∀ t j q, q ≠ n → wc_nz I n 4 t j q = I t j q := fun t j q z => if_neg (fun y => z y.2)
  refine ⟨by simp only; omega, fun q hq => ⟨(if_neg (by omega)).trans (d2 q hq).1, (if_neg (by omega)).trans (d2 q hq).2⟩, (if_neg (by omega)).trans d3, (if_neg (by omega)).trans d4, fun k hk => ?_, (eR _ _ _ (fun y => absurd y.1 (by decide)) (by omega)).trans d6, (eR _ _ _ (fun y => absurd y.1 (by decide)) (by omega)).trans d7, (eI _ _ _ (by omega)).trans d8, fun k hk => ?_, fun t j q hq z => ⟨(eI _ _ _ (by omega)).trans (d10 t j q hq z).1, (if_neg (fun y => absurd y.2 (by omega))).trans (d10 t j q hq z).2.1, (eR _ _ _ (fun y => absurd y.2.2 (by omega)) (by omega)).trans (d10 t j q hq z).2.2⟩⟩
  · by_cases hk2 : k = i
    · exact if_pos (by rw [hk2, d1])
    · exact (if_neg (by omega)).trans (d5 k (by omega))
  · by_cases hk2 : k = i
    · subst hk2
      have e9 : h.2.2.2.2.2 + 1 + k = n := d1.symm
      refine ⟨?_, ?_, ?_, ?_⟩
      · simp only
        rw [wm_up_self, e9]
      · simp only
        rw [e9, wm_up_t (by decide), wm_up_self]
      · simp only
        rw [e9, wm_up_t (by decide), wm_up_k (by decide)]
        exact if_pos ⟨rfl, rfl⟩
      · rw [e9]
        exact if_pos ⟨rfl, rfl⟩
    · obtain ⟨f1, f2, f3, f4⟩ := d9 k (by omega)
      exact ⟨(eR _ _ _ (fun y => hk2 y.2.1) (by omega)).trans f1, (eR _ _ _ (fun y => absurd y.1 (by decide)) (by omega)).trans f2, (eR _ _ _ (fun y => absurd y.1 (by decide)) (by omega)).trans f3, (eI _ _ _ (by omega)).trans f4⟩
def sc_36 (as : List wi_V) (h : wc_H) (q : wi_Q1 wc_H) (qt : wi_Q2 wc_H) : Prop := wc_sTIITO as (fun x p m s oth => wc_f h fun tg ln I L R n => tg x = 3 ∧ x < n ∧ 0 ≤ m ∧ m ≤ 64 ∧ (∀ q, tg q ≠ 0 → q < n) ∧ ∀ h', wc_dn (tg, ln, I, L, R, n) h' x p m.toNat s oth m.toNat → q none h')
theorem cm_36 {l : Launch} {D : va_G} {aC : wm_Y} {b0 : Nat} (hl0 : l.stackTraces = false) : wm_sp l D aC b0 36 (wi_lf (wc_Rl wc_ok) sc_36) := by
  refine wi_method (wc_lw wc_ok) 36 (cx := fun id => if id = 37 then sc_37 else fun _ _ _ _ => False) (ids := ci_36) (tb := tb_36) (by decide +kernel) hl0 (wm_cxc (cm_37 hl0) oi_36 (fun h => wm_cxn h)) (wm_tb_ok tk_36) (by decide +kernel) [26] 250 (fun as h q qt hs => ?_)
  obtain ⟨x, p, m, s, oth, rfl, hs1⟩ := wc_sTIITO_e hs
  clear hs
  obtain ⟨tg, ln, I, L, R, n⟩ := h
  have hs := id hs1
  clear hs1
  simp only [wc_f] at hs
  obtain ⟨a1, a2, r1, r2, hn, h1⟩ := hs
  refine ⟨rfl, fun mz pc lv sk h cu su => ∃ i : Nat, ∃ tg2 : Nat → Nat, ∃ ln2 : Nat → Nat, ∃ I2 : wm_F Int, ∃ L2 : wm_F Int, ∃ R2 : wm_F (Option Nat), ∃ n2 : Nat, lv = [some (wi_rf (some x)), some (.inl (p)), some (.inl (m)), some (wi_rf (some s)), some (wi_rf (oth)), some (.inl ((i : Int)))] ∧ sk = [] ∧ h = (tg2, ln2, I2, L2, R2, n2) ∧ cu = 1 + i ∧ su = m.toNat + 3 * i ∧ mz = m.toNat - i ∧ wc_dn (tg, ln, I, L, R, n) (tg2, ln2, I2, L2, R2, n2) x p m.toNat s oth i ∧ (i : Int) ≤ m, mq_c1 (fun mz lv sk h cu su hI => ?_), ?_⟩
  · obtain ⟨i, tg2, ln2, I2, L2, R2, n2, rfl, rfl, rfl, rfl, rfl, rfl, p1, p2⟩ := hI
    obtain ⟨d1, d2, d3, d4, d5, d6, d7, d8, d9, d10⟩ := id p1
    simp only at d1 d2 d3 d4 d6
    have t3 : tg2 x = 3 := (d2 x a2).1.trans a1
    have ds := wc_dn_s a2 p1
    have t4 : wc_nt tg2 n2 4 n2 = 4 := if_pos rfl
    have t22 : wc_nt tg2 n2 4 n = 22 := (if_neg (by omega)).trans d3
    have l22 : wc_nt ln2 n2 0 n = m.toNat := (if_neg (by omega)).trans d4
    have fin : (i : Int) = m → q none (tg2, ln2, I2, L2, R2, n2) := fun e => h1 _ (by
      have e2 : m.toNat = i := by omega
      rw [e2] at p1 ⊢
      exact p1)
    repeat' first
      | refine And.intro ?_ ?_
      | (intro tg1 ln1 I1 L1 R1 (e1 : tg1 = wc_nt tg2 n2 4) (e2 : ln1 = wc_nt ln2 n2 0) (e3 : I1 = wc_nz I2 n2 4) (e4 : L1 = wc_nz L2 n2 4) (e5 : R1 = wc_nn R2 n2 4); subst e1 e2 e3 e4 e5)
      | (intro q9 (e9 : (some _ : Option Nat) = some q9); cases e9; exact t4)
      | refine Exists.intro _ (And.intro (show _ = _ from by assumption) ?_)
      | refine Exists.intro _ (And.intro rfl (And.intro (by assumption) ?_))
      | refine Exists.intro _ (And.intro rfl ?_)
      | (intro h; try omega)
      | omega
      | exact fin (by omega)
      | (intro q9 e9; cases e9; exact t4)
      | (rw [l22]; omega)
      | (simp only [wm_mr, wm_mc, wm_ms]; omega)
      | (subst_vars; refine Exists.intro _ (And.intro ?_ (Exists.intro (i + 1) (Exists.intro (_) (Exists.intro (_) (Exists.intro (_) (Exists.intro (_) (Exists.intro (_) (Exists.intro (_) (And.intro rfl (And.intro rfl (And.intro rfl (And.intro (by first | rfl | omega | (simp only [wm_mc, wm_ms]; omega)) (And.intro (by first | rfl | omega | (simp only [wm_mc, wm_ms]; omega)) (And.intro rfl (?_))))))))))))))) <;> first | omega | exact ⟨ds, by omega⟩)
      | exact Nat.le_of_ble_eq_true rfl
      | assumption
  · have d0 := wc_dn_0 (tg := tg) (ln := ln) (I := I) (L := L) (R := R) (p := p) (m := m.toNat) (st := s) (oth := oth) a2
    have t3 : wc_nt tg n 22 x = 3 := (if_neg (Nat.ne_of_lt a2)).trans a1
    repeat' first
      | refine And.intro ?_ ?_
      | (intro tg1 ln1 I1 L1 R1 (e1 : tg1 = wc_nt tg n 22) (e2 : ln1 = wc_nt ln n m.toNat) e3 e4 e5; subst e1 e2)
      | refine Exists.intro _ (And.intro (show _ = _ from by assumption) ?_)
      | refine Exists.intro _ (And.intro rfl (And.intro (by assumption) ?_))
      | refine Exists.intro _ (And.intro rfl ?_)
      | (intro h; try omega)
      | omega
      | (simp only [wm_mr, wm_mc, wm_ms]; omega)
      | (subst_vars; refine Exists.intro _ (Exists.intro (0) (Exists.intro (_) (Exists.intro (_) (Exists.intro (_) (Exists.intro (_) (Exists.intro (_) (Exists.intro (_) (And.intro rfl (And.intro rfl (And.intro rfl (And.intro (by first | rfl | omega | (simp only [wm_mc, wm_ms]; omega)) (And.intro (by first | rfl | omega | (simp only [wm_mc, wm_ms]; omega)) (And.intro rfl (?_)))))))))))))) <;> first | omega | exact ⟨d0, by omega⟩)
      | exact Nat.le_of_ble_eq_true rfl
      | assumption
/-- the chain of drivers: address and number of the first row -/
def wc_dc (tg ln : Nat → Nat) (I3 : Nat → Nat → Int) (R3 R22 : Nat → Nat → Option Nat) (w : Nat) (rw : Nat → Nat) (pp : Nat → Int) : Option Nat → List (Nat × Nat) → Prop
  | o, [] => o = none
  | o, c :: r => o = some c.1 ∧ tg c.1 = 3 ∧ I3 0 c.1 = pp c.2 ∧ (∃ ra, R3 1 c.1 = some ra ∧ tg ra = 22 ∧ ln ra = w ∧ ∀ k, k < w → R22 k ra = some (rw (c.2 + k))) ∧ wc_dc tg ln I3 R3 R22 w rw pp (R3 2 c.1) r
def sc_50 (as : List wi_V) (h : wc_H) (q : wi_Q1 wc_H) (qt : wi_Q2 wc_H) : Prop := wc_sTI as (fun x p => wc_f h fun tg ln I L R n => tg x = 5 ∧ ∃ w rw pp l, wc_dc tg ln (I 3) (R 3) (R 22) w rw pp (R 5 4 x) l ∧ (∀ P c S, l = P ++ c :: S → (∀ b ∈ P, pp b.2 ≠ p) → pp c.2 = p → q (some (wi_rf (some c.1))) (tg, ln, I, L, R, n)) ∧ ((∀ b ∈ l, pp b.2 ≠ p) → q (some (wi_rf none)) (tg, ln, I, L, R, n)))
theorem cm_50 {l : Launch} {D : va_G} {aC : wm_Y} {b0 : Nat} (hl0 : l.stackTraces = false) : wm_sp l D aC b0 50 (wi_lf (wc_Rl wc_ok) sc_50) := by
  refine wi_method (wc_lw wc_ok) 50 (cx := fun _ _ _ _ _ => False) (ids := ci_50) (tb := tb_50) (by decide +kernel) hl0 wm_cx0 (wm_tb_ok tk_50) (by decide +kernel) [5] 250 (fun as h q qt hs => ?_)
  obtain ⟨x, p, rfl, hs1⟩ := wc_sTI_e hs
  clear hs
  obtain ⟨tg, ln, I, L, R, n⟩ := h
  have hs := id hs1
  clear hs1
  simp only [wc_f] at hs
  obtain ⟨a1, w, rw, pp, l, c1, h1, h2⟩ := hs
  refine ⟨rfl, fun mz pc lv sk h cu su => ∃ v : Option Nat, ∃ P : List (Nat × Nat), ∃ r : List (Nat × Nat), lv = [some (wi_rf (some x)), some (.inl (p)), some (wi_rf (v))] ∧ sk = [] ∧ h = (tg, ln, I, L, R, n) ∧ cu = 0 ∧ su = 0 ∧ mz = r.length ∧ l = P ++ r ∧ (∀ b ∈ P, pp b.2 ≠ p) ∧ wc_dc tg ln (I 3) (R 3) (R 22) w rw pp v r, mq_c1 (fun mz lv sk h cu su hI => ?_), ?_⟩
  · obtain ⟨v, P, r, rfl, rfl, rfl, rfl, rfl, rfl, p1, p2, p3⟩ := hI
    cases r with
    | nil =>
      cases (show v = none from p3)
      have f2 := h2 (by rw [p1, List.append_nil]; exact p2)
      repeat' first
        | refine And.intro ?_ ?_
        | (intro q9 (e9 : (_ : Option Nat) = some q9); cases e9)
        | (intro (e9 : (some _ : Option Nat) = none); cases e9)
        | (intro (e9 : (none : Option Nat) = none); clear e9)
        | refine Exists.intro _ (And.intro (show _ = _ from by assumption) ?_)
        | refine Exists.intro _ (And.intro rfl (And.intro (by assumption) ?_))
        | refine Exists.intro _ (And.intro rfl ?_)
        | (intro h; try omega)
        | omega
        | exact f2
        | exact Nat.le_of_ble_eq_true rfl
        | assumption
    | cons c r =>
      obtain ⟨rfl, b1, b2, b3, p3⟩ := p3
      have f1 := h1 P c r p1 p2
      repeat' first
        | refine And.intro ?_ ?_
        | (intro q9 (e9 : (_ : Option Nat) = some q9); cases e9)
        | (intro (e9 : (some _ : Option Nat) = none); cases e9)
        | (intro (e9 : (none : Option Nat) = none); clear e9)
        | refine Exists.intro _ (And.intro (show _ = _ from by assumption) ?_)
        | refine Exists.intro _ (And.intro rfl (And.intro (by assumption) ?_))
        | refine Exists.intro _ (And.intro rfl ?_)
        | (intro h; try omega)
        | omega
        | exact f1 (by omega)
        | (refine Exists.intro _ (And.intro ?_ (Exists.intro (_) (Exists.intro (P ++ [c]) (Exists.intro (r) (And.intro rfl (And.intro rfl (And.intro rfl (And.intro rfl (And.intro rfl (And.intro rfl (?_))))))))))) <;> first | exact Nat.lt_succ_self _ | exact ⟨by rw [p1]; simp, fun b hb => (by rcases List.mem_append.mp hb with z | z; exact p2 b z; rw [List.mem_singleton.mp z]; omega), p3⟩)
        | exact Nat.le_of_ble_eq_true rfl
        | assumption
  · repeat' first
      | refine And.intro ?_ ?_
      | refine Exists.intro _ (And.intro (show _ = _ from by assumption) ?_)
      | refine Exists.intro _ (And.intro rfl (And.intro (by assumption) ?_))
      | refine Exists.intro _ (And.intro rfl ?_)
      | (intro h; try omega)
      | omega
      | (refine Exists.intro _ (Exists.intro (_) (Exists.intro ([]) (Exists.intro (l) (And.intro rfl (And.intro rfl (And.intro rfl (And.intro rfl (And.intro rfl (And.intro rfl (?_)))))))))) <;> exact ⟨rfl, fun b hb => (by cases hb), c1⟩)
      | exact Nat.le_of_ble_eq_true rfl
      | assumption
