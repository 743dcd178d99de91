/-! THE CLASS, 3: chains of transactions -/
def wc_ch (R : wm_F (Option Nat)) : Option Nat → List Nat → Prop
  | x, [] => x = none
  | x, a :: r => x = some a ∧ wc_ch R (R 9 2 a) r
def wc_sg (R : wm_F (Option Nat)) : Option Nat → List Nat → Option Nat → Prop
  | x, [], y => x = y
  | x, a :: r, y => x = some a ∧ wc_sg R (R 9 2 a) r y
theorem wc_ch_h {R : wm_F (Option Nat)} : ∀ {l : List Nat} {x : Option Nat}, wc_ch R x l → x = l.head?
  | [], _, h => h
  | _ :: _, _, h => h.1
theorem wc_ch_c {R R' : wm_F (Option Nat)} : ∀ {l : List Nat} {x : Option Nat}, wc_ch R x l → (∀ a ∈ l, R' 9 2 a = R 9 2 a) → wc_ch R' x l
  | [], _, h, _ => h
  | a :: r, _, h, g => ⟨h.1, wc_ch_c (by rw [g a List.mem_cons_self]; exact h.2) (fun b hb => g b (List.mem_cons_of_mem _ hb))⟩
theorem wc_sg_c {R R' : wm_F (Option Nat)} : ∀ {l : List Nat} {x y : Option Nat}, wc_sg R x l y → (∀ a ∈ l, R' 9 2 a = R 9 2 a) → wc_sg R' x l y
  | [], _, _, h, _ => h
  | a :: r, _, _, h, g => ⟨h.1, wc_sg_c (by rw [g a List.mem_cons_self]; exact h.2) (fun b hb => g b (List.mem_cons_of_mem _ hb))⟩
theorem wc_ch_s {R : wm_F (Option Nat)} : ∀ {A : List Nat} {B : List Nat} {x : Option Nat}, wc_ch R x (A ++ B) → ∃ y, wc_sg R x A y ∧ wc_ch R y B
  | [], _, x, h => ⟨x, rfl, h⟩
  | a :: r, B, x, h => by
    obtain ⟨y, h1, h2⟩ := wc_ch_s (A := r) h.2
    exact ⟨y, ⟨h.1, h1⟩, h2⟩
theorem wc_ch_j {R : wm_F (Option Nat)} : ∀ {A : List Nat} {B : List Nat} {x y : Option Nat}, wc_sg R x A y → wc_ch R y B → wc_ch R x (A ++ B)
  | [], _, _, _, h, g => by cases (show _ = _ from h); exact g
  | a :: r, B, x, y, h, g => ⟨h.1, wc_ch_j (A := r) h.2 g⟩
theorem wc_sg_e {R : wm_F (Option Nat)} : ∀ {A : List Nat} {b : Nat} {x y : Option Nat}, wc_sg R x (A ++ [b]) y → wc_sg R x A (some b) ∧ R 9 2 b = y
  | [], b, x, y, h => ⟨h.1, h.2⟩
  | a :: r, b, x, y, h => by
    obtain ⟨h1, h2⟩ := wc_sg_e (A := r) h.2
    exact ⟨⟨h.1, h1⟩, h2⟩
theorem wc_sg_a {R : wm_F (Option Nat)} : ∀ {A : List Nat} {b : Nat} {x y : Option Nat}, wc_sg R x A (some b) → R 9 2 b = y → wc_sg R x (A ++ [b]) y
  | [], b, x, y, h, g => ⟨h, g⟩
  | a :: r, b, x, y, h, g => ⟨h.1, wc_sg_a (A := r) h.2 g⟩
def wc_cn (I L : wm_F Int) (l : List Nat) : List (Int × Int) := l.map (fun a => (L 9 0 a, I 9 1 a))
theorem wc_cn_c {I L I' L' : wm_F Int} {l : List Nat} (h : ∀ a ∈ l, L' 9 0 a = L 9 0 a ∧ I' 9 1 a = I 9 1 a) : wc_cn I' L' l = wc_cn I L l :=
  List.map_congr_left (fun a ha => by rw [(h a ha).1, (h a ha).2])
/-- a row x of the store s: its chain cs; the idle chain ids -/
def wc_rs (h : wc_H) (x s : Nat) (cs ids : List Nat) : Prop := h.1 x = 4 ∧ h.2.2.2.2.1 4 0 x = some s ∧ h.1 s = 7 ∧ wc_ch h.2.2.2.2.1 (h.2.2.2.2.1 4 1 x) cs ∧ wc_ch h.2.2.2.2.1 (h.2.2.2.2.1 7 1 s) ids ∧ (cs ++ ids).Nodup ∧ ∀ a ∈ cs ++ ids, h.1 a = 9 ∧ a < h.2.2.2.2.2
/-- what a row's method may change -/
def wc_ro (h h' : wc_H) (x s : Nat) (X : List Nat) : Prop :=
  h.2.2.2.2.2 ≤ h'.2.2.2.2.2 ∧ (∀ a, a < h.2.2.2.2.2 → h'.1 a = h.1 a ∧ h'.2.1 a = h.2.1 a) ∧ (∀ a, h.2.2.2.2.2 ≤ a → a < h'.2.2.2.2.2 → h'.1 a = 9) ∧
  (∀ t k a, ¬ (t = 7 ∧ k = 0 ∧ a = s) → ¬ (t = 4 ∧ k = 2 ∧ a = x) → ¬ (t = 9 ∧ (a ∈ X ∨ h.2.2.2.2.2 ≤ a)) → h'.2.2.1 t k a = h.2.2.1 t k a) ∧ (∀ t k a, ¬ (t = 9 ∧ (a ∈ X ∨ h.2.2.2.2.2 ≤ a)) → h'.2.2.2.1 t k a = h.2.2.2.1 t k a) ∧
  (∀ t k a, ¬ (t = 7 ∧ k = 1 ∧ a = s) → ¬ (t = 4 ∧ k = 1 ∧ a = x) → ¬ (t = 9 ∧ (a ∈ X ∨ h.2.2.2.2.2 ≤ a)) → h'.2.2.2.2.1 t k a = h.2.2.2.2.1 t k a)
theorem wc_ro_rf {h : wc_H} {x s : Nat} {X : List Nat} : wc_ro h h x s X := ⟨Nat.le_refl _, fun _ _ => ⟨rfl, rfl⟩, fun a h1 h2 => by omega, fun _ _ _ _ _ _ => rfl, fun _ _ _ _ => rfl, fun _ _ _ _ _ _ => rfl⟩
theorem wc_ro_tr {h h1 h2 : wc_H} {x s : Nat} {X Y : List Nat} (a : wc_ro h h1 x s X) (b : wc_ro h1 h2 x s Y) (hY : ∀ y ∈ Y, y ∈ X ∨ h.2.2.2.2.2 ≤ y) : wc_ro h h2 x s X := by
  obtain ⟨a1, a2, a3, a4, a5, a6⟩ := a
  obtain ⟨b1, b2, b3, b4, b5, b6⟩ := b
  have hz : ∀ t y, ¬ (t = 9 ∧ (y ∈ X ∨ h.2.2.2.2.2 ≤ y)) → ¬ (t = 9 ∧ (y ∈ Y ∨ h1.2.2.2.2.2 ≤ y)) := by
    rintro t y z ⟨z1, z2 | z2⟩
    · exact z ⟨z1, hY y z2⟩
    · exact z ⟨z1, Or.inr (by omega)⟩
  refine ⟨Nat.le_trans a1 b1, fun y hy => ⟨(b2 y (by omega)).1.trans (a2 y hy).1, (b2 y (by omega)).2.trans (a2 y hy).2⟩, fun y y1 y2 => ?_, fun t k y z1 z2 z3 => (b4 t k y z1 z2 (hz t y z3)).trans (a4 t k y z1 z2 z3), fun t k y z => (b5 t k y (hz t y z)).trans (a5 t k y z), fun t k y z1 z2 z3 => (b6 t k y z1 z2 (hz t y z3)).trans (a6 t k y z1 z2 z3)⟩
  rcases Nat.lt_or_ge y h1.2.2.2.2.2 with c | c
  · rw [(b2 y c).1]
    exact a3 y y1 c
  · exact b3 y c y2
def sc_39 (as : List wi_V) (h : wc_H) (q : wi_Q1 wc_H) (qt : wi_Q2 wc_H) : Prop := wc_sT as (fun x => wc_f h fun tg ln I L R n => tg x = 4 ∧ (R 4 1 x = none → q (some (.inr (.inl (-1)))) (tg, ln, I, L, R, n)) ∧ ∀ a, R 4 1 x = some a → tg a = 9 ∧ q (some (.inr (.inl (L 9 0 a)))) (tg, ln, I, L, R, n))
theorem cm_39 {l : Launch} {D : va_G} {aC : wm_Y} {b0 : Nat} (hl0 : l.stackTraces = false) : wm_sp l D aC b0 39 (wi_lf (wc_Rl wc_ok) sc_39) := by
  refine wi_method (wc_lw wc_ok) 39 (cx := fun _ _ _ _ _ => False) (ids := ci_39) (tb := tb_39) (by decide +kernel) hl0 wm_cx0 (wm_tb_ok tk_39) (by decide +kernel) [] 250 (fun as h q qt hs => ?_)
  obtain ⟨x, rfl, hs1⟩ := wc_sT_e hs
  clear hs
  obtain ⟨tg, ln, I, L, R, n⟩ := h
  have hs := id hs1
  clear hs1
  simp only [wc_f] at hs
  refine ⟨rfl, fun _ _ _ _ _ _ _ => False, mq_nc, ?_⟩
  obtain ⟨a1, h1, h2⟩ := hs
  cases hx : R 4 1 x with
  | none =>
    have h1 := h1 hx
    repeat' first
      | refine And.intro ?_ ?_
      | (intro q9 (e9 : (_ : Option Nat) = some q9); cases e9)
      | (intro (e9 : (some _ : Option Nat) = none); cases e9)
      | (intro (e9 : (none : Option Nat) = none); clear e9)
      | refine Exists.intro _ (And.intro (show _ = _ from by assumption) ?_)
      | refine Exists.intro _ (And.intro rfl (And.intro (by assumption) ?_))
      | refine Exists.intro _ (And.intro rfl ?_)
      | (intro h; try omega)
      | omega
      | exact h1
      | exact Nat.le_of_ble_eq_true rfl
      | assumption
  | some a =>
    obtain ⟨b1, h2⟩ := h2 a hx
    repeat' first
      | refine And.intro ?_ ?_
      | (intro q9 (e9 : (_ : Option Nat) = some q9); cases e9)
      | (intro (e9 : (some _ : Option Nat) = none); cases e9)
      | (intro (e9 : (none : Option Nat) = none); clear e9)
      | refine Exists.intro _ (And.intro (show _ = _ from by assumption) ?_)
      | refine Exists.intro _ (And.intro rfl (And.intro (by assumption) ?_))
      | refine Exists.intro _ (And.intro rfl ?_)
      | (intro h; try omega)
      | omega
      | exact h2
      | exact Nat.le_of_ble_eq_true rfl
      | assumption
def sc_38 (as : List wi_V) (h : wc_H) (q : wi_Q1 wc_H) (qt : wi_Q2 wc_H) : Prop := wc_sT as (fun x => wc_f h fun tg ln I L R n => tg x = 4 ∧ ∃ cs, wc_ch R (R 4 1 x) cs ∧ (∀ a ∈ cs, tg a = 9) ∧ cs.length ≤ 100000 ∧ q (some (.inl (cs.length : Int))) (tg, ln, I, L, R, n))
theorem cm_38 {l : Launch} {D : va_G} {aC : wm_Y} {b0 : Nat} (hl0 : l.stackTraces = false) : wm_sp l D aC b0 38 (wi_lf (wc_Rl wc_ok) sc_38) := by
  refine wi_method (wc_lw wc_ok) 38 (cx := fun _ _ _ _ _ => False) (ids := ci_38) (tb := tb_38) (by decide +kernel) hl0 wm_cx0 (wm_tb_ok tk_38) (by decide +kernel) [7] 250 (fun as h q qt hs => ?_)
  obtain ⟨x, rfl, hs1⟩ := wc_sT_e hs
  clear hs
  obtain ⟨tg, ln, I, L, R, n⟩ := h
  have hs := id hs1
  clear hs1
  simp only [wc_f] at hs
  obtain ⟨a1, cs, c1, c2, r1, h1⟩ := hs
  refine ⟨rfl, fun mz pc lv sk h cu su => ∃ v : Option Nat, ∃ r : List Nat, ∃ c : Int, lv = [some (wi_rf (some x)), some (.inl (c)), some (wi_rf (v))] ∧ sk = [] ∧ h = (tg, ln, I, L, R, n) ∧ cu = 0 ∧ su = 0 ∧ mz = r.length ∧ wc_ch R v r ∧ (∀ a ∈ r, tg a = 9) ∧ 0 ≤ c ∧ c + r.length = cs.length, mq_c1 (fun mz lv sk h cu su hI => ?_), ?_⟩
  · obtain ⟨v, r, c, rfl, rfl, rfl, rfl, rfl, rfl, p1, p2, p3, p4⟩ := hI
    cases r with
    | nil =>
      cases (show v = none from p1)
      have e9 : c = cs.length := by simpa using p4
      subst e9
      repeat' first
        | refine And.intro ?_ ?_
        | (intro q9 (e9 : (_ : Option Nat) = some q9); cases e9)
        | (intro (e9 : (some _ : Option Nat) = none); cases e9)
        | (intro (e9 : (none : Option Nat) = none); clear e9)
        | refine Exists.intro _ (And.intro (show _ = _ from by assumption) ?_)
        | refine Exists.intro _ (And.intro rfl (And.intro (by assumption) ?_))
        | refine Exists.intro _ (And.intro rfl ?_)
        | (intro h; try omega)
        | omega
        | exact h1
        | exact Nat.le_of_ble_eq_true rfl
        | assumption
    | cons a r =>
      obtain ⟨rfl, p1⟩ := p1
      have b1 := p2 a List.mem_cons_self
      rw [List.length_cons] at p4
      repeat' first
        | refine And.intro ?_ ?_
        | (intro q9 (e9 : (_ : Option Nat) = some q9); cases e9)
        | (intro (e9 : (some _ : Option Nat) = none); cases e9)
        | (intro (e9 : (none : Option Nat) = none); clear e9)
        | refine Exists.intro _ (And.intro (show _ = _ from by assumption) ?_)
        | refine Exists.intro _ (And.intro rfl (And.intro (by assumption) ?_))
        | refine Exists.intro _ (And.intro rfl ?_)
        | (intro h; try omega)
        | omega
        | (refine Exists.intro _ (And.intro ?_ (Exists.intro (_) (Exists.intro (r) (Exists.intro (c + 1) (And.intro rfl (And.intro rfl (And.intro rfl (And.intro rfl (And.intro rfl (And.intro rfl (?_))))))))))) <;> first | exact Nat.lt_succ_self _ | exact ⟨p1, fun b hb => p2 b (List.mem_cons_of_mem _ hb), by omega, by omega⟩)
        | exact Nat.le_of_ble_eq_true rfl
        | assumption
  · repeat' first
      | refine And.intro ?_ ?_
      | refine Exists.intro _ (And.intro (show _ = _ from by assumption) ?_)
      | refine Exists.intro _ (And.intro rfl (And.intro (by assumption) ?_))
      | refine Exists.intro _ (And.intro rfl ?_)
      | (intro h; try omega)
      | omega
      | (refine Exists.intro _ (Exists.intro (_) (Exists.intro (cs) (Exists.intro (0) (And.intro rfl (And.intro rfl (And.intro rfl (And.intro rfl (And.intro rfl (And.intro rfl (?_)))))))))) <;> exact ⟨c1, c2, by omega, by omega⟩)
      | exact Nat.le_of_ble_eq_true rfl
      | assumption
def wc_va (t : Int) : Int → List (Int × Int) → Int
  | v, [] => v
  | v, y :: r => if y.1 ≤ t then wc_va t y.2 r else v
def sc_40 (as : List wi_V) (h : wc_H) (q : wi_Q1 wc_H) (qt : wi_Q2 wc_H) : Prop := wc_sTJ as (fun x t => wc_f h fun tg ln I L R n => tg x = 4 ∧ ∃ cs, wc_ch R (R 4 1 x) cs ∧ (∀ a ∈ cs, tg a = 9) ∧ q (some (.inl (wc_va t (I 4 2 x) (wc_cn I L cs)))) (tg, ln, I, L, R, n))
theorem cm_40 {l : Launch} {D : va_G} {aC : wm_Y} {b0 : Nat} (hl0 : l.stackTraces = false) : wm_sp l D aC b0 40 (wi_lf (wc_Rl wc_ok) sc_40) := by
  refine wi_method (wc_lw wc_ok) 40 (cx := fun _ _ _ _ _ => False) (ids := ci_40) (tb := tb_40) (by decide +kernel) hl0 wm_cx0 (wm_tb_ok tk_40) (by decide +kernel) [11] 250 (fun as h q qt hs => ?_)
  obtain ⟨x, t, rfl, hs1⟩ := wc_sTJ_e hs
  clear hs
  obtain ⟨tg, ln, I, L, R, n⟩ := h
  have hs := id hs1
  clear hs1
  simp only [wc_f] at hs
  obtain ⟨a1, cs, c1, c2, h1⟩ := hs
  refine ⟨rfl, fun mz pc lv sk h cu su => ∃ v : Option Nat, ∃ r : List Nat, ∃ c : Int, lv = [some (wi_rf (some x)), some (.inr (.inl (t))), none, some (.inl (c)), some (wi_rf (v))] ∧ sk = [] ∧ h = (tg, ln, I, L, R, n) ∧ cu = 0 ∧ su = 0 ∧ mz = r.length ∧ wc_ch R v r ∧ (∀ a ∈ r, tg a = 9) ∧ wc_va t c (wc_cn I L r) = wc_va t (I 4 2 x) (wc_cn I L cs), mq_c1 (fun mz lv sk h cu su hI => ?_), ?_⟩
  · obtain ⟨v, r, c, rfl, rfl, rfl, rfl, rfl, rfl, p1, p2, p3⟩ := hI
    have key : ∀ z, z = wc_va t (I 4 2 x) (wc_cn I L cs) → q (some (.inl z)) (tg, ln, I, L, R, n) := fun z e => by rw [e]; exact h1
    cases r with
    | nil =>
      cases (show v = none from p1)
      repeat' first
        | refine And.intro ?_ ?_
        | (intro q9 (e9 : (_ : Option Nat) = some q9); cases e9)
        | (intro (e9 : (some _ : Option Nat) = none); cases e9)
        | (intro (e9 : (none : Option Nat) = none); clear e9)
        | refine Exists.intro _ (And.intro (show _ = _ from by assumption) ?_)
        | refine Exists.intro _ (And.intro rfl (And.intro (by assumption) ?_))
        | refine Exists.intro _ (And.intro rfl ?_)
        | (intro h; try omega)
        | omega
        | exact key _ p3
        | exact Nat.le_of_ble_eq_true rfl
        | assumption
    | cons a r =>
      obtain ⟨rfl, p1⟩ := p1
      have b1 := p2 a List.mem_cons_self
      have k1 : L 9 0 a ≤ t → wc_va t (I 9 1 a) (wc_cn I L r) = wc_va t (I 4 2 x) (wc_cn I L cs) := fun z => by rw [← p3]; exact (if_pos z).symm
      have k2 : t < L 9 0 a → c = wc_va t (I 4 2 x) (wc_cn I L cs) := fun z => by rw [← p3]; exact (if_neg (by show ¬ L 9 0 a ≤ t; omega)).symm
      repeat' first
        | refine And.intro ?_ ?_
        | (intro q9 (e9 : (_ : Option Nat) = some q9); cases e9)
        | (intro (e9 : (some _ : Option Nat) = none); cases e9)
        | (intro (e9 : (none : Option Nat) = none); clear e9)
        | refine Exists.intro _ (And.intro (show _ = _ from by assumption) ?_)
        | refine Exists.intro _ (And.intro rfl (And.intro (by assumption) ?_))
        | refine Exists.intro _ (And.intro rfl ?_)
        | (intro h; try omega)
        | omega
        | exact key _ (k2 (by omega))
        | (refine Exists.intro _ (And.intro ?_ (Exists.intro (_) (Exists.intro (r) (Exists.intro (_) (And.intro rfl (And.intro rfl (And.intro rfl (And.intro rfl (And.intro rfl (And.intro rfl (?_))))))))))) <;> first | exact Nat.lt_succ_self _ | exact ⟨p1, fun b hb => p2 b (List.mem_cons_of_mem _ hb), k1 (by omega)⟩)
        | exact Nat.le_of_ble_eq_true rfl
        | assumption
  · repeat' first
      | refine And.intro ?_ ?_
      | refine Exists.intro _ (And.intro (show _ = _ from by assumption) ?_)
      | refine Exists.intro _ (And.intro rfl (And.intro (by assumption) ?_))
      | refine Exists.intro _ (And.intro rfl ?_)
      | (intro h; try omega)
      | omega
      | (refine Exists.intro _ (Exists.intro (_) (Exists.intro (cs) (Exists.intro (_) (And.intro rfl (And.intro rfl (And.intro rfl (And.intro rfl (And.intro rfl (And.intro rfl (?_)))))))))) <;> exact ⟨c1, c2, rfl⟩)
      | exact Nat.le_of_ble_eq_true rfl
      | assumption
def sc_42 (as : List wi_V) (h : wc_H) (q : wi_Q1 wc_H) (qt : wi_Q2 wc_H) : Prop := wc_sTJ as (fun x t => wc_f h fun tg ln I L R n => tg x = 4 ∧ ∃ cs, wc_ch R (R 4 1 x) cs ∧ (∀ a ∈ cs, tg a = 9) ∧ q (some (wi_rf (cs.takeWhile (fun a => decide (L 9 0 a < t))).getLast?)) (tg, ln, I, L, R, n))
theorem cm_42 {l : Launch} {D : va_G} {aC : wm_Y} {b0 : Nat} (hl0 : l.stackTraces = false) : wm_sp l D aC b0 42 (wi_lf (wc_Rl wc_ok) sc_42) := by
  refine wi_method (wc_lw wc_ok) 42 (cx := fun _ _ _ _ _ => False) (ids := ci_42) (tb := tb_42) (by decide +kernel) hl0 wm_cx0 (wm_tb_ok tk_42) (by decide +kernel) [8] 250 (fun as h q qt hs => ?_)
  obtain ⟨x, t, rfl, hs1⟩ := wc_sTJ_e hs
  clear hs
  obtain ⟨tg, ln, I, L, R, n⟩ := h
  have hs := id hs1
  clear hs1
  simp only [wc_f] at hs
  obtain ⟨a1, cs, c1, c2, h1⟩ := hs
  refine ⟨rfl, fun mz pc lv sk h cu su => ∃ v : Option Nat, ∃ f : Option Nat, ∃ P : List Nat, ∃ r : List Nat, lv = [some (wi_rf (some x)), some (.inr (.inl (t))), none, some (wi_rf (f)), some (wi_rf (v))] ∧ sk = [] ∧ h = (tg, ln, I, L, R, n) ∧ cu = 0 ∧ su = 0 ∧ mz = r.length ∧ wc_ch R v r ∧ (∀ a ∈ r, tg a = 9) ∧ cs = P ++ r ∧ (∀ a ∈ P, L 9 0 a < t) ∧ f = P.getLast?, mq_c1 (fun mz lv sk h cu su hI => ?_), ?_⟩
  · obtain ⟨v, f, P, r, rfl, rfl, rfl, rfl, rfl, rfl, p1, p2, p3, p4, rfl⟩ := hI
    have key : ∀ z, z = (cs.takeWhile (fun a => decide (L 9 0 a < t))).getLast? → q (some (wi_rf z)) (tg, ln, I, L, R, n) := fun z e => by rw [e]; exact h1
    have kP : (P ++ r).takeWhile (fun a => decide (L 9 0 a < t)) = P ++ r.takeWhile (fun a => decide (L 9 0 a < t)) := List.takeWhile_append_of_pos (fun a ha => decide_eq_true (p4 a ha))
    cases r with
    | nil =>
      cases (show v = none from p1)
      have k1 : P.getLast? = (cs.takeWhile (fun a => decide (L 9 0 a < t))).getLast? := by rw [p3, kP, List.takeWhile_nil, List.append_nil]
      repeat' first
        | refine And.intro ?_ ?_
        | (intro q9 (e9 : (_ : Option Nat) = some q9); cases e9)
        | (intro (e9 : (some _ : Option Nat) = none); cases e9)
        | (intro (e9 : (none : Option Nat) = none); clear e9)
        | refine Exists.intro _ (And.intro (show _ = _ from by assumption) ?_)
        | refine Exists.intro _ (And.intro rfl (And.intro (by assumption) ?_))
        | refine Exists.intro _ (And.intro rfl ?_)
        | (intro h; try omega)
        | omega
        | exact key _ k1
        | exact Nat.le_of_ble_eq_true rfl
        | assumption
    | cons a r =>
      obtain ⟨rfl, p1⟩ := p1
      have b1 := p2 a List.mem_cons_self
      have k2 : t ≤ L 9 0 a → P.getLast? = (cs.takeWhile (fun a => decide (L 9 0 a < t))).getLast? := fun z => by rw [p3, kP, List.takeWhile_cons_of_neg (by simp only [decide_eq_true_eq]; omega), List.append_nil]
      repeat' first
        | refine And.intro ?_ ?_
        | (intro q9 (e9 : (_ : Option Nat) = some q9); cases e9)
        | (intro (e9 : (some _ : Option Nat) = none); cases e9)
        | (intro (e9 : (none : Option Nat) = none); clear e9)
        | refine Exists.intro _ (And.intro (show _ = _ from by assumption) ?_)
        | refine Exists.intro _ (And.intro rfl (And.intro (by assumption) ?_))
        | refine Exists.intro _ (And.intro rfl ?_)
        | (intro h; try omega)
        | omega
        | exact key _ (k2 (by omega))
        | (refine Exists.intro _ (And.intro ?_ (Exists.intro (_) (Exists.intro (_) (Exists.intro (P ++ [a]) (Exists.intro (r) (And.intro rfl (And.intro rfl (And.intro rfl (And.intro rfl (And.intro rfl (And.intro rfl (?_)))))))))))) <;> first | exact Nat.lt_succ_self _ | exact ⟨p1, fun b hb => p2 b (List.mem_cons_of_mem _ hb), by rw [p3, List.append_assoc]; rfl, fun b hb => by rcases List.mem_append.mp hb with z | z; exact p4 b z; cases List.mem_singleton.mp z; omega, by rw [List.getLast?_append]; rfl⟩)
        | exact Nat.le_of_ble_eq_true rfl
        | assumption
  · repeat' first
      | refine And.intro ?_ ?_
      | refine Exists.intro _ (And.intro (show _ = _ from by assumption) ?_)
      | refine Exists.intro _ (And.intro rfl (And.intro (by assumption) ?_))
      | refine Exists.intro _ (And.intro rfl ?_)
      | (intro h; try omega)
      | omega
      | (refine Exists.intro _ (Exists.intro (_) (Exists.intro (_) (Exists.intro ([]) (Exists.intro (cs) (And.intro rfl (And.intro rfl (And.intro rfl (And.intro rfl (And.intro rfl (And.intro rfl (?_))))))))))) <;> exact ⟨c1, c2, rfl, fun a ha => (by cases ha), rfl⟩)
      | exact Nat.le_of_ble_eq_true rfl
      | assumption
def sc_47 (as : List wi_V) (h : wc_H) (q : wi_Q1 wc_H) (qt : wi_Q2 wc_H) : Prop := wc_sTOO as (fun x b k => wc_f h fun tg ln I L R n => tg x = 4 ∧ (b = none → q none (tg, ln, I, L, wm_up R 4 1 x k, n)) ∧ (∀ c, b = some c → tg c = 9 ∧ q none (tg, ln, I, L, wm_up R 9 2 c k, n)))
theorem cm_47 {l : Launch} {D : va_G} {aC : wm_Y} {b0 : Nat} (hl0 : l.stackTraces = false) : wm_sp l D aC b0 47 (wi_lf (wc_Rl wc_ok) sc_47) := by
  refine wi_method (wc_lw wc_ok) 47 (cx := fun _ _ _ _ _ => False) (ids := ci_47) (tb := tb_47) (by decide +kernel) hl0 wm_cx0 (wm_tb_ok tk_47) (by decide +kernel) [] 250 (fun as h q qt hs => ?_)
  obtain ⟨x, b, k, rfl, hs1⟩ := wc_sTOO_e hs
  clear hs
  obtain ⟨tg, ln, I, L, R, n⟩ := h
  have hs := id hs1
  clear hs1
  simp only [wc_f] at hs
  refine ⟨rfl, fun _ _ _ _ _ _ _ => False, mq_nc, ?_⟩
  obtain ⟨a1, h1, h2⟩ := hs
  cases b with
  | none =>
    have h1 := h1 rfl
    repeat' first
      | refine And.intro ?_ ?_
      | (intro q9 (e9 : (_ : Option Nat) = some q9); cases e9)
      | (intro (e9 : (some _ : Option Nat) = none); cases e9)
      | (intro (e9 : (none : Option Nat) = none); clear e9)
      | refine Exists.intro _ (And.intro (show _ = _ from by assumption) ?_)
      | refine Exists.intro _ (And.intro rfl (And.intro (by assumption) ?_))
      | refine Exists.intro _ (And.intro rfl ?_)
      | (intro h; try omega)
      | omega
      | (rw [h]; exact h1)
      | exact Nat.le_of_ble_eq_true rfl
      | assumption
  | some c =>
    obtain ⟨b1, h2⟩ := h2 c rfl
    repeat' first
      | refine And.intro ?_ ?_
      | (intro q9 (e9 : (_ : Option Nat) = some q9); cases e9)
      | (intro (e9 : (some _ : Option Nat) = none); cases e9)
      | (intro (e9 : (none : Option Nat) = none); clear e9)
      | refine Exists.intro _ (And.intro (show _ = _ from by assumption) ?_)
      | refine Exists.intro _ (And.intro rfl (And.intro (by assumption) ?_))
      | refine Exists.intro _ (And.intro rfl ?_)
      | (intro h; try omega)
      | omega
      | (rw [h]; exact h2)
      | exact Nat.le_of_ble_eq_true rfl
      | assumption
def sc_65 (as : List wi_V) (h : wc_H) (q : wi_Q1 wc_H) (qt : wi_Q2 wc_H) : Prop := wc_sTT as (fun s a => wc_f h fun tg ln I L R n => tg s = 7 ∧ tg a = 9 ∧ -2147483648 < I 7 0 s ∧ I 7 0 s ≤ 100000 ∧ q none (tg, ln, wm_up I 7 0 s (I 7 0 s - 1), L, wm_up (wm_up R 9 2 a (R 7 1 s)) 7 1 s (some a), n))
theorem cm_65 {l : Launch} {D : va_G} {aC : wm_Y} {b0 : Nat} (hl0 : l.stackTraces = false) : wm_sp l D aC b0 65 (wi_lf (wc_Rl wc_ok) sc_65) := by
  refine wi_method (wc_lw wc_ok) 65 (cx := fun _ _ _ _ _ => False) (ids := ci_65) (tb := tb_65) (by decide +kernel) hl0 wm_cx0 (wm_tb_ok tk_65) (by decide +kernel) [] 250 (fun as h q qt hs => ?_)
  obtain ⟨s, a, rfl, hs1⟩ := wc_sTT_e hs
  clear hs
  obtain ⟨tg, ln, I, L, R, n⟩ := h
  have hs := id hs1
  clear hs1
  simp only [wc_f] at hs
  refine ⟨rfl, fun _ _ _ _ _ _ _ => False, mq_nc, ?_⟩
  obtain ⟨a1, a2, r1, r2, h1⟩ := hs
  repeat' first
    | refine And.intro ?_ ?_
    | (intro q9 (e9 : (_ : Option Nat) = some q9); cases e9)
    | (intro (e9 : (some _ : Option Nat) = none); cases e9)
    | (intro (e9 : (none : Option Nat) = none); clear e9)
    | refine Exists.intro _ (And.intro (show _ = _ from by assumption) ?_)
    | refine Exists.intro _ (And.intro rfl (And.intro (by assumption) ?_))
    | refine Exists.intro _ (And.intro rfl ?_)
    | (intro h; try omega)
    | omega
    | (subst_vars; exact h1)
    | exact Nat.le_of_ble_eq_true rfl
    | assumption
def sc_64 (as : List wi_V) (h : wc_H) (q : wi_Q1 wc_H) (qt : wi_Q2 wc_H) : Prop := wc_sTJI as (fun s t v => wc_f h fun tg ln I L R n => tg s = 7 ∧ s < n ∧ 0 ≤ I 7 0 s ∧ I 7 0 s ≤ 100000 ∧ (R 7 1 s = none → q (some (wi_rf (some n))) (wc_nt tg n 9, wc_nt ln n 0, wm_up (wm_up (wc_nz I n 9) 9 1 n v) 7 0 s (I 7 0 s + 1), wm_up (wc_nz L n 9) 9 0 n t, wm_up (wc_nn R n 9) 9 2 n none, n + 1)) ∧ (∀ a, R 7 1 s = some a → tg a = 9 ∧ q (some (wi_rf (some a))) (tg, ln, wm_up (wm_up I 9 1 a v) 7 0 s (I 7 0 s + 1), wm_up L 9 0 a t, wm_up (wm_up R 7 1 s (R 9 2 a)) 9 2 a none, n)))
theorem cm_64 {l : Launch} {D : va_G} {aC : wm_Y} {b0 : Nat} (hl0 : l.stackTraces = false) : wm_sp l D aC b0 64 (wi_lf (wc_Rl wc_ok) sc_64) := by
  refine wi_method (wc_lw wc_ok) 64 (cx := fun id => if id = 70 then sc_70 else fun _ _ _ _ => False) (ids := ci_64) (tb := tb_64) (by decide +kernel) hl0 (wm_cxc (cm_70 hl0) oi_64 (fun h => wm_cxn h)) (wm_tb_ok tk_64) (by decide +kernel) [] 250 (fun as h q qt hs => ?_)
  obtain ⟨s, t, v, rfl, hs1⟩ := wc_sTJI_e hs
  clear hs
  obtain ⟨tg, ln, I, L, R, n⟩ := h
  have hs := id hs1
  clear hs1
  simp only [wc_f] at hs
  refine ⟨rfl, fun _ _ _ _ _ _ _ => False, mq_nc, ?_⟩
  obtain ⟨a1, a2, r1, r2, h1, h2⟩ := hs
  cases hx : R 7 1 s with
  | none =>
    have h1 := h1 hx
    repeat' first
      | refine And.intro ?_ ?_
      | (intro q9 (e9 : (_ : Option Nat) = some q9); cases e9)
      | (intro (e9 : (some _ : Option Nat) = none); cases e9)
      | (intro (e9 : (none : Option Nat) = none); clear e9)
      | (intro tg1 ln1 I1 L1 R1 e1 e2 e3 e4 e5; have b1 : tg1 s = 7 := (by rw [e1]; show (if s = n then _ else _) = _; rw [if_neg (by omega)]; assumption); have b2 : tg1 n = 9 := (by rw [e1]; exact if_pos rfl))
      | (intro I9 (e9 : I9 = wm_up I1 9 1 n v); have e10 : I9 7 0 s = I 7 0 s := (by rw [e9, wm_up_t (by decide), e3]; exact if_neg (fun z => by omega)))
      | refine Exists.intro _ (And.intro (show _ = _ from by assumption) ?_)
      | refine Exists.intro _ (And.intro rfl (And.intro (by assumption) ?_))
      | refine Exists.intro _ (And.intro rfl ?_)
      | (intro h; try omega)
      | omega
      | (subst_vars; rw [show (wm_up (wc_nz I n 9) 9 1 n v) 7 0 s = I 7 0 s by rw [wm_up_t (by decide)]; exact if_neg (fun z => by omega)]; exact h1)
      | (subst_vars; exact h1)
      | exact Nat.le_of_ble_eq_true rfl
      | assumption
  | some a =>
    obtain ⟨b1, h2⟩ := h2 a hx
    repeat' first
      | refine And.intro ?_ ?_
      | (intro q9 (e9 : (_ : Option Nat) = some q9); cases e9)
      | (intro (e9 : (some _ : Option Nat) = none); cases e9)
      | (intro (e9 : (none : Option Nat) = none); clear e9)
      | (intro I9 (e9 : I9 = wm_up I 9 1 a v); have e10 : I9 7 0 s = I 7 0 s := (by rw [e9, wm_up_t (by decide)]))
      | refine Exists.intro _ (And.intro (show _ = _ from by assumption) ?_)
      | refine Exists.intro _ (And.intro rfl (And.intro (by assumption) ?_))
      | refine Exists.intro _ (And.intro rfl ?_)
      | (intro h; try omega)
      | omega
      | (subst_vars; rw [show (wm_up I 9 1 a v) 7 0 s = I 7 0 s by rw [wm_up_t (by decide)]]; exact h2)
      | (subst_vars; exact h2)
      | exact Nat.le_of_ble_eq_true rfl
      | assumption
