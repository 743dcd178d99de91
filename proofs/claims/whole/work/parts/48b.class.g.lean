/-! THE CLASS, 7b: the values of drivers together -/
def wc_fi (a b c e f : Int) : Int := if a ≠ 0 then 0 else if b ≠ 0 ∨ (c ≠ 0 ∧ e ≠ 0) then 1 else if c ≠ 0 then 2 else if e ≠ 0 then 3 else f
theorem mq_c6 {a b c d f g : Nat} {P : Nat → Prop} (h1 : P a) (h2 : P b) (h3 : P c) (h4 : P d) (h5 : P f) (h6 : P g) : ∀ pc, [a, b, c, d, f, g].contains pc = true → P pc := fun pc h => by
  have e : pc = a ∨ pc = b ∨ pc = c ∨ pc = d ∨ pc = f ∨ pc = g := by simpa using h
  rcases e with e | e | e | e | e | e <;> rw [e] <;> assumption
def wc_or (P : Prop) (a a' : Int) : Prop := (a' = 1 ∧ (a ≠ 0 ∨ P)) ∨ (a' = 0 ∧ a = 0 ∧ ¬ P)
def wc_ok5 (a b c e f : Int) : Prop := (a = 0 ∨ a = 1) ∧ (b = 0 ∨ b = 1) ∧ (c = 0 ∨ c = 1) ∧ (e = 0 ∨ e = 1) ∧ (a = 0 → b = 0 → c = 0 → e = 0 → 4 ≤ f ∧ f ≤ 7) ∧ 0 ≤ f ∧ f ≤ 8
def wc_b1 (a : Bool) : Int := if a = true then 1 else 0
def wc_wf (f u : Int) : Int := if u = 4 then f else if f = 4 ∨ f = u then u else 5
theorem wc_fi_d : ∀ a b c e : Bool, ∀ u f : Fin 9, ((a || b || c || e) = true ∨ (4 ≤ f.val ∧ f.val ≤ 7)) → wc_fi (wc_b1 (a || decide ((u.val : Int) = 0))) (wc_b1 (b || decide ((u.val : Int) = 1 ∨ (u.val : Int) = 8))) (wc_b1 (c || decide ((u.val : Int) = 2))) (wc_b1 (e || decide ((u.val : Int) = 3))) (wc_wf f.val u.val) = mq_both (wc_fi (wc_b1 a) (wc_b1 b) (wc_b1 c) (wc_b1 e) f.val) u.val := by decide +kernel
theorem wc_or_b {P : Prop} [Decidable P] {a : Bool} {a' : Int} (h : wc_or P (wc_b1 a) a') : a' = wc_b1 (a || decide P) := by
  rcases h with ⟨rfl, h⟩ | ⟨rfl, h1, h2⟩
  · rcases h with h | h
    · cases a
      · exact absurd rfl h
      · rfl
    · rw [decide_eq_true h, Bool.or_true]; rfl
  · cases a
    · rw [decide_eq_false h2]; rfl
    · cases h1
theorem wc_b1_e {a : Int} (h : a = 0 ∨ a = 1) : ∃ b, a = wc_b1 b := by
  rcases h with rfl | rfl
  · exact ⟨false, rfl⟩
  · exact ⟨true, rfl⟩
theorem wc_fi_s {a b c e f u a' b' c' e' f' : Int} (h : wc_ok5 a b c e f) (hu : 0 ≤ u ∧ u ≤ 8) (h1 : wc_or (u = 0) a a') (h2 : wc_or (u = 1 ∨ u = 8) b b') (h3 : wc_or (u = 2) c c') (h4 : wc_or (u = 3) e e') (h5 : (u = 4 ∧ f' = f) ∨ (u ≠ 4 ∧ (f = 4 ∨ f = u) ∧ f' = u) ∨ (u ≠ 4 ∧ f ≠ 4 ∧ f ≠ u ∧ f' = 5)) : wc_ok5 a' b' c' e' f' ∧ wc_fi a' b' c' e' f' = mq_both (wc_fi a b c e f) u := by
  obtain ⟨y1, y2, y3, y4, y5, y6, y7⟩ := h
  constructor
  · simp only [wc_or] at h1 h2 h3 h4
    refine ⟨by omega, by omega, by omega, by omega, fun z1 z2 z3 z4 => ?_, by omega, by omega⟩
    have := y5 (by omega) (by omega) (by omega) (by omega)
    omega
  · obtain ⟨u9, hu9⟩ : ∃ u9 : Fin 9, u = (u9.val : Int) := ⟨⟨u.toNat, by omega⟩, by simp only; omega⟩
    obtain ⟨f9, hf9⟩ : ∃ f9 : Fin 9, f = (f9.val : Int) := ⟨⟨f.toNat, by omega⟩, by simp only; omega⟩
    obtain ⟨a, rfl⟩ := wc_b1_e y1
    obtain ⟨b, rfl⟩ := wc_b1_e y2
    obtain ⟨c, rfl⟩ := wc_b1_e y3
    obtain ⟨e, rfl⟩ := wc_b1_e y4
    have hf : f' = wc_wf f u := by
      unfold wc_wf
      rcases h5 with ⟨z1, z2⟩ | ⟨z1, z2, z3⟩ | ⟨z1, z2, z3, z4⟩
      · rw [if_pos z1, z2]
      · rw [if_neg z1, if_pos z2, z3]
      · rw [if_neg z1, if_neg (by omega), z4]
    rw [wc_or_b h1, wc_or_b h2, wc_or_b h3, wc_or_b h4, hf, hu9, hf9]
    refine wc_fi_d a b c e u9 f9 ?_
    cases a <;> cases b <;> cases c <;> cases e <;> first | exact Or.inl rfl | skip
    refine Or.inr ?_
    have := y5 rfl rfl rfl rfl
    omega
def wc_bo (vl : Nat → Int) (k : Nat) (z : Int) (c : Nat × Nat) : Int := mq_both z (vl (c.2 + k))
def wc_to (is cur : Int) (vl : Nat → Int) (k : Nat) (l : List (Nat × Nat)) : Int := match l with
  | [] => cur
  | c :: r => if is = 2 then vl (c.2 + k) else (c :: r).foldl (wc_bo vl k) 4
def sc_56 (as : List wi_V) (h : wc_H) (q : wi_Q1 wc_H) (qt : wi_Q2 wc_H) : Prop := wc_sTI as (fun x k => wc_f h fun tg ln I L R n => tg x = 5 ∧ 0 ≤ k ∧ ∃ w rw pp l, wc_dc tg ln (I 3) (R 3) (R 22) w rw pp (R 5 4 x) l ∧ k < w ∧ (∀ c ∈ l, tg (rw (c.2 + k.toNat)) = 4) ∧ (∀ c ∈ l, 0 ≤ I 4 2 (rw (c.2 + k.toNat)) ∧ I 4 2 (rw (c.2 + k.toNat)) ≤ 8) ∧ q (some (.inl (l.foldl (wc_bo (fun d => I 4 2 (rw d)) k.toNat) 4))) (tg, ln, I, L, R, n))
theorem cm_56 {l : Launch} {D : va_G} {aC : wm_Y} {b0 : Nat} (hl0 : l.stackTraces = false) : wm_sp l D aC b0 56 (wi_lf (wc_Rl wc_ok) sc_56) := by
  refine wi_method (wc_lw wc_ok) 56 (cx := fun _ _ _ _ _ => False) (ids := ci_56) (tb := tb_56) (by decide +kernel) hl0 wm_cx0 (wm_tb_ok tk_56) (by decide +kernel) [19, 51, 74, 92, 110, 137] 250 (fun as h q qt hs => ?_)
  obtain ⟨x, k, rfl, hs1⟩ := wc_sTI_e hs
  clear hs
  obtain ⟨tg, ln, I, L, R, n⟩ := h
  have hs := id hs1
  clear hs1
  simp only [wc_f] at hs
  obtain ⟨a1, r1, w, rw, pp, l, c1, r2, c2, c3, h1⟩ := hs
  refine ⟨rfl, fun mz pc lv sk h cu su => match pc with | 19 => ∃ v : Option Nat, ∃ P : List (Nat × Nat), ∃ r : List (Nat × Nat), ∃ a : Int, ∃ b : Int, ∃ c : Int, ∃ e : Int, ∃ f : Int, ∃ w8 : Option wi_V, lv = [some (wi_rf (some x)), some (.inl (k)), some (.inl (a)), some (.inl (b)), some (.inl (c)), some (.inl (e)), some (.inl (f)), some (wi_rf (v)), w8] ∧ sk = [] ∧ h = (tg, ln, I, L, R, n) ∧ cu = 0 ∧ su = 0 ∧ mz = 8 * r.length + 6 ∧ l = P ++ r ∧ wc_dc tg ln (I 3) (R 3) (R 22) w rw pp v r ∧ wc_ok5 a b c e f ∧ wc_fi a b c e f = P.foldl (wc_bo (fun d => I 4 2 (rw d)) k.toNat) 4 | 51 => ∃ v : Option Nat, ∃ P : List (Nat × Nat), ∃ r : List (Nat × Nat), ∃ a : Int, ∃ b : Int, ∃ c : Int, ∃ e : Int, ∃ f : Int, ∃ y : Nat × Nat, ∃ u : Int, ∃ a' : Int, lv = [some (wi_rf (some x)), some (.inl (k)), some (.inl (a')), some (.inl (b)), some (.inl (c)), some (.inl (e)), some (.inl (f)), some (wi_rf (some y.1)), some (.inl (u))] ∧ sk = [] ∧ h = (tg, ln, I, L, R, n) ∧ cu = 0 ∧ su = 0 ∧ mz = 8 * r.length + 5 ∧ r.head? = some y ∧ v = some y.1 ∧ (0 ≤ u ∧ u ≤ 8) ∧ u = I 4 2 (rw (y.2 + k.toNat)) ∧ wc_or (u = 0) a a' ∧ l = P ++ r ∧ wc_dc tg ln (I 3) (R 3) (R 22) w rw pp v r ∧ wc_ok5 a b c e f ∧ wc_fi a b c e f = P.foldl (wc_bo (fun d => I 4 2 (rw d)) k.toNat) 4 | 74 => ∃ v : Option Nat, ∃ P : List (Nat × Nat), ∃ r : List (Nat × Nat), ∃ a : Int, ∃ b : Int, ∃ c : Int, ∃ e : Int, ∃ f : Int, ∃ y : Nat × Nat, ∃ u : Int, ∃ a' : Int, ∃ b' : Int, lv = [some (wi_rf (some x)), some (.inl (k)), some (.inl (a')), some (.inl (b')), some (.inl (c)), some (.inl (e)), some (.inl (f)), some (wi_rf (some y.1)), some (.inl (u))] ∧ sk = [] ∧ h = (tg, ln, I, L, R, n) ∧ cu = 0 ∧ su = 0 ∧ mz = 8 * r.length + 4 ∧ r.head? = some y ∧ v = some y.1 ∧ (0 ≤ u ∧ u ≤ 8) ∧ u = I 4 2 (rw (y.2 + k.toNat)) ∧ wc_or (u = 0) a a' ∧ wc_or (u = 1 ∨ u = 8) b b' ∧ l = P ++ r ∧ wc_dc tg ln (I 3) (R 3) (R 22) w rw pp v r ∧ wc_ok5 a b c e f ∧ wc_fi a b c e f = P.foldl (wc_bo (fun d => I 4 2 (rw d)) k.toNat) 4 | 92 => ∃ v : Option Nat, ∃ P : List (Nat × Nat), ∃ r : List (Nat × Nat), ∃ a : Int, ∃ b : Int, ∃ c : Int, ∃ e : Int, ∃ f : Int, ∃ y : Nat × Nat, ∃ u : Int, ∃ a' : Int, ∃ b' : Int, ∃ c' : Int, lv = [some (wi_rf (some x)), some (.inl (k)), some (.inl (a')), some (.inl (b')), some (.inl (c')), some (.inl (e)), some (.inl (f)), some (wi_rf (some y.1)), some (.inl (u))] ∧ sk = [] ∧ h = (tg, ln, I, L, R, n) ∧ cu = 0 ∧ su = 0 ∧ mz = 8 * r.length + 3 ∧ r.head? = some y ∧ v = some y.1 ∧ (0 ≤ u ∧ u ≤ 8) ∧ u = I 4 2 (rw (y.2 + k.toNat)) ∧ wc_or (u = 0) a a' ∧ wc_or (u = 1 ∨ u = 8) b b' ∧ wc_or (u = 2) c c' ∧ l = P ++ r ∧ wc_dc tg ln (I 3) (R 3) (R 22) w rw pp v r ∧ wc_ok5 a b c e f ∧ wc_fi a b c e f = P.foldl (wc_bo (fun d => I 4 2 (rw d)) k.toNat) 4 | 110 => ∃ v : Option Nat, ∃ P : List (Nat × Nat), ∃ r : List (Nat × Nat), ∃ a : Int, ∃ b : Int, ∃ c : Int, ∃ e : Int, ∃ f : Int, ∃ y : Nat × Nat, ∃ u : Int, ∃ a' : Int, ∃ b' : Int, ∃ c' : Int, ∃ e' : Int, lv = [some (wi_rf (some x)), some (.inl (k)), some (.inl (a')), some (.inl (b')), some (.inl (c')), some (.inl (e')), some (.inl (f)), some (wi_rf (some y.1)), some (.inl (u))] ∧ sk = [] ∧ h = (tg, ln, I, L, R, n) ∧ cu = 0 ∧ su = 0 ∧ mz = 8 * r.length + 2 ∧ r.head? = some y ∧ v = some y.1 ∧ (0 ≤ u ∧ u ≤ 8) ∧ u = I 4 2 (rw (y.2 + k.toNat)) ∧ wc_or (u = 0) a a' ∧ wc_or (u = 1 ∨ u = 8) b b' ∧ wc_or (u = 2) c c' ∧ wc_or (u = 3) e e' ∧ l = P ++ r ∧ wc_dc tg ln (I 3) (R 3) (R 22) w rw pp v r ∧ wc_ok5 a b c e f ∧ wc_fi a b c e f = P.foldl (wc_bo (fun d => I 4 2 (rw d)) k.toNat) 4 | 137 => ∃ v : Option Nat, ∃ P : List (Nat × Nat), ∃ r : List (Nat × Nat), ∃ a : Int, ∃ b : Int, ∃ c : Int, ∃ e : Int, ∃ f : Int, ∃ y : Nat × Nat, ∃ u : Int, ∃ a' : Int, ∃ b' : Int, ∃ c' : Int, ∃ e' : Int, ∃ f' : Int, lv = [some (wi_rf (some x)), some (.inl (k)), some (.inl (a')), some (.inl (b')), some (.inl (c')), some (.inl (e')), some (.inl (f')), some (wi_rf (some y.1)), some (.inl (u))] ∧ sk = [] ∧ h = (tg, ln, I, L, R, n) ∧ cu = 0 ∧ su = 0 ∧ mz = 8 * r.length + 1 ∧ r.head? = some y ∧ v = some y.1 ∧ (0 ≤ u ∧ u ≤ 8) ∧ u = I 4 2 (rw (y.2 + k.toNat)) ∧ wc_or (u = 0) a a' ∧ wc_or (u = 1 ∨ u = 8) b b' ∧ wc_or (u = 2) c c' ∧ wc_or (u = 3) e e' ∧ ((u = 4 ∧ f' = f) ∨ (u ≠ 4 ∧ (f = 4 ∨ f = u) ∧ f' = u) ∨ (u ≠ 4 ∧ f ≠ 4 ∧ f ≠ u ∧ f' = 5)) ∧ l = P ++ r ∧ wc_dc tg ln (I 3) (R 3) (R 22) w rw pp v r ∧ wc_ok5 a b c e f ∧ wc_fi a b c e f = P.foldl (wc_bo (fun d => I 4 2 (rw d)) k.toNat) 4 | _ => False, mq_c6 (fun mz lv sk h cu su hI => ?_) (fun mz lv sk h cu su hI => ?_) (fun mz lv sk h cu su hI => ?_) (fun mz lv sk h cu su hI => ?_) (fun mz lv sk h cu su hI => ?_) (fun mz lv sk h cu su hI => ?_), ?_⟩
  · obtain ⟨v, P, r, a, b, c, e, f, w8, rfl, rfl, rfl, rfl, rfl, rfl, p1, p2, p3, p4⟩ := hI
    obtain ⟨y1, y2, y3, y4, y5, y6, y7⟩ := id p3
    cases r with
    | nil =>
      cases (show v = none from p2)
      rw [List.append_nil] at p1
      subst p1
      have fin : ∀ z, z = wc_fi a b c e f → q (some (.inl z)) (tg, ln, I, L, R, n) := fun z e => by rw [e, p4]; exact h1
      repeat' first
        | refine And.intro ?_ ?_
        | (intro q9 (e9 : (_ : Option Nat) = some q9); cases e9)
        | (intro (e9 : (some _ : Option Nat) = none); cases e9)
        | (intro (e9 : (none : Option Nat) = none); clear e9)
        | refine Exists.intro _ (And.intro (show _ = _ from by assumption) ?_)
        | refine Exists.intro _ (And.intro rfl (And.intro (by assumption) ?_))
        | refine Exists.intro _ (And.intro rfl ?_)
        | (intro h; try omega)
        | omega
        | (refine fin _ ?_; simp only [wc_fi]; (repeat' split) <;> omega)
        | exact Nat.le_of_ble_eq_true rfl
        | assumption
    | cons y r =>
      obtain ⟨rfl, b1, b2, ⟨ra, b3, b4, b5, b6⟩, b7⟩ := id p2
      have hm : y ∈ l := by rw [p1]; simp
      have b8 := b6 k.toNat (by omega)
      have b9 := c2 y hm
      have b10 := c3 y hm
      have bl : k < ln ra := by omega
      repeat' first
        | refine And.intro ?_ ?_
        | (intro q9 (e9 : (_ : Option Nat) = some q9); cases e9)
        | (intro (e9 : (some _ : Option Nat) = none); cases e9)
        | (intro (e9 : (none : Option Nat) = none); clear e9)
        | refine Exists.intro _ (And.intro b3 (And.intro b4 ?_))
        | refine Exists.intro _ (And.intro b8 ?_)
        | refine Exists.intro _ (And.intro (show _ = _ from by assumption) ?_)
        | refine Exists.intro _ (And.intro rfl (And.intro (by assumption) ?_))
        | refine Exists.intro _ (And.intro rfl ?_)
        | (intro h; try omega)
        | omega
        | (refine Exists.intro _ (And.intro ?_ (Exists.intro (some y.1) (Exists.intro (P) (Exists.intro (y :: r) (Exists.intro (a) (Exists.intro (b) (Exists.intro (c) (Exists.intro (e) (Exists.intro (f) (Exists.intro (y) (Exists.intro (_) (Exists.intro (1) (And.intro rfl (And.intro rfl (And.intro rfl (And.intro rfl (And.intro rfl (And.intro rfl (?_))))))))))))))))))) <;> first | (simp only [List.length_cons]; omega) | exact ⟨rfl, rfl, b10, rfl, Or.inl ⟨rfl, by omega⟩, p1, p2, p3, p4⟩)
        | (refine Exists.intro _ (And.intro ?_ (Exists.intro (some y.1) (Exists.intro (P) (Exists.intro (y :: r) (Exists.intro (a) (Exists.intro (b) (Exists.intro (c) (Exists.intro (e) (Exists.intro (f) (Exists.intro (y) (Exists.intro (_) (Exists.intro (0) (And.intro rfl (And.intro rfl (And.intro rfl (And.intro rfl (And.intro rfl (And.intro rfl (?_))))))))))))))))))) <;> first | (simp only [List.length_cons]; omega) | exact ⟨rfl, rfl, b10, rfl, Or.inr ⟨rfl, by omega, by omega⟩, p1, p2, p3, p4⟩)
        | exact Nat.le_of_ble_eq_true rfl
        | assumption
  · obtain ⟨v, P, r, a, b, c, e, f, y, u, a', rfl, rfl, rfl, rfl, rfl, rfl, k1, rfl, k3, k4, g1, p1, p2, p3, p4⟩ := hI
    obtain ⟨y1, y2, y3, y4, y5, y6, y7⟩ := id p3
    repeat' first
      | refine And.intro ?_ ?_
      | (intro q9 (e9 : (_ : Option Nat) = some q9); cases e9)
      | (intro (e9 : (some _ : Option Nat) = none); cases e9)
      | (intro (e9 : (none : Option Nat) = none); clear e9)
      | refine Exists.intro _ (And.intro (show _ = _ from by assumption) ?_)
      | refine Exists.intro _ (And.intro rfl (And.intro (by assumption) ?_))
      | refine Exists.intro _ (And.intro rfl ?_)
      | (intro h; try omega)
      | omega
      | (refine Exists.intro _ (And.intro ?_ (Exists.intro (some y.1) (Exists.intro (P) (Exists.intro (r) (Exists.intro (a) (Exists.intro (b) (Exists.intro (c) (Exists.intro (e) (Exists.intro (f) (Exists.intro (y) (Exists.intro (_) (Exists.intro (a') (Exists.intro (1) (And.intro rfl (And.intro rfl (And.intro rfl (And.intro rfl (And.intro rfl (And.intro rfl (?_)))))))))))))))))))) <;> first | omega | exact ⟨k1, rfl, k3, k4, g1, Or.inl ⟨rfl, by omega⟩, p1, p2, p3, p4⟩)
      | (refine Exists.intro _ (And.intro ?_ (Exists.intro (some y.1) (Exists.intro (P) (Exists.intro (r) (Exists.intro (a) (Exists.intro (b) (Exists.intro (c) (Exists.intro (e) (Exists.intro (f) (Exists.intro (y) (Exists.intro (_) (Exists.intro (a') (Exists.intro (0) (And.intro rfl (And.intro rfl (And.intro rfl (And.intro rfl (And.intro rfl (And.intro rfl (?_)))))))))))))))))))) <;> first | omega | exact ⟨k1, rfl, k3, k4, g1, Or.inr ⟨rfl, by omega, by omega⟩, p1, p2, p3, p4⟩)
      | exact Nat.le_of_ble_eq_true rfl
      | assumption
  · obtain ⟨v, P, r, a, b, c, e, f, y, u, a', b', rfl, rfl, rfl, rfl, rfl, rfl, k1, rfl, k3, k4, g1, g2, p1, p2, p3, p4⟩ := hI
    obtain ⟨y1, y2, y3, y4, y5, y6, y7⟩ := id p3
    repeat' first
      | refine And.intro ?_ ?_
      | (intro q9 (e9 : (_ : Option Nat) = some q9); cases e9)
      | (intro (e9 : (some _ : Option Nat) = none); cases e9)
      | (intro (e9 : (none : Option Nat) = none); clear e9)
      | refine Exists.intro _ (And.intro (show _ = _ from by assumption) ?_)
      | refine Exists.intro _ (And.intro rfl (And.intro (by assumption) ?_))
      | refine Exists.intro _ (And.intro rfl ?_)
      | (intro h; try omega)
      | omega
      | (refine Exists.intro _ (And.intro ?_ (Exists.intro (some y.1) (Exists.intro (P) (Exists.intro (r) (Exists.intro (a) (Exists.intro (b) (Exists.intro (c) (Exists.intro (e) (Exists.intro (f) (Exists.intro (y) (Exists.intro (_) (Exists.intro (a') (Exists.intro (b') (Exists.intro (1) (And.intro rfl (And.intro rfl (And.intro rfl (And.intro rfl (And.intro rfl (And.intro rfl (?_))))))))))))))))))))) <;> first | omega | exact ⟨k1, rfl, k3, k4, g1, g2, Or.inl ⟨rfl, by omega⟩, p1, p2, p3, p4⟩)
      | (refine Exists.intro _ (And.intro ?_ (Exists.intro (some y.1) (Exists.intro (P) (Exists.intro (r) (Exists.intro (a) (Exists.intro (b) (Exists.intro (c) (Exists.intro (e) (Exists.intro (f) (Exists.intro (y) (Exists.intro (_) (Exists.intro (a') (Exists.intro (b') (Exists.intro (0) (And.intro rfl (And.intro rfl (And.intro rfl (And.intro rfl (And.intro rfl (And.intro rfl (?_))))))))))))))))))))) <;> first | omega | exact ⟨k1, rfl, k3, k4, g1, g2, Or.inr ⟨rfl, by omega, by omega⟩, p1, p2, p3, p4⟩)
      | exact Nat.le_of_ble_eq_true rfl
      | assumption
  · obtain ⟨v, P, r, a, b, c, e, f, y, u, a', b', c', rfl, rfl, rfl, rfl, rfl, rfl, k1, rfl, k3, k4, g1, g2, g3, p1, p2, p3, p4⟩ := hI
    obtain ⟨y1, y2, y3, y4, y5, y6, y7⟩ := id p3
    repeat' first
      | refine And.intro ?_ ?_
      | (intro q9 (e9 : (_ : Option Nat) = some q9); cases e9)
      | (intro (e9 : (some _ : Option Nat) = none); cases e9)
      | (intro (e9 : (none : Option Nat) = none); clear e9)
      | refine Exists.intro _ (And.intro (show _ = _ from by assumption) ?_)
      | refine Exists.intro _ (And.intro rfl (And.intro (by assumption) ?_))
      | refine Exists.intro _ (And.intro rfl ?_)
      | (intro h; try omega)
      | omega
      | (refine Exists.intro _ (And.intro ?_ (Exists.intro (some y.1) (Exists.intro (P) (Exists.intro (r) (Exists.intro (a) (Exists.intro (b) (Exists.intro (c) (Exists.intro (e) (Exists.intro (f) (Exists.intro (y) (Exists.intro (_) (Exists.intro (a') (Exists.intro (b') (Exists.intro (c') (Exists.intro (1) (And.intro rfl (And.intro rfl (And.intro rfl (And.intro rfl (And.intro rfl (And.intro rfl (?_)))))))))))))))))))))) <;> first | omega | exact ⟨k1, rfl, k3, k4, g1, g2, g3, Or.inl ⟨rfl, by omega⟩, p1, p2, p3, p4⟩)
      | (refine Exists.intro _ (And.intro ?_ (Exists.intro (some y.1) (Exists.intro (P) (Exists.intro (r) (Exists.intro (a) (Exists.intro (b) (Exists.intro (c) (Exists.intro (e) (Exists.intro (f) (Exists.intro (y) (Exists.intro (_) (Exists.intro (a') (Exists.intro (b') (Exists.intro (c') (Exists.intro (0) (And.intro rfl (And.intro rfl (And.intro rfl (And.intro rfl (And.intro rfl (And.intro rfl (?_)))))))))))))))))))))) <;> first | omega | exact ⟨k1, rfl, k3, k4, g1, g2, g3, Or.inr ⟨rfl, by omega, by omega⟩, p1, p2, p3, p4⟩)
      | exact Nat.le_of_ble_eq_true rfl
      | assumption
  · obtain ⟨v, P, r, a, b, c, e, f, y, u, a', b', c', e', rfl, rfl, rfl, rfl, rfl, rfl, k1, rfl, k3, k4, g1, g2, g3, g4, p1, p2, p3, p4⟩ := hI
    obtain ⟨y1, y2, y3, y4, y5, y6, y7⟩ := id p3
    repeat' first
      | refine And.intro ?_ ?_
      | (intro q9 (e9 : (_ : Option Nat) = some q9); cases e9)
      | (intro (e9 : (some _ : Option Nat) = none); cases e9)
      | (intro (e9 : (none : Option Nat) = none); clear e9)
      | refine Exists.intro _ (And.intro (show _ = _ from by assumption) ?_)
      | refine Exists.intro _ (And.intro rfl (And.intro (by assumption) ?_))
      | refine Exists.intro _ (And.intro rfl ?_)
      | (intro h; try omega)
      | omega
      | (refine Exists.intro _ (And.intro ?_ (Exists.intro (some y.1) (Exists.intro (P) (Exists.intro (r) (Exists.intro (a) (Exists.intro (b) (Exists.intro (c) (Exists.intro (e) (Exists.intro (f) (Exists.intro (y) (Exists.intro (_) (Exists.intro (a') (Exists.intro (b') (Exists.intro (c') (Exists.intro (e') (Exists.intro (f) (And.intro rfl (And.intro rfl (And.intro rfl (And.intro rfl (And.intro rfl (And.intro rfl (?_))))))))))))))))))))))) <;> first | omega | exact ⟨k1, rfl, k3, k4, g1, g2, g3, g4, by omega, p1, p2, p3, p4⟩)
      | (refine Exists.intro _ (And.intro ?_ (Exists.intro (some y.1) (Exists.intro (P) (Exists.intro (r) (Exists.intro (a) (Exists.intro (b) (Exists.intro (c) (Exists.intro (e) (Exists.intro (f) (Exists.intro (y) (Exists.intro (_) (Exists.intro (a') (Exists.intro (b') (Exists.intro (c') (Exists.intro (e') (Exists.intro (u) (And.intro rfl (And.intro rfl (And.intro rfl (And.intro rfl (And.intro rfl (And.intro rfl (?_))))))))))))))))))))))) <;> first | omega | exact ⟨k1, rfl, k3, k4, g1, g2, g3, g4, by omega, p1, p2, p3, p4⟩)
      | (refine Exists.intro _ (And.intro ?_ (Exists.intro (some y.1) (Exists.intro (P) (Exists.intro (r) (Exists.intro (a) (Exists.intro (b) (Exists.intro (c) (Exists.intro (e) (Exists.intro (f) (Exists.intro (y) (Exists.intro (_) (Exists.intro (a') (Exists.intro (b') (Exists.intro (c') (Exists.intro (e') (Exists.intro (5) (And.intro rfl (And.intro rfl (And.intro rfl (And.intro rfl (And.intro rfl (And.intro rfl (?_))))))))))))))))))))))) <;> first | omega | exact ⟨k1, rfl, k3, k4, g1, g2, g3, g4, by omega, p1, p2, p3, p4⟩)
      | exact Nat.le_of_ble_eq_true rfl
      | assumption
  · obtain ⟨v, P, r, a, b, c, e, f, y, u, a', b', c', e', f', rfl, rfl, rfl, rfl, rfl, rfl, k1, rfl, k3, k4, g1, g2, g3, g4, g5, p1, p2, p3, p4⟩ := hI
    obtain ⟨w1, w2⟩ := wc_fi_s p3 k3 g1 g2 g3 g4 g5
    cases r with
    | nil => cases k1
    | cons y9 r =>
      cases k1
      obtain ⟨-, b1, b2, -, b7⟩ := id p2
      have w3 : wc_fi a' b' c' e' f' = (P ++ [y]).foldl (wc_bo (fun d => I 4 2 (rw d)) k.toNat) 4 := by
        rw [w2, p4, List.foldl_append, k4]
        rfl
      repeat' first
        | refine And.intro ?_ ?_
        | (intro q9 (e9 : (_ : Option Nat) = some q9); cases e9)
        | (intro (e9 : (some _ : Option Nat) = none); cases e9)
        | (intro (e9 : (none : Option Nat) = none); clear e9)
        | refine Exists.intro _ (And.intro (show _ = _ from by assumption) ?_)
        | refine Exists.intro _ (And.intro rfl (And.intro (by assumption) ?_))
        | refine Exists.intro _ (And.intro rfl ?_)
        | (intro h; try omega)
        | omega
        | (refine Exists.intro _ (And.intro ?_ (Exists.intro (_) (Exists.intro (P ++ [y]) (Exists.intro (r) (Exists.intro (a') (Exists.intro (b') (Exists.intro (c') (Exists.intro (e') (Exists.intro (f') (Exists.intro (_) (And.intro rfl (And.intro rfl (And.intro rfl (And.intro rfl (And.intro rfl (And.intro rfl (?_))))))))))))))))) <;> first | (simp only [List.length_cons]; omega) | exact ⟨by rw [p1]; simp, b7, w1, w3⟩)
        | exact Nat.le_of_ble_eq_true rfl
        | assumption
  · repeat' first
      | refine And.intro ?_ ?_
      | refine Exists.intro _ (And.intro (show _ = _ from by assumption) ?_)
      | refine Exists.intro _ (And.intro rfl (And.intro (by assumption) ?_))
      | refine Exists.intro _ (And.intro rfl ?_)
      | (intro h; try omega)
      | omega
      | (refine Exists.intro _ (Exists.intro (_) (Exists.intro ([]) (Exists.intro (l) (Exists.intro (0) (Exists.intro (0) (Exists.intro (0) (Exists.intro (0) (Exists.intro (4) (Exists.intro (_) (And.intro rfl (And.intro rfl (And.intro rfl (And.intro rfl (And.intro rfl (And.intro rfl (?_)))))))))))))))) <;> exact ⟨rfl, c1, ⟨Or.inl rfl, Or.inl rfl, Or.inl rfl, Or.inl rfl, fun _ _ _ _ => (by omega), (by omega), (by omega)⟩, rfl⟩)
      | exact Nat.le_of_ble_eq_true rfl
      | assumption
def sc_55 (as : List wi_V) (h : wc_H) (q : wi_Q1 wc_H) (qt : wi_Q2 wc_H) : Prop := wc_sTI as (fun x k => wc_f h fun tg ln I L R n => tg x = 5 ∧ 0 ≤ k ∧ ∃ w rw pp l va, wc_dc tg ln (I 3) (R 3) (R 22) w rw pp (R 5 4 x) l ∧ k < w ∧ (∀ c ∈ l, tg (rw (c.2 + k.toNat)) = 4) ∧ (I 5 0 x ≠ 2 → (∀ c ∈ l, 0 ≤ I 4 2 (rw (c.2 + k.toNat)) ∧ I 4 2 (rw (c.2 + k.toNat)) ≤ 8)) ∧ R 5 2 x = some va ∧ tg va = 26 ∧ ln va = w ∧ q (some (.inl (wc_to (I 5 0 x) (I 26 k.toNat va) (fun d => I 4 2 (rw d)) k.toNat l))) (tg, ln, I, L, R, n))
theorem cm_55 {l : Launch} {D : va_G} {aC : wm_Y} {b0 : Nat} (hl0 : l.stackTraces = false) : wm_sp l D aC b0 55 (wi_lf (wc_Rl wc_ok) sc_55) := by
  refine wi_method (wc_lw wc_ok) 55 (cx := fun id => if id = 56 then sc_56 else fun _ _ _ _ => False) (ids := ci_55) (tb := tb_55) (by decide +kernel) hl0 (wm_cxc (cm_56 hl0) oi_55 (fun h => wm_cxn h)) (wm_tb_ok tk_55) (by decide +kernel) [] 250 (fun as h q qt hs => ?_)
  obtain ⟨x, k, rfl, hs1⟩ := wc_sTI_e hs
  clear hs
  obtain ⟨tg, ln, I, L, R, n⟩ := h
  have hs := id hs1
  clear hs1
  simp only [wc_f] at hs
  refine ⟨rfl, fun _ _ _ _ _ _ _ => False, mq_nc, ?_⟩
  obtain ⟨a1, r1, w, rw, pp, l, va, c1, r2, c2, c3, c4, c5, c6, h1⟩ := hs
  have bl : k < ln va := by omega
  cases l with
  | nil =>
    have c0 : R 5 4 x = none := c1
    repeat' first
      | refine And.intro ?_ ?_
      | (intro q9 (e9 : (_ : Option Nat) = some q9); cases e9)
      | (intro (e9 : (some _ : Option Nat) = none); cases e9)
      | (intro (e9 : (none : Option Nat) = none); clear e9)
      | refine Exists.intro _ (And.intro (show _ = _ from by assumption) ?_)
      | refine Exists.intro _ (And.intro rfl (And.intro (by assumption) ?_))
      | refine Exists.intro _ (And.intro rfl ?_)
      | (intro h; try omega)
      | omega
      | exact h1
      | exact Nat.le_of_ble_eq_true rfl
      | assumption
  | cons c l =>
    obtain ⟨b0, b1, b2, ⟨ra, b3, b4, b5, b6⟩, b7⟩ := id c1
    have b8 := b6 k.toNat (by omega)
    have b9 := c2 c (by simp)
    have bl2 : k < ln ra := by omega
    by_cases hI : I 5 0 x = 2
    · have h2 : q (some (.inl (I 4 2 (rw (c.2 + k.toNat))))) (tg, ln, I, L, R, n) := by
        have := h1
        simp only [wc_to] at this
        rw [if_pos hI] at this
        exact this
      repeat' first
        | refine And.intro ?_ ?_
        | (intro q9 (e9 : (_ : Option Nat) = some q9); cases e9)
        | (intro (e9 : (some _ : Option Nat) = none); cases e9)
        | (intro (e9 : (none : Option Nat) = none); clear e9)
        | refine Exists.intro _ (And.intro b0 (And.intro b1 ?_))
        | refine Exists.intro _ (And.intro b3 (And.intro b4 ?_))
        | refine Exists.intro _ (And.intro b8 ?_)
        | refine Exists.intro _ (And.intro b8 (And.intro b9 ?_))
        | refine Exists.intro _ (And.intro (show _ = _ from by assumption) ?_)
        | refine Exists.intro _ (And.intro rfl (And.intro (by assumption) ?_))
        | refine Exists.intro _ (And.intro rfl ?_)
        | (intro h; try omega)
        | omega
        | exact h2
        | exact Nat.le_of_ble_eq_true rfl
        | assumption
    · have c9 := c3 hI
      have h2 : q (some (.inl ((c :: l).foldl (wc_bo (fun d => I 4 2 (rw d)) k.toNat) 4))) (tg, ln, I, L, R, n) := by
        have := h1
        simp only [wc_to] at this
        rw [if_neg hI] at this
        exact this
      repeat' first
        | refine And.intro ?_ ?_
        | (intro q9 (e9 : (_ : Option Nat) = some q9); cases e9)
        | (intro (e9 : (some _ : Option Nat) = none); cases e9)
        | (intro (e9 : (none : Option Nat) = none); clear e9)
        | refine Exists.intro w (Exists.intro rw (Exists.intro pp (Exists.intro (c :: l) (And.intro c1 (And.intro r2 (And.intro c2 (And.intro c9 ?_)))))))
        | refine Exists.intro _ (And.intro (show _ = _ from by assumption) ?_)
        | refine Exists.intro _ (And.intro rfl (And.intro (by assumption) ?_))
        | refine Exists.intro _ (And.intro rfl ?_)
        | (intro h; try omega)
        | omega
        | exact h2
        | exact Nat.le_of_ble_eq_true rfl
        | assumption
