/-! THE CLASS, 9: begin and update of a signal -/
theorem wc_to_c {is cur : Int} {vl vl' : Nat → Int} {k : Nat} : ∀ {l : List (Nat × Nat)}, (∀ c ∈ l, vl (c.2 + k) = vl' (c.2 + k)) → wc_to is cur vl k l = wc_to is cur vl' k l
  | [], _ => rfl
  | c :: r, h => by
    simp only [wc_to]
    rw [h c List.mem_cons_self]
    have hf : ∀ (l : List (Nat × Nat)) (z : Int), (∀ c ∈ l, vl (c.2 + k) = vl' (c.2 + k)) → l.foldl (wc_bo vl k) z = l.foldl (wc_bo vl' k) z := by
      intro l
      induction l with
      | nil => intro z _; rfl
      | cons c r ih =>
        intro z h
        simp only [List.foldl_cons]
        rw [show wc_bo vl k z c = wc_bo vl' k z c from by unfold wc_bo; rw [h c List.mem_cons_self]]
        exact ih _ (fun b hb => h b (List.mem_cons_of_mem _ hb))
    rw [hf _ _ h]
def wc_bx (I : wm_F Int) (x va : Nat) (l : List (Nat × Nat)) (j : Nat) : Int := wc_to (I 5 0 x) (I 26 j va) (fun _ => I 26 j va) j l
/-- so far: the elements below k, and of k the drivers P -/
def wc_bg (I I' : wm_F Int) (x D : Nat) (rw : Nat → Nat) (l P : List (Nat × Nat)) (va la k : Nat) : Prop :=
  (∀ t j a, t ≠ 26 → t ≠ 27 → ¬ (t = 4 ∧ j = 2) → I' t j a = I t j a) ∧ (∀ j a, a ≠ va ∨ k ≤ j → I' 26 j a = I 26 j a) ∧ (∀ j a, a ≠ la ∨ k ≤ j → I' 27 j a = I 27 j a) ∧
  (∀ d, d < D → ¬ wc_in l k d → (∀ c ∈ P, d ≠ c.2 + k) → I' 4 2 (rw d) = I 4 2 (rw d)) ∧ (∀ c ∈ l, ∀ j, j < k → I' 4 2 (rw (c.2 + j)) = I 26 j va) ∧ (∀ c ∈ P, I' 4 2 (rw (c.2 + k)) = I 26 k va) ∧ (∀ j, j < k → I' 26 j va = wc_bx I x va l j ∧ I' 27 j la = wc_bx I x va l j)
theorem wc_bg_d {I I' : wm_F Int} {x D w : Nat} {rw : Nat → Nat} {l P S : List (Nat × Nat)} {c : Nat × Nat} {va la k : Nat} (h : wc_bg I I' x D rw l P va la k) (hj : ∀ d d', d < D → d' < D → rw d = rw d' → d = d') (hw : ∀ c ∈ l, c.2 + w ≤ D) (hk : k < w) (hl : l = P ++ c :: S) (hp : l.Pairwise (fun a b => b.2 + w ≤ a.2)) : wc_bg I (wm_up I' 4 2 (rw (c.2 + k)) (I 26 k va)) x D rw l (P ++ [c]) va la k := by
  obtain ⟨h1, h2, h3, h4, h5, h6, h7⟩ := h
  have hc : c ∈ l := by rw [hl]; simp
  have hcD := hw c hc
  refine ⟨fun t j a z1 z2 z3 => ?_, fun j a z => ?_, fun j a z => ?_, fun d hd z1 z2 => ?_, fun b hb j hj2 => ?_, fun b hb => ?_, fun j hj2 => ?_⟩
  · simp only [wm_up]
    rw [if_neg (fun y => z3 ⟨y.1, y.2.1⟩)]
    exact h1 t j a z1 z2 z3
  · rw [wm_up_t (by decide)]
    exact h2 j a z
  · rw [wm_up_t (by decide)]
    exact h3 j a z
  · rw [wm_up_q (fun y => z2 c (by simp) (hj d _ hd (by omega) y))]
    exact h4 d hd z1 (fun b hb => z2 b (by simp [hb]))
  · by_cases z : rw (b.2 + j) = rw (c.2 + k)
    · have e := hj _ _ (by have := hw b hb; omega) (by omega) z
      exfalso
      rw [hl] at hb
      rw [hl] at hp
      obtain ⟨q1, q2, q3⟩ := List.pairwise_append.mp hp
      rcases List.mem_append.mp hb with hb | hb
      · have := q3 b hb c List.mem_cons_self
        omega
      · rcases List.mem_cons.mp hb with rfl | hb
        · omega
        · have := (List.pairwise_cons.mp q2).1 b hb
          omega
    · rw [wm_up_q z]
      exact h5 b hb j hj2
  · rcases List.mem_append.mp hb with hb | hb
    · by_cases z : rw (b.2 + k) = rw (c.2 + k)
      · rw [z, wm_up_self]
      · rw [wm_up_q z]
        exact h6 b hb
    · rw [List.mem_singleton.mp hb, wm_up_self]
  · rw [wm_up_t (by decide), wm_up_t (by decide)]
    exact h7 j hj2
theorem wc_bg_e {I I' : wm_F Int} {x D w : Nat} {rw : Nat → Nat} {l : List (Nat × Nat)} {va la k : Nat} (h : wc_bg I I' x D rw l l va la k) (hk : k < w) (hw : ∀ c ∈ l, c.2 + w ≤ D) : wc_bg I (wm_up (wm_up I' 26 k va (wc_bx I x va l k)) 27 k la (wc_bx I x va l k)) x D rw l [] va la (k + 1) := by
  obtain ⟨h1, h2, h3, h4, h5, h6, h7⟩ := h
  refine ⟨fun t j a z1 z2 z3 => ?_, fun j a z => ?_, fun j a z => ?_, fun d hd z1 z2 => ?_, fun b hb j hj2 => ?_, fun b hb => (by cases hb), fun j hj2 => ?_⟩
  · rw [wm_up_t z2, wm_up_t z1]
    exact h1 t j a z1 z2 z3
  · rw [wm_up_t (by decide)]
    rcases z with z | z
    · rw [wm_up_q z]
      exact h2 j a (Or.inl z)
    · rw [wm_up_k (by omega)]
      exact h2 j a (Or.inr (by omega))
  · rcases z with z | z
    · rw [wm_up_q z, wm_up_t (by decide)]
      exact h3 j a (Or.inl z)
    · rw [wm_up_k (by omega), wm_up_t (by decide)]
      exact h3 j a (Or.inr (by omega))
  · rw [wm_up_t (by decide), wm_up_t (by decide)]
    refine h4 d hd (fun y => ?_) (fun c hc y => z1 ⟨c, hc, by omega, by omega⟩)
    obtain ⟨c, hc, y1, y2⟩ := y
    exact z1 ⟨c, hc, y1, by omega⟩
  · rw [wm_up_t (by decide), wm_up_t (by decide)]
    by_cases z : j = k
    · rw [z]
      exact h6 b hb
    · exact h5 b hb j (by omega)
  · by_cases z : j = k
    · subst z
      refine ⟨?_, wm_up_self⟩
      rw [wm_up_t (by decide), wm_up_self]
    · rw [wm_up_t (by decide), wm_up_k z, wm_up_k (f := wm_up I' 26 k va (wc_bx I x va l k)) z, wm_up_t (by decide)]
      exact h7 j (by omega)
def sc_51 (as : List wi_V) (h : wc_H) (q : wi_Q1 wc_H) (qt : wi_Q2 wc_H) : Prop := wc_sT as (fun x => wc_f h fun tg ln I L R n => tg x = 5 ∧ ∃ (w : Nat) (rw : Nat → Nat) (pp : Nat → Int) (l : List (Nat × Nat)) (D va la : Nat), I 5 1 x = w ∧ w ≤ 64 ∧ wc_dc tg ln (I 3) (R 3) (R 22) w rw pp (R 5 4 x) l ∧ R 5 2 x = some va ∧ tg va = 26 ∧ ln va = w ∧ R 5 3 x = some la ∧ tg la = 27 ∧ ln la = w ∧ (∀ d, d < D → tg (rw d) = 4) ∧ (∀ d d', d < D → d' < D → rw d = rw d' → d = d') ∧ (∀ c ∈ l, c.2 + w ≤ D) ∧ l.Pairwise (fun a b => b.2 + w ≤ a.2) ∧ (I 5 0 x ≠ 2 → ∀ k : Nat, k < w → 0 ≤ I 26 k va ∧ I 26 k va ≤ 8) ∧ ∀ I', wc_bg I I' x D rw l [] va la w → q none (tg, ln, I', L, R, n))
theorem cm_51 {l : Launch} {D : va_G} {aC : wm_Y} {b0 : Nat} (hl0 : l.stackTraces = false) : wm_sp l D aC b0 51 (wi_lf (wc_Rl wc_ok) sc_51) := by
  refine wi_method (wc_lw wc_ok) 51 (cx := fun id => if id = 55 then sc_55 else fun _ _ _ _ => False) (ids := ci_51) (tb := tb_51) (by decide +kernel) hl0 (wm_cxc (cm_55 hl0) oi_51 (fun h => wm_cxn h)) (wm_tb_ok tk_51) (by decide +kernel) [2, 15] 250 (fun as h q qt hs => ?_)
  obtain ⟨x, rfl, hs1⟩ := wc_sT_e hs
  clear hs
  obtain ⟨tg, ln, I, L, R, n⟩ := h
  have hs := id hs1
  clear hs1
  simp only [wc_f] at hs
  obtain ⟨a1, w, rw, pp, l, D, va, la, e1, r1, c1, a2, a3, a4, a5, a6, a7, b1, b2, b3, b4, b5, h1⟩ := hs
  refine ⟨rfl, fun mz pc lv sk h cu su => match pc with | 2 => ∃ k : Nat, ∃ w2 : Option wi_V, ∃ I2 : wm_F Int, lv = [some (wi_rf (some x)), some (.inl ((k : Int))), w2] ∧ sk = [] ∧ h = (tg, ln, I2, L, R, n) ∧ cu = 0 ∧ su = 0 ∧ mz = (2 + l.length) * (w - k) ∧ k ≤ w ∧ wc_bg I I2 x D rw l [] va la k | 15 => ∃ k : Nat, ∃ v : Option Nat, ∃ P : List (Nat × Nat), ∃ r : List (Nat × Nat), ∃ I2 : wm_F Int, lv = [some (wi_rf (some x)), some (.inl ((k : Int))), some (wi_rf (v))] ∧ sk = [] ∧ h = (tg, ln, I2, L, R, n) ∧ cu = 0 ∧ su = 0 ∧ mz = (2 + l.length) * (w - (k + 1)) + 1 + r.length ∧ k < w ∧ l = P ++ r ∧ wc_dc tg ln (I 3) (R 3) (R 22) w rw pp v r ∧ wc_bg I I2 x D rw l P va la k | _ => False, mq_c2 (fun mz lv sk h cu su hI => ?_) (fun mz lv sk h cu su hI => ?_), ?_⟩
  · obtain ⟨k, w2, I2, rfl, rfl, rfl, rfl, rfl, rfl, p1, p2⟩ := hI
    have i5 : I2 5 1 x = w := (p2.1 5 1 x (by decide) (by decide) (by omega)).trans e1
    have m1 : k < w → (2 + l.length) * (w - k) = (2 + l.length) * (w - (k + 1)) + (2 + l.length) := fun z => by
      rw [show w - k = (w - (k + 1)) + 1 from by omega, Nat.mul_succ]
    have f1 : (w : Int) ≤ k → q none (tg, ln, I2, L, R, n) := fun z => h1 I2 (by
      have : k = w := by omega
      rw [this] at p2
      exact p2)
    repeat' first
      | refine And.intro ?_ ?_
      | (intro q9 (e9 : (_ : Option Nat) = some q9); cases e9)
      | (intro (e9 : (some _ : Option Nat) = none); cases e9)
      | (intro (e9 : (none : Option Nat) = none); clear e9)
      | refine Exists.intro _ (And.intro (show _ = _ from by assumption) ?_)
      | refine Exists.intro _ (And.intro rfl (And.intro (by assumption) ?_))
      | refine Exists.intro _ (And.intro rfl ?_)
      | (intro h; try omega)
      | omega
      | exact f1 (by omega)
      | (refine Exists.intro _ (And.intro ?_ (Exists.intro (k) (Exists.intro (R 5 4 x) (Exists.intro ([]) (Exists.intro (l) (Exists.intro (I2) (And.intro rfl (And.intro rfl (And.intro rfl (And.intro rfl (And.intro rfl (And.intro rfl (?_))))))))))))) <;> first | (have := m1 (by omega); omega) | exact ⟨by omega, rfl, c1, p2⟩)
      | exact Nat.le_of_ble_eq_true rfl
      | assumption
  · obtain ⟨k, v, P, r, I2, rfl, rfl, rfl, rfl, rfl, rfl, p0, p1, p2, p3⟩ := hI
    have ek : ((k : Int)).toNat = k := by omega
    have i26 : I2 26 (k : Int).toNat va = I 26 k va := by rw [ek]; exact p3.2.1 k va (Or.inr (Nat.le_refl _))
    have bl : (k : Int) < ln va := by omega
    have bl2 : (k : Int) < ln la := by omega
    cases r with
    | nil =>
      cases (show v = none from p2)
      rw [List.append_nil] at p1
      subst p1
      have i3 : I2 3 = I 3 := by
        funext j a
        exact p3.1 3 j a (by decide) (by decide) (by omega)
      have i50 : I2 5 0 x = I 5 0 x := p3.1 5 0 x (by decide) (by decide) (by omega)
      have c1' : wc_dc tg ln (I2 3) (R 3) (R 22) w rw pp (R 5 4 x) l := by rw [i3]; exact c1
      have g1 : ∀ c ∈ l, tg (rw (c.2 + (k : Int).toNat)) = 4 := fun c hc => b1 _ (by have := b3 c hc; omega)
      have v1 : ∀ c ∈ l, I2 4 2 (rw (c.2 + (k : Int).toNat)) = I 26 k va := fun c hc => by rw [ek]; exact p3.2.2.2.2.2.1 c hc
      have g2 : I2 5 0 x ≠ 2 → ∀ c ∈ l, 0 ≤ I2 4 2 (rw (c.2 + (k : Int).toNat)) ∧ I2 4 2 (rw (c.2 + (k : Int).toNat)) ≤ 8 := fun z c hc => by rw [v1 c hc]; exact b5 (by rw [← i50]; exact z) k p0
      have ez : wc_to (I2 5 0 x) (I2 26 (k : Int).toNat va) (fun d => I2 4 2 (rw d)) (k : Int).toNat l = wc_bx I x va l k := by
        unfold wc_bx
        rw [i50, i26, ek]
        exact wc_to_c (fun c hc => by have := v1 c hc; rw [ek] at this; exact this)
      have nx := wc_bg_e p3 p0 b3
      have kw : (k : Int) < (w : Int) := by omega
      repeat' first
        | refine And.intro ?_ ?_
        | refine Exists.intro w (Exists.intro rw (Exists.intro pp (Exists.intro l (Exists.intro va (And.intro c1' (And.intro kw (And.intro g1 (And.intro g2 (And.intro a2 (And.intro a3 (And.intro a4 ?_)))))))))))
        | (intro I3 (e3 : I3 = wm_up I2 26 (k : Int).toNat va (wc_to _ _ _ _ _)); rw [ez, ek] at e3; subst e3)
        | (intro I4 (e4 : I4 = wm_up (wm_up I2 26 k va (wc_bx I x va l k)) 27 (k : Int).toNat la (wm_up I2 26 k va (wc_bx I x va l k) 26 (k : Int).toNat va)); rw [ek, wm_up_self] at e4; subst e4)
        | (intro q9 (e9 : (_ : Option Nat) = some q9); cases e9)
        | (intro (e9 : (some _ : Option Nat) = none); cases e9)
        | (intro (e9 : (none : Option Nat) = none); clear e9)
        | refine Exists.intro _ (And.intro (show _ = _ from by assumption) ?_)
        | refine Exists.intro _ (And.intro rfl (And.intro (by assumption) ?_))
        | refine Exists.intro _ (And.intro rfl ?_)
        | (intro h; try omega)
        | omega
        | (refine Exists.intro _ (And.intro ?_ (Exists.intro (k + 1) (Exists.intro (_) (Exists.intro (_) (And.intro rfl (And.intro rfl (And.intro rfl (And.intro rfl (And.intro rfl (And.intro rfl (?_))))))))))) <;> first | omega | exact ⟨by omega, nx⟩)
        | exact Nat.le_of_ble_eq_true rfl
        | assumption
    | cons c r =>
      obtain ⟨rfl, d1, d2, ⟨ra, d3, d4, d5, d6⟩, d7⟩ := id p2
      have b8' : R 22 (k : Int).toNat ra = some (rw (c.2 + k)) := by rw [ek]; exact d6 k p0
      have hc : c ∈ l := by rw [p1]; simp
      have g4 : tg (rw (c.2 + k)) = 4 := b1 _ (by have := b3 c hc; omega)
      have bl3 : (k : Int) < ln ra := by omega
      have nx := wc_bg_d p3 b2 b3 p0 p1 b4
      repeat' first
        | refine And.intro ?_ ?_
        | (intro I3 (e3 : I3 = wm_up I2 4 2 (rw (c.2 + k)) (I2 26 (k : Int).toNat va)); rw [i26] at e3; subst e3)
        | refine Exists.intro _ (And.intro d3 (And.intro d4 ?_))
        | refine Exists.intro _ (And.intro b8' ?_)
        | refine Exists.intro _ (And.intro a2 (And.intro a3 ?_))
        | (intro q9 (e9 : (_ : Option Nat) = some q9); cases e9)
        | (intro (e9 : (some _ : Option Nat) = none); cases e9)
        | (intro (e9 : (none : Option Nat) = none); clear e9)
        | refine Exists.intro _ (And.intro (show _ = _ from by assumption) ?_)
        | refine Exists.intro _ (And.intro rfl (And.intro (by assumption) ?_))
        | refine Exists.intro _ (And.intro rfl ?_)
        | (intro h; try omega)
        | omega
        | (refine Exists.intro _ (And.intro ?_ (Exists.intro (k) (Exists.intro (R 3 2 c.1) (Exists.intro (P ++ [c]) (Exists.intro (r) (Exists.intro (_) (And.intro rfl (And.intro rfl (And.intro rfl (And.intro rfl (And.intro rfl (And.intro rfl (?_))))))))))))) <;> first | (simp only [List.length_cons]; omega) | exact ⟨p0, by rw [p1]; simp, d7, nx⟩)
        | exact Nat.le_of_ble_eq_true rfl
        | assumption
  · have nx : wc_bg I I x D rw l [] va la 0 := ⟨fun _ _ _ _ _ _ => rfl, fun _ _ _ => rfl, fun _ _ _ => rfl, fun _ _ _ _ => rfl, fun _ _ j hj => absurd hj (Nat.not_lt_zero _), fun c hc => (by cases hc), fun j hj => absurd hj (Nat.not_lt_zero _)⟩
    repeat' first
      | refine And.intro ?_ ?_
      | refine Exists.intro _ (And.intro (show _ = _ from by assumption) ?_)
      | refine Exists.intro _ (And.intro rfl (And.intro (by assumption) ?_))
      | refine Exists.intro _ (And.intro rfl ?_)
      | (intro h; try omega)
      | omega
      | (refine Exists.intro _ (Exists.intro (0) (Exists.intro (_) (Exists.intro (_) (And.intro rfl (And.intro rfl (And.intro rfl (And.intro rfl (And.intro rfl (And.intro rfl (?_)))))))))) <;> exact ⟨Nat.zero_le _, nx⟩)
      | exact Nat.le_of_ble_eq_true rfl
      | assumption
