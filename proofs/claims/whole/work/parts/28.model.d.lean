/-! THE REFERENCE, 4: loops that count, and such as write a stretch -/
/-- how many of the first n -/
def mq_cnt (P : Nat → Bool) : Nat → Int
  | 0 => 0
  | n + 1 => mq_cnt P n + if P n = true then 1 else 0
theorem mq_cnt_s {P : Nat → Bool} {p : Int} (h : 0 ≤ p) : mq_cnt P (p + 1).toNat = mq_cnt P p.toNat + if P p.toNat = true then 1 else 0 := by
  rw [show (p + 1).toNat = p.toNat + 1 by omega]
  rfl
theorem mq_cnt_b {P : Nat → Bool} : ∀ n : Nat, 0 ≤ mq_cnt P n ∧ mq_cnt P n ≤ n
  | 0 => by simp [mq_cnt]
  | n + 1 => by
    have := mq_cnt_b (P := P) n
    simp only [mq_cnt]
    split <;> omega
/-- the waiting transactions of a driver, among the first n -/
def mq_row (A B : mq_A) (d : Int) : Nat → List (Int × Int)
  | 0 => []
  | n + 1 => if A 40 n = d then mq_row A B d n ++ [(B 41 n, A 42 n)] else mq_row A B d n
theorem mq_row_s {A B : mq_A} {d i : Int} (h : 0 ≤ i) : mq_row A B d (i + 1).toNat = if A 40 i.toNat = d then mq_row A B d i.toNat ++ [(B 41 i.toNat, A 42 i.toNat)] else mq_row A B d i.toNat := by
  rw [show (i + 1).toNat = i.toNat + 1 by omega]
  rfl
theorem mq_row_b {A B : mq_A} {d : Int} : ∀ n : Nat, (mq_row A B d n).length ≤ n
  | 0 => by simp [mq_row]
  | n + 1 => by
    have := mq_row_b (A := A) (B := B) (d := d) n
    simp only [mq_row]
    split
    · rw [List.length_append]; simp only [List.length_cons, List.length_nil]; omega
    · omega
/-- the value at a time, out of a row -/
def mq_va (t : Int) (v : Int) (x : Int × Int) : Int := if x.1 ≤ t then x.2 else v
def sm_111 (as : List wi_V) (M : mq_H) (q : wi_Q1 mq_H) (_ : wi_Q2 mq_H) : Prop := mq_sII as (fun a i => mq_f M fun cd lm st sg el dr sz pr wc sp nw A B => 0 ≤ pr ∧ pr ≤ 64 ∧ (a < 0 ∨ 3 < a → q (some (.inl (-1))) ([1, lm, st, sg, el, dr, sz, pr, wc, sp, nw], A, B)) ∧ (0 ≤ a → a ≤ 3 → ∀ r : Int, 0 ≤ r → r < pr → (fun k => decide (A 46 k = a)) r.toNat = true → mq_cnt (fun k => decide (A 46 k = a)) r.toNat = i → q (some (.inl r)) ([0, lm, st, sg, el, dr, sz, pr, wc, sp, nw], A, B)) ∧ (0 ≤ a → a ≤ 3 → i < 0 ∨ mq_cnt (fun k => decide (A 46 k = a)) pr.toNat ≤ i → q (some (.inl (-1))) ([0, lm, st, sg, el, dr, sz, pr, wc, sp, nw], A, B)))
theorem mm_111 {l : Launch} {D : va_G} {aC : wm_Y} {b0 : Nat} (hl0 : l.stackTraces = false) : wm_sp l D aC b0 111 (wi_lf mq_Rl sm_111) := by
  refine wi_method mq_lw 111 (cx := fun _ _ _ _ _ => False) (ids := ci_111) (tb := tb_111) (by decide +kernel) hl0 wm_cx0 (wm_tb_ok tk_111) (by decide +kernel) [23] 250 (fun as M q qt hs => ?_)
  obtain ⟨a, i, rfl, hs1⟩ := mq_sII_e hs
  clear hs
  obtain ⟨cd, lm, st, sg, el, dr, sz, pr, wc, sp, nw, A, B, rfl, hs⟩ := mq_f_e hs1
  clear hs1
  obtain ⟨r1, r2, h0, h1, h2⟩ := hs
  refine ⟨rfl, fun mz pc lv sk h cu su => ∃ c : Int, ∃ p : Int, ∃ c0 : Int, lv = [some (wi_rf (some 11)), some (.inl (a)), some (.inl (i)), some (.inl (c)), some (.inl (p))] ∧ sk = [] ∧ h = ([c0, lm, st, sg, el, dr, sz, pr, wc, sp, nw], A, B) ∧ cu = 0 ∧ su = 0 ∧ mz = (pr - p).toNat ∧ 0 ≤ p ∧ p ≤ pr ∧ mq_cnt (fun k => decide (A 46 k = a)) p.toNat = c ∧ (0 ≤ i → c ≤ i) ∧ ((c0 = 0 ∧ 0 ≤ a ∧ a ≤ 3) ∨ (c0 = 1 ∧ (a < 0 ∨ 3 < a))), mq_c1 (fun mz lv sk h cu su hI => ?_), ?_⟩
  · obtain ⟨c, p, c0, rfl, rfl, rfl, rfl, rfl, rfl, p1, p2, p3, p4, p5⟩ := hI
    have p6 := mq_cnt_b (P := (fun k => decide (A 46 k = a))) p.toNat
    rcases p5 with ⟨rfl, p7, p8⟩ | ⟨rfl, p7⟩
    · repeat' first
        | exact h1 (by omega) (by omega) p (by omega) (by omega) (by simp only [decide_eq_true_eq]; omega) (by omega)
        | (have e : p = pr := (by omega); subst e; exact h2 (by omega) (by omega) (by omega))
        | exact h2 (by omega) (by omega) (by omega)
        | (refine Exists.intro _ (And.intro ?_ (Exists.intro (c + 1) (Exists.intro (p + 1) (Exists.intro (0) (And.intro rfl (And.intro rfl (And.intro rfl (And.intro rfl (And.intro rfl (And.intro rfl (?_))))))))))) <;> first | omega | exact ⟨by omega, by omega, by rw [mq_cnt_s p1]; simp only [decide_eq_true_eq]; first | (rw [if_pos (by omega)]; omega) | (rw [if_neg (by omega)]; omega), by omega, Or.inl ⟨rfl, p7, p8⟩⟩)
        | (refine Exists.intro _ (And.intro ?_ (Exists.intro (c) (Exists.intro (p + 1) (Exists.intro (0) (And.intro rfl (And.intro rfl (And.intro rfl (And.intro rfl (And.intro rfl (And.intro rfl (?_))))))))))) <;> first | omega | exact ⟨by omega, by omega, by rw [mq_cnt_s p1]; simp only [decide_eq_true_eq]; first | (rw [if_pos (by omega)]; omega) | (rw [if_neg (by omega)]; omega), by omega, Or.inl ⟨rfl, p7, p8⟩⟩)
        | refine And.intro ?_ ?_
        | (intro h; try omega)
        | omega
        | exact Nat.le_of_ble_eq_true rfl
    · repeat' first
        | exact h0 (by omega)
        | refine And.intro ?_ ?_
        | (intro h; try omega)
        | omega
        | exact Nat.le_of_ble_eq_true rfl
  · repeat' first
      | (refine Exists.intro _ (Exists.intro (0) (Exists.intro (0) (Exists.intro (0) (And.intro rfl (And.intro rfl (And.intro rfl (And.intro rfl (And.intro rfl (And.intro rfl (?_)))))))))) <;> first | omega | exact ⟨by omega, by omega, rfl, by omega, Or.inl ⟨rfl, by omega, by omega⟩⟩)
      | (refine Exists.intro _ (Exists.intro (0) (Exists.intro (0) (Exists.intro (1) (And.intro rfl (And.intro rfl (And.intro rfl (And.intro rfl (And.intro rfl (And.intro rfl (?_)))))))))) <;> first | omega | exact ⟨by omega, by omega, rfl, by omega, Or.inr ⟨rfl, by omega⟩⟩)
      | refine And.intro ?_ ?_
      | (intro h; try omega)
      | omega
      | exact Nat.le_of_ble_eq_true rfl
def sm_114 (as : List wi_V) (M : mq_H) (q : wi_Q1 mq_H) (_ : wi_Q2 mq_H) : Prop := mq_sI as (fun i => mq_f M fun cd lm st sg el dr sz pr wc sp nw A B => 0 ≤ sg ∧ sg ≤ 200 ∧ (∀ r : Int, 0 ≤ r → r < sg → (fun k => decide (A 34 k ≠ 0)) r.toNat = true → mq_cnt (fun k => decide (A 34 k ≠ 0)) r.toNat = i → q (some (.inl r)) ([0, lm, st, sg, el, dr, sz, pr, wc, sp, nw], A, B)) ∧ (i < 0 ∨ mq_cnt (fun k => decide (A 34 k ≠ 0)) sg.toNat ≤ i → q (some (.inl (-1))) ([0, lm, st, sg, el, dr, sz, pr, wc, sp, nw], A, B)))
theorem mm_114 {l : Launch} {D : va_G} {aC : wm_Y} {b0 : Nat} (hl0 : l.stackTraces = false) : wm_sp l D aC b0 114 (wi_lf mq_Rl sm_114) := by
  refine wi_method mq_lw 114 (cx := fun _ _ _ _ _ => False) (ids := ci_114) (tb := tb_114) (by decide +kernel) hl0 wm_cx0 (wm_tb_ok tk_114) (by decide +kernel) [9] 250 (fun as M q qt hs => ?_)
  obtain ⟨i, rfl, hs1⟩ := mq_sI_e hs
  clear hs
  obtain ⟨cd, lm, st, sg, el, dr, sz, pr, wc, sp, nw, A, B, rfl, hs⟩ := mq_f_e hs1
  clear hs1
  obtain ⟨r1, r2, h1, h2⟩ := hs
  refine ⟨rfl, fun mz pc lv sk h cu su => ∃ c : Int, ∃ p : Int, lv = [some (wi_rf (some 11)), some (.inl (i)), some (.inl (c)), some (.inl (p))] ∧ sk = [] ∧ h = ([0, lm, st, sg, el, dr, sz, pr, wc, sp, nw], A, B) ∧ cu = 0 ∧ su = 0 ∧ mz = (sg - p).toNat ∧ 0 ≤ p ∧ p ≤ sg ∧ mq_cnt (fun k => decide (A 34 k ≠ 0)) p.toNat = c ∧ (0 ≤ i → c ≤ i), mq_c1 (fun mz lv sk h cu su hI => ?_), ?_⟩
  · obtain ⟨c, p, rfl, rfl, rfl, rfl, rfl, rfl, p1, p2, p3, p4⟩ := hI
    have p6 := mq_cnt_b (P := (fun k => decide (A 34 k ≠ 0))) p.toNat
    repeat' first
      | exact h1 p (by omega) (by omega) (by simp only [decide_eq_true_eq]; omega) (by omega)
      | (have e : p = sg := (by omega); subst e; exact h2 (by omega))
      | exact h2 (by omega)
      | (refine Exists.intro _ (And.intro ?_ (Exists.intro (c + 1) (Exists.intro (p + 1) (And.intro rfl (And.intro rfl (And.intro rfl (And.intro rfl (And.intro rfl (And.intro rfl (?_)))))))))) <;> first | omega | exact ⟨by omega, by omega, by rw [mq_cnt_s p1]; simp only [decide_eq_true_eq]; first | (rw [if_pos (by omega)]; omega) | (rw [if_neg (by omega)]; omega), by omega⟩)
      | (refine Exists.intro _ (And.intro ?_ (Exists.intro (c) (Exists.intro (p + 1) (And.intro rfl (And.intro rfl (And.intro rfl (And.intro rfl (And.intro rfl (And.intro rfl (?_)))))))))) <;> first | omega | exact ⟨by omega, by omega, by rw [mq_cnt_s p1]; simp only [decide_eq_true_eq]; first | (rw [if_pos (by omega)]; omega) | (rw [if_neg (by omega)]; omega), by omega⟩)
      | refine And.intro ?_ ?_
      | (intro h; try omega)
      | omega
      | exact Nat.le_of_ble_eq_true rfl
  · refine Exists.intro _ (Exists.intro (0) (Exists.intro (0) (And.intro rfl (And.intro rfl (And.intro rfl (And.intro rfl (And.intro rfl (And.intro rfl (⟨by omega, by omega, rfl, by omega⟩)))))))))
def sm_117 (as : List wi_V) (M : mq_H) (q : wi_Q1 mq_H) (_ : wi_Q2 mq_H) : Prop := mq_sIII as (fun p s k => mq_f M fun cd lm st sg el dr sz pr wc sp nw A B => sg ≤ 200 ∧ 0 ≤ dr ∧ dr ≤ 512 ∧ 0 ≤ sz ∧ sz ≤ 8192 ∧ (∀ s : Nat, (s : Int) < sg → 0 ≤ A 32 s ∧ A 32 s + A 31 s ≤ 512) ∧ (p < 0 ∨ pr ≤ p ∨ s < 0 ∨ sg ≤ s ∨ k < 0 ∨ A 31 s.toNat ≤ k → q (some (.inl 0)) ([1, lm, st, sg, el, dr, sz, pr, wc, sp, nw], A, B)) ∧ (0 ≤ p → p < pr → 0 ≤ s → s < sg → 0 ≤ k → k < A 31 s.toNat → (∀ j : Nat, (j : Int) < dr → ¬ (A 37 j = p ∧ A 38 j = A 32 s.toNat + k)) → q (some (.inl (-1))) ([0, lm, st, sg, el, dr, sz, pr, wc, sp, nw], A, B)) ∧ (0 ≤ p → p < pr → 0 ≤ s → s < sg → 0 ≤ k → k < A 31 s.toNat → ∀ d : Int, 0 ≤ d → d < dr → A 37 d.toNat = p → A 38 d.toNat = A 32 s.toNat + k → q (some (.inl (mq_row A B d sz.toNat).length)) ([0, lm, st, sg, el, dr, sz, pr, wc, sp, nw], A, B)))
theorem mm_117 {l : Launch} {D : va_G} {aC : wm_Y} {b0 : Nat} (hl0 : l.stackTraces = false) : wm_sp l D aC b0 117 (wi_lf mq_Rl sm_117) := by
  refine wi_method mq_lw 117 (cx := fun id => if id = 80 then sm_80 else if id = 82 then sm_82 else if id = 85 then sm_85 else fun _ _ _ _ => False) (ids := ci_117) (tb := tb_117) (by decide +kernel) hl0 (wm_cxc (mm_80 hl0) oi_117 (fun h => wm_cxc (mm_82 hl0) h (fun h => wm_cxc (mm_85 hl0) h (fun h => wm_cxn h)))) (wm_tb_ok tk_117) (by decide +kernel) [64] 250 (fun as M q qt hs => ?_)
  obtain ⟨p, s, k, rfl, hs1⟩ := mq_sIII_e hs
  clear hs
  obtain ⟨cd, lm, st, sg, el, dr, sz, pr, wc, sp, nw, A, B, rfl, hs⟩ := mq_f_e hs1
  clear hs1
  obtain ⟨r1, r2, r3, r4, r5, r6, h1, h2, h3⟩ := hs
  have r7 := r6 s.toNat
  clear r6
  refine ⟨rfl, fun mz pc lv sk h cu su => ∃ d : Int, ∃ c : Int, ∃ i : Int, lv = [some (wi_rf (some 11)), some (.inl (p)), some (.inl (s)), some (.inl (k)), some (.inl (d)), some (.inl (c)), some (.inl (i))] ∧ sk = [] ∧ h = ([0, lm, st, sg, el, dr, sz, pr, wc, sp, nw], A, B) ∧ cu = 0 ∧ su = 0 ∧ mz = (sz - i).toNat ∧ 0 ≤ i ∧ i ≤ sz ∧ 0 ≤ d ∧ d < dr ∧ A 37 d.toNat = p ∧ A 38 d.toNat = A 32 s.toNat + k ∧ 0 ≤ p ∧ p < pr ∧ 0 ≤ s ∧ s < sg ∧ 0 ≤ k ∧ k < A 31 s.toNat ∧ c = (mq_row A B d i.toNat).length, mq_c1 (fun mz lv sk h cu su hI => ?_), ?_⟩
  · obtain ⟨d, c, i, rfl, rfl, rfl, rfl, rfl, rfl, p1, p2, p3, p4, p5, p6, p7, p8, p9, p10, p11, p12, rfl⟩ := hI
    have p13 := mq_row_b (A := A) (B := B) (d := d) i.toNat
    repeat' first
      | (have e : i = sz := (by omega); subst e; exact h3 p7 p8 p9 p10 p11 p12 d p3 p4 p5 p6)
      | (refine Exists.intro _ (And.intro ?_ (Exists.intro (d) (Exists.intro (((mq_row A B d i.toNat).length : Int) + 1) (Exists.intro (i + 1) (And.intro rfl (And.intro rfl (And.intro rfl (And.intro rfl (And.intro rfl (And.intro rfl (?_))))))))))) <;> first | omega | exact ⟨by omega, by omega, p3, p4, p5, p6, p7, p8, p9, p10, p11, p12, by rw [mq_row_s p1]; first | (rw [if_pos (by omega), List.length_append]; rfl) | (rw [if_neg (by omega)])⟩)
      | (refine Exists.intro _ (And.intro ?_ (Exists.intro (d) (Exists.intro (((mq_row A B d i.toNat).length : Int)) (Exists.intro (i + 1) (And.intro rfl (And.intro rfl (And.intro rfl (And.intro rfl (And.intro rfl (And.intro rfl (?_))))))))))) <;> first | omega | exact ⟨by omega, by omega, p3, p4, p5, p6, p7, p8, p9, p10, p11, p12, by rw [mq_row_s p1]; first | (rw [if_pos (by omega), List.length_append]; rfl) | (rw [if_neg (by omega)])⟩)
      | refine And.intro ?_ ?_
      | (intro h; try omega)
      | omega
      | exact Nat.le_of_ble_eq_true rfl
  · repeat' first
      | exact h1 (by omega)
      | exact h2 (by omega) (by omega) (by omega) (by omega) (by omega) (by omega) (by assumption)
      | (refine Exists.intro _ (Exists.intro (_) (Exists.intro (0) (Exists.intro (0) (And.intro rfl (And.intro rfl (And.intro rfl (And.intro rfl (And.intro rfl (And.intro rfl (?_)))))))))) <;> first | omega | (refine ⟨by omega, by omega, by omega, by omega, ?_, ?_, by omega, by omega, by omega, by omega, by omega, by omega, rfl⟩ <;> assumption))
      | refine And.intro ?_ ?_
      | (intro h; try omega)
      | omega
      | exact Nat.le_of_ble_eq_true rfl
def sm_118 (as : List wi_V) (M : mq_H) (q : wi_Q1 mq_H) (_ : wi_Q2 mq_H) : Prop := mq_sIIIJ as (fun p s k t => mq_f M fun cd lm st sg el dr sz pr wc sp nw A B => sg ≤ 200 ∧ 0 ≤ dr ∧ dr ≤ 512 ∧ 0 ≤ sz ∧ sz ≤ 8192 ∧ (∀ s : Nat, (s : Int) < sg → 0 ≤ A 32 s ∧ A 32 s + A 31 s ≤ 512) ∧ (p < 0 ∨ pr ≤ p ∨ s < 0 ∨ sg ≤ s ∨ k < 0 ∨ A 31 s.toNat ≤ k → q (some (.inl 0)) ([1, lm, st, sg, el, dr, sz, pr, wc, sp, nw], A, B)) ∧ (0 ≤ p → p < pr → 0 ≤ s → s < sg → 0 ≤ k → k < A 31 s.toNat → t < nw → q (some (.inl 0)) ([2, lm, st, sg, el, dr, sz, pr, wc, sp, nw], A, B)) ∧ (0 ≤ p → p < pr → 0 ≤ s → s < sg → 0 ≤ k → k < A 31 s.toNat → nw ≤ t → (∀ j : Nat, (j : Int) < dr → ¬ (A 37 j = p ∧ A 38 j = A 32 s.toNat + k)) → q (some (.inl 0)) ([0, lm, st, sg, el, dr, sz, pr, wc, sp, nw], A, B)) ∧ (0 ≤ p → p < pr → 0 ≤ s → s < sg → 0 ≤ k → k < A 31 s.toNat → nw ≤ t → ∀ d : Int, 0 ≤ d → d < dr → A 37 d.toNat = p → A 38 d.toNat = A 32 s.toNat + k → q (some (.inl ((mq_row A B d sz.toNat).foldl (mq_va t) (A 39 d.toNat)))) ([0, lm, st, sg, el, dr, sz, pr, wc, sp, nw], A, B)))
theorem mm_118 {l : Launch} {D : va_G} {aC : wm_Y} {b0 : Nat} (hl0 : l.stackTraces = false) : wm_sp l D aC b0 118 (wi_lf mq_Rl sm_118) := by
  refine wi_method mq_lw 118 (cx := fun id => if id = 80 then sm_80 else if id = 82 then sm_82 else if id = 85 then sm_85 else fun _ _ _ _ => False) (ids := ci_118) (tb := tb_118) (by decide +kernel) hl0 (wm_cxc (mm_80 hl0) oi_118 (fun h => wm_cxc (mm_82 hl0) h (fun h => wm_cxc (mm_85 hl0) h (fun h => wm_cxn h)))) (wm_tb_ok tk_118) (by decide +kernel) [84] 250 (fun as M q qt hs => ?_)
  obtain ⟨p, s, k, t, rfl, hs1⟩ := mq_sIIIJ_e hs
  clear hs
  obtain ⟨cd, lm, st, sg, el, dr, sz, pr, wc, sp, nw, A, B, rfl, hs⟩ := mq_f_e hs1
  clear hs1
  obtain ⟨r1, r2, r3, r4, r5, r6, h1, h0, h2, h3⟩ := hs
  have r7 := r6 s.toNat
  clear r6
  refine ⟨rfl, fun mz pc lv sk h cu su => ∃ d : Int, ∃ c : Int, ∃ i : Int, lv = [some (wi_rf (some 11)), some (.inl (p)), some (.inl (s)), some (.inl (k)), some (.inr (.inl (t))), none, some (.inl (d)), some (.inl (c)), some (.inl (i))] ∧ sk = [] ∧ h = ([0, lm, st, sg, el, dr, sz, pr, wc, sp, nw], A, B) ∧ cu = 0 ∧ su = 0 ∧ mz = (sz - i).toNat ∧ 0 ≤ i ∧ i ≤ sz ∧ 0 ≤ d ∧ d < dr ∧ A 37 d.toNat = p ∧ A 38 d.toNat = A 32 s.toNat + k ∧ 0 ≤ p ∧ p < pr ∧ 0 ≤ s ∧ s < sg ∧ 0 ≤ k ∧ k < A 31 s.toNat ∧ nw ≤ t ∧ c = (mq_row A B d i.toNat).foldl (mq_va t) (A 39 d.toNat), mq_c1 (fun mz lv sk h cu su hI => ?_), ?_⟩
  · obtain ⟨d, c, i, rfl, rfl, rfl, rfl, rfl, rfl, p1, p2, p3, p4, p5, p6, p7, p8, p9, p10, p11, p12, p14, rfl⟩ := hI
    repeat' first
      | (have e : i = sz := (by omega); subst e; exact h3 p7 p8 p9 p10 p11 p12 p14 d p3 p4 p5 p6)
      | (refine Exists.intro _ (And.intro ?_ (Exists.intro (d) (Exists.intro (A 42 i.toNat) (Exists.intro (i + 1) (And.intro rfl (And.intro rfl (And.intro rfl (And.intro rfl (And.intro rfl (And.intro rfl (?_))))))))))) <;> first | omega | exact ⟨by omega, by omega, p3, p4, p5, p6, p7, p8, p9, p10, p11, p12, p14, by rw [mq_row_s p1]; first | (rw [if_pos (by omega), List.foldl_append]; simp only [List.foldl_cons, List.foldl_nil]; first | exact (if_pos (by omega)).symm | exact (if_neg (by omega)).symm) | (rw [if_neg (by omega)])⟩)
      | (refine Exists.intro _ (And.intro ?_ (Exists.intro (d) (Exists.intro ((mq_row A B d i.toNat).foldl (mq_va t) (A 39 d.toNat)) (Exists.intro (i + 1) (And.intro rfl (And.intro rfl (And.intro rfl (And.intro rfl (And.intro rfl (And.intro rfl (?_))))))))))) <;> first | omega | exact ⟨by omega, by omega, p3, p4, p5, p6, p7, p8, p9, p10, p11, p12, p14, by rw [mq_row_s p1]; first | (rw [if_pos (by omega), List.foldl_append]; simp only [List.foldl_cons, List.foldl_nil]; first | exact (if_pos (by omega)).symm | exact (if_neg (by omega)).symm) | (rw [if_neg (by omega)])⟩)
      | refine And.intro ?_ ?_
      | (intro h; try omega)
      | omega
      | exact Nat.le_of_ble_eq_true rfl
  · repeat' first
      | exact h1 (by omega)
      | exact h0 (by omega) (by omega) (by omega) (by omega) (by omega) (by omega) (by omega)
      | exact h2 (by omega) (by omega) (by omega) (by omega) (by omega) (by omega) (by omega) (by assumption)
      | (refine Exists.intro _ (Exists.intro (_) (Exists.intro (_) (Exists.intro (0) (And.intro rfl (And.intro rfl (And.intro rfl (And.intro rfl (And.intro rfl (And.intro rfl (?_)))))))))) <;> first | omega | (refine ⟨by omega, by omega, by omega, by omega, ?_, ?_, by omega, by omega, by omega, by omega, by omega, by omega, by omega, rfl⟩ <;> assumption))
      | refine And.intro ?_ ?_
      | (intro h; try omega)
      | omega
      | exact Nat.le_of_ble_eq_true rfl
