/-! THE CLASS, 5: rows, further -/
def sc_43 (as : List wi_V) (h : wc_H) (q : wi_Q1 wc_H) (qt : wi_Q2 wc_H) : Prop := wc_sTJ as (fun x t => wc_f h fun tg ln I L R n => ∃ s cs ids, wc_rs (tg, ln, I, L, R, n) x s cs ids ∧ (cs.length : Int) ≤ I 7 0 s ∧ I 7 0 s ≤ 100000 ∧ ∀ I1 R1, wc_rs (tg, ln, I1, L, R1, n) x s (cs.takeWhile (fun a => decide (L 9 0 a < t))) ((cs.dropWhile (fun a => decide (L 9 0 a < t))).reverse ++ ids) → wc_ro (tg, ln, I, L, R, n) (tg, ln, I1, L, R1, n) x s (cs ++ ids) → I1 7 0 s = I 7 0 s - (cs.dropWhile (fun a => decide (L 9 0 a < t))).length → (∀ t j a, ¬ (t = 7 ∧ j = 0 ∧ a = s) → I1 t j a = I t j a) → q (some (.inl ((cs.dropWhile (fun a => decide (L 9 0 a < t))).length : Int))) (tg, ln, I1, L, R1, n))
theorem cm_43 {l : Launch} {D : va_G} {aC : wm_Y} {b0 : Nat} (hl0 : l.stackTraces = false) : wm_sp l D aC b0 43 (wi_lf (wc_Rl wc_ok) sc_43) := by
  refine wi_method (wc_lw wc_ok) 43 (cx := fun id => if id = 42 then sc_42 else if id = 46 then sc_46 else fun _ _ _ _ => False) (ids := ci_43) (tb := tb_43) (by decide +kernel) hl0 (wm_cxc (cm_42 hl0) oi_43 (fun h => wm_cxc (cm_46 hl0) h (fun h => wm_cxn h))) (wm_tb_ok tk_43) (by decide +kernel) [] 250 (fun as h q qt hs => ?_)
  obtain ⟨x, t, rfl, hs1⟩ := wc_sTJ_e hs
  clear hs
  obtain ⟨tg, ln, I, L, R, n⟩ := h
  have hs := id hs1
  clear hs1
  simp only [wc_f] at hs
  refine ⟨rfl, fun _ _ _ _ _ _ _ => False, mq_nc, ?_⟩
  obtain ⟨s, cs, ids, hr, r1, r2, h1⟩ := hs
  obtain ⟨a1, a2, a3, a4, a5, a6, a7⟩ := id hr
  simp only at a1 a2 a3 a4 a5 a7
  have e0 : cs.takeWhile (fun a => decide (L 9 0 a < t)) ++ cs.dropWhile (fun a => decide (L 9 0 a < t)) = cs := List.takeWhile_append_dropWhile
  have e1 : cs.takeWhile (fun a => decide (L 9 0 a < t)) ++ cs.dropWhile (fun a => decide (L 9 0 a < t)) ++ [] = cs := by rw [List.append_nil]; exact e0
  have r3 : ((cs.dropWhile (fun a => decide (L 9 0 a < t))).length : Int) ≤ I 7 0 s := by
    have := congrArg List.length e0
    rw [List.length_append] at this
    omega
  have hq : ∀ I1 R1, wc_rs (tg, ln, I1, L, R1, n) x s (cs.takeWhile (fun a => decide (L 9 0 a < t)) ++ []) ((cs.dropWhile (fun a => decide (L 9 0 a < t))).reverse ++ ids) → wc_ro (tg, ln, I, L, R, n) (tg, ln, I1, L, R1, n) x s (cs.takeWhile (fun a => decide (L 9 0 a < t)) ++ cs.dropWhile (fun a => decide (L 9 0 a < t)) ++ [] ++ ids) → I1 7 0 s = I 7 0 s - (cs.dropWhile (fun a => decide (L 9 0 a < t))).length → (∀ t j a, ¬ (t = 7 ∧ j = 0 ∧ a = s) → I1 t j a = I t j a) → q (some (.inl ((cs.dropWhile (fun a => decide (L 9 0 a < t))).length : Int))) (tg, ln, I1, L, R1, n) := fun I1 R1 z1 z2 z3 z4 => by
    rw [List.append_nil] at z1
    rw [e1] at z2
    exact h1 I1 R1 z1 z2 z3 z4
  repeat' first
    | refine And.intro ?_ ?_
    | refine Exists.intro cs (And.intro a4 (And.intro (fun a ha => (a7 a (List.mem_append_left _ ha)).1) ?_))
    | refine Exists.intro s (Exists.intro (cs.takeWhile (fun a => decide (L 9 0 a < t))) (Exists.intro (cs.dropWhile (fun a => decide (L 9 0 a < t))) (Exists.intro [] (Exists.intro ids (And.intro (by rw [e1]; exact hr) (And.intro rfl (And.intro rfl (And.intro r3 (And.intro r2 ?_)))))))))
    | (intro I1 R1 z1 z2 z3 z4; have hz := hq I1 R1 z1 z2 z3 z4)
    | exact hz
    | refine Exists.intro _ (And.intro (show _ = _ from by assumption) ?_)
    | refine Exists.intro _ (And.intro rfl (And.intro (by assumption) ?_))
    | refine Exists.intro _ (And.intro rfl ?_)
    | (intro h; try omega)
    | omega
    | exact a4
    | exact hr
    | exact Nat.le_of_ble_eq_true rfl
    | assumption
def sc_44 (as : List wi_V) (h : wc_H) (q : wi_Q1 wc_H) (qt : wi_Q2 wc_H) : Prop := wc_sTJI as (fun x t c => wc_f h fun tg ln I L R n => ∃ s cs ids, wc_rs (tg, ln, I, L, R, n) x s cs ids ∧ (cs.length : Int) ≤ I 7 0 s ∧ I 7 0 s ≤ 100000 ∧ ∀ D K I1 R1, cs.dropWhile (fun a => decide (L 9 0 a < t)) = D ++ K → (∀ a ∈ K, I 9 1 a = c) → (∀ b, D.getLast? = some b → I 9 1 b ≠ c) → wc_rs (tg, ln, I1, L, R1, n) x s (cs.takeWhile (fun a => decide (L 9 0 a < t)) ++ K) (D.reverse ++ ids) → wc_ro (tg, ln, I, L, R, n) (tg, ln, I1, L, R1, n) x s (cs ++ ids) → I1 7 0 s = I 7 0 s - D.length → (∀ t j a, ¬ (t = 7 ∧ j = 0 ∧ a = s) → I1 t j a = I t j a) → q (some (.inl (D.length : Int))) (tg, ln, I1, L, R1, n))
theorem cm_44 {l : Launch} {D : va_G} {aC : wm_Y} {b0 : Nat} (hl0 : l.stackTraces = false) : wm_sp l D aC b0 44 (wi_lf (wc_Rl wc_ok) sc_44) := by
  refine wi_method (wc_lw wc_ok) 44 (cx := fun id => if id = 42 then sc_42 else if id = 46 then sc_46 else fun _ _ _ _ => False) (ids := ci_44) (tb := tb_44) (by decide +kernel) hl0 (wm_cxc (cm_42 hl0) oi_44 (fun h => wm_cxc (cm_46 hl0) h (fun h => wm_cxn h))) (wm_tb_ok tk_44) (by decide +kernel) [30] 250 (fun as h q qt hs => ?_)
  obtain ⟨x, t, c, rfl, hs1⟩ := wc_sTJI_e hs
  clear hs
  obtain ⟨tg, ln, I, L, R, n⟩ := h
  have hs := id hs1
  clear hs1
  simp only [wc_f] at hs
  obtain ⟨s, cs, ids, hr, r1, r2, h1⟩ := hs
  obtain ⟨a1, a2, a3, a4, a5, a6, a7⟩ := id hr
  simp only at a1 a2 a3 a4 a5 a7
  have e0 : cs.takeWhile (fun a => decide (L 9 0 a < t)) ++ cs.dropWhile (fun a => decide (L 9 0 a < t)) = cs := List.takeWhile_append_dropWhile
  have m9 : ∀ a ∈ cs, tg a = 9 := fun a ha => (a7 a (List.mem_append_left _ ha)).1
  have mT : ∀ a ∈ cs.takeWhile (fun a => decide (L 9 0 a < t)), a ∈ cs := fun a ha => e0 ▸ List.mem_append_left _ ha
  have mD : ∀ a ∈ cs.dropWhile (fun a => decide (L 9 0 a < t)), a ∈ cs := fun a ha => e0 ▸ List.mem_append_right _ ha
  obtain ⟨y, g1, g2⟩ := wc_ch_s (A := cs.takeWhile (fun a => decide (L 9 0 a < t))) (B := cs.dropWhile (fun a => decide (L 9 0 a < t))) (by rw [e0]; exact a4)
  have g3 := wc_ch_h g2
  refine ⟨rfl, fun mz pc lv sk h cu su => ∃ D : List Nat, ∃ K : List Nat, ∃ r : List Nat, lv = [some (wi_rf (some x)), some (.inr (.inl (t))), none, some (.inl (c)), some (wi_rf ((cs.takeWhile (fun a => decide (L 9 0 a < t))).getLast?)), some (wi_rf ((K ++ r).head?)), some (wi_rf (r.head?))] ∧ sk = [] ∧ h = (tg, ln, I, L, R, n) ∧ cu = 0 ∧ su = 0 ∧ mz = r.length ∧ cs.dropWhile (fun a => decide (L 9 0 a < t)) = D ++ K ++ r ∧ wc_ch R r.head? r ∧ (∀ a ∈ K, I 9 1 a = c) ∧ (∀ b, D.getLast? = some b → I 9 1 b ≠ c), mq_c1 (fun mz lv sk h cu su hI => ?_), ?_⟩
  · obtain ⟨D9, K, r, rfl, rfl, rfl, rfl, rfl, rfl, p1, p2, p3, p4⟩ := hI
    cases r with
    | nil =>
      rw [List.append_nil] at p1
      have e1 : cs.takeWhile (fun a => decide (L 9 0 a < t)) ++ D9 ++ K = cs := by rw [List.append_assoc, ← p1]; exact e0
      have r3 : (D9.length : Int) ≤ I 7 0 s := by
        have := congrArg List.length e1
        rw [List.length_append, List.length_append] at this
        omega
      repeat' first
        | refine And.intro ?_ ?_
        | refine Exists.intro s (Exists.intro (cs.takeWhile (fun a => decide (L 9 0 a < t))) (Exists.intro D9 (Exists.intro K (Exists.intro ids (And.intro (by rw [e1]; exact hr) (And.intro rfl (And.intro (by rw [List.append_nil]) (And.intro r3 (And.intro r2 ?_)))))))))
        | (intro I1 R1 z1 z2 z3 z4; rw [e1] at z2; have hz := h1 D9 K I1 R1 p1 p3 p4 z1 z2 z3 z4)
        | exact hz
        | (intro q9 (e9 : (_ : Option Nat) = some q9); cases e9)
        | (intro (e9 : (some _ : Option Nat) = none); cases e9)
        | (intro (e9 : (none : Option Nat) = none); clear e9)
        | (intro (e9 : (_ : Option Nat) ≠ _); exact absurd rfl e9)
        | (intro (e9 : (some _ : Option Nat) = some _); clear e9)
        | refine Exists.intro _ (And.intro (show _ = _ from by assumption) ?_)
        | refine Exists.intro _ (And.intro rfl (And.intro (by assumption) ?_))
        | refine Exists.intro _ (And.intro rfl ?_)
        | (intro h; try omega)
        | omega
        | exact hz
        | exact Nat.le_of_ble_eq_true rfl
        | assumption
    | cons a r =>
      have b1 : tg a = 9 := m9 a (mD a (by rw [p1]; simp))
      replace p2 : wc_ch R (R 9 2 a) r := p2.2
      have hh := wc_ch_h p2
      rw [hh] at p2
      repeat' first
        | refine And.intro ?_ ?_
        | (intro q9 (e9 : (_ : Option Nat) = some q9); cases e9)
        | (intro (e9 : (some _ : Option Nat) = none); cases e9)
        | (intro (e9 : (none : Option Nat) = none); clear e9)
        | (intro (e9 : (_ : Option Nat) ≠ _); exact absurd rfl e9)
        | (intro (e9 : (some _ : Option Nat) = some _); clear e9)
        | refine Exists.intro _ (And.intro (show _ = _ from by assumption) ?_)
        | refine Exists.intro _ (And.intro rfl (And.intro (by assumption) ?_))
        | refine Exists.intro _ (And.intro rfl ?_)
        | (intro h; try omega)
        | omega
        | (have g9 : I 9 1 a ≠ c := (by assumption); refine Exists.intro _ (And.intro ?_ (Exists.intro (D9 ++ K ++ [a]) (Exists.intro ([]) (Exists.intro (r) (And.intro rfl (And.intro rfl (And.intro rfl (And.intro rfl (And.intro rfl (And.intro rfl (?_))))))))))) <;> first | exact Nat.lt_succ_self _ | exact ⟨by rw [p1]; simp, p2, fun b hb => (by cases hb), fun b hb => (by rw [List.getLast?_append] at hb; simp at hb; rw [← hb]; exact g9)⟩)
        | (have g9 : I 9 1 a = c := (by assumption); refine Exists.intro _ (And.intro ?_ (Exists.intro (D9) (Exists.intro (K ++ [a]) (Exists.intro (r) (And.intro (by rw [List.append_assoc]; rfl) (And.intro rfl (And.intro rfl (And.intro rfl (And.intro rfl (And.intro rfl (?_))))))))))) <;> first | exact Nat.lt_succ_self _ | exact ⟨by rw [p1]; simp, p2, fun b hb => (by rcases List.mem_append.mp hb with z | z; exact p3 b z; rw [List.mem_singleton.mp z]; exact g9), p4⟩)
        | exact Nat.le_of_ble_eq_true rfl
        | assumption
  · rcases List.eq_nil_or_concat (cs.takeWhile (fun a => decide (L 9 0 a < t))) with hP | ⟨P', p, hP⟩
    · have hl : (cs.takeWhile (fun a => decide (L 9 0 a < t))).getLast? = none := by rw [hP]; rfl
      have hy : R 4 1 x = y := by rw [hP] at g1; exact g1
      rw [g3] at g2 hy
      repeat' first
        | refine And.intro ?_ ?_
        | refine Exists.intro cs (And.intro a4 (And.intro m9 ?_))
        | (rw [hl])
        | (intro q9 (e9 : (_ : Option Nat) = some q9); cases e9)
        | (intro (e9 : (some _ : Option Nat) = none); cases e9)
        | (intro (e9 : (none : Option Nat) = none); clear e9)
        | (intro (e9 : (_ : Option Nat) ≠ _); exact absurd rfl e9)
        | (intro (e9 : (some _ : Option Nat) = some _); clear e9)
        | refine Exists.intro _ (And.intro (show _ = _ from by assumption) ?_)
        | refine Exists.intro _ (And.intro rfl (And.intro (by assumption) ?_))
        | refine Exists.intro _ (And.intro rfl ?_)
        | (intro h; try omega)
        | omega
        | (refine Exists.intro _ (Exists.intro ([]) (Exists.intro ([]) (Exists.intro (cs.dropWhile (fun a => decide (L 9 0 a < t))) (And.intro (by rw [hl]; rfl) (And.intro rfl (And.intro rfl (And.intro rfl (And.intro rfl (And.intro rfl (?_)))))))))) <;> exact ⟨rfl, g2, fun a ha => (by cases ha), fun b hb => (by cases hb)⟩)
        | (refine Exists.intro _ (Exists.intro ([]) (Exists.intro ([]) (Exists.intro (cs.dropWhile (fun a => decide (L 9 0 a < t))) (And.intro rfl (And.intro rfl (And.intro rfl (And.intro rfl (And.intro rfl (And.intro rfl (?_)))))))))) <;> exact ⟨rfl, g2, fun a ha => (by cases ha), fun b hb => (by cases hb)⟩)
        | exact Nat.le_of_ble_eq_true rfl
        | assumption
    · rw [List.concat_eq_append] at hP
      have hl : (cs.takeWhile (fun a => decide (L 9 0 a < t))).getLast? = some p := by rw [hP]; simp
      have b1 : tg p = 9 := m9 p (mT p (by rw [hP]; simp))
      rw [hP] at g1
      obtain ⟨g4, g5⟩ := wc_sg_e g1
      rw [g3] at g2 g5
      repeat' first
        | refine And.intro ?_ ?_
        | refine Exists.intro cs (And.intro a4 (And.intro m9 ?_))
        | (rw [hl])
        | (intro q9 (e9 : (_ : Option Nat) = some q9); cases e9)
        | (intro (e9 : (some _ : Option Nat) = none); cases e9)
        | (intro (e9 : (none : Option Nat) = none); clear e9)
        | (intro (e9 : (_ : Option Nat) ≠ _); exact absurd rfl e9)
        | (intro (e9 : (some _ : Option Nat) = some _); clear e9)
        | refine Exists.intro _ (And.intro (show _ = _ from by assumption) ?_)
        | refine Exists.intro _ (And.intro rfl (And.intro (by assumption) ?_))
        | refine Exists.intro _ (And.intro rfl ?_)
        | (intro h; try omega)
        | omega
        | (refine Exists.intro _ (Exists.intro ([]) (Exists.intro ([]) (Exists.intro (cs.dropWhile (fun a => decide (L 9 0 a < t))) (And.intro (by rw [hl]; rfl) (And.intro rfl (And.intro rfl (And.intro rfl (And.intro rfl (And.intro rfl (?_)))))))))) <;> exact ⟨rfl, g2, fun a ha => (by cases ha), fun b hb => (by cases hb)⟩)
        | (refine Exists.intro _ (Exists.intro ([]) (Exists.intro ([]) (Exists.intro (cs.dropWhile (fun a => decide (L 9 0 a < t))) (And.intro rfl (And.intro rfl (And.intro rfl (And.intro rfl (And.intro rfl (And.intro rfl (?_)))))))))) <;> exact ⟨rfl, g2, fun a ha => (by cases ha), fun b hb => (by cases hb)⟩)
        | exact Nat.le_of_ble_eq_true rfl
        | assumption
