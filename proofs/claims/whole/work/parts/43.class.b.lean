/-! THE CLASS, 2: values laid down, constructors -/
def sc_49 (as : List wi_V) (h : wc_H) (q : wi_Q1 wc_H) (qt : wi_Q2 wc_H) : Prop := wc_sTI as (fun x v => wc_f h fun tg ln I L R n => tg x = 5 ∧ (I 5 0 x = 2 ∨ (0 ≤ v ∧ v ≤ 8) → q (some (.inl 1)) (tg, ln, I, L, R, n)) ∧ (I 5 0 x ≠ 2 → v < 0 ∨ 8 < v → q (some (.inl 0)) (tg, ln, I, L, R, n)))
theorem cm_49 {l : Launch} {D : va_G} {aC : wm_Y} {b0 : Nat} (hl0 : l.stackTraces = false) : wm_sp l D aC b0 49 (wi_lf (wc_Rl wc_ok) sc_49) := by
  refine wi_method (wc_lw wc_ok) 49 (cx := fun _ _ _ _ _ => False) (ids := ci_49) (tb := tb_49) (by decide +kernel) hl0 wm_cx0 (wm_tb_ok tk_49) (by decide +kernel) [] 250 (fun as h q qt hs => ?_)
  obtain ⟨x, v, rfl, hs1⟩ := wc_sTI_e hs
  clear hs
  obtain ⟨tg, ln, I, L, R, n⟩ := h
  have hs := id hs1
  clear hs1
  simp only [wc_f] at hs
  refine ⟨rfl, fun _ _ _ _ _ _ _ => False, mq_nc, ?_⟩
  obtain ⟨a1, h1, h2⟩ := hs
  repeat' first
    | refine And.intro ?_ ?_
    | refine Exists.intro _ (And.intro (show _ = _ from by assumption) ?_)
    | refine Exists.intro _ (And.intro rfl (And.intro (by assumption) ?_))
    | refine Exists.intro _ (And.intro rfl ?_)
    | (intro h; try omega)
    | omega
    | exact h1 (by omega)
    | exact h2 (by omega) (by omega)
    | exact Nat.le_of_ble_eq_true rfl
    | assumption
def sc_74 (as : List wi_V) (h : wc_H) (q : wi_Q1 wc_H) (qt : wi_Q2 wc_H) : Prop := wc_sTII as (fun x i k => wc_f h fun tg ln I L R n => tg x = 10 ∧ ∃ d, R 10 0 x = some d ∧ tg d = 23 ∧ ln d = 16 ∧ ∃ e, R 10 1 x = some e ∧ tg e = 24 ∧ ln e = 1024 ∧ 0 ≤ i ∧ i < 16 ∧ 0 ≤ k ∧ k < 64 ∧ q (some (.inl (I 24 (i * 64 + k).toNat e))) (tg, ln, I, L, R, n))
theorem cm_74 {l : Launch} {D : va_G} {aC : wm_Y} {b0 : Nat} (hl0 : l.stackTraces = false) : wm_sp l D aC b0 74 (wi_lf (wc_Rl wc_ok) sc_74) := by
  refine wi_method (wc_lw wc_ok) 74 (cx := fun _ _ _ _ _ => False) (ids := ci_74) (tb := tb_74) (by decide +kernel) hl0 wm_cx0 (wm_tb_ok tk_74) (by decide +kernel) [] 250 (fun as h q qt hs => ?_)
  obtain ⟨x, i, k, rfl, hs1⟩ := wc_sTII_e hs
  clear hs
  obtain ⟨tg, ln, I, L, R, n⟩ := h
  have hs := id hs1
  clear hs1
  simp only [wc_f] at hs
  refine ⟨rfl, fun _ _ _ _ _ _ _ => False, mq_nc, ?_⟩
  obtain ⟨a1, d, a2, a3, a4, e, a5, a6, a7, r1, r2, r3, r4, h1⟩ := hs
  repeat' first
    | refine And.intro ?_ ?_
    | refine Exists.intro _ (And.intro (show _ = _ from by assumption) ?_)
    | refine Exists.intro _ (And.intro rfl (And.intro (by assumption) ?_))
    | refine Exists.intro _ (And.intro rfl ?_)
    | (intro h; try omega)
    | omega
    | exact h1
    | exact Nat.le_of_ble_eq_true rfl
    | assumption
def sc_75 (as : List wi_V) (h : wc_H) (q : wi_Q1 wc_H) (qt : wi_Q2 wc_H) : Prop := wc_sT as (fun x => wc_f h fun tg ln I L R n => tg x = 10 ∧ ∃ d, R 10 0 x = some d ∧ tg d = 23 ∧ ln d = 16 ∧ ∃ e, R 10 1 x = some e ∧ tg e = 24 ∧ ln e = 1024 ∧ 1 ≤ I 10 2 x ∧ I 10 2 x ≤ 16 ∧ q (some (.inr (.inl (L 23 (I 10 2 x - 1).toNat d)))) (tg, ln, I, L, R, n))
theorem cm_75 {l : Launch} {D : va_G} {aC : wm_Y} {b0 : Nat} (hl0 : l.stackTraces = false) : wm_sp l D aC b0 75 (wi_lf (wc_Rl wc_ok) sc_75) := by
  refine wi_method (wc_lw wc_ok) 75 (cx := fun _ _ _ _ _ => False) (ids := ci_75) (tb := tb_75) (by decide +kernel) hl0 wm_cx0 (wm_tb_ok tk_75) (by decide +kernel) [] 250 (fun as h q qt hs => ?_)
  obtain ⟨x, rfl, hs1⟩ := wc_sT_e hs
  clear hs
  obtain ⟨tg, ln, I, L, R, n⟩ := h
  have hs := id hs1
  clear hs1
  simp only [wc_f] at hs
  refine ⟨rfl, fun _ _ _ _ _ _ _ => False, mq_nc, ?_⟩
  obtain ⟨a1, d, a2, a3, a4, e, a5, a6, a7, r1, r2, h1⟩ := hs
  repeat' first
    | refine And.intro ?_ ?_
    | refine Exists.intro _ (And.intro (show _ = _ from by assumption) ?_)
    | refine Exists.intro _ (And.intro rfl (And.intro (by assumption) ?_))
    | refine Exists.intro _ (And.intro rfl ?_)
    | (intro h; try omega)
    | omega
    | exact h1
    | exact Nat.le_of_ble_eq_true rfl
    | assumption
def sc_73 (as : List wi_V) (h : wc_H) (q : wi_Q1 wc_H) (qt : wi_Q2 wc_H) : Prop := wc_sTII as (fun x k v => wc_f h fun tg ln I L R n => tg x = 10 ∧ ∃ d, R 10 0 x = some d ∧ tg d = 23 ∧ ln d = 16 ∧ ∃ e, R 10 1 x = some e ∧ tg e = 24 ∧ ln e = 1024 ∧ 1 ≤ I 10 2 x ∧ I 10 2 x ≤ 16 ∧ 0 ≤ k ∧ k < 64 ∧ q none (tg, ln, wm_up I 24 ((I 10 2 x - 1) * 64 + k).toNat e v, L, R, n))
theorem cm_73 {l : Launch} {D : va_G} {aC : wm_Y} {b0 : Nat} (hl0 : l.stackTraces = false) : wm_sp l D aC b0 73 (wi_lf (wc_Rl wc_ok) sc_73) := by
  refine wi_method (wc_lw wc_ok) 73 (cx := fun _ _ _ _ _ => False) (ids := ci_73) (tb := tb_73) (by decide +kernel) hl0 wm_cx0 (wm_tb_ok tk_73) (by decide +kernel) [] 250 (fun as h q qt hs => ?_)
  obtain ⟨x, k, v, rfl, hs1⟩ := wc_sTII_e hs
  clear hs
  obtain ⟨tg, ln, I, L, R, n⟩ := h
  have hs := id hs1
  clear hs1
  simp only [wc_f] at hs
  refine ⟨rfl, fun _ _ _ _ _ _ _ => False, mq_nc, ?_⟩
  obtain ⟨a1, d, a2, a3, a4, e, a5, a6, a7, r1, r2, r3, r4, h1⟩ := hs
  repeat' first
    | refine And.intro ?_ ?_
    | refine Exists.intro _ (And.intro (show _ = _ from by assumption) ?_)
    | refine Exists.intro _ (And.intro rfl (And.intro (by assumption) ?_))
    | refine Exists.intro _ (And.intro rfl ?_)
    | (intro h; try omega)
    | omega
    | (rw [h]; exact h1)
    | exact Nat.le_of_ble_eq_true rfl
    | assumption
def sc_76 (as : List wi_V) (h : wc_H) (q : wi_Q1 wc_H) (qt : wi_Q2 wc_H) : Prop := wc_sT as (fun x => wc_f h fun tg ln I L R n => tg x = 10 ∧ ∃ d, R 10 0 x = some d ∧ tg d = 23 ∧ ln d = 16 ∧ ∃ e, R 10 1 x = some e ∧ tg e = 24 ∧ ln e = 1024 ∧ I 10 2 x ≤ 16 ∧ ((∀ j : Int, 1 ≤ j → j < I 10 2 x → L 23 (j - 1).toNat d < L 23 j.toNat d) → q (some (.inl 1)) (tg, ln, I, L, R, n)) ∧ (¬ (∀ j : Int, 1 ≤ j → j < I 10 2 x → L 23 (j - 1).toNat d < L 23 j.toNat d) → q (some (.inl 0)) (tg, ln, I, L, R, n)))
theorem cm_76 {l : Launch} {D : va_G} {aC : wm_Y} {b0 : Nat} (hl0 : l.stackTraces = false) : wm_sp l D aC b0 76 (wi_lf (wc_Rl wc_ok) sc_76) := by
  refine wi_method (wc_lw wc_ok) 76 (cx := fun _ _ _ _ _ => False) (ids := ci_76) (tb := tb_76) (by decide +kernel) hl0 wm_cx0 (wm_tb_ok tk_76) (by decide +kernel) [2] 250 (fun as h q qt hs => ?_)
  obtain ⟨x, rfl, hs1⟩ := wc_sT_e hs
  clear hs
  obtain ⟨tg, ln, I, L, R, n⟩ := h
  have hs := id hs1
  clear hs1
  simp only [wc_f] at hs
  obtain ⟨a1, d, a2, a3, a4, e, a5, a6, a7, r1, h1, h2⟩ := hs
  refine ⟨rfl, fun mz pc lv sk h cu su => ∃ i : Int, lv = [some (wi_rf (some x)), some (.inl (i))] ∧ sk = [] ∧ h = (tg, ln, I, L, R, n) ∧ cu = 0 ∧ su = 0 ∧ mz = (20 - i).toNat ∧ 1 ≤ i ∧ (i = 1 ∨ i ≤ I 10 2 x) ∧ (∀ j : Int, 1 ≤ j → j < i → L 23 (j - 1).toNat d < L 23 j.toNat d), mq_c1 (fun mz lv sk h cu su hI => ?_), ?_⟩
  · obtain ⟨i, rfl, rfl, rfl, rfl, rfl, rfl, p1, p2, p3⟩ := hI
    repeat' first
      | refine And.intro ?_ ?_
      | refine Exists.intro _ (And.intro (show _ = _ from by assumption) ?_)
      | refine Exists.intro _ (And.intro rfl (And.intro (by assumption) ?_))
      | refine Exists.intro _ (And.intro rfl ?_)
      | (intro h; try omega)
      | omega
      | exact h1 (fun j z1 z2 => p3 j z1 (by omega))
      | exact h2 (fun z => by have := z i (by omega) (by omega); omega)
      | (refine Exists.intro _ (And.intro ?_ (Exists.intro (i + 1) (And.intro rfl (And.intro rfl (And.intro rfl (And.intro rfl (And.intro rfl (And.intro rfl (?_))))))))) <;> first | omega | exact ⟨by omega, by omega, fun j z1 z2 => by rcases (show j < i ∨ j = i by omega) with z | rfl <;> first | exact p3 j z1 z | omega⟩)
      | exact Nat.le_of_ble_eq_true rfl
      | assumption
  · refine Exists.intro _ (Exists.intro (1) (And.intro rfl (And.intro rfl (And.intro rfl (And.intro rfl (And.intro rfl (And.intro rfl (⟨by omega, by omega, fun j z1 z2 => by omega⟩))))))))
def sc_77 (as : List wi_V) (h : wc_H) (q : wi_Q1 wc_H) (qt : wi_Q2 wc_H) : Prop := wc_sTTI as (fun x y m => wc_f h fun tg ln I L R n => tg x = 10 ∧ ∃ d, R 10 0 x = some d ∧ tg d = 23 ∧ ln d = 16 ∧ ∃ e, R 10 1 x = some e ∧ tg e = 24 ∧ ln e = 1024 ∧ tg y = 5 ∧ I 10 2 x ≤ 16 ∧ 0 ≤ m ∧ m ≤ 64 ∧ ((∀ i : Int, 0 ≤ i → i < I 10 2 x → ∀ k : Int, 0 ≤ k → k < m → (I 5 0 y = 2 ∨ (0 ≤ I 24 (i * 64 + k).toNat e ∧ I 24 (i * 64 + k).toNat e ≤ 8))) → q (some (.inl 1)) (tg, ln, I, L, R, n)) ∧ (¬ (∀ i : Int, 0 ≤ i → i < I 10 2 x → ∀ k : Int, 0 ≤ k → k < m → (I 5 0 y = 2 ∨ (0 ≤ I 24 (i * 64 + k).toNat e ∧ I 24 (i * 64 + k).toNat e ≤ 8))) → q (some (.inl 0)) (tg, ln, I, L, R, n)))
theorem cm_77 {l : Launch} {D : va_G} {aC : wm_Y} {b0 : Nat} (hl0 : l.stackTraces = false) : wm_sp l D aC b0 77 (wi_lf (wc_Rl wc_ok) sc_77) := by
  refine wi_method (wc_lw wc_ok) 77 (cx := fun id => if id = 49 then sc_49 else if id = 74 then sc_74 else fun _ _ _ _ => False) (ids := ci_77) (tb := tb_77) (by decide +kernel) hl0 (wm_cxc (cm_49 hl0) oi_77 (fun h => wm_cxc (cm_74 hl0) h (fun h => wm_cxn h))) (wm_tb_ok tk_77) (by decide +kernel) [2, 13] 250 (fun as h q qt hs => ?_)
  obtain ⟨x, y, m, rfl, hs1⟩ := wc_sTTI_e hs
  clear hs
  obtain ⟨tg, ln, I, L, R, n⟩ := h
  have hs := id hs1
  clear hs1
  simp only [wc_f] at hs
  obtain ⟨a1, d, a2, a3, a4, e, a5, a6, a7, a8, r1, r2, r3, h1, h2⟩ := hs
  refine ⟨rfl, fun mz pc lv sk h cu su => match pc with | 2 => ∃ i : Int, ∃ z : Option wi_V, lv = [some (wi_rf (some x)), some (wi_rf (some y)), some (.inl (m)), some (.inl (i)), z] ∧ sk = [] ∧ h = (tg, ln, I, L, R, n) ∧ cu = 0 ∧ su = 0 ∧ mz = ((20 - i) * 100).toNat ∧ 0 ≤ i ∧ (i = 0 ∨ i ≤ I 10 2 x) ∧ (∀ i1 : Int, 0 ≤ i1 → i1 < i → ∀ k : Int, 0 ≤ k → k < m → (I 5 0 y = 2 ∨ (0 ≤ I 24 (i1 * 64 + k).toNat e ∧ I 24 (i1 * 64 + k).toNat e ≤ 8))) | 13 => ∃ i : Int, ∃ k : Int, lv = [some (wi_rf (some x)), some (wi_rf (some y)), some (.inl (m)), some (.inl (i)), some (.inl (k))] ∧ sk = [] ∧ h = (tg, ln, I, L, R, n) ∧ cu = 0 ∧ su = 0 ∧ mz = ((20 - i) * 100 - 1 - k).toNat ∧ 0 ≤ i ∧ i < I 10 2 x ∧ 0 ≤ k ∧ k ≤ m ∧ (∀ i1 : Int, 0 ≤ i1 → i1 < i → ∀ k : Int, 0 ≤ k → k < m → (I 5 0 y = 2 ∨ (0 ≤ I 24 (i1 * 64 + k).toNat e ∧ I 24 (i1 * 64 + k).toNat e ≤ 8))) ∧ ∀ k1 : Int, 0 ≤ k1 → k1 < k → (I 5 0 y = 2 ∨ (0 ≤ I 24 (i * 64 + k1).toNat e ∧ I 24 (i * 64 + k1).toNat e ≤ 8)) | _ => False, mq_c2 (fun mz lv sk h cu su hI => ?_) (fun mz lv sk h cu su hI => ?_), ?_⟩
  · obtain ⟨i, z, rfl, rfl, rfl, rfl, rfl, rfl, p1, p2, p3⟩ := hI
    repeat' first
      | refine And.intro ?_ ?_
      | refine Exists.intro _ (And.intro (show _ = _ from by assumption) ?_)
      | refine Exists.intro _ (And.intro rfl (And.intro (by assumption) ?_))
      | refine Exists.intro _ (And.intro rfl ?_)
      | (intro h; try omega)
      | omega
      | exact h1 (fun i1 z1 z2 => p3 i1 z1 (by omega))
      | (refine Exists.intro _ (And.intro ?_ (Exists.intro (i) (Exists.intro (0) (And.intro rfl (And.intro rfl (And.intro rfl (And.intro rfl (And.intro rfl (And.intro rfl (?_)))))))))) <;> first | omega | exact ⟨by omega, by omega, by omega, by omega, p3, fun k1 z1 z2 => by omega⟩)
      | exact Nat.le_of_ble_eq_true rfl
      | assumption
  · obtain ⟨i, k, rfl, rfl, rfl, rfl, rfl, rfl, p1, p2, p3, p4, p5, p6⟩ := hI
    repeat' first
      | refine And.intro ?_ ?_
      | refine Exists.intro _ (And.intro (show _ = _ from by assumption) ?_)
      | refine Exists.intro _ (And.intro rfl (And.intro (by assumption) ?_))
      | refine Exists.intro _ (And.intro rfl ?_)
      | (intro h; try omega)
      | omega
      | exact h2 (fun z => by have := z i (by omega) (by omega) k (by omega) (by omega); omega)
      | (refine Exists.intro _ (And.intro ?_ (Exists.intro (i) (Exists.intro (k + 1) (And.intro rfl (And.intro rfl (And.intro rfl (And.intro rfl (And.intro rfl (And.intro rfl (?_)))))))))) <;> first | omega | exact ⟨by omega, by omega, by omega, by omega, p5, fun k1 z1 z2 => by rcases (show k1 < k ∨ k1 = k by omega) with z | rfl <;> first | exact p6 k1 z1 z | omega⟩)
      | (have ed : k = m := (by omega); subst ed; refine Exists.intro _ (And.intro ?_ (Exists.intro (i + 1) (Exists.intro (_) (And.intro rfl (And.intro rfl (And.intro rfl (And.intro rfl (And.intro rfl (And.intro rfl (?_)))))))))) <;> first | omega | exact ⟨by omega, by omega, fun i1 z1 z2 => by rcases (show i1 < i ∨ i1 = i by omega) with z | rfl <;> first | exact p5 i1 z1 z | exact p6⟩)
      | exact Nat.le_of_ble_eq_true rfl
      | assumption
  · refine Exists.intro _ (Exists.intro (0) (Exists.intro (_) (And.intro rfl (And.intro rfl (And.intro rfl (And.intro rfl (And.intro rfl (And.intro rfl (⟨by omega, by omega, fun i1 z1 z2 => by omega⟩)))))))))
def sc_72 (as : List wi_V) (h : wc_H) (q : wi_Q1 wc_H) (qt : wi_Q2 wc_H) : Prop := wc_sTJ as (fun x w => wc_f h fun tg ln I L R n => tg x = 10 ∧ ∃ d, R 10 0 x = some d ∧ tg d = 23 ∧ ln d = 16 ∧ ∃ e, R 10 1 x = some e ∧ tg e = 24 ∧ ln e = 1024 ∧ 0 ≤ I 10 2 x ∧ I 10 2 x < 16 ∧ ∀ I1, (∀ t j y, ¬ (t = 10 ∧ j = 2 ∧ y = x) → ¬ (t = 24 ∧ y = e ∧ (64 * I 10 2 x).toNat ≤ j ∧ j < (64 * I 10 2 x).toNat + 64) → I1 t j y = I t j y) → (∀ j, (64 * I 10 2 x).toNat ≤ j → j < (64 * I 10 2 x).toNat + 64 → I1 24 j e = 0) → I1 10 2 x = I 10 2 x + 1 → q none (tg, ln, I1, wm_up L 23 (I 10 2 x).toNat d w, R, n))
theorem cm_72 {l : Launch} {D : va_G} {aC : wm_Y} {b0 : Nat} (hl0 : l.stackTraces = false) : wm_sp l D aC b0 72 (wi_lf (wc_Rl wc_ok) sc_72) := by
  refine wi_method (wc_lw wc_ok) 72 (cx := fun _ _ _ _ _ => False) (ids := ci_72) (tb := tb_72) (by decide +kernel) hl0 wm_cx0 (wm_tb_ok tk_72) (by decide +kernel) [21] 250 (fun as h q qt hs => ?_)
  obtain ⟨x, w, rfl, hs1⟩ := wc_sTJ_e hs
  clear hs
  obtain ⟨tg, ln, I, L, R, n⟩ := h
  have hs := id hs1
  clear hs1
  simp only [wc_f] at hs
  obtain ⟨a1, d, a2, a3, a4, e, a5, a6, a7, r1, r2, h1⟩ := hs
  refine ⟨rfl, fun mz pc lv sk h cu su => ∃ k : Int, ∃ I1 : wm_F Int, lv = [some (wi_rf (some x)), some (.inr (.inl (w))), none, some (.inl (I 10 2 x * 64)), some (.inl (k))] ∧ sk = [] ∧ h = (tg, ln, I1, wm_up L 23 (I 10 2 x).toNat d w, R, n) ∧ cu = 0 ∧ su = 0 ∧ mz = (100 - k).toNat ∧ 0 ≤ k ∧ k ≤ 64 ∧ (∀ t j y, ¬ (t = 24 ∧ y = e ∧ (64 * I 10 2 x).toNat ≤ j ∧ j < (64 * I 10 2 x).toNat + k.toNat) → I1 t j y = I t j y) ∧ ∀ j, (64 * I 10 2 x).toNat ≤ j → j < (64 * I 10 2 x).toNat + k.toNat → I1 24 j e = 0, mq_c1 (fun mz lv sk h cu su hI => ?_), ?_⟩
  · obtain ⟨k, I1, rfl, rfl, rfl, rfl, rfl, rfl, p1, p2, p3, p4⟩ := hI
    have e10 : I1 10 2 x = I 10 2 x := p3 10 2 x (fun z => by omega)
    have k0 : ∀ I2, I2 = wm_up I1 24 (I 10 2 x * 64 + k).toNat e 0 → (∀ t j y, ¬ (t = 24 ∧ y = e ∧ (64 * I 10 2 x).toNat ≤ j ∧ j < (64 * I 10 2 x).toNat + (k + 1).toNat) → I2 t j y = I t j y) ∧ ∀ j, (64 * I 10 2 x).toNat ≤ j → j < (64 * I 10 2 x).toNat + (k + 1).toNat → I2 24 j e = 0 := by
      rintro I2 rfl
      refine ⟨fun t j y z => ?_, fun j z1 z2 => ?_⟩
      · by_cases c : t = 24 ∧ j = (I 10 2 x * 64 + k).toNat ∧ y = e
        · exact absurd ⟨c.1, c.2.2, by omega, by omega⟩ z
        · simp only [wm_up]
          rw [if_neg c]
          exact p3 t j y (fun z9 => z ⟨z9.1, z9.2.1, z9.2.2.1, by omega⟩)
      · by_cases c : j = (I 10 2 x * 64 + k).toNat
        · rw [c, wm_up_self]
        · rw [wm_up_k c]
          exact p4 j z1 (by omega)
    have k1 : k = 64 → ∀ I2, I2 = wm_up I1 10 2 x (I1 10 2 x + 1) → q none (tg, ln, I2, wm_up L 23 (I 10 2 x).toNat d w, R, n) := by
      rintro rfl I2 rfl
      refine h1 _ (fun t j y z1 z2 => ?_) (fun j z1 z2 => ?_) ?_
      · simp only [wm_up]
        rw [if_neg z1]
        exact p3 t j y z2
      · rw [wm_up_t (by decide)]
        exact p4 j z1 z2
      · rw [wm_up_self, e10]
    repeat' first
      | refine And.intro ?_ ?_
      | refine Exists.intro _ (And.intro (show _ = _ from by assumption) ?_)
      | refine Exists.intro _ (And.intro rfl (And.intro (by assumption) ?_))
      | refine Exists.intro _ (And.intro rfl ?_)
      | (intro h; try omega)
      | omega
      | exact k1 (by omega) _ (by assumption)
      | (have kk := k0 _ (by assumption); refine Exists.intro _ (And.intro ?_ (Exists.intro (k + 1) (Exists.intro (_) (And.intro rfl (And.intro rfl (And.intro rfl (And.intro rfl (And.intro rfl (And.intro rfl (?_)))))))))) <;> first | omega | exact ⟨by omega, by omega, kk.1, kk.2⟩)
      | exact Nat.le_of_ble_eq_true rfl
      | assumption
  · repeat' first
      | refine And.intro ?_ ?_
      | refine Exists.intro _ (And.intro (show _ = _ from by assumption) ?_)
      | refine Exists.intro _ (And.intro rfl (And.intro (by assumption) ?_))
      | refine Exists.intro _ (And.intro rfl ?_)
      | (intro h; try omega)
      | omega
      | (refine Exists.intro _ (Exists.intro (0) (Exists.intro (_) (And.intro rfl (And.intro rfl (And.intro (by rw [h]) (And.intro rfl (And.intro rfl (And.intro rfl (?_))))))))) <;> first | omega | exact ⟨by omega, by omega, fun t j y z => rfl, fun j z1 z2 => by omega⟩)
      | exact Nat.le_of_ble_eq_true rfl
      | assumption
def sc_63 (as : List wi_V) (h : wc_H) (q : wi_Q1 wc_H) (qt : wi_Q2 wc_H) : Prop := wc_sT as (fun x => wc_f h fun tg ln I L R n => q none (tg, ln, I, L, R, n))
theorem cm_63 {l : Launch} {D : va_G} {aC : wm_Y} {b0 : Nat} (hl0 : l.stackTraces = false) : wm_sp l D aC b0 63 (wi_lf (wc_Rl wc_ok) sc_63) := by
  refine wi_method (wc_lw wc_ok) 63 (cx := fun _ _ _ _ _ => False) (ids := ci_63) (tb := tb_63) (by decide +kernel) hl0 wm_cx0 (wm_tb_ok tk_63) (by decide +kernel) [] 250 (fun as h q qt hs => ?_)
  obtain ⟨x, rfl, hs1⟩ := wc_sT_e hs
  clear hs
  obtain ⟨tg, ln, I, L, R, n⟩ := h
  have hs := id hs1
  clear hs1
  simp only [wc_f] at hs
  refine ⟨rfl, fun _ _ _ _ _ _ _ => False, mq_nc, ?_⟩
  repeat' first
    | refine And.intro ?_ ?_
    | refine Exists.intro _ (And.intro (show _ = _ from by assumption) ?_)
    | refine Exists.intro _ (And.intro rfl (And.intro (by assumption) ?_))
    | refine Exists.intro _ (And.intro rfl ?_)
    | (intro h; try omega)
    | omega
    | exact hs
    | exact Nat.le_of_ble_eq_true rfl
    | assumption
def sc_70 (as : List wi_V) (h : wc_H) (q : wi_Q1 wc_H) (qt : wi_Q2 wc_H) : Prop := wc_sT as (fun x => wc_f h fun tg ln I L R n => q none (tg, ln, I, L, R, n))
theorem cm_70 {l : Launch} {D : va_G} {aC : wm_Y} {b0 : Nat} (hl0 : l.stackTraces = false) : wm_sp l D aC b0 70 (wi_lf (wc_Rl wc_ok) sc_70) := by
  refine wi_method (wc_lw wc_ok) 70 (cx := fun _ _ _ _ _ => False) (ids := ci_70) (tb := tb_70) (by decide +kernel) hl0 wm_cx0 (wm_tb_ok tk_70) (by decide +kernel) [] 250 (fun as h q qt hs => ?_)
  obtain ⟨x, rfl, hs1⟩ := wc_sT_e hs
  clear hs
  obtain ⟨tg, ln, I, L, R, n⟩ := h
  have hs := id hs1
  clear hs1
  simp only [wc_f] at hs
  refine ⟨rfl, fun _ _ _ _ _ _ _ => False, mq_nc, ?_⟩
  repeat' first
    | refine And.intro ?_ ?_
    | refine Exists.intro _ (And.intro (show _ = _ from by assumption) ?_)
    | refine Exists.intro _ (And.intro rfl (And.intro (by assumption) ?_))
    | refine Exists.intro _ (And.intro rfl ?_)
    | (intro h; try omega)
    | omega
    | exact hs
    | exact Nat.le_of_ble_eq_true rfl
    | assumption
def sc_37 (as : List wi_V) (h : wc_H) (q : wi_Q1 wc_H) (qt : wi_Q2 wc_H) : Prop := wc_sTO as (fun x s => wc_f h fun tg ln I L R n => tg x = 4 ∧ q none (tg, ln, I, L, wm_up R 4 0 x s, n))
theorem cm_37 {l : Launch} {D : va_G} {aC : wm_Y} {b0 : Nat} (hl0 : l.stackTraces = false) : wm_sp l D aC b0 37 (wi_lf (wc_Rl wc_ok) sc_37) := by
  refine wi_method (wc_lw wc_ok) 37 (cx := fun _ _ _ _ _ => False) (ids := ci_37) (tb := tb_37) (by decide +kernel) hl0 wm_cx0 (wm_tb_ok tk_37) (by decide +kernel) [] 250 (fun as h q qt hs => ?_)
  obtain ⟨x, s, rfl, hs1⟩ := wc_sTO_e hs
  clear hs
  obtain ⟨tg, ln, I, L, R, n⟩ := h
  have hs := id hs1
  clear hs1
  simp only [wc_f] at hs
  refine ⟨rfl, fun _ _ _ _ _ _ _ => False, mq_nc, ?_⟩
  obtain ⟨a1, h1⟩ := hs
  repeat' first
    | refine And.intro ?_ ?_
    | refine Exists.intro _ (And.intro (show _ = _ from by assumption) ?_)
    | refine Exists.intro _ (And.intro rfl (And.intro (by assumption) ?_))
    | refine Exists.intro _ (And.intro rfl ?_)
    | (intro h; try omega)
    | omega
    | (rw [h]; exact h1)
    | exact Nat.le_of_ble_eq_true rfl
    | assumption
def sc_57 (as : List wi_V) (h : wc_H) (q : wi_Q1 wc_H) (qt : wi_Q2 wc_H) : Prop := wc_sT as (fun x => wc_f h fun tg ln I L R n => tg x = 6 ∧ x < n ∧ q none (wc_nt tg n 25, wc_nt ln n 4, wc_nz I n 25, wc_nz L n 25, wm_up (wc_nn R n 25) 6 0 x (some n), n + 1))
theorem cm_57 {l : Launch} {D : va_G} {aC : wm_Y} {b0 : Nat} (hl0 : l.stackTraces = false) : wm_sp l D aC b0 57 (wi_lf (wc_Rl wc_ok) sc_57) := by
  refine wi_method (wc_lw wc_ok) 57 (cx := fun _ _ _ _ _ => False) (ids := ci_57) (tb := tb_57) (by decide +kernel) hl0 wm_cx0 (wm_tb_ok tk_57) (by decide +kernel) [] 250 (fun as h q qt hs => ?_)
  obtain ⟨x, rfl, hs1⟩ := wc_sT_e hs
  clear hs
  obtain ⟨tg, ln, I, L, R, n⟩ := h
  have hs := id hs1
  clear hs1
  simp only [wc_f] at hs
  refine ⟨rfl, fun _ _ _ _ _ _ _ => False, mq_nc, ?_⟩
  obtain ⟨a1, a2, h1⟩ := hs
  repeat' first
    | refine And.intro ?_ ?_
    | (intro tg1 ln1 I1 L1 R1 e1 e2 e3 e4 e5; have b1 : tg1 x = 6 := (by rw [e1]; show (if x = n then _ else _) = _; rw [if_neg (by omega)]; assumption))
    | refine Exists.intro _ (And.intro (show _ = _ from by assumption) ?_)
    | refine Exists.intro _ (And.intro rfl (And.intro (by assumption) ?_))
    | refine Exists.intro _ (And.intro rfl ?_)
    | (intro h; try omega)
    | omega
    | (subst_vars; exact h1)
    | exact Nat.le_of_ble_eq_true rfl
    | assumption
def sc_71 (as : List wi_V) (h : wc_H) (q : wi_Q1 wc_H) (qt : wi_Q2 wc_H) : Prop := wc_sT as (fun x => wc_f h fun tg ln I L R n => tg x = 10 ∧ x < n ∧ q none (wc_nt (wc_nt tg n 23) (n + 1) 24, wc_nt (wc_nt ln n 16) (n + 1) 1024, wc_nz (wc_nz I n 23) (n + 1) 24, wc_nz (wc_nz L n 23) (n + 1) 24, wm_up (wc_nn (wm_up (wc_nn R n 23) 10 0 x (some n)) (n + 1) 24) 10 1 x (some (n + 1)), n + 1 + 1))
theorem cm_71 {l : Launch} {D : va_G} {aC : wm_Y} {b0 : Nat} (hl0 : l.stackTraces = false) : wm_sp l D aC b0 71 (wi_lf (wc_Rl wc_ok) sc_71) := by
  refine wi_method (wc_lw wc_ok) 71 (cx := fun _ _ _ _ _ => False) (ids := ci_71) (tb := tb_71) (by decide +kernel) hl0 wm_cx0 (wm_tb_ok tk_71) (by decide +kernel) [] 250 (fun as h q qt hs => ?_)
  obtain ⟨x, rfl, hs1⟩ := wc_sT_e hs
  clear hs
  obtain ⟨tg, ln, I, L, R, n⟩ := h
  have hs := id hs1
  clear hs1
  simp only [wc_f] at hs
  refine ⟨rfl, fun _ _ _ _ _ _ _ => False, mq_nc, ?_⟩
  obtain ⟨a1, a2, h1⟩ := hs
  repeat' first
    | refine And.intro ?_ ?_
    | (intro tg1 ln1 I1 L1 R1 e1 e2 e3 e4 e5; have b1 : tg1 x = 10 := (by rw [e1]; show (if x = n then _ else _) = _; rw [if_neg (by omega)]; assumption))
    | (intro tg1 ln1 I1 L1 R1 e1 e2 e3 e4 e5; have b1 : tg1 x = 10 := (by rw [e1]; show (if x = n + 1 then _ else _) = _; rw [if_neg (by omega)]; assumption))
    | refine Exists.intro _ (And.intro (show _ = _ from by assumption) ?_)
    | refine Exists.intro _ (And.intro rfl (And.intro (by assumption) ?_))
    | refine Exists.intro _ (And.intro rfl ?_)
    | (intro h; try omega)
    | omega
    | (subst_vars; exact h1)
    | exact Nat.le_of_ble_eq_true rfl
    | assumption
def sc_48 (as : List wi_V) (h : wc_H) (q : wi_Q1 wc_H) (qt : wi_Q2 wc_H) : Prop := wc_sTII as (fun x c m => wc_f h fun tg ln I L R n => tg x = 5 ∧ x < n ∧ 0 ≤ m ∧ m ≤ 64 ∧ q none (wc_nt (wc_nt tg n 26) (n + 1) 27, wc_nt (wc_nt ln n m.toNat) (n + 1) m.toNat, wc_nz (wc_nz (wm_up (wm_up I 5 0 x c) 5 1 x m) n 26) (n + 1) 27, wc_nz (wc_nz L n 26) (n + 1) 27, wm_up (wc_nn (wm_up (wc_nn R n 26) 5 2 x (some n)) (n + 1) 27) 5 3 x (some (n + 1)), n + 1 + 1))
theorem cm_48 {l : Launch} {D : va_G} {aC : wm_Y} {b0 : Nat} (hl0 : l.stackTraces = false) : wm_sp l D aC b0 48 (wi_lf (wc_Rl wc_ok) sc_48) := by
  refine wi_method (wc_lw wc_ok) 48 (cx := fun _ _ _ _ _ => False) (ids := ci_48) (tb := tb_48) (by decide +kernel) hl0 wm_cx0 (wm_tb_ok tk_48) (by decide +kernel) [] 250 (fun as h q qt hs => ?_)
  obtain ⟨x, c, m, rfl, hs1⟩ := wc_sTII_e hs
  clear hs
  obtain ⟨tg, ln, I, L, R, n⟩ := h
  have hs := id hs1
  clear hs1
  simp only [wc_f] at hs
  refine ⟨rfl, fun _ _ _ _ _ _ _ => False, mq_nc, ?_⟩
  obtain ⟨a1, a2, r1, r2, h1⟩ := hs
  repeat' first
    | refine And.intro ?_ ?_
    | (intro tg1 ln1 I1 L1 R1 e1 e2 e3 e4 e5; have b1 : tg1 x = 5 := (by rw [e1]; show (if x = n then _ else _) = _; rw [if_neg (by omega)]; assumption))
    | (intro tg1 ln1 I1 L1 R1 e1 e2 e3 e4 e5; have b1 : tg1 x = 5 := (by rw [e1]; show (if x = n + 1 then _ else _) = _; rw [if_neg (by omega)]; assumption))
    | refine Exists.intro _ (And.intro (show _ = _ from by assumption) ?_)
    | refine Exists.intro _ (And.intro rfl (And.intro (by assumption) ?_))
    | refine Exists.intro _ (And.intro rfl ?_)
    | (intro h; try omega)
    | omega
    | (subst_vars; exact h1)
    | (show _ ≤ wm_ms 48; simp only [wm_ms]; omega)
    | (simp only [wm_mr, wm_mc, wm_ms]; omega)
    | exact Nat.le_of_ble_eq_true rfl
    | assumption
def sc_66 (as : List wi_V) (h : wc_H) (q : wi_Q1 wc_H) (qt : wi_Q2 wc_H) : Prop := wc_sT as (fun x => wc_f h fun tg ln I L R n => tg x = 8 ∧ x < n ∧ q none (wc_nt (wc_nt tg n 6) (n + 1) 25, wc_nt (wc_nt ln n 0) (n + 1) 4, wm_up (wc_nz (wc_nz I n 6) (n + 1) 25) 8 1 x 1, wm_up (wc_nz (wc_nz L n 6) (n + 1) 25) 8 3 x (-1), wm_up (wm_up (wc_nn (wc_nn R n 6) (n + 1) 25) 6 0 n (some (n + 1))) 8 0 x (some n), n + 1 + 1))
theorem cm_66 {l : Launch} {D : va_G} {aC : wm_Y} {b0 : Nat} (hl0 : l.stackTraces = false) : wm_sp l D aC b0 66 (wi_lf (wc_Rl wc_ok) sc_66) := by
  refine wi_method (wc_lw wc_ok) 66 (cx := fun id => if id = 57 then sc_57 else fun _ _ _ _ => False) (ids := ci_66) (tb := tb_66) (by decide +kernel) hl0 (wm_cxc (cm_57 hl0) oi_66 (fun h => wm_cxn h)) (wm_tb_ok tk_66) (by decide +kernel) [] 250 (fun as h q qt hs => ?_)
  obtain ⟨x, rfl, hs1⟩ := wc_sT_e hs
  clear hs
  obtain ⟨tg, ln, I, L, R, n⟩ := h
  have hs := id hs1
  clear hs1
  simp only [wc_f] at hs
  refine ⟨rfl, fun _ _ _ _ _ _ _ => False, mq_nc, ?_⟩
  obtain ⟨a1, a2, h1⟩ := hs
  repeat' first
    | refine And.intro ?_ ?_
    | (intro tg1 ln1 I1 L1 R1 e1 e2 e3 e4 e5; have b2 : tg1 n = 6 := (by rw [e1]; exact if_pos rfl); have b1 : wc_nt tg1 (n + 1) 25 x = 8 := (by rw [e1]; show (if x = n + 1 then _ else (if x = n then _ else _)) = _; rw [if_neg (by omega), if_neg (by omega)]; assumption))
    | refine Exists.intro _ (And.intro (show _ = _ from by assumption) ?_)
    | refine Exists.intro _ (And.intro rfl (And.intro (by assumption) ?_))
    | refine Exists.intro _ (And.intro rfl ?_)
    | (intro h; try omega)
    | omega
    | (subst_vars; exact h1)
    | exact Nat.le_of_ble_eq_true rfl
    | assumption
