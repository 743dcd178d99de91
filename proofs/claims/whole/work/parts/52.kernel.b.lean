/-! THE KERNEL, 2: the methods that ask -/
def sc_25 (as : List wi_V) (h : wc_H) (q : wi_Q1 wc_H) (qt : wi_Q2 wc_H) : Prop := wc_sTI as (fun x p => wc_f h fun tg ln I L R n => tg x = 2 ∧ ∃ a, R 2 2 x = some a ∧ tg a = 21 ∧ ln a = 64 ∧ I 2 8 x ≤ 64 ∧ (p < 0 ∨ I 2 8 x ≤ p → ∀ n', n ≤ n' → qt 3 (tg, ln, I, L, R, n')) ∧ (0 ≤ p → p < I 2 8 x → ∃ v, R 21 p.toNat a = v ∧ q (some (wi_rf v)) (tg, ln, I, L, R, n)))
theorem cm_25 {l : Launch} {D : va_G} {aC : wm_Y} {b0 : Nat} (hl0 : l.stackTraces = false) : wm_sp l D aC b0 25 (wi_lf (wc_Rl wc_ok) sc_25) := by
  refine wi_method (wc_lw wc_ok) 25 (cx := fun _ _ _ _ _ => False) (ids := ci_25) (tb := tb_25) (by decide +kernel) hl0 wm_cx0 (wm_tb_ok tk_25) (by decide +kernel) [] 250 (fun as h q qt hs => ?_)
  obtain ⟨x, p, rfl, hs1⟩ := wc_sTI_e hs
  clear hs
  obtain ⟨tg, ln, I, L, R, n⟩ := h
  have hs := id hs1
  clear hs1
  simp only [wc_f] at hs
  refine ⟨rfl, fun _ _ _ _ _ _ _ => False, mq_nc, ?_⟩
  obtain ⟨a1, a, a2, a3, a4, r1, h1, h2⟩ := hs
  have hb : 0 ≤ p → p < I 2 8 x → p < ln a := fun z1 z2 => by omega
  repeat' first
    | refine And.intro ?_ ?_
    | refine Exists.intro _ (And.intro rfl (And.intro (by assumption) ?_))
    | (intro n9 (h9 : n ≤ n9))
    | refine Exists.intro _ (And.intro a2 ?_)
    | (intro h; try omega)
    | omega
    | exact h1 (by omega) _ (by assumption)
    | (obtain ⟨v9, e9, h9⟩ := h2 (by omega) (by omega); refine Exists.intro _ (And.intro e9 ?_))
    | exact h9
    | (have g9 := hb (by omega) (by omega); exact g9)
    | exact Nat.le_of_ble_eq_true rfl
    | assumption
def sc_26 (as : List wi_V) (h : wc_H) (q : wi_Q1 wc_H) (qt : wi_Q2 wc_H) : Prop := wc_sTI as (fun x p => wc_f h fun tg ln I L R n => tg x = 2 ∧ ∃ a, R 2 1 x = some a ∧ tg a = 20 ∧ ln a = 200 ∧ I 2 7 x ≤ 200 ∧ (p < 0 ∨ I 2 7 x ≤ p → ∀ n', n ≤ n' → qt 3 (tg, ln, I, L, R, n')) ∧ (0 ≤ p → p < I 2 7 x → ∃ v, R 20 p.toNat a = v ∧ q (some (wi_rf v)) (tg, ln, I, L, R, n)))
theorem cm_26 {l : Launch} {D : va_G} {aC : wm_Y} {b0 : Nat} (hl0 : l.stackTraces = false) : wm_sp l D aC b0 26 (wi_lf (wc_Rl wc_ok) sc_26) := by
  refine wi_method (wc_lw wc_ok) 26 (cx := fun _ _ _ _ _ => False) (ids := ci_26) (tb := tb_26) (by decide +kernel) hl0 wm_cx0 (wm_tb_ok tk_26) (by decide +kernel) [] 250 (fun as h q qt hs => ?_)
  obtain ⟨x, p, rfl, hs1⟩ := wc_sTI_e hs
  clear hs
  obtain ⟨tg, ln, I, L, R, n⟩ := h
  have hs := id hs1
  clear hs1
  simp only [wc_f] at hs
  refine ⟨rfl, fun _ _ _ _ _ _ _ => False, mq_nc, ?_⟩
  obtain ⟨a1, a, a2, a3, a4, r1, h1, h2⟩ := hs
  have hb : 0 ≤ p → p < I 2 7 x → p < ln a := fun z1 z2 => by omega
  repeat' first
    | refine And.intro ?_ ?_
    | refine Exists.intro _ (And.intro rfl (And.intro (by assumption) ?_))
    | (intro n9 (h9 : n ≤ n9))
    | refine Exists.intro _ (And.intro a2 ?_)
    | (intro h; try omega)
    | omega
    | exact h1 (by omega) _ (by assumption)
    | (obtain ⟨v9, e9, h9⟩ := h2 (by omega) (by omega); refine Exists.intro _ (And.intro e9 ?_))
    | exact h9
    | (have g9 := hb (by omega) (by omega); exact g9)
    | exact Nat.le_of_ble_eq_true rfl
    | assumption
def sc_27 (as : List wi_V) (h : wc_H) (q : wi_Q1 wc_H) (qt : wi_Q2 wc_H) : Prop := wc_sTII as (fun x k m => wc_f h fun tg ln I L R n => tg x = 5 ∧ 0 ≤ I 5 1 x ∧ I 5 1 x ≤ 64 ∧ (k < 0 ∨ I 5 1 x ≤ k ∨ m < 1 ∨ I 5 1 x - k < m → ∀ n', n ≤ n' → qt 3 (tg, ln, I, L, R, n')) ∧ (0 ≤ k → k < I 5 1 x → 1 ≤ m → m ≤ I 5 1 x - k → q none (tg, ln, I, L, R, n)))
theorem cm_27 {l : Launch} {D : va_G} {aC : wm_Y} {b0 : Nat} (hl0 : l.stackTraces = false) : wm_sp l D aC b0 27 (wi_lf (wc_Rl wc_ok) sc_27) := by
  refine wi_method (wc_lw wc_ok) 27 (cx := fun _ _ _ _ _ => False) (ids := ci_27) (tb := tb_27) (by decide +kernel) hl0 wm_cx0 (wm_tb_ok tk_27) (by decide +kernel) [] 250 (fun as h q qt hs => ?_)
  obtain ⟨x, k, m, rfl, hs1⟩ := wc_sTII_e hs
  clear hs
  obtain ⟨tg, ln, I, L, R, n⟩ := h
  have hs := id hs1
  clear hs1
  simp only [wc_f] at hs
  refine ⟨rfl, fun _ _ _ _ _ _ _ => False, mq_nc, ?_⟩
  obtain ⟨a1, r1, r2, h1, h2⟩ := hs
  repeat' first
    | refine And.intro ?_ ?_
    | (intro n9 (h9 : n ≤ n9))
    | refine Exists.intro _ (And.intro (show _ = _ from by assumption) ?_)
    | refine Exists.intro _ (And.intro rfl (And.intro (by assumption) ?_))
    | refine Exists.intro _ (And.intro rfl ?_)
    | (intro h; try omega)
    | omega
    | exact h1 (by omega) _ (by assumption)
    | exact h2 (by omega) (by omega) (by omega) (by omega)
    | exact Nat.le_of_ble_eq_true rfl
    | assumption
def sc_28 (as : List wi_V) (h : wc_H) (q : wi_Q1 wc_H) (qt : wi_Q2 wc_H) : Prop := wc_sTIJ as (fun x m li => wc_f h fun tg ln I L R n => tg x = 2 ∧ ∃ w, R 2 4 x = some w ∧ tg w = 10 ∧ ∃ d, R 10 0 w = some d ∧ tg d = 23 ∧ ln d = 16 ∧ ((0 ≤ m ∧ m ≤ 1) ∨ (m = 2 ∧ 0 ≤ li ∧ li ≤ L 23 0 d) → q (some (.inl 1)) (tg, ln, I, L, R, n)) ∧ (¬ ((0 ≤ m ∧ m ≤ 1) ∨ (m = 2 ∧ 0 ≤ li ∧ li ≤ L 23 0 d)) → q (some (.inl 0)) (tg, ln, I, L, R, n)))
theorem cm_28 {l : Launch} {D : va_G} {aC : wm_Y} {b0 : Nat} (hl0 : l.stackTraces = false) : wm_sp l D aC b0 28 (wi_lf (wc_Rl wc_ok) sc_28) := by
  refine wi_method (wc_lw wc_ok) 28 (cx := fun _ _ _ _ _ => False) (ids := ci_28) (tb := tb_28) (by decide +kernel) hl0 wm_cx0 (wm_tb_ok tk_28) (by decide +kernel) [] 250 (fun as h q qt hs => ?_)
  obtain ⟨x, m, li, rfl, hs1⟩ := wc_sTIJ_e hs
  clear hs
  obtain ⟨tg, ln, I, L, R, n⟩ := h
  have hs := id hs1
  clear hs1
  simp only [wc_f] at hs
  refine ⟨rfl, fun _ _ _ _ _ _ _ => False, mq_nc, ?_⟩
  obtain ⟨a1, w, a2, a3, d, a4, a5, a6, h1, h2⟩ := hs
  have hl : (0 : Int) < ln d := by omega
  repeat' first
    | refine And.intro ?_ ?_
    | (intro (h9 : li ≤ L 23 (Int.toNat 0) d))
    | (intro (h9 : L 23 (Int.toNat 0) d < li))
    | refine Exists.intro _ (And.intro (show _ = _ from by assumption) ?_)
    | refine Exists.intro _ (And.intro rfl (And.intro (by assumption) ?_))
    | refine Exists.intro _ (And.intro rfl ?_)
    | (intro h; try omega)
    | omega
    | exact h1 (by omega)
    | exact h2 (by omega)
    | exact h1 (Or.inr ⟨by omega, by omega, by assumption⟩)
    | exact h2 (fun z => z.elim (fun y => (by omega)) (fun y => absurd y.2.2 (Int.not_le.mpr (by assumption))))
    | exact Nat.le_of_ble_eq_true rfl
    | assumption
def sc_29 (as : List wi_V) (h : wc_H) (q : wi_Q1 wc_H) (qt : wi_Q2 wc_H) : Prop := wc_sT as (fun x => wc_f h fun tg ln I L R n => tg x = 2 ∧ ∃ w, R 2 4 x = some w ∧ tg w = 10 ∧ ∃ d, R 10 0 w = some d ∧ tg d = 23 ∧ ln d = 16 ∧ ∃ e, R 10 1 w = some e ∧ tg e = 24 ∧ ln e = 1024 ∧ 1 ≤ I 10 2 w ∧ I 10 2 w ≤ 16 ∧ 0 ≤ L 2 12 x ∧ L 2 12 x ≤ 1152921504606846976 ∧ (((∀ j : Int, 1 ≤ j → j < I 10 2 w → L 23 (j - 1).toNat d < L 23 j.toNat d) ∧ L 23 (I 10 2 w - 1).toNat d ≤ 1152921504606846976 - L 2 12 x) → q (some (.inl 1)) (tg, ln, I, L, R, n)) ∧ (¬ ((∀ j : Int, 1 ≤ j → j < I 10 2 w → L 23 (j - 1).toNat d < L 23 j.toNat d) ∧ L 23 (I 10 2 w - 1).toNat d ≤ 1152921504606846976 - L 2 12 x) → q (some (.inl 0)) (tg, ln, I, L, R, n)))
theorem cm_29 {l : Launch} {D : va_G} {aC : wm_Y} {b0 : Nat} (hl0 : l.stackTraces = false) : wm_sp l D aC b0 29 (wi_lf (wc_Rl wc_ok) sc_29) := by
  refine wi_method (wc_lw wc_ok) 29 (cx := fun id => if id = 75 then sc_75 else if id = 76 then sc_76 else fun _ _ _ _ => False) (ids := ci_29) (tb := tb_29) (by decide +kernel) hl0 (wm_cxc (cm_75 hl0) oi_29 (fun h => wm_cxc (cm_76 hl0) h (fun h => wm_cxn h))) (wm_tb_ok tk_29) (by decide +kernel) [] 250 (fun as h q qt hs => ?_)
  obtain ⟨x, rfl, hs1⟩ := wc_sT_e hs
  clear hs
  obtain ⟨tg, ln, I, L, R, n⟩ := h
  have hs := id hs1
  clear hs1
  simp only [wc_f] at hs
  refine ⟨rfl, fun _ _ _ _ _ _ _ => False, mq_nc, ?_⟩
  obtain ⟨a1, w, a2, a3, d, a4, a5, a6, e, a7, a8, a9, r1, r2, r3, r4, h1, h2⟩ := hs
  repeat' first
    | refine And.intro ?_ ?_
    | (intro (y9 : ∀ j : Int, 1 ≤ j → j < I 10 2 w → L 23 (j - 1).toNat d < L 23 j.toNat d))
    | (intro (y9 : ¬ ∀ j : Int, 1 ≤ j → j < I 10 2 w → L 23 (j - 1).toNat d < L 23 j.toNat d))
    | refine Exists.intro _ (And.intro (show _ = _ from by assumption) ?_)
    | refine Exists.intro _ (And.intro rfl (And.intro (by assumption) ?_))
    | refine Exists.intro _ (And.intro rfl ?_)
    | (intro h; try omega)
    | omega
    | exact h1 ⟨y9, by omega⟩
    | exact h2 (fun z => y9 z.1)
    | exact h2 (fun z => absurd z.2 (by omega))
    | exact Nat.le_of_ble_eq_true rfl
    | assumption
