/-! THE REFERENCE, 2: loops that look -/
def sm_85 (as : List wi_V) (M : mq_H) (q : wi_Q1 mq_H) (_ : wi_Q2 mq_H) : Prop := mq_sII as (fun p e => mq_f M fun cd lm st sg el dr sz pr wc sp nw A B => 0 ≤ dr ∧ dr ≤ 512 ∧ ((∀ j : Nat, (j : Int) < dr → ¬ (A 37 j = p ∧ A 38 j = e)) → q (some (.inl (-1))) ([cd, lm, st, sg, el, dr, sz, pr, wc, sp, nw], A, B)) ∧ (∀ r : Int, 0 ≤ r → r < dr → A 37 r.toNat = p → A 38 r.toNat = e → q (some (.inl r)) ([cd, lm, st, sg, el, dr, sz, pr, wc, sp, nw], A, B)))
theorem mm_85 {l : Launch} {D : va_G} {aC : wm_Y} {b0 : Nat} (hl0 : l.stackTraces = false) : wm_sp l D aC b0 85 (wi_lf mq_Rl sm_85) := by
  refine wi_method mq_lw 85 (cx := fun _ _ _ _ _ => False) (ids := ci_85) (tb := tb_85) (by decide +kernel) hl0 wm_cx0 (wm_tb_ok tk_85) (by decide +kernel) [2] 250 (fun as M q qt hs => ?_)
  obtain ⟨p, e, rfl, hs1⟩ := mq_sII_e hs
  clear hs
  obtain ⟨cd, lm, st, sg, el, dr, sz, pr, wc, sp, nw, A, B, rfl, hs⟩ := mq_f_e hs1
  clear hs1
  obtain ⟨r1, r2, h1, h2⟩ := hs
  refine ⟨rfl, fun mz pc lv sk h cu su => ∃ d : Int, lv = [some (wi_rf (some 11)), some (.inl (p)), some (.inl (e)), some (.inl (d))] ∧ sk = [] ∧ h = ([cd, lm, st, sg, el, dr, sz, pr, wc, sp, nw], A, B) ∧ cu = 0 ∧ su = 0 ∧ mz = (dr - d).toNat ∧ 0 ≤ d ∧ d ≤ dr ∧ ∀ j : Nat, (j : Int) < d → ¬ (A 37 j = p ∧ A 38 j = e), mq_c1 (fun mz lv sk h cu su hI => ?_), ?_⟩
  · obtain ⟨d, rfl, rfl, rfl, rfl, rfl, rfl, p1, p2, p3⟩ := hI
    repeat' first
      | (exact h1 (fun j hj => p3 j (by omega)))
      | exact h2 d (by omega) (by omega) (by omega) (by omega)
      | (refine Exists.intro _ (And.intro ?_ (Exists.intro (d + 1) (And.intro rfl (And.intro rfl (And.intro rfl (And.intro rfl (And.intro rfl (And.intro rfl (?_))))))))) <;> first | omega | exact ⟨by omega, by omega, (fun j hj => by rcases (show (j : Int) < d ∨ j = (d).toNat by omega) with hd | rfl <;> first | exact p3 _ (by omega) | omega)⟩)
      | refine And.intro ?_ ?_
      | (intro h; try omega)
      | omega
      | exact Nat.le_of_ble_eq_true rfl
  · refine Exists.intro _ (Exists.intro (0) (And.intro rfl (And.intro rfl (And.intro rfl (And.intro rfl (And.intro rfl (And.intro rfl (⟨by omega, by omega, fun j hj => by omega⟩))))))))
def sm_86 (as : List wi_V) (M : mq_H) (q : wi_Q1 mq_H) (_ : wi_Q2 mq_H) : Prop := mq_sI as (fun e => mq_f M fun cd lm st sg el dr sz pr wc sp nw A B => 0 ≤ dr ∧ dr ≤ 512 ∧ ((∃ j : Nat, (j : Int) < dr ∧ A 38 j = e) → q (some (.inl 1)) ([cd, lm, st, sg, el, dr, sz, pr, wc, sp, nw], A, B)) ∧ ((∀ j : Nat, (j : Int) < dr → A 38 j ≠ e) → q (some (.inl 0)) ([cd, lm, st, sg, el, dr, sz, pr, wc, sp, nw], A, B)))
theorem mm_86 {l : Launch} {D : va_G} {aC : wm_Y} {b0 : Nat} (hl0 : l.stackTraces = false) : wm_sp l D aC b0 86 (wi_lf mq_Rl sm_86) := by
  refine wi_method mq_lw 86 (cx := fun _ _ _ _ _ => False) (ids := ci_86) (tb := tb_86) (by decide +kernel) hl0 wm_cx0 (wm_tb_ok tk_86) (by decide +kernel) [4] 250 (fun as M q qt hs => ?_)
  obtain ⟨e, rfl, hs1⟩ := mq_sI_e hs
  clear hs
  obtain ⟨cd, lm, st, sg, el, dr, sz, pr, wc, sp, nw, A, B, rfl, hs⟩ := mq_f_e hs1
  clear hs1
  obtain ⟨r1, r2, h1, h2⟩ := hs
  refine ⟨rfl, fun mz pc lv sk h cu su => ∃ x : Int, ∃ d : Int, lv = [some (wi_rf (some 11)), some (.inl (e)), some (.inl (x)), some (.inl (d))] ∧ sk = [] ∧ h = ([cd, lm, st, sg, el, dr, sz, pr, wc, sp, nw], A, B) ∧ cu = 0 ∧ su = 0 ∧ mz = (dr - d).toNat ∧ 0 ≤ d ∧ d ≤ dr ∧ ((x = 1 ∧ ∃ j : Nat, (j : Int) < d ∧ A 38 j = e) ∨ (x = 0 ∧ ∀ j : Nat, (j : Int) < d → A 38 j ≠ e)), mq_c1 (fun mz lv sk h cu su hI => ?_), ?_⟩
  · obtain ⟨x, d, rfl, rfl, rfl, rfl, rfl, rfl, p1, p2, ⟨rfl, j, p3, p4⟩ | ⟨rfl, p3⟩⟩ := hI
    · repeat' first
        | exact h1 ⟨j, by omega, p4⟩
        | (refine Exists.intro _ (And.intro ?_ (Exists.intro (1) (Exists.intro (d + 1) (And.intro rfl (And.intro rfl (And.intro rfl (And.intro rfl (And.intro rfl (And.intro rfl (?_)))))))))) <;> first | omega | exact ⟨by omega, by omega, Or.inl ⟨rfl, j, by omega, p4⟩⟩ | exact ⟨by omega, by omega, Or.inl ⟨rfl, d.toNat, by omega, by omega⟩⟩)
        | refine And.intro ?_ ?_
        | (intro h; try omega)
        | omega
        | exact Nat.le_of_ble_eq_true rfl
    · repeat' first
        | exact h2 (fun j hj => p3 j (by omega))
        | (refine Exists.intro _ (And.intro ?_ (Exists.intro (1) (Exists.intro (d + 1) (And.intro rfl (And.intro rfl (And.intro rfl (And.intro rfl (And.intro rfl (And.intro rfl (?_)))))))))) <;> first | omega | exact ⟨by omega, by omega, Or.inl ⟨rfl, j, by omega, p4⟩⟩ | exact ⟨by omega, by omega, Or.inl ⟨rfl, d.toNat, by omega, by omega⟩⟩)
        | (refine Exists.intro _ (And.intro ?_ (Exists.intro (0) (Exists.intro (d + 1) (And.intro rfl (And.intro rfl (And.intro rfl (And.intro rfl (And.intro rfl (And.intro rfl (?_)))))))))) <;> first | omega | exact ⟨by omega, by omega, Or.inr ⟨rfl, (fun j hj => by rcases (show (j : Int) < d ∨ j = (d).toNat by omega) with hd | rfl <;> first | exact p3 _ (by omega) | omega)⟩⟩)
        | refine And.intro ?_ ?_
        | (intro h; try omega)
        | omega
        | exact Nat.le_of_ble_eq_true rfl
  · refine Exists.intro _ (Exists.intro (0) (Exists.intro (0) (And.intro rfl (And.intro rfl (And.intro rfl (And.intro rfl (And.intro rfl (And.intro rfl (⟨by omega, by omega, Or.inr ⟨rfl, fun j hj => by omega⟩⟩)))))))))
def sm_105 (as : List wi_V) (M : mq_H) (q : wi_Q1 mq_H) (_ : wi_Q2 mq_H) : Prop := mq_sI as (fun e => mq_f M fun cd lm st sg el dr sz pr wc sp nw A B => 0 ≤ pr ∧ pr ≤ 64 ∧ ((∃ j : Nat, (j : Int) < pr ∧ A 46 j = e) → q (some (.inl 1)) ([cd, lm, st, sg, el, dr, sz, pr, wc, sp, nw], A, B)) ∧ ((∀ j : Nat, (j : Int) < pr → A 46 j ≠ e) → q (some (.inl 0)) ([cd, lm, st, sg, el, dr, sz, pr, wc, sp, nw], A, B)))
theorem mm_105 {l : Launch} {D : va_G} {aC : wm_Y} {b0 : Nat} (hl0 : l.stackTraces = false) : wm_sp l D aC b0 105 (wi_lf mq_Rl sm_105) := by
  refine wi_method mq_lw 105 (cx := fun _ _ _ _ _ => False) (ids := ci_105) (tb := tb_105) (by decide +kernel) hl0 wm_cx0 (wm_tb_ok tk_105) (by decide +kernel) [4] 250 (fun as M q qt hs => ?_)
  obtain ⟨e, rfl, hs1⟩ := mq_sI_e hs
  clear hs
  obtain ⟨cd, lm, st, sg, el, dr, sz, pr, wc, sp, nw, A, B, rfl, hs⟩ := mq_f_e hs1
  clear hs1
  obtain ⟨r1, r2, h1, h2⟩ := hs
  refine ⟨rfl, fun mz pc lv sk h cu su => ∃ x : Int, ∃ d : Int, lv = [some (wi_rf (some 11)), some (.inl (e)), some (.inl (x)), some (.inl (d))] ∧ sk = [] ∧ h = ([cd, lm, st, sg, el, dr, sz, pr, wc, sp, nw], A, B) ∧ cu = 0 ∧ su = 0 ∧ mz = (pr - d).toNat ∧ 0 ≤ d ∧ d ≤ pr ∧ ((x = 1 ∧ ∃ j : Nat, (j : Int) < d ∧ A 46 j = e) ∨ (x = 0 ∧ ∀ j : Nat, (j : Int) < d → A 46 j ≠ e)), mq_c1 (fun mz lv sk h cu su hI => ?_), ?_⟩
  · obtain ⟨x, d, rfl, rfl, rfl, rfl, rfl, rfl, p1, p2, ⟨rfl, j, p3, p4⟩ | ⟨rfl, p3⟩⟩ := hI
    · repeat' first
        | exact h1 ⟨j, by omega, p4⟩
        | (refine Exists.intro _ (And.intro ?_ (Exists.intro (1) (Exists.intro (d + 1) (And.intro rfl (And.intro rfl (And.intro rfl (And.intro rfl (And.intro rfl (And.intro rfl (?_)))))))))) <;> first | omega | exact ⟨by omega, by omega, Or.inl ⟨rfl, j, by omega, p4⟩⟩ | exact ⟨by omega, by omega, Or.inl ⟨rfl, d.toNat, by omega, by omega⟩⟩)
        | refine And.intro ?_ ?_
        | (intro h; try omega)
        | omega
        | exact Nat.le_of_ble_eq_true rfl
    · repeat' first
        | exact h2 (fun j hj => p3 j (by omega))
        | (refine Exists.intro _ (And.intro ?_ (Exists.intro (1) (Exists.intro (d + 1) (And.intro rfl (And.intro rfl (And.intro rfl (And.intro rfl (And.intro rfl (And.intro rfl (?_)))))))))) <;> first | omega | exact ⟨by omega, by omega, Or.inl ⟨rfl, j, by omega, p4⟩⟩ | exact ⟨by omega, by omega, Or.inl ⟨rfl, d.toNat, by omega, by omega⟩⟩)
        | (refine Exists.intro _ (And.intro ?_ (Exists.intro (0) (Exists.intro (d + 1) (And.intro rfl (And.intro rfl (And.intro rfl (And.intro rfl (And.intro rfl (And.intro rfl (?_)))))))))) <;> first | omega | exact ⟨by omega, by omega, Or.inr ⟨rfl, (fun j hj => by rcases (show (j : Int) < d ∨ j = (d).toNat by omega) with hd | rfl <;> first | exact p3 _ (by omega) | omega)⟩⟩)
        | refine And.intro ?_ ?_
        | (intro h; try omega)
        | omega
        | exact Nat.le_of_ble_eq_true rfl
  · refine Exists.intro _ (Exists.intro (0) (Exists.intro (0) (And.intro rfl (And.intro rfl (And.intro rfl (And.intro rfl (And.intro rfl (And.intro rfl (⟨by omega, by omega, Or.inr ⟨rfl, fun j hj => by omega⟩⟩)))))))))
/-- what the drivers d below n make of an element: the value so far, whether there is one -/
def mq_mk (A : mq_A) (s e : Int) : Nat → Int × Bool
  | 0 => (4, false)
  | d + 1 => if A 38 d = e then ((if A 30 s.toNat = 2 then A 39 d else mq_both (mq_mk A s e d).1 (A 39 d)), true) else mq_mk A s e d
def mq_made (A : mq_A) (dr s e : Int) : Int := if (mq_mk A s e dr.toNat).2 = true then (mq_mk A s e dr.toNat).1 else A 35 e.toNat
theorem mq_mk_s {A : mq_A} {s e d : Int} (h : 0 ≤ d) : mq_mk A s e (d + 1).toNat = if A 38 d.toNat = e then ((if A 30 s.toNat = 2 then A 39 d.toNat else mq_both (mq_mk A s e d.toNat).1 (A 39 d.toNat)), true) else mq_mk A s e d.toNat := by
  rw [show (d + 1).toNat = d.toNat + 1 by omega]
  rfl
def sm_92 (as : List wi_V) (M : mq_H) (q : wi_Q1 mq_H) (_ : wi_Q2 mq_H) : Prop := mq_sII as (fun s e => mq_f M fun cd lm st sg el dr sz pr wc sp nw A B => 0 ≤ s ∧ s < 200 ∧ 0 ≤ e ∧ e < 512 ∧ 0 ≤ dr ∧ dr ≤ 512 ∧ q (some (.inl (mq_made A dr s e))) ([cd, lm, st, sg, el, dr, sz, pr, wc, sp, nw], A, B))
theorem mm_92 {l : Launch} {D : va_G} {aC : wm_Y} {b0 : Nat} (hl0 : l.stackTraces = false) : wm_sp l D aC b0 92 (wi_lf mq_Rl sm_92) := by
  refine wi_method mq_lw 92 (cx := fun id => if id = 91 then sm_91 else fun _ _ _ _ => False) (ids := ci_92) (tb := tb_92) (by decide +kernel) hl0 (wm_cxc (mm_91 hl0) oi_92 (fun h => wm_cxn h)) (wm_tb_ok tk_92) (by decide +kernel) [8] 250 (fun as M q qt hs => ?_)
  obtain ⟨s, e, rfl, hs1⟩ := mq_sII_e hs
  clear hs
  obtain ⟨cd, lm, st, sg, el, dr, sz, pr, wc, sp, nw, A, B, rfl, hs⟩ := mq_f_e hs1
  clear hs1
  obtain ⟨r1, r2, r3, r4, r5, r6, h1⟩ := hs
  refine ⟨rfl, fun mz pc lv sk h cu su => ∃ v : Int, ∃ x : Int, ∃ d : Int, lv = [some (wi_rf (some 11)), some (.inl (s)), some (.inl (e)), some (.inl (v)), some (.inl (x)), some (.inl (d))] ∧ sk = [] ∧ h = ([cd, lm, st, sg, el, dr, sz, pr, wc, sp, nw], A, B) ∧ cu = 0 ∧ su = 0 ∧ mz = (dr - d).toNat ∧ 0 ≤ d ∧ d ≤ dr ∧ (mq_mk A s e d.toNat).1 = v ∧ ((x = 1 ∧ (mq_mk A s e d.toNat).2 = true) ∨ (x = 0 ∧ (mq_mk A s e d.toNat).2 = false)), mq_c1 (fun mz lv sk h cu su hI => ?_), ?_⟩
  · obtain ⟨v, x, d, rfl, rfl, rfl, rfl, rfl, rfl, p1, p2, p3, p4⟩ := hI
    have key : ∀ z, z = mq_made A dr s e → q (some (.inl z)) ([cd, lm, st, sg, el, dr, sz, pr, wc, sp, nw], A, B) := fun z e => by rw [e]; exact h1
    repeat' first
      | (refine key _ ?_; have hd : d = dr := (by omega); subst hd; unfold mq_made; rcases p4 with ⟨a, b⟩ | ⟨a, b⟩ <;> rw [b] <;> first | omega | exact p3.symm | rfl)
      | (refine Exists.intro _ (And.intro ?_ (Exists.intro (A 39 d.toNat) (Exists.intro (1) (Exists.intro (d + 1) (And.intro rfl (And.intro rfl (And.intro rfl (And.intro rfl (And.intro rfl (And.intro rfl (?_))))))))))) <;> first | omega | (rw [mq_mk_s p1]; simp_all))
      | (refine Exists.intro _ (And.intro ?_ (Exists.intro (mq_both v (A 39 d.toNat)) (Exists.intro (1) (Exists.intro (d + 1) (And.intro rfl (And.intro rfl (And.intro rfl (And.intro rfl (And.intro rfl (And.intro rfl (?_))))))))))) <;> first | omega | (rw [mq_mk_s p1]; simp_all))
      | (refine Exists.intro _ (And.intro ?_ (Exists.intro (v) (Exists.intro (x) (Exists.intro (d + 1) (And.intro rfl (And.intro rfl (And.intro rfl (And.intro rfl (And.intro rfl (And.intro rfl (?_))))))))))) <;> first | omega | (rw [mq_mk_s p1]; simp_all))
      | refine And.intro ?_ ?_
      | (intro h; try omega)
      | omega
      | exact Nat.le_of_ble_eq_true rfl
  · refine Exists.intro _ (Exists.intro (4) (Exists.intro (0) (Exists.intro (0) (And.intro rfl (And.intro rfl (And.intro rfl (And.intro rfl (And.intro rfl (And.intro rfl (⟨by omega, by omega, rfl, Or.inr ⟨rfl, rfl⟩⟩))))))))))
/-- a stretch of an array, filled -/
def mq_g (A : mq_A) (t lo n : Nat) (v : Nat → Int) : mq_A := fun t' k => if t' = t ∧ lo ≤ k ∧ k < lo + n then v k else A t' k
theorem mq_g_0 {A : mq_A} {t lo : Nat} {v : Nat → Int} : mq_g A t lo 0 v = A := by
  funext t' k
  simp only [mq_g]
  rw [if_neg (by omega)]
theorem mq_g_s {A : mq_A} {t lo n m k : Nat} {v : Nat → Int} {x : Int} (hk : k = lo + n) (hm : m = n + 1) (hx : x = v k) : md_u (mq_g A t lo n v) t k x = mq_g A t lo m v := by
  subst hk hm hx
  funext t' k
  simp only [mq_g, md_u]
  split
  · next e => obtain ⟨rfl, rfl⟩ := e; rw [if_pos (by omega)]
  · split
    · rw [if_pos (by omega)]
    · rw [if_neg (by omega)]
theorem mq_eA {F : List Int} {A A' B : mq_A} (h : A = A') : (F, A, B) = (F, A', B) := by rw [h]
theorem mq_eB {F : List Int} {A B B' : mq_A} (h : B = B') : (F, A, B) = (F, A, B') := by rw [h]
theorem mq_eAB {F : List Int} {A A' B B' : mq_A} (h : A = A') (g : B = B') : (F, A, B) = (F, A', B') := by rw [h, g]
theorem mq_g_t {A : mq_A} {t lo n t' : Nat} {v : Nat → Int} (h : t' ≠ t) : mq_g A t lo n v t' = A t' := by
  funext k
  simp [mq_g, h]
def sm_95 (as : List wi_V) (M : mq_H) (q : wi_Q1 mq_H) (_ : wi_Q2 mq_H) : Prop := mq_s as (mq_f M fun cd lm st sg el dr sz pr wc sp nw A B => q none ([0, lm, st, sg, el, dr, sz, pr, 0, sp, nw], mq_g A 50 0 200 (fun _ => 0), B))
theorem mm_95 {l : Launch} {D : va_G} {aC : wm_Y} {b0 : Nat} (hl0 : l.stackTraces = false) : wm_sp l D aC b0 95 (wi_lf mq_Rl sm_95) := by
  refine wi_method mq_lw 95 (cx := fun _ _ _ _ _ => False) (ids := ci_95) (tb := tb_95) (by decide +kernel) hl0 wm_cx0 (wm_tb_ok tk_95) (by decide +kernel) [12] 250 (fun as M q qt hs => ?_)
  obtain ⟨rfl, hs1⟩ := mq_s_e hs
  clear hs
  obtain ⟨cd, lm, st, sg, el, dr, sz, pr, wc, sp, nw, A, B, rfl, hs⟩ := mq_f_e hs1
  clear hs1
  refine ⟨rfl, fun mz pc lv sk h cu su => ∃ s : Int, lv = [some (wi_rf (some 11)), some (.inl (s))] ∧ sk = [] ∧ h = ([0, lm, st, sg, el, dr, sz, pr, 0, sp, nw], mq_g A 50 0 s.toNat (fun _ => 0), B) ∧ cu = 0 ∧ su = 0 ∧ mz = (200 - s).toNat ∧ 0 ≤ s ∧ s ≤ 200, mq_c1 (fun mz lv sk h cu su hI => ?_), ?_⟩
  · obtain ⟨s, rfl, rfl, rfl, rfl, rfl, rfl, p1, p2⟩ := hI
    repeat' first
      | (have hd : s = 200 := (by omega); subst hd; exact hs)
      | (refine Exists.intro _ (And.intro ?_ (Exists.intro (s + 1) (And.intro rfl (And.intro rfl (And.intro (mq_eA (by subst_vars; exact mq_g_s (by omega) (by omega) rfl)) (And.intro rfl (And.intro rfl (And.intro rfl (?_))))))))) <;> omega)
      | refine And.intro ?_ ?_
      | (intro h; try omega)
      | omega
      | exact Nat.le_of_ble_eq_true rfl
  · refine Exists.intro _ (Exists.intro (0) (And.intro rfl (And.intro rfl (And.intro (mq_eA mq_g_0.symm) (And.intro rfl (And.intro rfl (And.intro rfl (⟨by omega, by omega⟩))))))))
def sm_93 (as : List wi_V) (M : mq_H) (q : wi_Q1 mq_H) (_ : wi_Q2 mq_H) : Prop := mq_sJ as (fun w => mq_f M fun cd lm st sg el dr sz pr wc sp nw A B => 0 ≤ wc ∧ wc ≤ 16 ∧ (w < 0 ∨ 1152921504606846976 < w → q none ([1, lm, st, sg, el, dr, sz, pr, wc, sp, nw], A, B)) ∧ (0 ≤ w → w ≤ 1152921504606846976 → wc = 16 → q none ([2, lm, st, sg, el, dr, sz, pr, wc, sp, nw], A, B)) ∧ (0 ≤ w → w ≤ 1152921504606846976 → wc < 16 → q none ([0, lm, st, sg, el, dr, sz, pr, wc + 1, sp, nw], mq_g A 51 (64 * wc).toNat 64 (fun _ => 0), md_u B 52 wc.toNat w)))
theorem mm_93 {l : Launch} {D : va_G} {aC : wm_Y} {b0 : Nat} (hl0 : l.stackTraces = false) : wm_sp l D aC b0 93 (wi_lf mq_Rl sm_93) := by
  refine wi_method mq_lw 93 (cx := fun _ _ _ _ _ => False) (ids := ci_93) (tb := tb_93) (by decide +kernel) hl0 wm_cx0 (wm_tb_ok tk_93) (by decide +kernel) [46] 250 (fun as M q qt hs => ?_)
  obtain ⟨w, rfl, hs1⟩ := mq_sJ_e hs
  clear hs
  obtain ⟨cd, lm, st, sg, el, dr, sz, pr, wc, sp, nw, A, B, rfl, hs⟩ := mq_f_e hs1
  clear hs1
  obtain ⟨r1, r2, h1, h2, h3⟩ := hs
  refine ⟨rfl, fun mz pc lv sk h cu su => ∃ k : Int, lv = [some (wi_rf (some 11)), some (.inr (.inl (w))), none, some (.inl (k))] ∧ sk = [] ∧ h = ([0, lm, st, sg, el, dr, sz, pr, wc, sp, nw], mq_g A 51 (64 * wc).toNat k.toNat (fun _ => 0), B) ∧ cu = 0 ∧ su = 0 ∧ mz = (64 - k).toNat ∧ 0 ≤ k ∧ k ≤ 64 ∧ wc < 16 ∧ 0 ≤ w ∧ w ≤ 1152921504606846976, mq_c1 (fun mz lv sk h cu su hI => ?_), ?_⟩
  · obtain ⟨k, rfl, rfl, rfl, rfl, rfl, rfl, p1, p2, p3, p4, p5⟩ := hI
    repeat' first
      | (have hd : k = 64 := (by omega); subst hd; subst_vars; exact h3 (by omega) (by omega) (by omega))
      | (refine Exists.intro _ (And.intro ?_ (Exists.intro (k + 1) (And.intro rfl (And.intro rfl (And.intro (mq_eA (by subst_vars; exact mq_g_s (by omega) (by omega) rfl)) (And.intro rfl (And.intro rfl (And.intro rfl (?_))))))))) <;> omega)
      | refine And.intro ?_ ?_
      | (intro h; try omega)
      | omega
      | exact Nat.le_of_ble_eq_true rfl
  · repeat' first
      | exact h1 (by omega)
      | exact h2 (by omega) (by omega) (by omega)
      | (refine Exists.intro _ (Exists.intro (0) (And.intro rfl (And.intro rfl (And.intro (mq_eA mq_g_0.symm) (And.intro rfl (And.intro rfl (And.intro rfl (?_)))))))) <;> omega)
      | refine And.intro ?_ ?_
      | (intro h; try omega)
      | omega
      | exact Nat.le_of_ble_eq_true rfl
