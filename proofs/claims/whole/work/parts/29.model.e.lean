/-! THE REFERENCE, 5: suspend, drive, look, renew -/
theorem mq_g_u {A : mq_A} {t lo n t' k : Nat} {v : Nat → Int} {x : Int} (h : t' ≠ t) : md_u (mq_g A t lo n v) t' k x = mq_g (md_u A t' k x) t lo n v := by
  funext a b
  simp only [mq_g, md_u]
  by_cases h1 : a = t' ∧ b = k
  · obtain ⟨rfl, rfl⟩ := h1
    rw [if_pos ⟨rfl, rfl⟩, if_neg (fun z => h z.1), if_pos ⟨rfl, rfl⟩]
  · rw [if_neg h1]
    split <;> rfl
theorem mq_g2 {A : mq_A} {t1 t2 b c n m k1 k2 : Nat} {f g : Nat → Int} {x y : Int} (h : t1 ≠ t2) (h1 : k1 = b + n) (h2 : k2 = c + n) (h3 : m = n + 1) (hx : x = f k1) (hy : y = g k2) : md_u (md_u (mq_g (mq_g A t1 b n f) t2 c n g) t1 k1 x) t2 k2 y = mq_g (mq_g A t1 b m f) t2 c m g := by
  rw [mq_g_u h, mq_g_s h1 h3 hx]
  exact mq_g_s h2 h3 hy
theorem mq_g_o {A : mq_A} {t lo n k : Nat} {v : Nat → Int} (h : k < lo ∨ lo + n ≤ k) : mq_g A t lo n v t k = A t k := by
  simp only [mq_g]
  rw [if_neg (by omega)]
theorem mq_g_i {A : mq_A} {t lo n k : Nat} {v : Nat → Int} (h : lo ≤ k) (g : k < lo + n) : mq_g A t lo n v t k = v k := by
  simp [mq_g, h, g]
def sm_109 (as : List wi_V) (M : mq_H) (q : wi_Q1 mq_H) (_ : wi_Q2 mq_H) : Prop := mq_sI as (fun p => mq_f M fun cd lm st sg el dr sz pr wc sp nw A B => 0 ≤ p ∧ p < 64 ∧ 0 ≤ sg ∧ sg ≤ 200 ∧ (B 48 p.toNat = nw → q none ([cd, lm, st, sg, el, dr, sz, pr, wc, sp, nw], md_u A 46 p.toNat 0, B)) ∧
  (B 48 p.toNat ≠ nw → (∃ j : Int, 0 ≤ j ∧ j < sg ∧ A 34 j.toNat ≠ 0 ∧ A 49 (200 * p + j).toNat ≠ 0) → (A 47 p.toNat ≠ 0 → q none ([cd, lm, st, sg, el, dr, sz, pr, wc, sp, nw], md_u A 46 p.toNat 2, B)) ∧ (A 47 p.toNat = 0 → q none ([cd, lm, st, sg, el, dr, sz, pr, wc, sp, nw], md_u A 46 p.toNat 0, B))) ∧
  (B 48 p.toNat ≠ nw → (∀ j : Int, 0 ≤ j → j < sg → A 34 j.toNat = 0 ∨ A 49 (200 * p + j).toNat = 0) → q none ([cd, lm, st, sg, el, dr, sz, pr, wc, sp, nw], A, B)))
theorem mm_109 {l : Launch} {D : va_G} {aC : wm_Y} {b0 : Nat} (hl0 : l.stackTraces = false) : wm_sp l D aC b0 109 (wi_lf mq_Rl sm_109) := by
  refine wi_method mq_lw 109 (cx := fun _ _ _ _ _ => False) (ids := ci_109) (tb := tb_109) (by decide +kernel) hl0 wm_cx0 (wm_tb_ok tk_109) (by decide +kernel) [4] 250 (fun as M q qt hs => ?_)
  obtain ⟨p, rfl, hs1⟩ := mq_sI_e hs
  clear hs
  obtain ⟨cd, lm, st, sg, el, dr, sz, pr, wc, sp, nw, A, B, rfl, hs⟩ := mq_f_e hs1
  clear hs1
  obtain ⟨r1, r2, r3, r4, h1, h2, h3⟩ := hs
  refine ⟨rfl, fun mz pc lv sk h cu su => ∃ x : Int, ∃ s : Int, lv = [some (wi_rf (some 11)), some (.inl (p)), some (.inl (x)), some (.inl (s))] ∧ sk = [] ∧ h = ([cd, lm, st, sg, el, dr, sz, pr, wc, sp, nw], A, B) ∧ cu = 0 ∧ su = 0 ∧ mz = (sg - s).toNat ∧ 0 ≤ s ∧ s ≤ sg ∧ ((x = 1 ∧ ∃ j : Int, 0 ≤ j ∧ j < s ∧ A 34 j.toNat ≠ 0 ∧ A 49 (200 * p + j).toNat ≠ 0) ∨ (x = 0 ∧ ∀ j : Int, 0 ≤ j → j < s → A 34 j.toNat = 0 ∨ A 49 (200 * p + j).toNat = 0)), mq_c1 (fun mz lv sk h cu su hI => ?_), ?_⟩
  · obtain ⟨x, s, rfl, rfl, rfl, rfl, rfl, rfl, p1, p2, ⟨rfl, j, p3, p4, p5, p6⟩ | ⟨rfl, p3⟩⟩ := hI
    · repeat' first
        | (subst_vars; exact h1 (by omega))
        | (subst_vars; exact (h2 (by omega) ⟨j, p3, by omega, p5, p6⟩).1 (by omega))
        | (subst_vars; exact (h2 (by omega) ⟨j, p3, by omega, p5, p6⟩).2 (by omega))
        | (refine Exists.intro _ (And.intro ?_ (Exists.intro (1) (Exists.intro (s + 1) (And.intro rfl (And.intro rfl (And.intro rfl (And.intro rfl (And.intro rfl (And.intro rfl (?_)))))))))) <;> first | omega | exact ⟨by omega, by omega, Or.inl ⟨rfl, j, p3, by omega, p5, p6⟩⟩ | exact ⟨by omega, by omega, Or.inl ⟨rfl, s, by omega, by omega, by omega, by omega⟩⟩)
        | refine And.intro ?_ ?_
        | (intro h; try omega)
        | omega
        | exact Nat.le_of_ble_eq_true rfl
    · repeat' first
        | (subst_vars; exact h1 (by omega))
        | exact h3 (by omega) (fun j hj hj2 => p3 j hj (by omega))
        | (refine Exists.intro _ (And.intro ?_ (Exists.intro (1) (Exists.intro (s + 1) (And.intro rfl (And.intro rfl (And.intro rfl (And.intro rfl (And.intro rfl (And.intro rfl (?_)))))))))) <;> first | omega | exact ⟨by omega, by omega, Or.inl ⟨rfl, j, p3, by omega, p5, p6⟩⟩ | exact ⟨by omega, by omega, Or.inl ⟨rfl, s, by omega, by omega, by omega, by omega⟩⟩)
        | (refine Exists.intro _ (And.intro ?_ (Exists.intro (0) (Exists.intro (s + 1) (And.intro rfl (And.intro rfl (And.intro rfl (And.intro rfl (And.intro rfl (And.intro rfl (?_)))))))))) <;> first | omega | exact ⟨by omega, by omega, Or.inr ⟨rfl, fun j hj hj2 => by rcases (show j < s ∨ j = s by omega) with hd | rfl <;> first | exact p3 j hj hd | omega⟩⟩)
        | refine And.intro ?_ ?_
        | (intro h; try omega)
        | omega
        | exact Nat.le_of_ble_eq_true rfl
  · refine Exists.intro _ (Exists.intro (0) (Exists.intro (0) (And.intro rfl (And.intro rfl (And.intro rfl (And.intro rfl (And.intro rfl (And.intro rfl (⟨by omega, by omega, Or.inr ⟨rfl, fun j hj hj2 => by omega⟩⟩)))))))))
def sm_101 (as : List wi_V) (M : mq_H) (q : wi_Q1 mq_H) (_ : wi_Q2 mq_H) : Prop := mq_sIIJ as (fun p a w => mq_f M fun cd lm st sg el dr sz pr wc sp nw A B => pr ≤ 64 ∧ 0 ≤ nw ∧ nw ≤ 1152921504606846976 ∧ (a = 0 ∨ a = 1) ∧ (∀ j : Int, 0 ≤ j → j < 200 → A 50 j.toNat = 0 ∨ A 50 j.toNat = 1) ∧ (p < 0 ∨ pr ≤ p → q none ([1, lm, st, sg, el, dr, sz, pr, wc, sp, nw], A, B)) ∧ (0 ≤ p → p < pr → w < -1 ∨ 1152921504606846976 - nw < w → q none ([2, lm, st, sg, el, dr, sz, pr, wc, sp, nw], A, B)) ∧ (0 ≤ p → p < pr → -1 ≤ w → w ≤ 1152921504606846976 - nw → A 46 p.toNat ≠ 0 → q none ([3, lm, st, sg, el, dr, sz, pr, wc, sp, nw], A, B)) ∧
  (0 ≤ p → p < pr → -1 ≤ w → w ≤ 1152921504606846976 - nw → A 46 p.toNat = 0 → ∀ u : Int, (w < 0 → u = -1) → (0 ≤ w → u = nw + w) → q none ([0, lm, st, sg, el, dr, sz, pr, wc, sp, nw], mq_g (mq_g (md_u (md_u A 46 p.toNat 1) 47 p.toNat a) 49 (200 * p).toNat 200 (fun k => A 50 (k - (200 * p).toNat))) 50 0 200 (fun _ => 0), md_u B 48 p.toNat u)))
theorem mm_101 {l : Launch} {D : va_G} {aC : wm_Y} {b0 : Nat} (hl0 : l.stackTraces = false) : wm_sp l D aC b0 101 (wi_lf mq_Rl sm_101) := by
  refine wi_method mq_lw 101 (cx := fun id => if id = 80 then sm_80 else fun _ _ _ _ => False) (ids := ci_101) (tb := tb_101) (by decide +kernel) hl0 (wm_cxc (mm_80 hl0) oi_101 (fun h => wm_cxn h)) (wm_tb_ok tk_101) (by decide +kernel) [104] 250 (fun as M q qt hs => ?_)
  obtain ⟨p, a, w, rfl, hs1⟩ := mq_sIIJ_e hs
  clear hs
  obtain ⟨cd, lm, st, sg, el, dr, sz, pr, wc, sp, nw, A, B, rfl, hs⟩ := mq_f_e hs1
  clear hs1
  obtain ⟨r1, r2, r3, r4, r5, h1, h2, h3, h4⟩ := hs
  refine ⟨rfl, fun mz pc lv sk h cu su => ∃ u : Int, ∃ s : Int, ∃ A2 : mq_A, lv = [some (wi_rf (some 11)), some (.inl (p)), some (.inl (a)), some (.inr (.inl (w))), none, some (.inl (s))] ∧ sk = [] ∧ h = ([0, lm, st, sg, el, dr, sz, pr, wc, sp, nw], A2, md_u B 48 p.toNat u) ∧ cu = 0 ∧ su = 0 ∧ mz = (200 - s).toNat ∧ 0 ≤ s ∧ s ≤ 200 ∧ 0 ≤ p ∧ p < pr ∧ -1 ≤ w ∧ w ≤ 1152921504606846976 - nw ∧ A 46 p.toNat = 0 ∧ (w < 0 → u = -1) ∧ (0 ≤ w → u = nw + w) ∧ A2 = mq_g (mq_g (md_u (md_u A 46 p.toNat 1) 47 p.toNat a) 49 (200 * p).toNat s.toNat (fun k => A 50 (k - (200 * p).toNat))) 50 0 s.toNat (fun _ => 0), mq_c1 (fun mz lv sk h cu su hI => ?_), ?_⟩
  · obtain ⟨u, s, A2, rfl, rfl, rfl, rfl, rfl, rfl, p1, p2, p3, p4, p5, p6, p7, p8, p9, p10⟩ := hI
    have e50 : A2 50 s.toNat = A 50 s.toNat := by rw [p10, mq_g_o (by omega), mq_g_t (by decide), md_u_t (by decide), md_u_t (by decide)]
    have r6 := r5 s p1
    repeat' first
      | (have e : s = 200 := (by omega); subst e; rw [p10]; exact h4 p3 p4 p5 p6 p7 u p8 p9)
      | (refine Exists.intro _ (And.intro ?_ (Exists.intro (u) (Exists.intro (s + 1) (Exists.intro (_) (And.intro rfl (And.intro rfl (And.intro rfl (And.intro rfl (And.intro rfl (And.intro rfl (?_))))))))))) <;> first | omega | (refine ⟨by omega, by omega, p3, p4, p5, p6, p7, p8, p9, ?_⟩; subst_vars; rw [e50]; exact mq_g2 (by decide) (by omega) (by omega) (by omega) (congrArg (A 50) (by omega)) rfl))
      | refine And.intro ?_ ?_
      | (intro h; try omega)
      | omega
      | exact Nat.le_of_ble_eq_true rfl
  · repeat' first
      | exact h1 (by omega)
      | exact h2 (by omega) (by omega) (by omega)
      | exact h3 (by omega) (by omega) (by omega) (by omega) (by omega)
      | (refine Exists.intro _ (Exists.intro (_) (Exists.intro (0) (Exists.intro (_) (And.intro rfl (And.intro rfl (And.intro (by subst_vars; rfl) (And.intro rfl (And.intro rfl (And.intro rfl (?_)))))))))) <;> first | omega | (refine ⟨by omega, by omega, by omega, by omega, by omega, by omega, by assumption, by omega, by omega, ?_⟩; subst_vars; rw [show Int.toNat 0 = 0 from rfl, mq_g_0, mq_g_0]))
      | refine And.intro ?_ ?_
      | (intro h; try omega)
      | omega
      | exact Nat.le_of_ble_eq_true rfl
