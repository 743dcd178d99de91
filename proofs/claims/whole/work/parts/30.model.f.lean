/-! THE REFERENCE, 6: drive, renew, start -/
def sm_87 (as : List wi_V) (M : mq_H) (q : wi_Q1 mq_H) (_ : wi_Q2 mq_H) : Prop := mq_sII as (fun p s => mq_f M fun cd lm st sg el dr sz pr wc sp nw A B => sg ≤ 200 ∧ 0 ≤ dr ∧ dr ≤ 512 ∧ (∀ s : Nat, (s : Int) < sg → 1 ≤ A 31 s ∧ A 31 s ≤ 64 ∧ 0 ≤ A 32 s ∧ A 32 s ≤ 512) ∧ (p < 0 ∨ pr ≤ p ∨ s < 0 ∨ sg ≤ s → q none ([1, lm, st, sg, el, dr, sz, pr, wc, sp, nw], A, B)) ∧ (0 ≤ p → p < pr → 0 ≤ s → s < sg → st ≠ 0 → q none ([2, lm, st, sg, el, dr, sz, pr, wc, sp, nw], A, B)) ∧
  (0 ≤ p → p < pr → 0 ≤ s → s < sg → st = 0 → ∀ d : Int, 0 ≤ d → d < dr → A 37 d.toNat = p → A 38 d.toNat = A 32 s.toNat → q none ([0, lm, st, sg, el, dr, sz, pr, wc, sp, nw], A, B)) ∧ (0 ≤ p → p < pr → 0 ≤ s → s < sg → st = 0 → (∀ j : Nat, (j : Int) < dr → ¬ (A 37 j = p ∧ A 38 j = A 32 s.toNat)) → ((A 30 s.toNat = 2 ∧ (∃ j : Nat, (j : Int) < dr ∧ A 38 j = A 32 s.toNat)) ∨ 512 < dr + A 31 s.toNat) → q none ([2, lm, st, sg, el, dr, sz, pr, wc, sp, nw], A, B)) ∧
  (0 ≤ p → p < pr → 0 ≤ s → s < sg → st = 0 → (∀ j : Nat, (j : Int) < dr → ¬ (A 37 j = p ∧ A 38 j = A 32 s.toNat)) → ¬ ((A 30 s.toNat = 2 ∧ (∃ j : Nat, (j : Int) < dr ∧ A 38 j = A 32 s.toNat)) ∨ 512 < dr + A 31 s.toNat) → q none ([0, lm, st, sg, el, dr + A 31 s.toNat, sz, pr, wc, sp, nw], mq_g (mq_g A 37 dr.toNat (A 31 s.toNat).toNat (fun _ => p)) 38 dr.toNat (A 31 s.toNat).toNat (fun j => A 32 s.toNat + ((j - dr.toNat : Nat) : Int)), B)))
theorem mm_87 {l : Launch} {D : va_G} {aC : wm_Y} {b0 : Nat} (hl0 : l.stackTraces = false) : wm_sp l D aC b0 87 (wi_lf mq_Rl sm_87) := by
  refine wi_method mq_lw 87 (cx := fun id => if id = 80 then sm_80 else if id = 81 then sm_81 else if id = 85 then sm_85 else if id = 86 then sm_86 else fun _ _ _ _ => False) (ids := ci_87) (tb := tb_87) (by decide +kernel) hl0 (wm_cxc (mm_80 hl0) oi_87 (fun h => wm_cxc (mm_81 hl0) h (fun h => wm_cxc (mm_85 hl0) h (fun h => wm_cxc (mm_86 hl0) h (fun h => wm_cxn h))))) (wm_tb_ok tk_87) (by decide +kernel) [110] 250 (fun as M q qt hs => ?_)
  obtain ⟨p, s, rfl, hs1⟩ := mq_sII_e hs
  clear hs
  obtain ⟨cd, lm, st, sg, el, dr, sz, pr, wc, sp, nw, A, B, rfl, hs⟩ := mq_f_e hs1
  clear hs1
  obtain ⟨r1, r2, r3, r4, h1, h2, h3, h4, h5⟩ := hs
  have r5 := r4 s.toNat
  clear r4
  refine ⟨rfl, fun mz pc lv sk h cu su => ∃ k : Int, ∃ c0 : Int, ∃ D : Int, ∃ A1 : mq_A, lv = [some (wi_rf (some 11)), some (.inl (p)), some (.inl (s)), some (.inl (k))] ∧ sk = [] ∧ h = ([c0, lm, st, sg, el, D, sz, pr, wc, sp, nw], A1, B) ∧ cu = 0 ∧ su = 0 ∧ mz = (100 - k).toNat ∧ 0 ≤ k ∧ k ≤ A 31 s.toNat ∧ 0 ≤ p ∧ p < pr ∧ 0 ≤ s ∧ s < sg ∧ st = 0 ∧ (∀ j : Nat, (j : Int) < dr → ¬ (A 37 j = p ∧ A 38 j = A 32 s.toNat)) ∧ ((c0 = 0 ∧ D = dr + k ∧ A1 = mq_g (mq_g A 37 dr.toNat k.toNat (fun _ => p)) 38 dr.toNat k.toNat (fun j => A 32 s.toNat + ((j - dr.toNat : Nat) : Int)) ∧ ¬ ((A 30 s.toNat = 2 ∧ (∃ j : Nat, (j : Int) < dr ∧ A 38 j = A 32 s.toNat)) ∨ 512 < dr + A 31 s.toNat)) ∨ (c0 = 2 ∧ D = dr ∧ A1 = A ∧ ((A 30 s.toNat = 2 ∧ (∃ j : Nat, (j : Int) < dr ∧ A 38 j = A 32 s.toNat)) ∨ 512 < dr + A 31 s.toNat))), mq_c1 (fun mz lv sk h cu su hI => ?_), ?_⟩
  · obtain ⟨k, c0, D, A1, rfl, rfl, rfl, rfl, rfl, rfl, p1, p2, p3, p4, p5, p6, p7, p8, ⟨rfl, p9, p10, p11⟩ | ⟨rfl, rfl, rfl, p9⟩⟩ := hI
    · have e31 : A1 31 s.toNat = A 31 s.toNat := by rw [p10, mq_g_t (by decide), mq_g_t (by decide)]
      have e32 : A1 32 s.toNat = A 32 s.toNat := by rw [p10, mq_g_t (by decide), mq_g_t (by decide)]
      have p12 : dr + A 31 s.toNat ≤ 512 := by have := fun z => p11 (Or.inr z); omega
      have e33 : ∀ X : mq_A, X = md_u A1 37 D.toNat p → X 32 s.toNat = A 32 s.toNat := fun X e => by rw [e, md_u_t (by decide)]; exact e32
      repeat' first
        | (have e : k = A 31 s.toNat := (by omega); subst e; rw [p10, p9]; exact h5 p3 p4 p5 p6 p7 p8 p11)
        | (intro A3 e3; have e34 := e33 A3 e3)
        | (refine Exists.intro _ (And.intro ?_ (Exists.intro (k + 1) (Exists.intro (0) (Exists.intro (_) (Exists.intro (_) (And.intro rfl (And.intro rfl (And.intro rfl (And.intro rfl (And.intro rfl (And.intro rfl (?_)))))))))))) <;> first | omega | (refine ⟨by omega, by omega, p3, p4, p5, p6, p7, p8, Or.inl ⟨rfl, by omega, ?_, p11⟩⟩; rw [h, e34, e3, p10]; exact mq_g2 (by decide) (by omega) (by omega) (by omega) rfl (by show A 32 s.toNat + k = A 32 s.toNat + ((D.toNat - dr.toNat : Nat) : Int); omega)))
        | refine And.intro ?_ ?_
        | (intro h; try omega)
        | omega
        | exact Nat.le_of_ble_eq_true rfl
    · repeat' first
        | exact h4 p3 p4 p5 p6 p7 p8 p9
        | refine And.intro ?_ ?_
        | (intro h; try omega)
        | omega
        | exact Nat.le_of_ble_eq_true rfl
  · repeat' first
      | exact h1 (by omega)
      | exact h2 (by omega) (by omega) (by omega) (by omega) (by omega)
      | exact h3 (by omega) (by omega) (by omega) (by omega) (by omega) _ (by assumption) (by assumption) (by assumption) (by assumption)
      | (refine Exists.intro _ (Exists.intro (0) (Exists.intro (2) (Exists.intro (_) (Exists.intro (_) (And.intro rfl (And.intro rfl (And.intro rfl (And.intro rfl (And.intro rfl (And.intro rfl (?_))))))))))) <;> first | omega | exact ⟨by omega, by omega, by omega, by omega, by omega, by omega, by omega, by assumption, Or.inr ⟨rfl, rfl, rfl, Or.inr (by omega)⟩⟩)
      | (refine Exists.intro _ (Exists.intro (0) (Exists.intro (2) (Exists.intro (_) (Exists.intro (_) (And.intro rfl (And.intro rfl (And.intro rfl (And.intro rfl (And.intro rfl (And.intro rfl (?_))))))))))) <;> first | omega | exact ⟨by omega, by omega, by omega, by omega, by omega, by omega, by omega, by assumption, Or.inr ⟨rfl, rfl, rfl, Or.inl ⟨by omega, by assumption⟩⟩⟩)
      | (refine Exists.intro _ (Exists.intro (0) (Exists.intro (0) (Exists.intro (_) (Exists.intro (_) (And.intro rfl (And.intro rfl (And.intro rfl (And.intro rfl (And.intro rfl (And.intro rfl (?_))))))))))) <;> first | omega | exact ⟨by omega, by omega, by omega, by omega, by omega, by omega, by omega, by assumption, Or.inl ⟨rfl, by omega, (by rw [show Int.toNat 0 = 0 from rfl, mq_g_0, mq_g_0]), fun z => by rcases z with ⟨z1, j, z2, z3⟩ | z <;> first | omega | exact (‹∀ j : Nat, (j : Int) < dr → A 38 j ≠ A 32 s.toNat› j z2 z3).elim⟩⟩)
      | refine And.intro ?_ ?_
      | (intro h; try omega)
      | omega
      | exact Nat.le_of_ble_eq_true rfl
