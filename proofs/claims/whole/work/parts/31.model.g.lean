/-! THE REFERENCE, 7: renew -/
theorem md_u_u {α : Type} {f : Nat → Nat → α} {t k : Nat} {a b : α} : md_u (md_u f t k a) t k b = md_u f t k b := by
  funext t' k'
  simp only [md_u]
  split <;> rfl
theorem mq_mk_c {A A' : mq_A} {s e : Int} (h38 : A' 38 = A 38) (h30 : A' 30 = A 30) (h39 : A' 39 = A 39) : ∀ n, mq_mk A' s e n = mq_mk A s e n
  | 0 => rfl
  | n + 1 => by simp only [mq_mk, h38, h30, h39, mq_mk_c h38 h30 h39 n]
theorem mq_made_c {A A' : mq_A} {dr s e : Int} (h38 : A' 38 = A 38) (h30 : A' 30 = A 30) (h39 : A' 39 = A 39) (h35 : A' 35 e.toNat = A 35 e.toNat) : mq_made A' dr s e = mq_made A dr s e := by
  unfold mq_made
  rw [mq_mk_c h38 h30 h39, h35]
def sm_108 (as : List wi_V) (M : mq_H) (q : wi_Q1 mq_H) (_ : wi_Q2 mq_H) : Prop := mq_sI as (fun s => mq_f M fun cd lm st sg el dr sz pr wc sp nw A B => 0 ≤ s ∧ s < 200 ∧ 0 ≤ A 32 s.toNat ∧ 0 ≤ A 31 s.toNat ∧ A 32 s.toNat + A 31 s.toNat ≤ 512 ∧ 0 ≤ dr ∧ dr ≤ 512 ∧ (A 33 s.toNat = 0 → q none ([cd, lm, st, sg, el, dr, sz, pr, wc, sp, nw], md_u A 34 s.toNat 0, B)) ∧ (A 33 s.toNat ≠ 0 → (∀ j : Int, A 32 s.toNat ≤ j → j < A 32 s.toNat + A 31 s.toNat → mq_made A dr s j = A 35 j.toNat) → q none ([cd, lm, st, sg, el, dr, sz, pr, wc, sp, nw], md_u A 34 s.toNat 0, B)) ∧ (A 33 s.toNat ≠ 0 → (∃ j : Int, A 32 s.toNat ≤ j ∧ j < A 32 s.toNat + A 31 s.toNat ∧ mq_made A dr s j ≠ A 35 j.toNat) → q none ([cd, lm, st, sg, el, dr, sz, pr, wc, sp, nw], mq_g (mq_g (md_u A 34 s.toNat 1) 36 (A 32 s.toNat).toNat (A 31 s.toNat).toNat (fun j => A 35 j)) 35 (A 32 s.toNat).toNat (A 31 s.toNat).toNat (fun j => mq_made A dr s (j : Int)), B)))
theorem mm_108 {l : Launch} {D : va_G} {aC : wm_Y} {b0 : Nat} (hl0 : l.stackTraces = false) : wm_sp l D aC b0 108 (wi_lf mq_Rl sm_108) := by
  refine wi_method mq_lw 108 (cx := fun id => if id = 92 then sm_92 else fun _ _ _ _ => False) (ids := ci_108) (tb := tb_108) (by decide +kernel) hl0 (wm_cxc (mm_92 hl0) oi_108 (fun h => wm_cxn h)) (wm_tb_ok tk_108) (by decide +kernel) [24, 89] 250 (fun as M q qt hs => ?_)
  obtain ⟨s, rfl, hs1⟩ := mq_sI_e hs
  clear hs
  obtain ⟨cd, lm, st, sg, el, dr, sz, pr, wc, sp, nw, A, B, rfl, hs⟩ := mq_f_e hs1
  clear hs1
  obtain ⟨r1, r2, r3, r4, r5, r6, r7, h1, h2, h3⟩ := hs
  refine ⟨rfl, fun mz pc lv sk h cu su => match pc with | 24 => ∃ e : Int, ∃ x : Int, ∃ A1 : mq_A, lv = [some (wi_rf (some 11)), some (.inl (s)), some (.inl (e))] ∧ sk = [] ∧ h = ([cd, lm, st, sg, el, dr, sz, pr, wc, sp, nw], A1, B) ∧ cu = 0 ∧ su = 0 ∧ mz = (10000 - e).toNat ∧ A 32 s.toNat ≤ e ∧ e ≤ A 32 s.toNat + A 31 s.toNat ∧ A1 = md_u A 34 s.toNat x ∧ A 33 s.toNat ≠ 0 ∧ ((x = 1 ∧ (∃ j : Int, A 32 s.toNat ≤ j ∧ j < e ∧ mq_made A dr s j ≠ A 35 j.toNat)) ∨ (x = 0 ∧ (∀ j : Int, A 32 s.toNat ≤ j → j < e → mq_made A dr s j = A 35 j.toNat))) | 89 => ∃ e : Int, ∃ A1 : mq_A, lv = [some (wi_rf (some 11)), some (.inl (s)), some (.inl (e))] ∧ sk = [] ∧ h = ([cd, lm, st, sg, el, dr, sz, pr, wc, sp, nw], A1, B) ∧ cu = 0 ∧ su = 0 ∧ mz = (1000 - e).toNat ∧ A 32 s.toNat ≤ e ∧ e ≤ A 32 s.toNat + A 31 s.toNat ∧ A 33 s.toNat ≠ 0 ∧ ((e = A 32 s.toNat ∧ A1 = md_u A 34 s.toNat 0 ∧ (∀ j : Int, A 32 s.toNat ≤ j → j < A 32 s.toNat + A 31 s.toNat → mq_made A dr s j = A 35 j.toNat)) ∨ (A1 = mq_g (mq_g (md_u A 34 s.toNat 1) 36 (A 32 s.toNat).toNat (e - A 32 s.toNat).toNat (fun j => A 35 j)) 35 (A 32 s.toNat).toNat (e - A 32 s.toNat).toNat (fun j => mq_made A dr s (j : Int)) ∧ (∃ j : Int, A 32 s.toNat ≤ j ∧ j < A 32 s.toNat + A 31 s.toNat ∧ mq_made A dr s j ≠ A 35 j.toNat))) | _ => False, mq_c2 (fun mz lv sk h cu su hI => ?_) (fun mz lv sk h cu su hI => ?_), ?_⟩
  · obtain ⟨e, x, A1, rfl, rfl, rfl, rfl, rfl, rfl, p1, p2, p3, p4, p5⟩ := hI
    have e31 : A1 31 s.toNat = A 31 s.toNat := by rw [p3, md_u_t (by decide)]
    have e32 : A1 32 s.toNat = A 32 s.toNat := by rw [p3, md_u_t (by decide)]
    have e34 : A1 34 s.toNat = x := by rw [p3, md_u_s]
    have e35 : A1 35 e.toNat = A 35 e.toNat := by rw [p3, md_u_t (by decide)]
    have em : mq_made A1 dr s e = mq_made A dr s e := by
      refine mq_made_c ?_ ?_ ?_ e35 <;> rw [p3, md_u_t (by decide)]
    have eu : ∀ y : Int, md_u A1 34 s.toNat y = md_u A 34 s.toNat y := fun y => by rw [p3, md_u_u]
    rcases p5 with ⟨rfl, j, p6, p7, p8⟩ | ⟨rfl, p6⟩
    · repeat' first
        | (refine Exists.intro _ (And.intro ?_ (Exists.intro (e + 1) (Exists.intro (1) (Exists.intro (_) (And.intro rfl (And.intro rfl (And.intro rfl (And.intro rfl (And.intro rfl (And.intro rfl (?_))))))))))) <;> first | omega | exact ⟨by omega, by omega, by rw [h]; exact eu _, p4, Or.inl ⟨rfl, j, p6, by omega, p8⟩⟩)
        | (refine Exists.intro _ (And.intro ?_ (Exists.intro (_) (Exists.intro (_) (And.intro rfl (And.intro rfl (And.intro rfl (And.intro rfl (And.intro rfl (And.intro rfl (?_)))))))))) <;> first | omega | exact ⟨by omega, by omega, p4, Or.inr ⟨by rw [e32, p3, show (A 32 s.toNat - A 32 s.toNat).toNat = 0 by omega, mq_g_0, mq_g_0], j, p6, by omega, p8⟩⟩)
        | refine And.intro ?_ ?_
        | (intro h; try omega)
        | omega
        | exact Nat.le_of_ble_eq_true rfl
    · repeat' first
        | (refine Exists.intro _ (And.intro ?_ (Exists.intro (e + 1) (Exists.intro (1) (Exists.intro (_) (And.intro rfl (And.intro rfl (And.intro rfl (And.intro rfl (And.intro rfl (And.intro rfl (?_))))))))))) <;> first | omega | exact ⟨by omega, by omega, by rw [h]; exact eu _, p4, Or.inl ⟨rfl, e, by omega, by omega, by omega⟩⟩)
        | (refine Exists.intro _ (And.intro ?_ (Exists.intro (e + 1) (Exists.intro (0) (Exists.intro (_) (And.intro rfl (And.intro rfl (And.intro rfl (And.intro rfl (And.intro rfl (And.intro rfl (?_))))))))))) <;> first | omega | exact ⟨by omega, by omega, by rw [h]; exact eu _, p4, Or.inr ⟨rfl, fun j hj hj2 => by rcases (show j < e ∨ j = e by omega) with hd | rfl <;> first | exact p6 j hj hd | omega⟩⟩)
        | (refine Exists.intro _ (And.intro ?_ (Exists.intro (_) (Exists.intro (_) (And.intro rfl (And.intro rfl (And.intro rfl (And.intro rfl (And.intro rfl (And.intro rfl (?_)))))))))) <;> first | omega | exact ⟨by omega, by omega, p4, Or.inl ⟨e32, p3, fun j hj hj2 => p6 j hj (by omega)⟩⟩)
        | refine And.intro ?_ ?_
        | (intro h; try omega)
        | omega
        | exact Nat.le_of_ble_eq_true rfl
  · obtain ⟨e, A1, rfl, rfl, rfl, rfl, rfl, rfl, p1, p2, p4, ⟨p5, p6, p7⟩ | ⟨p6, p7⟩⟩ := hI
    · have e31 : A1 31 s.toNat = A 31 s.toNat := by rw [p6, md_u_t (by decide)]
      have e32 : A1 32 s.toNat = A 32 s.toNat := by rw [p6, md_u_t (by decide)]
      have e34 : A1 34 s.toNat = 0 := by rw [p6, md_u_s]
      repeat' first
        | (rw [p6]; exact h2 p4 p7)
        | refine And.intro ?_ ?_
        | (intro h; try omega)
        | omega
        | exact Nat.le_of_ble_eq_true rfl
    · have e31 : A1 31 s.toNat = A 31 s.toNat := by rw [p6, mq_g_t (by decide), mq_g_t (by decide), md_u_t (by decide)]
      have e32 : A1 32 s.toNat = A 32 s.toNat := by rw [p6, mq_g_t (by decide), mq_g_t (by decide), md_u_t (by decide)]
      have e34 : A1 34 s.toNat = 1 := by rw [p6, mq_g_t (by decide), mq_g_t (by decide), md_u_s]
      have e35 : A1 35 e.toNat = A 35 e.toNat := by rw [p6, mq_g_o (by omega), mq_g_t (by decide), md_u_t (by decide)]
      have em : ∀ X : mq_A, X = md_u A1 36 e.toNat (A1 35 e.toNat) → mq_made X dr s e = mq_made A dr s e := by
        intro X hX
        refine mq_made_c ?_ ?_ ?_ ?_
        · rw [hX, md_u_t (by decide), p6, mq_g_t (by decide), mq_g_t (by decide), md_u_t (by decide)]
        · rw [hX, md_u_t (by decide), p6, mq_g_t (by decide), mq_g_t (by decide), md_u_t (by decide)]
        · rw [hX, md_u_t (by decide), p6, mq_g_t (by decide), mq_g_t (by decide), md_u_t (by decide)]
        · rw [hX, md_u_t (by decide), e35]
      repeat' first
        | (have e9 : e = A 32 s.toNat + A 31 s.toNat := (by omega); rw [p6, e9, show (A 32 s.toNat + A 31 s.toNat - A 32 s.toNat).toNat = (A 31 s.toNat).toNat by omega]; exact h3 p4 p7)
        | (intro A3 e3; have e36 := em A3 e3)
        | (refine Exists.intro _ (And.intro ?_ (Exists.intro (e + 1) (Exists.intro (_) (And.intro rfl (And.intro rfl (And.intro rfl (And.intro rfl (And.intro rfl (And.intro rfl (?_)))))))))) <;> first | omega | (refine ⟨by omega, by omega, p4, Or.inr ⟨?_, p7⟩⟩; rw [h, e36, e3, e35, p6]; exact mq_g2 (by decide) (by omega) (by omega) (by omega) rfl (by show _ = mq_made A dr s _; rw [show ((e.toNat : Nat) : Int) = e by omega])))
        | refine And.intro ?_ ?_
        | (intro h; try omega)
        | omega
        | exact Nat.le_of_ble_eq_true rfl
  · repeat' first
      | (subst_vars; exact h1 (by assumption))
      | (refine Exists.intro _ (Exists.intro (_) (Exists.intro (0) (Exists.intro (_) (And.intro rfl (And.intro rfl (And.intro rfl (And.intro rfl (And.intro rfl (And.intro rfl (?_)))))))))) <;> first | omega | (refine ⟨?_, ?_, h0, h9, Or.inr ⟨rfl, fun j hj hj2 => ?_⟩⟩ <;> omega))
      | (intro A3 h0; have e33 : A3 33 s.toNat = A 33 s.toNat := (by rw [h0, md_u_t (by decide)]); have e32 : A3 32 s.toNat = A 32 s.toNat := (by rw [h0, md_u_t (by decide)]))
      | (intro h9; rw [e33] at h9)
      | refine And.intro ?_ ?_
      | (intro h; try omega)
      | omega
      | exact Nat.le_of_ble_eq_true rfl
