/-! THE REFERENCE, 8: start -/
theorem mq_sp {A1 A4 : mq_A} {e m : Int} (he : 0 ≤ e) (h : A4 = md_u (md_u A1 35 e.toNat m) 36 e.toNat m) : (∀ t, t ≠ 35 → t ≠ 36 → A4 t = A1 t) ∧ (∀ j : Int, 0 ≤ j → j ≠ e → A4 35 j.toNat = A1 35 j.toNat ∧ A4 36 j.toNat = A1 36 j.toNat) ∧ A4 35 e.toNat = m ∧ A4 36 e.toNat = m := by
  subst h
  refine ⟨fun t h1 h2 => by rw [md_u_t h2, md_u_t h1], fun j h1 h2 => ⟨?_, ?_⟩, ?_, md_u_s⟩
  · rw [md_u_t (by decide), md_u_k (by omega)]
  · rw [md_u_k (by omega), md_u_t (by decide)]
  · rw [md_u_t (by decide), md_u_s]
/-- behind the drivers' first values -/
def mq_v0 (A : mq_A) (dr : Int) : mq_A := mq_g A 39 0 dr.toNat (fun d => A 35 (A 38 d).toNat)
def mq_sn (A V A1 : mq_A) (dr s e : Int) : Prop := ∀ j : Int, A 32 s.toNat ≤ j → j < e → A1 35 j.toNat = mq_made V dr s j ∧ A1 36 j.toNat = mq_made V dr s j
def mq_sd (A V A1 : mq_A) (dr sg : Int) : Prop := ∀ s : Int, 0 ≤ s → s < sg → mq_sn A V A1 dr s (A 32 s.toNat + A 31 s.toNat)
theorem mq_v0_t {A : mq_A} {dr : Int} {t : Nat} (h : t ≠ 39) : mq_v0 A dr t = A t := mq_g_t h
def sm_90 (as : List wi_V) (M : mq_H) (q : wi_Q1 mq_H) (_ : wi_Q2 mq_H) : Prop := mq_s as (mq_f M fun cd lm st sg el dr sz pr wc sp nw A B => 0 ≤ dr ∧ dr ≤ 512 ∧ 0 ≤ sg ∧ sg ≤ 200 ∧ 0 ≤ pr ∧ pr ≤ 64 ∧ (∀ d : Int, 0 ≤ d → d < dr → 0 ≤ A 38 d.toNat ∧ A 38 d.toNat < 512) ∧ (∀ s : Int, 0 ≤ s → s < sg → 0 ≤ A 32 s.toNat ∧ 0 ≤ A 31 s.toNat ∧ (A 32 s.toNat + A 31 s.toNat) ≤ 512) ∧ (∀ s : Int, 0 ≤ s → s + 1 < sg → (A 32 s.toNat + A 31 s.toNat) ≤ A 32 (s + 1).toNat) ∧ (st ≠ 0 → q none ([1, lm, st, sg, el, dr, sz, pr, wc, sp, nw], A, B)) ∧
  (st = 0 → ∀ A1 : mq_A, (∀ t, t ≠ 35 → t ≠ 36 → t ≠ 46 → A1 t = mq_v0 A dr t) → A1 46 = mq_g A 46 0 pr.toNat (fun _ => 0) 46 → mq_sd A (mq_v0 A dr) A1 dr sg → q none ([0, lm, 1, sg, el, dr, sz, pr, wc, sp, nw], A1, B)))
theorem mm_90 {l : Launch} {D : va_G} {aC : wm_Y} {b0 : Nat} (hl0 : l.stackTraces = false) : wm_sp l D aC b0 90 (wi_lf mq_Rl sm_90) := by
  refine wi_method mq_lw 90 (cx := fun id => if id = 92 then sm_92 else fun _ _ _ _ => False) (ids := ci_90) (tb := tb_90) (by decide +kernel) hl0 (wm_cxc (mm_92 hl0) oi_90 (fun h => wm_cxn h)) (wm_tb_ok tk_90) (by decide +kernel) [31, 64, 79, 134] 250 (fun as M q qt hs => ?_)
  obtain ⟨rfl, hs1⟩ := mq_s_e hs
  clear hs
  obtain ⟨cd, lm, st, sg, el, dr, sz, pr, wc, sp, nw, A, B, rfl, hs⟩ := mq_f_e hs1
  clear hs1
  obtain ⟨r1, r2, r3, r4, r5, r6, r7, r8, r9, h1, h2⟩ := hs
  refine ⟨rfl, fun mz pc lv sk h cu su => match pc with | 31 => ∃ d : Int, ∃ x : Option wi_V, lv = [some (wi_rf (some 11)), some (.inl (d)), x] ∧ sk = [] ∧ h = ([0, lm, 1, sg, el, dr, sz, pr, wc, sp, nw], mq_g A 39 0 d.toNat (fun d => A 35 (A 38 d).toNat), B) ∧ cu = 0 ∧ su = 0 ∧ mz = (3000000 - d).toNat ∧ 0 ≤ d ∧ d ≤ dr ∧ st = 0 | 64 => ∃ s : Int, ∃ s9 : Int, ∃ lo : Int, ∃ A1 : mq_A, ∃ x : Option wi_V, lv = [some (wi_rf (some 11)), some (.inl (s)), x] ∧ sk = [] ∧ h = ([0, lm, 1, sg, el, dr, sz, pr, wc, sp, nw], A1, B) ∧ cu = 0 ∧ su = 0 ∧ mz = (1000000 - 1000 * s).toNat ∧ s9 = s ∧ 0 ≤ s ∧ s ≤ sg ∧ st = 0 ∧ 0 ≤ lo ∧ (s < sg → lo ≤ A 32 s.toNat) ∧ (∀ t, t ≠ 35 → t ≠ 36 → A1 t = mq_v0 A dr t) ∧ (∀ s : Int, 0 ≤ s → s < s9 → (A 32 s.toNat + A 31 s.toNat) ≤ lo) ∧ (∀ j : Int, lo ≤ j → A1 35 j.toNat = A 35 j.toNat) ∧ mq_sd A (mq_v0 A dr) A1 dr s | 79 => ∃ s : Int, ∃ e : Int, ∃ A1 : mq_A, lv = [some (wi_rf (some 11)), some (.inl (s)), some (.inl (e))] ∧ sk = [] ∧ h = ([0, lm, 1, sg, el, dr, sz, pr, wc, sp, nw], A1, B) ∧ cu = 0 ∧ su = 0 ∧ mz = (1000000 - 1000 * s - 1 - (e - A 32 s.toNat)).toNat ∧ 0 ≤ s ∧ s < sg ∧ st = 0 ∧ A 32 s.toNat ≤ e ∧ e ≤ (A 32 s.toNat + A 31 s.toNat) ∧ (∀ t, t ≠ 35 → t ≠ 36 → A1 t = mq_v0 A dr t) ∧ (∀ s1 : Int, 0 ≤ s1 → s1 < s → A 32 s1.toNat + A 31 s1.toNat ≤ A 32 s.toNat) ∧ (∀ j : Int, e ≤ j → A1 35 j.toNat = A 35 j.toNat) ∧ mq_sd A (mq_v0 A dr) A1 dr s ∧ mq_sn A (mq_v0 A dr) A1 dr s e | 134 => ∃ p : Int, ∃ A1 : mq_A, ∃ x : Option wi_V, lv = [some (wi_rf (some 11)), some (.inl (p)), x] ∧ sk = [] ∧ h = ([0, lm, 1, sg, el, dr, sz, pr, wc, sp, nw], A1, B) ∧ cu = 0 ∧ su = 0 ∧ mz = (100 - p).toNat ∧ 0 ≤ p ∧ p ≤ pr ∧ st = 0 ∧ (∀ t, t ≠ 35 → t ≠ 36 → t ≠ 46 → A1 t = mq_v0 A dr t) ∧ A1 46 = mq_g A 46 0 p.toNat (fun _ => 0) 46 ∧ mq_sd A (mq_v0 A dr) A1 dr sg | _ => False, mq_c4 (fun mz lv sk h cu su hI => ?_) (fun mz lv sk h cu su hI => ?_) (fun mz lv sk h cu su hI => ?_) (fun mz lv sk h cu su hI => ?_), ?_⟩
  · obtain ⟨d, x, rfl, rfl, rfl, rfl, rfl, rfl, p1, p2, p3⟩ := hI
    have r10 := r7 d
    have e38 : (mq_g A 39 0 d.toNat (fun d => A 35 (A 38 d).toNat)) 38 d.toNat = A 38 d.toNat := by rw [mq_g_t (by decide)]
    have e35 : (mq_g A 39 0 d.toNat (fun d => A 35 (A 38 d).toNat)) 35 = A 35 := by rw [mq_g_t (by decide)]
    repeat' first
      | (refine Exists.intro _ (And.intro ?_ (Exists.intro (d + 1) (Exists.intro (_) (And.intro rfl (And.intro rfl (And.intro (mq_eA (by rw [h, e38, e35]; exact mq_g_s (by omega) (by omega) rfl)) (And.intro rfl (And.intro rfl (And.intro rfl (?_)))))))))) <;> first | omega | exact ⟨by omega, by omega, p3⟩)
      | (have ed : d = dr := (by omega); subst ed; refine Exists.intro _ (And.intro ?_ (Exists.intro (0) (Exists.intro (0) (Exists.intro (0) (Exists.intro (_) (Exists.intro (_) (And.intro rfl (And.intro rfl (And.intro rfl (And.intro rfl (And.intro rfl (And.intro rfl (?_))))))))))))) <;> first | omega | exact ⟨rfl, by omega, by omega, p3, by omega, (fun z => (r8 0 (by omega) (by omega)).1), fun t _ _ => rfl, fun s z1 z2 => by omega, fun j _ => (by rw [mq_g_t (by decide)]), fun s z1 z2 => by omega⟩)
      | refine And.intro ?_ ?_
      | (intro h; try omega)
      | omega
      | exact Nat.le_of_ble_eq_true rfl
  · obtain ⟨s, s9, lo, A1, x, rfl, rfl, rfl, rfl, rfl, rfl, rfl, p1, p2, p3, p4, p5, p6, p7, p8, p9⟩ := hI
    have r10 := r8 s9
    have e32 : A1 32 s9.toNat = A 32 s9.toNat := by rw [p6 32 (by decide) (by decide), mq_v0_t (by decide)]
    repeat' first
      | (refine Exists.intro _ (And.intro ?_ (Exists.intro (s9) (Exists.intro (_) (Exists.intro (_) (And.intro rfl (And.intro rfl (And.intro rfl (And.intro rfl (And.intro rfl (And.intro rfl (?_))))))))))) <;> first | omega | exact ⟨by omega, by omega, p3, by omega, by omega, p6, fun s1 z1 z2 => (by have := p7 s1 z1 z2; omega), fun j hj => p8 j (by omega), p9, fun j z1 z2 => by omega⟩)
      | (have ed : s9 = sg := (by omega); subst ed; refine Exists.intro _ (And.intro ?_ (Exists.intro (0) (Exists.intro (_) (Exists.intro (_) (And.intro rfl (And.intro rfl (And.intro rfl (And.intro rfl (And.intro rfl (And.intro rfl (?_))))))))))) <;> first | omega | exact ⟨by omega, by omega, p3, fun t z1 z2 z3 => p6 t z1 z2, (by rw [p6 46 (by decide) (by decide), mq_v0_t (by decide), show Int.toNat 0 = 0 from rfl, mq_g_0]), p9⟩)
      | refine And.intro ?_ ?_
      | (intro h; try omega)
      | omega
      | exact Nat.le_of_ble_eq_true rfl
  · obtain ⟨s, e, A1, rfl, rfl, rfl, rfl, rfl, rfl, p1, p2, p3, p4, p5, p6, p7, p8, p9, p10⟩ := hI
    have r10 := r8 s
    have r11 := r9 s
    have e31 : A1 31 s.toNat = A 31 s.toNat := by rw [p6 31 (by decide) (by decide), mq_v0_t (by decide)]
    have e32 : A1 32 s.toNat = A 32 s.toNat := by rw [p6 32 (by decide) (by decide), mq_v0_t (by decide)]
    have em : mq_made A1 dr s e = mq_made (mq_v0 A dr) dr s e := by
      refine mq_made_c (p6 38 (by decide) (by decide)) (p6 30 (by decide) (by decide)) (p6 39 (by decide) (by decide)) ?_
      rw [p8 e (by omega), mq_v0_t (by decide)]
    repeat' first
      | (intro A3 e3; have e35 : A3 35 e.toNat = mq_made (mq_v0 A dr) dr s e := (by rw [e3, md_u_s, em]))
      | (refine Exists.intro _ (And.intro ?_ (Exists.intro (s) (Exists.intro (e + 1) (Exists.intro (_) (And.intro rfl (And.intro rfl (And.intro rfl (And.intro rfl (And.intro rfl (And.intro rfl (?_))))))))))) <;> first | omega | (have k := mq_sp (A1 := A1) (A4 := _) (e := e) (m := mq_made (mq_v0 A dr) dr s e) (by omega) (h.trans (by rw [e35, e3, em])); exact ⟨p1, p2, p3, by omega, by omega, fun t z1 z2 => (k.1 t z1 z2).trans (p6 t z1 z2), p7, fun j hj => (k.2.1 j (by omega) (by omega)).1.trans (p8 j (by omega)),
        fun s1 z1 z2 j z3 z4 => (by have z5 := p7 s1 z1 z2; have z6 := r8 s1 z1 (by omega); rw [(k.2.1 j (by omega) (by omega)).1, (k.2.1 j (by omega) (by omega)).2]; exact p9 s1 z1 z2 j z3 z4),
        fun j z3 z4 => (by rcases (show j < e ∨ j = e by omega) with z5 | rfl; rw [(k.2.1 j (by omega) (by omega)).1, (k.2.1 j (by omega) (by omega)).2]; exact p10 j z3 z5; exact k.2.2)⟩))
      | (have ed : e = (A 32 s.toNat + A 31 s.toNat) := (by omega); subst ed; refine Exists.intro _ (And.intro ?_ (Exists.intro (s + 1) (Exists.intro (s + 1) (Exists.intro ((A 32 s.toNat + A 31 s.toNat)) (Exists.intro (_) (Exists.intro (_) (And.intro rfl (And.intro rfl (And.intro rfl (And.intro rfl (And.intro rfl (And.intro rfl (?_))))))))))))) <;> first | omega | exact ⟨rfl, by omega, by omega, p3, by omega, by omega, p6, fun s1 z1 z2 => (by rcases (show s1 < s ∨ s1 = s by omega) with z5 | rfl; have := p7 s1 z1 z5; omega; omega), p8, fun s1 z1 z2 => (by rcases (show s1 < s ∨ s1 = s by omega) with z5 | rfl; exact p9 s1 z1 z5; exact p10)⟩)
      | refine And.intro ?_ ?_
      | (intro h; try omega)
      | omega
      | exact Nat.le_of_ble_eq_true rfl
  · obtain ⟨p, A1, x, rfl, rfl, rfl, rfl, rfl, rfl, p1, p2, p3, p4, p5, p6⟩ := hI
    repeat' first
      | (have ed : p = pr := (by omega); subst ed; exact h2 p3 A1 p4 p5 p6)
      | (refine Exists.intro _ (And.intro ?_ (Exists.intro (p + 1) (Exists.intro (_) (Exists.intro (_) (And.intro rfl (And.intro rfl (And.intro rfl (And.intro rfl (And.intro rfl (And.intro rfl (?_))))))))))) <;> first | omega | exact ⟨by omega, by omega, p3, fun t z1 z2 z3 => (by rw [h, md_u_t z3]; exact p4 t z1 z2 z3), (by
        rw [h, ← mq_g_s (A := A) (t := 46) (lo := 0) (n := p.toNat) (v := fun _ => 0) (k := p.toNat) (x := 0) (m := (p + 1).toNat) (by omega) (by omega) rfl]
        funext k
        simp only [md_u]
        rw [p5]), fun s1 z1 z2 j z3 z4 => (by rw [h, md_u_t (by decide), md_u_t (by decide)]; exact p6 s1 z1 z2 j z3 z4)⟩)
      | refine And.intro ?_ ?_
      | (intro h; try omega)
      | omega
      | exact Nat.le_of_ble_eq_true rfl
  · repeat' first
      | exact h1 (by omega)
      | (refine Exists.intro _ (Exists.intro (0) (Exists.intro (_) (And.intro rfl (And.intro rfl (And.intro (mq_eA mq_g_0.symm) (And.intro rfl (And.intro rfl (And.intro rfl (?_))))))))) <;> first | omega | exact ⟨by omega, by omega, by assumption⟩)
      | refine And.intro ?_ ?_
      | (intro h; try omega)
      | omega
      | exact Nat.le_of_ble_eq_true rfl
