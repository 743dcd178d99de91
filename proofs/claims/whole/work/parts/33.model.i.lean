/-! THE REFERENCE, 9: takeDue -/
theorem mq_row_c {A A' B B' : mq_A} {d : Int} : ∀ n : Nat, (∀ j : Nat, j < n → A' 40 j = A 40 j ∧ A' 42 j = A 42 j ∧ B' 41 j = B 41 j) → mq_row A' B' d n = mq_row A B d n
  | 0, _ => rfl
  | n + 1, h => by
    obtain ⟨h1, h2, h3⟩ := h n (by omega)
    simp only [mq_row]
    rw [h1, h2, h3, mq_row_c n (fun j hj => h j (by omega))]
def mq_tk (A B A1 B1 : mq_A) (nw kp i : Int) : Prop :=
  (∀ t, t ≠ 33 → t ≠ 39 → t ≠ 40 → t ≠ 42 → A1 t = A t) ∧ (∀ t, t ≠ 41 → B1 t = B t) ∧ (∀ j : Int, 0 ≤ j → kp ≤ j → A1 40 j.toNat = A 40 j.toNat ∧ A1 42 j.toNat = A 42 j.toNat ∧ B1 41 j.toNat = B 41 j.toNat) ∧
  (∀ d, mq_row A1 B1 d kp.toNat = (mq_row A B d i.toNat).filter (fun x => decide (nw < x.1))) ∧ (∀ d : Int, 0 ≤ d → A1 39 d.toNat = (mq_row A B d i.toNat).foldl (mq_va nw) (A 39 d.toNat)) ∧
  (∀ j : Int, 0 ≤ j → j < kp → ∃ j' : Int, 0 ≤ j' ∧ j' < i ∧ nw < B 41 j'.toNat ∧ A1 40 j.toNat = A 40 j'.toNat ∧ A1 42 j.toNat = A 42 j'.toNat ∧ B1 41 j.toNat = B 41 j'.toNat)
def mq_du (A B : mq_A) (nw i s : Int) : Prop := ∃ j : Int, 0 ≤ j ∧ j < i ∧ B 41 j.toNat ≤ nw ∧ A 32 s.toNat ≤ A 38 (A 40 j.toNat).toNat ∧ A 38 (A 40 j.toNat).toNat < A 32 s.toNat + A 31 s.toNat
def mq_ac (A B A1 : mq_A) (nw i s : Int) : Prop := (A1 33 s.toNat = 1 ∧ mq_du A B nw i s) ∨ (A1 33 s.toNat = 0 ∧ ¬ mq_du A B nw i s)
theorem mq_tk_due {A B A1 B1 : mq_A} {nw kp i : Int} (T : mq_tk A B A1 B1 nw kp i) (h0 : 0 ≤ i) (h1 : B 41 i.toNat ≤ nw) (h2 : 0 ≤ A 40 i.toNat) : mq_tk A B (md_u A1 39 (A 40 i.toNat).toNat (A 42 i.toNat)) B1 nw kp (i + 1) := by
  obtain ⟨t1, t2, t3, t4, t5, t6⟩ := T
  refine ⟨fun t a b c d => by rw [md_u_t b]; exact t1 t a b c d, t2, fun j a b => by rw [md_u_t (by decide), md_u_t (by decide)]; exact t3 j a b, fun d => ?_, fun d hd => ?_, fun j a b => ?_⟩
  · rw [mq_row_s h0, mq_row_c (A := A1) (B := B1) _ (fun j hj => by rw [md_u_t (by decide), md_u_t (by decide)]; exact ⟨rfl, rfl, rfl⟩), t4 d]
    split
    · rw [List.filter_append]
      rw [show List.filter (fun x : Int × Int => decide (nw < x.1)) [(B 41 i.toNat, A 42 i.toNat)] = [] from by
        rw [List.filter_cons_of_neg (by simp only [decide_eq_true_eq]; omega)]; rfl]
      rw [List.append_nil]
    · rfl
  · rw [mq_row_s h0]
    by_cases e : A 40 i.toNat = d
    · rw [if_pos e, List.foldl_append]
      simp only [List.foldl_cons, List.foldl_nil, mq_va]
      rw [if_pos h1, e, md_u_s]
    · rw [if_neg e, md_u_k (by omega)]
      exact t5 d hd
  · obtain ⟨j', a1, a2, a3⟩ := t6 j a b
    rw [md_u_t (by decide), md_u_t (by decide)]
    exact ⟨j', a1, by omega, a3⟩
theorem mq_tk_mv {A B A1 B1 : mq_A} {nw kp i : Int} (T : mq_tk A B A1 B1 nw kp i) (h0 : 0 ≤ kp) (h1 : kp ≤ i) (h2 : nw < B 41 i.toNat) : mq_tk A B (md_u (md_u A1 40 kp.toNat (A1 40 i.toNat)) 42 kp.toNat (A1 42 i.toNat)) (md_u B1 41 kp.toNat (B1 41 i.toNat)) nw (kp + 1) (i + 1) := by
  obtain ⟨t1, t2, t3, t4, t5, t6⟩ := T
  obtain ⟨e1, e2, e3⟩ := t3 i (by omega) h1
  have f40 : ∀ j : Nat, (md_u (md_u A1 40 kp.toNat (A1 40 i.toNat)) 42 kp.toNat (A1 42 i.toNat)) 40 j = if j = kp.toNat then A 40 i.toNat else A1 40 j := fun j => by
    rw [md_u_t (by decide)]; simp only [md_u, true_and]; rw [e1]
  have f42 : ∀ j : Nat, (md_u (md_u A1 40 kp.toNat (A1 40 i.toNat)) 42 kp.toNat (A1 42 i.toNat)) 42 j = if j = kp.toNat then A 42 i.toNat else A1 42 j := fun j => by
    simp only [md_u, true_and, e2]; split <;> simp
  have f41 : ∀ j : Nat, (md_u B1 41 kp.toNat (B1 41 i.toNat)) 41 j = if j = kp.toNat then B 41 i.toNat else B1 41 j := fun j => by
    simp only [md_u, true_and, e3]
  refine ⟨fun t a b c d => by rw [md_u_t d, md_u_t c]; exact t1 t a b c d, fun t a => by rw [md_u_t a]; exact t2 t a, fun j a b => ?_, fun d => ?_, fun d hd => ?_, fun j a b => ?_⟩
  · rw [f40, f42, f41, if_neg (by omega), if_neg (by omega), if_neg (by omega)]
    exact t3 j a (by omega)
  · rw [mq_row_s h0, mq_row_s (show 0 ≤ i by omega), mq_row_c (A := A1) (B := B1) _ (fun j hj => by rw [f40, f42, f41, if_neg (by omega), if_neg (by omega), if_neg (by omega)]; exact ⟨rfl, rfl, rfl⟩), t4 d, f40, f42, f41, if_pos rfl, if_pos rfl, if_pos rfl]
    split
    · rw [List.filter_append, List.filter_cons_of_pos (by simp only [decide_eq_true_eq]; omega)]
      rfl
    · rfl
  · rw [md_u_t (by decide), md_u_t (by decide), mq_row_s (show 0 ≤ i by omega), t5 d hd]
    split
    · rw [List.foldl_append]
      simp only [List.foldl_cons, List.foldl_nil]
      exact (if_neg (by show ¬ B 41 i.toNat ≤ nw; omega)).symm
    · rfl
  · rw [f40, f42, f41]
    rcases (show j < kp ∨ j = kp by omega) with hd | rfl
    · rw [if_neg (by omega), if_neg (by omega), if_neg (by omega)]
      obtain ⟨j', a1, a2, a3⟩ := t6 j a hd
      exact ⟨j', a1, by omega, a3⟩
    · rw [if_pos rfl, if_pos rfl, if_pos rfl]
      exact ⟨i, by omega, by omega, h2, rfl, rfl, rfl⟩
theorem mq_tk_33 {A B A1 A2 B1 : mq_A} {nw kp i : Int} (T : mq_tk A B A1 B1 nw kp i) (h : ∀ t, t ≠ 33 → A2 t = A1 t) : mq_tk A B A2 B1 nw kp i := by
  obtain ⟨t1, t2, t3, t4, t5, t6⟩ := T
  have h40 := h 40 (by decide)
  have h42 := h 42 (by decide)
  refine ⟨fun t a b c d => (h t a).trans (t1 t a b c d), t2, fun j a b => by rw [h40, h42]; exact t3 j a b, fun d => ?_, fun d hd => by rw [h 39 (by decide)]; exact t5 d hd, fun j a b => by rw [h40, h42]; exact t6 j a b⟩
  rw [mq_row_c (A := A1) (B := B1) _ (fun j hj => by rw [h40, h42]; exact ⟨rfl, rfl, rfl⟩)]
  exact t4 d
theorem mq_du_s {A B : mq_A} {nw i s : Int} (h : mq_du A B nw i s) : mq_du A B nw (i + 1) s := by
  obtain ⟨j, a, b, c⟩ := h
  exact ⟨j, a, by omega, c⟩
theorem mq_du_n {A B : mq_A} {nw i s : Int} (h : ¬ mq_du A B nw i s) (g : nw < B 41 i.toNat ∨ ¬ (A 32 s.toNat ≤ A 38 (A 40 i.toNat).toNat ∧ A 38 (A 40 i.toNat).toNat < A 32 s.toNat + A 31 s.toNat)) : ¬ mq_du A B nw (i + 1) s := by
  rintro ⟨j, a, b, c, d, e⟩
  rcases (show j < i ∨ j = i by omega) with hd | rfl
  · exact h ⟨j, a, hd, c, d, e⟩
  · rcases g with g | g
    · omega
    · exact g ⟨d, e⟩
theorem mq_ac_n {A B A1 A2 : mq_A} {nw i s : Int} (h : mq_ac A B A1 nw i s) (e : A2 33 s.toNat = A1 33 s.toNat) (g : nw < B 41 i.toNat) : mq_ac A B A2 nw (i + 1) s := by
  unfold mq_ac
  rw [e]
  rcases h with ⟨a, b⟩ | ⟨a, b⟩
  · exact Or.inl ⟨a, mq_du_s b⟩
  · exact Or.inr ⟨a, mq_du_n b (Or.inl g)⟩
def sm_107 (as : List wi_V) (M : mq_H) (q : wi_Q1 mq_H) (_ : wi_Q2 mq_H) : Prop := mq_s as (mq_f M fun cd lm st sg el dr sz pr wc sp nw A B => 0 ≤ sg ∧ sg ≤ 200 ∧ 0 ≤ sz ∧ sz ≤ 8192 ∧ (∀ s : Int, 0 ≤ s → s < sg → 0 ≤ A 32 s.toNat ∧ 0 ≤ A 31 s.toNat ∧ A 32 s.toNat + A 31 s.toNat ≤ 512) ∧ (∀ j : Int, 0 ≤ j → j < sz → 0 ≤ A 40 j.toNat ∧ A 40 j.toNat < 512) ∧
  ∀ (A1 B1 : mq_A) (kp : Int), 0 ≤ kp → kp ≤ sz → mq_tk A B A1 B1 nw kp sz → (∀ s : Int, 0 ≤ s → s < sg → mq_ac A B A1 nw sz s) → (∀ s : Int, sg ≤ s → A1 33 s.toNat = A 33 s.toNat) → q none ([cd, lm, st, sg, el, dr, kp, pr, wc, sp, nw], A1, B1))
theorem mm_107 {l : Launch} {D : va_G} {aC : wm_Y} {b0 : Nat} (hl0 : l.stackTraces = false) : wm_sp l D aC b0 107 (wi_lf mq_Rl sm_107) := by
  refine wi_method mq_lw 107 (cx := fun id => if id = 99 then sm_99 else fun _ _ _ _ => False) (ids := ci_107) (tb := tb_107) (by decide +kernel) hl0 (wm_cxc (mm_99 hl0) oi_107 (fun h => wm_cxn h)) (wm_tb_ok tk_107) (by decide +kernel) [2, 27, 68] 250 (fun as M q qt hs => ?_)
  obtain ⟨rfl, hs1⟩ := mq_s_e hs
  clear hs
  obtain ⟨cd, lm, st, sg, el, dr, sz, pr, wc, sp, nw, A, B, rfl, hs⟩ := mq_f_e hs1
  clear hs1
  obtain ⟨r1, r2, r3, r4, r5, r6, h1⟩ := hs
  refine ⟨rfl, fun mz pc lv sk h cu su => match pc with | 2 => ∃ s : Int, ∃ x2 : Option wi_V, ∃ x3 : Option wi_V, lv = [some (wi_rf (some 11)), some (.inl (s)), x2, x3] ∧ sk = [] ∧ h = ([cd, lm, st, sg, el, dr, sz, pr, wc, sp, nw], mq_g A 33 0 s.toNat (fun _ => 0), B) ∧ cu = 0 ∧ su = 0 ∧ mz = (30000000 - s).toNat ∧ 0 ≤ s ∧ s ≤ sg | 27 => ∃ kp : Int, ∃ i : Int, ∃ A1 : mq_A, ∃ B1 : mq_A, ∃ x3 : Option wi_V, lv = [some (wi_rf (some 11)), some (.inl (kp)), some (.inl (i)), x3] ∧ sk = [] ∧ h = ([cd, lm, st, sg, el, dr, sz, pr, wc, sp, nw], A1, B1) ∧ cu = 0 ∧ su = 0 ∧ mz = ((10000 - i) * 1000).toNat ∧ 0 ≤ kp ∧ kp ≤ i ∧ i ≤ sz ∧ mq_tk A B A1 B1 nw kp i ∧ (∀ s : Int, 0 ≤ s → s < sg → mq_ac A B A1 nw i s) ∧ (∀ s : Int, sg ≤ s → A1 33 s.toNat = A 33 s.toNat) | 68 => ∃ kp : Int, ∃ i : Int, ∃ A1 : mq_A, ∃ B1 : mq_A, ∃ s : Int, lv = [some (wi_rf (some 11)), some (.inl (kp)), some (.inl (i)), some (.inl (s))] ∧ sk = [] ∧ h = ([cd, lm, st, sg, el, dr, sz, pr, wc, sp, nw], A1, B1) ∧ cu = 0 ∧ su = 0 ∧ mz = ((10000 - i) * 1000 - 1 - s).toNat ∧ 0 ≤ kp ∧ kp ≤ i ∧ i < sz ∧ 0 ≤ s ∧ s ≤ sg ∧ B 41 i.toNat ≤ nw ∧ mq_tk A B A1 B1 nw kp (i + 1) ∧ (∀ s1 : Int, 0 ≤ s1 → s1 < s → mq_ac A B A1 nw (i + 1) s1) ∧ (∀ s1 : Int, s ≤ s1 → s1 < sg → mq_ac A B A1 nw i s1) ∧ (∀ s1 : Int, sg ≤ s1 → A1 33 s1.toNat = A 33 s1.toNat) | _ => False, mq_c3 (fun mz lv sk h cu su hI => ?_) (fun mz lv sk h cu su hI => ?_) (fun mz lv sk h cu su hI => ?_), ?_⟩
  · obtain ⟨s, x2, x3, rfl, rfl, rfl, rfl, rfl, rfl, p1, p2⟩ := hI
    repeat' first
      | (refine Exists.intro _ (And.intro ?_ (Exists.intro (s + 1) (Exists.intro (_) (Exists.intro (_) (And.intro rfl (And.intro rfl (And.intro (mq_eA (by rw [h]; exact mq_g_s (by omega) (by omega) rfl)) (And.intro rfl (And.intro rfl (And.intro rfl (?_))))))))))) <;> first | omega | exact ⟨by omega, by omega⟩)
      | (refine Exists.intro _ (And.intro ?_ (Exists.intro (0) (Exists.intro (0) (Exists.intro (_) (Exists.intro (_) (Exists.intro (_) (And.intro rfl (And.intro rfl (And.intro rfl (And.intro rfl (And.intro rfl (And.intro rfl (?_))))))))))))) <;> first | omega | exact ⟨by omega, by omega, by omega, ⟨fun t a b c d => mq_g_t a, fun t a => rfl, fun j a b => ⟨by rw [mq_g_t (by decide)], by rw [mq_g_t (by decide)], rfl⟩, fun d => rfl, fun d hd => (by rw [mq_g_t (by decide)]; rfl), fun j a b => by omega⟩, fun s1 a b => Or.inr ⟨mq_g_i (by omega) (by omega), fun ⟨j, c, d, _⟩ => by omega⟩, fun s1 a => mq_g_o (by omega)⟩)
      | refine And.intro ?_ ?_
      | (intro h; try omega)
      | omega
      | exact Nat.le_of_ble_eq_true rfl
  · obtain ⟨kp, i, A1, B1, x3, rfl, rfl, rfl, rfl, rfl, rfl, p1, p2, p3, p4, p5, p6⟩ := hI
    have r7 := r6 i
    obtain ⟨e40, e42, e41⟩ := p4.2.2.1 i (by omega) p2
    repeat' first
      | (have ed : i = sz := (by omega); subst ed; exact h1 A1 B1 kp p1 p2 p4 p5 p6)
      | (refine Exists.intro _ (And.intro ?_ (Exists.intro (kp) (Exists.intro (i) (Exists.intro (_) (Exists.intro (_) (Exists.intro (0) (And.intro rfl (And.intro rfl (And.intro rfl (And.intro rfl (And.intro rfl (And.intro rfl (?_))))))))))))) <;> first | omega | (rw [e40, e42] at h; exact ⟨p1, p2, by omega, by omega, by omega, by omega, (by rw [h]; exact mq_tk_due p4 (by omega) (by omega) (by omega)), fun s1 a b => by omega, fun s1 a b => (by unfold mq_ac; rw [h, md_u_t (by decide)]; exact p5 s1 a b), fun s1 a => (by rw [h, md_u_t (by decide)]; exact p6 s1 a)⟩))
      | (refine Exists.intro _ (And.intro ?_ (Exists.intro (kp + 1) (Exists.intro (i + 1) (Exists.intro (_) (Exists.intro (_) (Exists.intro (_) (And.intro rfl (And.intro rfl (And.intro rfl (And.intro rfl (And.intro rfl (And.intro rfl (?_))))))))))))) <;> first | omega | exact ⟨by omega, by omega, by omega, mq_tk_mv p4 p1 p2 (by omega), fun s1 a b => mq_ac_n (p5 s1 a b) (by rw [md_u_t (by decide), md_u_t (by decide)]) (by omega), fun s1 a => (by rw [md_u_t (by decide), md_u_t (by decide)]; exact p6 s1 a)⟩)
      | refine And.intro ?_ ?_
      | (intro h; try omega)
      | omega
      | exact Nat.le_of_ble_eq_true rfl
  · obtain ⟨kp, i, A1, B1, s, rfl, rfl, rfl, rfl, rfl, rfl, p1, p2, p3, p4, p5, p6, p7, p8, p9, p10⟩ := hI
    have r7 := r6 i
    have r8 := r5 s
    obtain ⟨e40, e42, e41⟩ := p7.2.2.1 i (by omega) p2
    have e38 : A1 38 (A1 40 i.toNat).toNat = A 38 (A 40 i.toNat).toNat := by rw [e40, p7.1 38 (by decide) (by decide) (by decide) (by decide)]
    have e32 : A1 32 s.toNat = A 32 s.toNat := by rw [p7.1 32 (by decide) (by decide) (by decide) (by decide)]
    have e31 : A1 31 s.toNat = A 31 s.toNat := by rw [p7.1 31 (by decide) (by decide) (by decide) (by decide)]
    have p11 := p9 s
    repeat' first
      | (have g9 : A1 33 s.toNat ≠ 0 := (by omega); (refine Exists.intro _ (And.intro ?_ (Exists.intro (kp) (Exists.intro (i) (Exists.intro (_) (Exists.intro (_) (Exists.intro (s + 1) (And.intro rfl (And.intro rfl (And.intro rfl (And.intro rfl (And.intro rfl (And.intro rfl (?_))))))))))))) <;> first | omega | exact ⟨p1, p2, p3, by omega, by omega, p6, mq_tk_33 p7 (fun t a => by rw [h, md_u_t a]), fun s1 a b => (by rcases (show s1 < s ∨ s1 = s by omega) with hd | rfl <;> first | (unfold mq_ac; rw [h, md_u_k (by omega)]; exact p8 s1 a hd) | (unfold mq_ac; rw [h, md_u_s]; have p12 := p11 (by omega) (by omega); unfold mq_ac at p12; exact Or.inl ⟨rfl, mq_du_s (p12.resolve_right (fun z => by omega)).2⟩)), fun s1 a b => (by unfold mq_ac; rw [h, md_u_k (by omega)]; exact p9 s1 (by omega) b), fun s1 a => (by rw [h, md_u_k (by omega)]; exact p10 s1 a)⟩))
      | (have g9 : (A 32 s.toNat ≤ A 38 (A 40 i.toNat).toNat ∧ A 38 (A 40 i.toNat).toNat < A 32 s.toNat + A 31 s.toNat) := (by omega); (refine Exists.intro _ (And.intro ?_ (Exists.intro (kp) (Exists.intro (i) (Exists.intro (_) (Exists.intro (_) (Exists.intro (s + 1) (And.intro rfl (And.intro rfl (And.intro rfl (And.intro rfl (And.intro rfl (And.intro rfl (?_))))))))))))) <;> first | omega | exact ⟨p1, p2, p3, by omega, by omega, p6, mq_tk_33 p7 (fun t a => by rw [h, md_u_t a]), fun s1 a b => (by rcases (show s1 < s ∨ s1 = s by omega) with hd | rfl <;> first | (unfold mq_ac; rw [h, md_u_k (by omega)]; exact p8 s1 a hd) | (unfold mq_ac; rw [h, md_u_s]; have p12 := p11 (by omega) (by omega); unfold mq_ac at p12; exact Or.inl ⟨rfl, i, by omega, by omega, p6, by omega, by omega⟩)), fun s1 a b => (by unfold mq_ac; rw [h, md_u_k (by omega)]; exact p9 s1 (by omega) b), fun s1 a => (by rw [h, md_u_k (by omega)]; exact p10 s1 a)⟩))
      | (have g9 : A1 33 s.toNat = 0 ∧ ¬ (A 32 s.toNat ≤ A 38 (A 40 i.toNat).toNat ∧ A 38 (A 40 i.toNat).toNat < A 32 s.toNat + A 31 s.toNat) := (by omega); (refine Exists.intro _ (And.intro ?_ (Exists.intro (kp) (Exists.intro (i) (Exists.intro (_) (Exists.intro (_) (Exists.intro (s + 1) (And.intro rfl (And.intro rfl (And.intro rfl (And.intro rfl (And.intro rfl (And.intro rfl (?_))))))))))))) <;> first | omega | exact ⟨p1, p2, p3, by omega, by omega, p6, mq_tk_33 p7 (fun t a => by rw [h, md_u_t a]), fun s1 a b => (by rcases (show s1 < s ∨ s1 = s by omega) with hd | rfl <;> first | (unfold mq_ac; rw [h, md_u_k (by omega)]; exact p8 s1 a hd) | (unfold mq_ac; rw [h, md_u_s]; have p12 := p11 (by omega) (by omega); unfold mq_ac at p12; exact Or.inr ⟨rfl, mq_du_n (p12.resolve_left (fun z => by omega)).2 (Or.inr (fun z => by omega))⟩)), fun s1 a b => (by unfold mq_ac; rw [h, md_u_k (by omega)]; exact p9 s1 (by omega) b), fun s1 a => (by rw [h, md_u_k (by omega)]; exact p10 s1 a)⟩))
      | (have ed : s = sg := (by omega); subst ed; refine Exists.intro _ (And.intro ?_ (Exists.intro (kp) (Exists.intro (i + 1) (Exists.intro (_) (Exists.intro (_) (Exists.intro (_) (And.intro rfl (And.intro rfl (And.intro rfl (And.intro rfl (And.intro rfl (And.intro rfl (?_))))))))))))) <;> first | omega | exact ⟨p1, by omega, by omega, p7, p8, p10⟩)
      | refine And.intro ?_ ?_
      | (intro h; try omega)
      | omega
      | exact Nat.le_of_ble_eq_true rfl
  · refine Exists.intro _ (Exists.intro (0) (Exists.intro (_) (Exists.intro (_) (And.intro rfl (And.intro rfl (And.intro (mq_eA mq_g_0.symm) (And.intro rfl (And.intro rfl (And.intro rfl (⟨by omega, by omega⟩))))))))))
