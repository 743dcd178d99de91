/-! THE REFERENCE, 13: cycle -/
def mq_in (A : mq_A) (s j : Int) : Prop := A 32 s.toNat ≤ j ∧ j < A 32 s.toNat + A 31 s.toNat
/-- what renew makes of a signal -/
def mq_rd (A A2 : mq_A) (dr s : Int) : Prop :=
  ((A 33 s.toNat = 0 ∨ ∀ j, mq_in A s j → mq_made A dr s j = A 35 j.toNat) ∧ A2 34 s.toNat = 0 ∧ ∀ j, mq_in A s j → A2 35 j.toNat = A 35 j.toNat ∧ A2 36 j.toNat = A 36 j.toNat) ∨
  (A 33 s.toNat ≠ 0 ∧ (∃ j, mq_in A s j ∧ mq_made A dr s j ≠ A 35 j.toNat) ∧ A2 34 s.toNat = 1 ∧ ∀ j, mq_in A s j → A2 35 j.toNat = mq_made A dr s j ∧ A2 36 j.toNat = A 35 j.toNat)
def mq_rc (A A2 : mq_A) (s : Int) : Prop := A2 34 s.toNat = A 34 s.toNat ∧ ∀ j, mq_in A s j → A2 35 j.toNat = A 35 j.toNat ∧ A2 36 j.toNat = A 36 j.toNat
def mq_rf (A A2 : mq_A) : Prop := ∀ t, t ≠ 34 → t ≠ 35 → t ≠ 36 → A2 t = A t
def mq_rw (A A2 : mq_A) (dr s : Int) : Prop := mq_rf A A2 ∧ (∀ s1 : Int, 0 ≤ s1 → s1 ≠ s → A2 34 s1.toNat = A 34 s1.toNat) ∧ (∀ j : Int, 0 ≤ j → ¬ mq_in A s j → A2 35 j.toNat = A 35 j.toNat ∧ A2 36 j.toNat = A 36 j.toNat) ∧ mq_rd A A2 dr s
theorem mq_rw_0 {A : mq_A} {dr s : Int} (hs : 0 ≤ s) (h : A 33 s.toNat = 0 ∨ ∀ j, mq_in A s j → mq_made A dr s j = A 35 j.toNat) : mq_rw A (md_u A 34 s.toNat 0) dr s := by
  refine ⟨fun t a _ _ => md_u_t a, fun s1 a b => md_u_k (by omega), fun j _ _ => ?_, Or.inl ⟨h, md_u_s, fun j _ => ?_⟩⟩ <;> rw [md_u_t (by decide), md_u_t (by decide)] <;> exact ⟨rfl, rfl⟩
theorem mq_rw_1 {A : mq_A} {dr s : Int} (hs : 0 ≤ s) (hF : 0 ≤ A 32 s.toNat) (h0 : A 33 s.toNat ≠ 0) (h : ∃ j, mq_in A s j ∧ mq_made A dr s j ≠ A 35 j.toNat) :
    mq_rw A (mq_g (mq_g (md_u A 34 s.toNat 1) 36 (A 32 s.toNat).toNat (A 31 s.toNat).toNat (fun j => A 35 j)) 35 (A 32 s.toNat).toNat (A 31 s.toNat).toNat (fun j => mq_made A dr s (j : Int))) dr s := by
  refine ⟨fun t a b c => by rw [mq_g_t b, mq_g_t c, md_u_t a], fun s1 a b => by rw [mq_g_t (by decide), mq_g_t (by decide)]; exact md_u_k (by omega), fun j a b => ?_, Or.inr ⟨h0, h, by rw [mq_g_t (by decide), mq_g_t (by decide), md_u_s], fun j a => ?_⟩⟩
  · unfold mq_in at b
    rw [mq_g_o (by omega), mq_g_t (by decide), mq_g_t (by decide), mq_g_o (by omega), md_u_t (by decide), md_u_t (by decide)]
    exact ⟨rfl, rfl⟩
  · unfold mq_in at a
    rw [mq_g_i (by omega) (by omega), mq_g_t (by decide), mq_g_i (by omega) (by omega), show ((j.toNat : Nat) : Int) = j by omega]
    exact ⟨rfl, rfl⟩
/-- behind the signals below s -/
def mq_rn (A A2 : mq_A) (dr sg s : Int) : Prop := mq_rf A A2 ∧ (∀ s1 : Int, 0 ≤ s1 → s1 < s → mq_rd A A2 dr s1) ∧ (∀ s1 : Int, s ≤ s1 → s1 < sg → mq_rc A A2 s1) ∧ ∀ s1 : Int, sg ≤ s1 → A2 34 s1.toNat = A 34 s1.toNat
theorem mq_rn_0 {A : mq_A} {dr sg : Int} : mq_rn A A dr sg 0 := ⟨fun _ _ _ _ => rfl, fun s1 a b => by omega, fun _ _ _ => ⟨rfl, fun _ _ => ⟨rfl, rfl⟩⟩, fun _ _ => rfl⟩
theorem mq_in_c {A A2 : mq_A} {s j : Int} (h : mq_rf A A2) : mq_in A2 s j ↔ mq_in A s j := by
  unfold mq_in
  rw [h 32 (by decide) (by decide) (by decide), h 31 (by decide) (by decide) (by decide)]
theorem mq_rn_m {A A2 : mq_A} {dr s j : Int} (h : mq_rf A A2) (g : mq_rc A A2 s) (hj : mq_in A s j) : mq_made A2 dr s j = mq_made A dr s j :=
  mq_made_c (h 38 (by decide) (by decide) (by decide)) (h 30 (by decide) (by decide) (by decide)) (h 39 (by decide) (by decide) (by decide)) (g.2 j hj).1
theorem mq_rn_s {A A2 A3 : mq_A} {dr sg s : Int} (h : mq_rn A A2 dr sg s) (h0 : 0 ≤ s) (h1 : s < sg) (w : mq_rw A2 A3 dr s) (hF : ∀ s1 : Int, 0 ≤ s1 → s1 < sg → 0 ≤ A 32 s1.toNat)
    (hd : ∀ s1 s2 : Int, 0 ≤ s1 → s1 < s2 → s2 < sg → A 32 s1.toNat + A 31 s1.toNat ≤ A 32 s2.toNat) : mq_rn A A3 dr sg (s + 1) := by
  obtain ⟨a1, a2, a3, a4⟩ := h
  obtain ⟨b1, b2, b3, b4⟩ := w
  have hfr : mq_rf A A3 := fun t x y z => (b1 t x y z).trans (a1 t x y z)
  have hout : ∀ s1 j : Int, 0 ≤ s1 → s1 < sg → s1 ≠ s → mq_in A s1 j → 0 ≤ j ∧ ¬ mq_in A2 s j := fun s1 j x1 x2 x3 x4 => by
    have y1 := hF s1 x1 x2
    rw [mq_in_c a1]
    unfold mq_in at x4 ⊢
    rcases (show s1 < s ∨ s < s1 by omega) with z | z
    · have := hd s1 s x1 z h1
      omega
    · have := hd s s1 h0 z x2
      omega
  refine ⟨hfr, fun s1 x1 x2 => ?_, fun s1 x1 x2 => ?_, fun s1 x1 => (b2 s1 (by omega) (by omega)).trans (a4 s1 x1)⟩
  · rcases (show s1 < s ∨ s1 = s by omega) with z | rfl
    · rcases a2 s1 x1 z with ⟨c1, c2, c3⟩ | ⟨c0, c1, c2, c3⟩
      · refine Or.inl ⟨c1, (b2 s1 x1 (by omega)).trans c2, fun j hj => ?_⟩
        obtain ⟨y1, y2⟩ := hout s1 j x1 (by omega) (by omega) hj
        rw [(b3 j y1 y2).1, (b3 j y1 y2).2]
        exact c3 j hj
      · refine Or.inr ⟨c0, c1, (b2 s1 x1 (by omega)).trans c2, fun j hj => ?_⟩
        obtain ⟨y1, y2⟩ := hout s1 j x1 (by omega) (by omega) hj
        rw [(b3 j y1 y2).1, (b3 j y1 y2).2]
        exact c3 j hj
    · have c := a3 s1 (Int.le_refl _) h1
      have e33 : A2 33 = A 33 := a1 33 (by decide) (by decide) (by decide)
      rcases b4 with ⟨c1, c2, c3⟩ | ⟨c0, c1, c2, c3⟩
      · refine Or.inl ⟨?_, c2, fun j hj => ?_⟩
        · rw [e33] at c1
          rcases c1 with c1 | c1
          · exact Or.inl c1
          · refine Or.inr (fun j hj => ?_)
            have := c1 j ((mq_in_c a1).mpr hj)
            rw [mq_rn_m a1 c hj, (c.2 j hj).1] at this
            exact this
        · rw [(c3 j ((mq_in_c a1).mpr hj)).1, (c3 j ((mq_in_c a1).mpr hj)).2]
          exact c.2 j hj
      · refine Or.inr ⟨by rw [← e33]; exact c0, ?_, c2, fun j hj => ?_⟩
        · obtain ⟨j, hj, hne⟩ := c1
          have hj := (mq_in_c a1).mp hj
          rw [mq_rn_m a1 c hj, (c.2 j hj).1] at hne
          exact ⟨j, hj, hne⟩
        · rw [(c3 j ((mq_in_c a1).mpr hj)).1, (c3 j ((mq_in_c a1).mpr hj)).2, mq_rn_m a1 c hj, (c.2 j hj).1]
          exact ⟨rfl, rfl⟩
  · have c := a3 s1 (by omega) x2
    refine ⟨(b2 s1 (by omega) (by omega)).trans c.1, fun j hj => ?_⟩
    obtain ⟨y1, y2⟩ := hout s1 j (by omega) x2 (by omega) hj
    rw [(b3 j y1 y2).1, (b3 j y1 y2).2]
    exact c.2 j hj
/-- what look makes of a process -/
def mq_hd (A : mq_A) (sg p : Int) : Prop := ∃ j : Int, 0 ≤ j ∧ j < sg ∧ A 34 j.toNat ≠ 0 ∧ A 49 (200 * p + j).toNat ≠ 0
def mq_lr (A B : mq_A) (nw sg p v : Int) : Prop := (A 46 p.toNat ≠ 1 ∧ v = A 46 p.toNat) ∨ (A 46 p.toNat = 1 ∧ B 48 p.toNat = nw ∧ v = 0) ∨ (A 46 p.toNat = 1 ∧ B 48 p.toNat ≠ nw ∧ mq_hd A sg p ∧ ((A 47 p.toNat ≠ 0 ∧ v = 2) ∨ (A 47 p.toNat = 0 ∧ v = 0))) ∨ (A 46 p.toNat = 1 ∧ B 48 p.toNat ≠ nw ∧ ¬ mq_hd A sg p ∧ v = 1)
def mq_ln2 (A B A3 : mq_A) (nw sg pr p : Int) : Prop := (∀ t, t ≠ 46 → A3 t = A t) ∧ (∀ p1 : Int, 0 ≤ p1 → p1 < p → mq_lr A B nw sg p1 (A3 46 p1.toNat)) ∧ ∀ p1 : Int, p ≤ p1 → A3 46 p1.toNat = A 46 p1.toNat
theorem mq_ln_0 {A B : mq_A} {nw sg pr : Int} : mq_ln2 A B A nw sg pr 0 := ⟨fun _ _ => rfl, fun p1 a b => by omega, fun _ _ => rfl⟩
theorem mq_ln_s {A B A3 A4 : mq_A} {nw sg pr p v : Int} (h : mq_ln2 A B A3 nw sg pr p) (h0 : 0 ≤ p) (h1 : A4 = md_u A3 46 p.toNat v) (h2 : mq_lr A B nw sg p v) : mq_ln2 A B A4 nw sg pr (p + 1) := by
  obtain ⟨a, b, c⟩ := h
  subst h1
  refine ⟨fun t z => (md_u_t z).trans (a t z), fun p1 z1 z2 => ?_, fun p1 z => (md_u_k (by omega)).trans (c p1 (by omega))⟩
  rcases (show p1 < p ∨ p1 = p by omega) with z | rfl
  · rw [md_u_k (by omega)]
    exact b p1 z1 z
  · rw [md_u_s]
    exact h2
theorem mq_ln_n {A B A3 : mq_A} {nw sg pr p : Int} (h : mq_ln2 A B A3 nw sg pr p) (h0 : 0 ≤ p) (h2 : mq_lr A B nw sg p (A 46 p.toNat)) : mq_ln2 A B A3 nw sg pr (p + 1) := by
  obtain ⟨a, b, c⟩ := h
  refine ⟨a, fun p1 z1 z2 => ?_, fun p1 z => c p1 (by omega)⟩
  rcases (show p1 < p ∨ p1 = p by omega) with z | rfl
  · exact b p1 z1 z
  · rw [c p1 (Int.le_refl _)]
    exact h2
def mq_cy (A B A1 B1 A2 A3 : mq_A) (t kp sz sg dr pr : Int) : Prop := (0 ≤ kp ∧ kp ≤ sz) ∧ mq_tk A B A1 B1 t kp sz ∧ (∀ s : Int, 0 ≤ s → s < sg → mq_ac A B A1 t sz s) ∧ (∀ s : Int, sg ≤ s → A1 33 s.toNat = A 33 s.toNat) ∧ mq_rn A1 A2 dr sg sg ∧ mq_ln2 A2 B1 A3 t sg pr pr
def sm_106 (as : List wi_V) (M : mq_H) (q : wi_Q1 mq_H) (_ : wi_Q2 mq_H) : Prop := mq_s as (mq_f M fun cd lm st sg el dr sz pr wc sp nw A B => 0 ≤ sg ∧ sg ≤ 200 ∧ 0 ≤ dr ∧ dr ≤ 512 ∧ 0 ≤ sz ∧ sz ≤ 8192 ∧ 0 ≤ pr ∧ pr ≤ 64 ∧ 0 ≤ sp ∧ sp ≤ 100000 ∧ (∀ j : Int, 0 ≤ j → j < sz → 0 ≤ B 41 j.toNat) ∧ (∀ j : Int, 0 ≤ j → j < pr → -1 ≤ B 48 j.toNat) ∧ (∀ s : Int, 0 ≤ s → s < sg → 0 ≤ A 32 s.toNat ∧ 0 ≤ A 31 s.toNat ∧ A 32 s.toNat + A 31 s.toNat ≤ 512) ∧
  (∀ j : Int, 0 ≤ j → j < sz → 0 ≤ A 40 j.toNat ∧ A 40 j.toNat < 512) ∧ (∀ s1 s2 : Int, 0 ≤ s1 → s1 < s2 → s2 < sg → A 32 s1.toNat + A 31 s1.toNat ≤ A 32 s2.toNat) ∧ (st = 0 ∨ (∃ j : Nat, (j : Int) < pr ∧ A 46 j = 0) ∨ (∃ j : Nat, (j : Int) < pr ∧ A 46 j = 2) → q (some (.inl 0)) ([1, lm, st, sg, el, dr, sz, pr, wc, sp, nw], A, B)) ∧ (st ≠ 0 → (∀ j : Nat, (j : Int) < pr → A 46 j ≠ 0) → (∀ j : Nat, (j : Int) < pr → A 46 j ≠ 2) → ∀ t : Int, mq_nx A B sz pr t → t = -1 → q (some (.inl 0)) ([0, lm, st, sg, el, dr, sz, pr, wc, sp, nw], A, B)) ∧ (st ≠ 0 → (∀ j : Nat, (j : Int) < pr → A 46 j ≠ 0) → (∀ j : Nat, (j : Int) < pr → A 46 j ≠ 2) → ∀ t : Int, mq_nx A B sz pr t → t ≠ -1 → t = nw → sp = lm → q (some (.inl 3)) ([0, lm, st, sg, el, dr, sz, pr, wc, sp, nw], A, B)) ∧
  (st ≠ 0 → (∀ j : Nat, (j : Int) < pr → A 46 j ≠ 0) → (∀ j : Nat, (j : Int) < pr → A 46 j ≠ 2) → ∀ t : Int, mq_nx A B sz pr t → t ≠ -1 → t = nw → sp ≠ lm → ∀ (A1 B1 A2 A3 : mq_A) (kp : Int), mq_cy A B A1 B1 A2 A3 t kp sz sg dr pr → q (some (.inl 2)) ([0, lm, st, sg, el, dr, kp, pr, wc, sp + 1, t], A3, B1)) ∧
  (st ≠ 0 → (∀ j : Nat, (j : Int) < pr → A 46 j ≠ 0) → (∀ j : Nat, (j : Int) < pr → A 46 j ≠ 2) → ∀ t : Int, mq_nx A B sz pr t → t ≠ -1 → t ≠ nw → ∀ (A1 B1 A2 A3 : mq_A) (kp : Int), mq_cy A B A1 B1 A2 A3 t kp sz sg dr pr → q (some (.inl 1)) ([0, lm, st, sg, el, dr, kp, pr, wc, 0, t], A3, B1)))
theorem mm_106 {l : Launch} {D : va_G} {aC : wm_Y} {b0 : Nat} (hl0 : l.stackTraces = false) : wm_sp l D aC b0 106 (wi_lf mq_Rl sm_106) := by
  refine wi_method mq_lw 106 (cx := fun id => if id = 104 then sm_104 else if id = 105 then sm_105 else if id = 107 then sm_107 else if id = 108 then sm_108 else if id = 109 then sm_109 else fun _ _ _ _ => False) (ids := ci_106) (tb := tb_106) (by decide +kernel) hl0 (wm_cxc (mm_104 hl0) oi_106 (fun h => wm_cxc (mm_105 hl0) h (fun h => wm_cxc (mm_107 hl0) h (fun h => wm_cxc (mm_108 hl0) h (fun h => wm_cxc (mm_109 hl0) h (fun h => wm_cxn h)))))) (wm_tb_ok tk_106) (by decide +kernel) [118, 142] 300 (fun as M q qt hs => ?_)
  obtain ⟨rfl, hs1⟩ := mq_s_e hs
  clear hs
  obtain ⟨cd, lm, st, sg, el, dr, sz, pr, wc, sp, nw, A, B, rfl, hs⟩ := mq_f_e hs1
  clear hs1
  obtain ⟨r1, r2, r3, r4, r5, r6, r7, r8, r9, r10, r11, r12, r13, r14, r15, h1, h2, h3, h4, h5⟩ := hs
  refine ⟨rfl, fun mz pc lv sk h cu su => match pc with | 118 => ∃ t : Int, ∃ x : Int, ∃ s : Int, ∃ sp1 : Int, ∃ kp : Int, ∃ A1 : mq_A, ∃ B1 : mq_A, ∃ A2 : mq_A, lv = [some (wi_rf (some 11)), some (.inr (.inl (t))), none, some (.inl (x)), some (.inl (s))] ∧ sk = [] ∧ h = ([0, lm, st, sg, el, dr, kp, pr, wc, sp1, t], A2, B1) ∧ cu = 0 ∧ su = 0 ∧ mz = (1000 - s).toNat ∧ 0 ≤ s ∧ s ≤ sg ∧ st ≠ 0 ∧ (∀ j : Nat, (j : Int) < pr → A 46 j ≠ 0) ∧ (∀ j : Nat, (j : Int) < pr → A 46 j ≠ 2) ∧ mq_nx A B sz pr t ∧ t ≠ -1 ∧ ((x = 1 ∧ t = nw ∧ sp ≠ lm ∧ sp1 = sp + 1) ∨ (x = 0 ∧ t ≠ nw ∧ sp1 = 0)) ∧ 0 ≤ kp ∧ kp ≤ sz ∧ mq_tk A B A1 B1 t kp sz ∧ (∀ s : Int, 0 ≤ s → s < sg → mq_ac A B A1 t sz s) ∧ (∀ s : Int, sg ≤ s → A1 33 s.toNat = A 33 s.toNat) ∧ mq_rn A1 A2 dr sg s | 142 => ∃ t : Int, ∃ x : Int, ∃ p : Int, ∃ sp1 : Int, ∃ kp : Int, ∃ A1 : mq_A, ∃ B1 : mq_A, ∃ A2 : mq_A, ∃ A3 : mq_A, lv = [some (wi_rf (some 11)), some (.inr (.inl (t))), none, some (.inl (x)), some (.inl (p))] ∧ sk = [] ∧ h = ([0, lm, st, sg, el, dr, kp, pr, wc, sp1, t], A3, B1) ∧ cu = 0 ∧ su = 0 ∧ mz = (100 - p).toNat ∧ 0 ≤ p ∧ p ≤ pr ∧ st ≠ 0 ∧ (∀ j : Nat, (j : Int) < pr → A 46 j ≠ 0) ∧ (∀ j : Nat, (j : Int) < pr → A 46 j ≠ 2) ∧ mq_nx A B sz pr t ∧ t ≠ -1 ∧ ((x = 1 ∧ t = nw ∧ sp ≠ lm ∧ sp1 = sp + 1) ∨ (x = 0 ∧ t ≠ nw ∧ sp1 = 0)) ∧ 0 ≤ kp ∧ kp ≤ sz ∧ mq_tk A B A1 B1 t kp sz ∧ (∀ s : Int, 0 ≤ s → s < sg → mq_ac A B A1 t sz s) ∧ (∀ s : Int, sg ≤ s → A1 33 s.toNat = A 33 s.toNat) ∧ mq_rn A1 A2 dr sg sg ∧ mq_ln2 A2 B1 A3 t sg pr p | _ => False, mq_c2 (fun mz lv sk h cu su hI => ?_) (fun mz lv sk h cu su hI => ?_), ?_⟩
  · obtain ⟨t, x, s, sp1, kp, A1, B1, A2, rfl, rfl, rfl, rfl, rfl, rfl, p1, p2, p3, p4, p5, p6, p7, p8, p9, p10, p11, p12, p13, p14⟩ := hI
    have e1 : ∀ t, t ≠ 33 → t ≠ 39 → t ≠ 40 → t ≠ 42 → A1 t = A t := p11.1
    have e32 : A2 32 s.toNat = A 32 s.toNat := by rw [p14.1 32 (by decide) (by decide) (by decide), e1 32 (by decide) (by decide) (by decide) (by decide)]
    have e31 : A2 31 s.toNat = A 31 s.toNat := by rw [p14.1 31 (by decide) (by decide) (by decide), e1 31 (by decide) (by decide) (by decide) (by decide)]
    have r16 := r13 s
    have nxt : ∀ A4 : mq_A, s < sg → mq_rw A2 A4 dr s → mq_rn A1 A4 dr sg (s + 1) := fun A4 z w => mq_rn_s p14 p1 z w (fun s1 y1 y2 => by rw [e1 32 (by decide) (by decide) (by decide) (by decide)]; exact (r13 s1 y1 y2).1) (fun s1 s2 y1 y2 y3 => by rw [e1 32 (by decide) (by decide) (by decide) (by decide), e1 31 (by decide) (by decide) (by decide) (by decide)]; exact r15 s1 s2 y1 y2 y3)
    repeat' first
      | refine And.intro ?_ ?_
      | (intro hA; have hA2 : ∀ j : Int, A2 32 s.toNat ≤ j → j < A2 32 s.toNat + A2 31 s.toNat → mq_made A2 dr s j = A2 35 j.toNat := hA)
      | (rintro ⟨j, j1, j2, j3⟩; have hE : ∃ j, mq_in A2 s j ∧ mq_made A2 dr s j ≠ A2 35 j.toNat := ⟨j, ⟨j1, j2⟩, j3⟩)
      | (intro h; try omega)
      | omega
      | (have hx := nxt _ (by omega) (mq_rw_0 p1 (by first | exact Or.inl (by assumption) | exact Or.inr (fun j hj => hA j hj.1 hj.2))); refine Exists.intro _ (And.intro ?_ (Exists.intro (t) (Exists.intro (x) (Exists.intro (s + 1) (Exists.intro (sp1) (Exists.intro (kp) (Exists.intro (A1) (Exists.intro (_) (Exists.intro (_) (And.intro rfl (And.intro rfl (And.intro rfl (And.intro rfl (And.intro rfl (And.intro rfl (?_)))))))))))))))) <;> first | omega | exact ⟨by omega, by omega, p3, p4, p5, p6, p7, p8, p9, p10, p11, p12, p13, hx⟩)
      | (have hx := nxt _ (by omega) (mq_rw_1 p1 (by omega) (by assumption) hE); refine Exists.intro _ (And.intro ?_ (Exists.intro (t) (Exists.intro (x) (Exists.intro (s + 1) (Exists.intro (sp1) (Exists.intro (kp) (Exists.intro (A1) (Exists.intro (_) (Exists.intro (_) (And.intro rfl (And.intro rfl (And.intro rfl (And.intro rfl (And.intro rfl (And.intro rfl (?_)))))))))))))))) <;> first | omega | exact ⟨by omega, by omega, p3, p4, p5, p6, p7, p8, p9, p10, p11, p12, p13, hx⟩)
      | (have ed : s = sg := (by omega); subst ed; refine Exists.intro _ (And.intro ?_ (Exists.intro (t) (Exists.intro (x) (Exists.intro (0) (Exists.intro (sp1) (Exists.intro (kp) (Exists.intro (A1) (Exists.intro (_) (Exists.intro (A2) (Exists.intro (_) (And.intro rfl (And.intro rfl (And.intro rfl (And.intro rfl (And.intro rfl (And.intro rfl (?_))))))))))))))))) <;> first | omega | exact ⟨by omega, by omega, p3, p4, p5, p6, p7, p8, p9, p10, p11, p12, p13, p14, mq_ln_0⟩)
      | exact Nat.le_of_ble_eq_true rfl
  · obtain ⟨t, x, p, sp1, kp, A1, B1, A2, A3, rfl, rfl, rfl, rfl, rfl, rfl, p1, p2, p3, p4, p5, p6, p7, p8, p9, p10, p11, p12, p13, p14, p15⟩ := hI
    have f46 : A3 46 p.toNat = A2 46 p.toNat := p15.2.2 p (Int.le_refl _)
    have f47 : A3 47 p.toNat = A2 47 p.toNat := by rw [p15.1 47 (by decide)]
    have f34 : A3 34 = A2 34 := p15.1 34 (by decide)
    have f49 : A3 49 = A2 49 := p15.1 49 (by decide)
    have cy : p = pr → mq_cy A B A1 B1 A2 A3 t kp sz sg dr pr := fun z => ⟨⟨p9, p10⟩, p11, p12, p13, p14, by rw [← z]; rw [← z] at p15; exact p15⟩
    repeat' first
      | refine And.intro ?_ ?_
      | (rintro ⟨j, j1, j2, j3, j4⟩; have hE : mq_hd A2 sg p := ⟨j, j1, j2, by rw [← f34]; exact j3, by rw [← f49]; exact j4⟩)
      | (intro hA; have hN : ¬ mq_hd A2 sg p := fun ⟨j, j1, j2, j3, j4⟩ => by have := hA j j1 j2; rw [f34, f49] at this; omega)
      | (intro h; try omega)
      | omega
      | exact h4 p3 p4 p5 t p6 p7 (by omega) (by omega) A1 B1 A2 A3 kp (cy (by omega))
      | exact h5 p3 p4 p5 t p6 p7 (by omega) A1 B1 A2 A3 kp (cy (by omega))
      | (have g9 : x = 1 ∧ sp1 = sp + 1 := (by omega); obtain ⟨rfl, rfl⟩ := g9; exact h4 p3 p4 p5 t p6 p7 (by omega) (by omega) A1 B1 A2 A3 kp (cy (by omega)))
      | (have g9 : x = 0 ∧ sp1 = 0 := (by omega); obtain ⟨rfl, rfl⟩ := g9; exact h5 p3 p4 p5 t p6 p7 (by omega) A1 B1 A2 A3 kp (cy (by omega)))
      | (have hx : mq_ln2 A2 B1 _ t sg pr (p + 1) := mq_ln_n p15 p1 (Or.inl ⟨by omega, rfl⟩); refine Exists.intro _ (And.intro ?_ (Exists.intro (t) (Exists.intro (x) (Exists.intro (p + 1) (Exists.intro (sp1) (Exists.intro (kp) (Exists.intro (A1) (Exists.intro (_) (Exists.intro (A2) (Exists.intro (_) (And.intro rfl (And.intro rfl (And.intro rfl (And.intro rfl (And.intro rfl (And.intro rfl (?_))))))))))))))))) <;> first | omega | exact ⟨by omega, by omega, p3, p4, p5, p6, p7, p8, p9, p10, p11, p12, p13, p14, hx⟩)
      | (have hx : mq_ln2 A2 B1 _ t sg pr (p + 1) := mq_ln_s p15 p1 rfl (Or.inr (Or.inl ⟨by omega, by assumption, rfl⟩)); refine Exists.intro _ (And.intro ?_ (Exists.intro (t) (Exists.intro (x) (Exists.intro (p + 1) (Exists.intro (sp1) (Exists.intro (kp) (Exists.intro (A1) (Exists.intro (_) (Exists.intro (A2) (Exists.intro (_) (And.intro rfl (And.intro rfl (And.intro rfl (And.intro rfl (And.intro rfl (And.intro rfl (?_))))))))))))))))) <;> first | omega | exact ⟨by omega, by omega, p3, p4, p5, p6, p7, p8, p9, p10, p11, p12, p13, p14, hx⟩)
      | (have hx : mq_ln2 A2 B1 _ t sg pr (p + 1) := mq_ln_s p15 p1 rfl (Or.inr (Or.inr (Or.inl ⟨by omega, by assumption, hE, Or.inl ⟨by omega, rfl⟩⟩))); refine Exists.intro _ (And.intro ?_ (Exists.intro (t) (Exists.intro (x) (Exists.intro (p + 1) (Exists.intro (sp1) (Exists.intro (kp) (Exists.intro (A1) (Exists.intro (_) (Exists.intro (A2) (Exists.intro (_) (And.intro rfl (And.intro rfl (And.intro rfl (And.intro rfl (And.intro rfl (And.intro rfl (?_))))))))))))))))) <;> first | omega | exact ⟨by omega, by omega, p3, p4, p5, p6, p7, p8, p9, p10, p11, p12, p13, p14, hx⟩)
      | (have hx : mq_ln2 A2 B1 _ t sg pr (p + 1) := mq_ln_s p15 p1 rfl (Or.inr (Or.inr (Or.inl ⟨by omega, by assumption, hE, Or.inr ⟨by omega, rfl⟩⟩))); refine Exists.intro _ (And.intro ?_ (Exists.intro (t) (Exists.intro (x) (Exists.intro (p + 1) (Exists.intro (sp1) (Exists.intro (kp) (Exists.intro (A1) (Exists.intro (_) (Exists.intro (A2) (Exists.intro (_) (And.intro rfl (And.intro rfl (And.intro rfl (And.intro rfl (And.intro rfl (And.intro rfl (?_))))))))))))))))) <;> first | omega | exact ⟨by omega, by omega, p3, p4, p5, p6, p7, p8, p9, p10, p11, p12, p13, p14, hx⟩)
      | (have hx : mq_ln2 A2 B1 _ t sg pr (p + 1) := mq_ln_n p15 p1 (Or.inr (Or.inr (Or.inr ⟨by omega, by assumption, hN, by omega⟩))); refine Exists.intro _ (And.intro ?_ (Exists.intro (t) (Exists.intro (x) (Exists.intro (p + 1) (Exists.intro (sp1) (Exists.intro (kp) (Exists.intro (A1) (Exists.intro (_) (Exists.intro (A2) (Exists.intro (_) (And.intro rfl (And.intro rfl (And.intro rfl (And.intro rfl (And.intro rfl (And.intro rfl (?_))))))))))))))))) <;> first | omega | exact ⟨by omega, by omega, p3, p4, p5, p6, p7, p8, p9, p10, p11, p12, p13, p14, hx⟩)
      | exact Nat.le_of_ble_eq_true rfl
  · repeat' first
      | refine And.intro ?_ ?_
      | exact r11
      | exact r12
      | exact r13
      | exact r14
      | (intro hE; have hE0 : (∃ j : Nat, (j : Int) < pr ∧ A 46 j = 0) := hE)
      | (intro hE; have hE2 : (∃ j : Nat, (j : Int) < pr ∧ A 46 j = 2) := hE)
      | (intro hE; have hN0 : (∀ j : Nat, (j : Int) < pr → A 46 j ≠ 0) := hE)
      | (intro hE; have hN2 : (∀ j : Nat, (j : Int) < pr → A 46 j ≠ 2) := hE)
      | (intro t hT0; have hT : mq_nx A B sz pr t := hT0)
      | (intro A1 B1 kp k1 k2 k3 k4 k5; have hK : mq_tk A B A1 B1 t kp sz := k3)
      | (intro h; try omega)
      | omega
      | exact h1 (Or.inl (by omega))
      | exact h1 (Or.inr (Or.inl hE0))
      | exact h1 (Or.inr (Or.inr hE2))
      | exact h2 (by assumption) hN0 hN2 _ hT (by omega)
      | exact h3 (by assumption) hN0 hN2 _ hT (by omega) (by omega) (by omega)
      | (refine Exists.intro _ (Exists.intro (t) (Exists.intro (1) (Exists.intro (0) (Exists.intro (sp + 1) (Exists.intro (kp) (Exists.intro (A1) (Exists.intro (B1) (Exists.intro (A1) (And.intro rfl (And.intro rfl (And.intro rfl (And.intro rfl (And.intro rfl (And.intro rfl (?_))))))))))))))) <;> first | omega | exact ⟨by omega, by omega, by assumption, hN0, hN2, hT, by assumption, by omega, k1, k2, k3, k4, k5, mq_rn_0⟩)
      | (refine Exists.intro _ (Exists.intro (t) (Exists.intro (0) (Exists.intro (0) (Exists.intro (0) (Exists.intro (kp) (Exists.intro (A1) (Exists.intro (B1) (Exists.intro (A1) (And.intro rfl (And.intro rfl (And.intro rfl (And.intro rfl (And.intro rfl (And.intro rfl (?_))))))))))))))) <;> first | omega | exact ⟨by omega, by omega, by assumption, hN0, hN2, hT, by assumption, by omega, k1, k2, k3, k4, k5, mq_rn_0⟩)
      | exact Nat.le_of_ble_eq_true rfl
