/-! THE REFERENCE, 3: loops that look, further -/
def mq_can (A : mq_A) (s v : Int) : Prop := A 30 s.toNat = 2 ∨ (0 ≤ v ∧ v ≤ 8)
def mq_ri (B : mq_A) (w : Int) : Prop := ∀ j : Int, 1 ≤ j → j < w → B 52 (j - 1).toNat < B 52 j.toNat
def mq_ck (A : mq_A) (s w k : Int) : Prop := ∀ i : Int, 0 ≤ i → i < k → mq_can A s (A 51 (64 * w + i).toNat)
def mq_cw (A : mq_A) (s n w : Int) : Prop := ∀ j : Int, 0 ≤ j → j < w → mq_ck A s j n
theorem mq_ri_0 {B : mq_A} {w : Int} (h : w ≤ 1) : mq_ri B w := fun j h1 h2 => by omega
theorem mq_ri_s {B : mq_A} {w : Int} (h : mq_ri B w) (g : w < 1 ∨ B 52 (w - 1).toNat < B 52 w.toNat) : mq_ri B (w + 1) := fun j h1 h2 => by
  rcases (show j < w ∨ j = w by omega) with hd | rfl
  · exact h j h1 hd
  · omega
theorem mq_ri_d {B : mq_A} {w : Int} (h : mq_ri B (w + 1)) : mq_ri B w := fun j h1 h2 => h j h1 (by omega)
theorem mq_ck_s {A : mq_A} {s w k : Int} (h : mq_ck A s w k) (g : mq_can A s (A 51 (64 * w + k).toNat)) : mq_ck A s w (k + 1) := fun j h1 h2 => by
  rcases (show j < k ∨ j = k by omega) with hd | rfl
  · exact h j h1 hd
  · exact g
theorem mq_ck_d {A : mq_A} {s w k : Int} (h : mq_ck A s w (k + 1)) : mq_ck A s w k := fun j h1 h2 => h j h1 (by omega)
theorem mq_cw_s {A : mq_A} {s n w : Int} (h : mq_cw A s n w) (g : mq_ck A s w n) : mq_cw A s n (w + 1) := fun j h1 h2 => by
  rcases (show j < w ∨ j = w by omega) with hd | rfl
  · exact h j h1 hd
  · exact g
theorem mq_cw_d {A : mq_A} {s n w : Int} (h : mq_cw A s n (w + 1)) : mq_cw A s n w := fun j h1 h2 => h j h1 (by omega)
def mq_good (A B : mq_A) (nw wc s n mo li : Int) : Prop := (0 ≤ mo ∧ mo ≤ 2 ∧ nw + B 52 (wc - 1).toNat ≤ 1152921504606846976) ∧ mq_ri B wc ∧ mq_cw A s n wc ∧ (mo < 2 ∨ (0 ≤ li ∧ li ≤ B 52 (Int.toNat 0)))
def sm_96 (as : List wi_V) (M : mq_H) (q : wi_Q1 mq_H) (_ : wi_Q2 mq_H) : Prop := mq_sIIIJ as (fun s n mo li => mq_f M fun cd lm st sg el dr sz pr wc sp nw A B => 0 ≤ s ∧ s < 200 ∧ 0 ≤ n ∧ n ≤ 64 ∧ 1 ≤ wc ∧ wc ≤ 16 ∧ 0 ≤ nw ∧ nw ≤ 1152921504606846976 ∧ (∀ j : Int, 0 ≤ j → j < wc → 0 ≤ B 52 j.toNat ∧ B 52 j.toNat ≤ 1152921504606846976) ∧ (mq_good A B nw wc s n mo li → q (some (.inl 1)) ([cd, lm, st, sg, el, dr, sz, pr, wc, sp, nw], A, B)) ∧ (¬ mq_good A B nw wc s n mo li → q (some (.inl 0)) ([cd, lm, st, sg, el, dr, sz, pr, wc, sp, nw], A, B)))
theorem mm_96 {l : Launch} {D : va_G} {aC : wm_Y} {b0 : Nat} (hl0 : l.stackTraces = false) : wm_sp l D aC b0 96 (wi_lf mq_Rl sm_96) := by
  refine wi_method mq_lw 96 (cx := fun id => if id = 88 then sm_88 else fun _ _ _ _ => False) (ids := ci_96) (tb := tb_96) (by decide +kernel) hl0 (wm_cxc (mm_88 hl0) oi_96 (fun h => wm_cxn h)) (wm_tb_ok tk_96) (by decide +kernel) [42, 91] 250 (fun as M q qt hs => ?_)
  obtain ⟨s, n, mo, li, rfl, hs1⟩ := mq_sIIIJ_e hs
  clear hs
  obtain ⟨cd, lm, st, sg, el, dr, sz, pr, wc, sp, nw, A, B, rfl, hs⟩ := mq_f_e hs1
  clear hs1
  obtain ⟨r1, r2, r3, r4, r5, r6, r7, r8, r9, h1, h2⟩ := hs
  have r10 := r9 (wc - 1) (by omega) (by omega)
  refine ⟨rfl, fun mz pc lv sk h cu su => match pc with | 42 => ∃ x : Int, ∃ w : Int, ∃ k8 : Option wi_V, lv = [some (wi_rf (some 11)), some (.inl (s)), some (.inl (n)), some (.inl (mo)), some (.inr (.inl (li))), none, some (.inl (x)), some (.inl (w)), k8] ∧ sk = [] ∧ h = ([cd, lm, st, sg, el, dr, sz, pr, wc, sp, nw], A, B) ∧ cu = 0 ∧ su = 0 ∧ mz = ((wc - w) * 100).toNat ∧ 0 ≤ w ∧ w ≤ wc ∧ ((x = 1 ∧ ((0 ≤ mo ∧ mo ≤ 2 ∧ nw + B 52 (wc - 1).toNat ≤ 1152921504606846976) ∧ mq_ri B w ∧ mq_cw A s n w)) ∨ (x = 0 ∧ ¬ ((0 ≤ mo ∧ mo ≤ 2 ∧ nw + B 52 (wc - 1).toNat ≤ 1152921504606846976) ∧ mq_ri B w ∧ mq_cw A s n w))) | 91 => ∃ x : Int, ∃ w : Int, ∃ k : Int, lv = [some (wi_rf (some 11)), some (.inl (s)), some (.inl (n)), some (.inl (mo)), some (.inr (.inl (li))), none, some (.inl (x)), some (.inl (w)), some (.inl (k))] ∧ sk = [] ∧ h = ([cd, lm, st, sg, el, dr, sz, pr, wc, sp, nw], A, B) ∧ cu = 0 ∧ su = 0 ∧ mz = ((wc - w) * 100 - 1 - k).toNat ∧ 0 ≤ w ∧ w < wc ∧ 0 ≤ k ∧ k ≤ n ∧ ((x = 1 ∧ ((0 ≤ mo ∧ mo ≤ 2 ∧ nw + B 52 (wc - 1).toNat ≤ 1152921504606846976) ∧ mq_ri B (w + 1) ∧ mq_cw A s n w ∧ mq_ck A s w k)) ∨ (x = 0 ∧ ¬ ((0 ≤ mo ∧ mo ≤ 2 ∧ nw + B 52 (wc - 1).toNat ≤ 1152921504606846976) ∧ mq_ri B (w + 1) ∧ mq_cw A s n w ∧ mq_ck A s w k))) | _ => False, mq_c2 (fun mz lv sk h cu su hI => ?_) (fun mz lv sk h cu su hI => ?_), ?_⟩
  · obtain ⟨x, w, k8, rfl, rfl, rfl, rfl, rfl, rfl, p1, p2, ⟨rfl, p3, p4, p5⟩ | ⟨rfl, p3⟩⟩ := hI
    · repeat' first
        | (have e : w = wc := (by omega); subst e; exact h1 ⟨p3, p4, p5, by omega⟩)
        | (have e : w = wc := (by omega); subst e; refine h2 (fun c => ?_); have c2 := c.2.2.2; omega)
        | (refine Exists.intro _ (And.intro ?_ (Exists.intro (1) (Exists.intro (w) (Exists.intro (0) (And.intro rfl (And.intro rfl (And.intro rfl (And.intro rfl (And.intro rfl (And.intro rfl (?_))))))))))) <;> first | omega | exact ⟨by omega, by omega, by omega, by omega, Or.inl ⟨rfl, p3, mq_ri_s p4 (by omega), p5, fun j h1 h2 => by omega⟩⟩)
        | (refine Exists.intro _ (And.intro ?_ (Exists.intro (0) (Exists.intro (w) (Exists.intro (0) (And.intro rfl (And.intro rfl (And.intro rfl (And.intro rfl (And.intro rfl (And.intro rfl (?_))))))))))) <;> first | omega | exact ⟨by omega, by omega, by omega, by omega, Or.inr ⟨rfl, fun c => by have c2 := c.2.1 w (by omega) (by omega); omega⟩⟩)
        | refine And.intro ?_ ?_
        | (intro h; try omega)
        | omega
        | exact Nat.le_of_ble_eq_true rfl
    · repeat' first
        | (have e : w = wc := (by omega); subst e; exact h2 (fun c => p3 ⟨c.1, c.2.1, c.2.2.1⟩))
        | (refine Exists.intro _ (And.intro ?_ (Exists.intro (0) (Exists.intro (w) (Exists.intro (0) (And.intro rfl (And.intro rfl (And.intro rfl (And.intro rfl (And.intro rfl (And.intro rfl (?_))))))))))) <;> first | omega | exact ⟨by omega, by omega, by omega, by omega, Or.inr ⟨rfl, fun c => p3 ⟨c.1, mq_ri_d c.2.1, c.2.2.1⟩⟩⟩)
        | refine And.intro ?_ ?_
        | (intro h; try omega)
        | omega
        | exact Nat.le_of_ble_eq_true rfl
  · obtain ⟨x, w, k, rfl, rfl, rfl, rfl, rfl, rfl, p1, p2, p3, p4, ⟨rfl, p5, p6, p7, p8⟩ | ⟨rfl, p5⟩⟩ := hI
    · repeat' first
        | (refine Exists.intro _ (And.intro ?_ (Exists.intro (1) (Exists.intro (w) (Exists.intro (k + 1) (And.intro rfl (And.intro rfl (And.intro rfl (And.intro rfl (And.intro rfl (And.intro rfl (?_))))))))))) <;> first | omega | exact ⟨by omega, by omega, by omega, by omega, Or.inl ⟨rfl, p5, p6, p7, mq_ck_s p8 (by unfold mq_can; omega)⟩⟩)
        | (refine Exists.intro _ (And.intro ?_ (Exists.intro (0) (Exists.intro (w) (Exists.intro (k + 1) (And.intro rfl (And.intro rfl (And.intro rfl (And.intro rfl (And.intro rfl (And.intro rfl (?_))))))))))) <;> first | omega | exact ⟨by omega, by omega, by omega, by omega, Or.inr ⟨rfl, fun c => by have c2 := c.2.2.2 k (by omega) (by omega); unfold mq_can at c2; omega⟩⟩)
        | (have e : k = n := (by omega); subst e; (refine Exists.intro _ (And.intro ?_ (Exists.intro (1) (Exists.intro (w + 1) (Exists.intro (_) (And.intro rfl (And.intro rfl (And.intro rfl (And.intro rfl (And.intro rfl (And.intro rfl (?_))))))))))) <;> first | omega | exact ⟨by omega, by omega, Or.inl ⟨rfl, p5, p6, mq_cw_s p7 p8⟩⟩))
        | refine And.intro ?_ ?_
        | (intro h; try omega)
        | omega
        | exact Nat.le_of_ble_eq_true rfl
    · repeat' first
        | (refine Exists.intro _ (And.intro ?_ (Exists.intro (0) (Exists.intro (w) (Exists.intro (k + 1) (And.intro rfl (And.intro rfl (And.intro rfl (And.intro rfl (And.intro rfl (And.intro rfl (?_))))))))))) <;> first | omega | exact ⟨by omega, by omega, by omega, by omega, Or.inr ⟨rfl, fun c => p5 ⟨c.1, c.2.1, c.2.2.1, mq_ck_d c.2.2.2⟩⟩⟩)
        | (have e : k = n := (by omega); subst e; (refine Exists.intro _ (And.intro ?_ (Exists.intro (0) (Exists.intro (w + 1) (Exists.intro (_) (And.intro rfl (And.intro rfl (And.intro rfl (And.intro rfl (And.intro rfl (And.intro rfl (?_))))))))))) <;> first | omega | exact ⟨by omega, by omega, Or.inr ⟨rfl, fun c => p5 ⟨c.1, c.2.1, mq_cw_d c.2.2, c.2.2 w (by omega) (by omega)⟩⟩⟩))
        | refine And.intro ?_ ?_
        | (intro h; try omega)
        | omega
        | exact Nat.le_of_ble_eq_true rfl
  · repeat' first
      | (refine Exists.intro _ (Exists.intro (1) (Exists.intro (0) (Exists.intro (_) (And.intro rfl (And.intro rfl (And.intro rfl (And.intro rfl (And.intro rfl (And.intro rfl (?_)))))))))) <;> first | omega | exact ⟨by omega, by omega, Or.inl ⟨rfl, ⟨by omega, by omega, by omega⟩, mq_ri_0 (by omega), fun j h1 h2 => by omega⟩⟩)
      | (refine Exists.intro _ (Exists.intro (0) (Exists.intro (0) (Exists.intro (_) (And.intro rfl (And.intro rfl (And.intro rfl (And.intro rfl (And.intro rfl (And.intro rfl (?_)))))))))) <;> first | omega | exact ⟨by omega, by omega, Or.inr ⟨rfl, fun c => by have c2 := c.1; omega⟩⟩)
      | refine And.intro ?_ ?_
      | (intro h; try omega)
      | omega
      | exact Nat.le_of_ble_eq_true rfl
def mq_w (A B : mq_A) (j : Int) : Prop := (A 46 j.toNat = 1 ∨ A 46 j.toNat = 2) ∧ B 48 j.toNat ≠ -1
def mq_nx (A B : mq_A) (i p t : Int) : Prop := (t = -1 ∧ i ≤ 0 ∧ ∀ j : Int, 0 ≤ j → j < p → ¬ mq_w A B j) ∨ (0 ≤ t ∧ ((∃ j : Int, 0 ≤ j ∧ j < i ∧ B 41 j.toNat = t) ∨ (∃ j : Int, 0 ≤ j ∧ j < p ∧ mq_w A B j ∧ B 48 j.toNat = t)) ∧ (∀ j : Int, 0 ≤ j → j < i → t ≤ B 41 j.toNat) ∧ ∀ j : Int, 0 ≤ j → j < p → mq_w A B j → t ≤ B 48 j.toNat)
theorem mq_nx_i {A B : mq_A} {i t : Int} (h : mq_nx A B i 0 t) (h0 : 0 ≤ i) (h1 : 0 ≤ B 41 i.toNat) (h2 : t = -1 ∨ B 41 i.toNat < t) : mq_nx A B (i + 1) 0 (B 41 i.toNat) := by
  refine Or.inr ⟨h1, Or.inl ⟨i, h0, by omega, rfl⟩, fun j hj hj2 => ?_, fun j hj hj2 => by omega⟩
  rcases (show j < i ∨ j = i by omega) with hd | rfl
  · rcases h with ⟨a, b, c⟩ | ⟨a, b, c, d⟩
    · omega
    · have := c j hj hd
      omega
  · omega
theorem mq_nx_j {A B : mq_A} {i t : Int} (h : mq_nx A B i 0 t) (h1 : t ≠ -1) (h2 : t ≤ B 41 i.toNat) : mq_nx A B (i + 1) 0 t := by
  rcases h with ⟨a, b, c⟩ | ⟨a, b, c, d⟩
  · omega
  · refine Or.inr ⟨a, ?_, fun j hj hj2 => ?_, d⟩
    · rcases b with ⟨j, b1, b2, b3⟩ | ⟨j, b1, b2, b3⟩
      · exact Or.inl ⟨j, b1, by omega, b3⟩
      · exact Or.inr ⟨j, b1, b2, b3⟩
    · rcases (show j < i ∨ j = i by omega) with hd | rfl
      · exact c j hj hd
      · exact h2
theorem mq_nx_p {A B : mq_A} {i p t : Int} (h : mq_nx A B i p t) (h0 : 0 ≤ p) (h3 : mq_w A B p) (h1 : -1 ≤ B 48 p.toNat) (h2 : t = -1 ∨ B 48 p.toNat < t) : mq_nx A B i (p + 1) (B 48 p.toNat) := by
  have h4 := h3.2
  refine Or.inr ⟨by omega, Or.inr ⟨p, h0, by omega, h3, rfl⟩, fun j hj hj2 => ?_, fun j hj hj2 hw => ?_⟩
  · rcases h with ⟨a, b, c⟩ | ⟨a, b, c, d⟩
    · omega
    · have := c j hj hj2
      omega
  · rcases (show j < p ∨ j = p by omega) with hd | rfl
    · rcases h with ⟨a, b, c⟩ | ⟨a, b, c, d⟩
      · exact absurd hw (c j hj hd)
      · have := d j hj hd hw
        omega
    · omega
theorem mq_nx_q {A B : mq_A} {i p t : Int} (h : mq_nx A B i p t) (h2 : ¬ mq_w A B p ∨ (t ≠ -1 ∧ t ≤ B 48 p.toNat)) : mq_nx A B i (p + 1) t := by
  rcases h with ⟨a, b, c⟩ | ⟨a, b, c, d⟩
  · refine Or.inl ⟨a, b, fun j hj hj2 => ?_⟩
    rcases (show j < p ∨ j = p by omega) with hd | rfl
    · exact c j hj hd
    · rcases h2 with h2 | h2
      · exact h2
      · exact absurd a h2.1
  · refine Or.inr ⟨a, ?_, c, fun j hj hj2 hw => ?_⟩
    · rcases b with ⟨j, b1, b2, b3⟩ | ⟨j, b1, b2, b3⟩
      · exact Or.inl ⟨j, b1, b2, b3⟩
      · exact Or.inr ⟨j, b1, by omega, b3⟩
    · rcases (show j < p ∨ j = p by omega) with hd | rfl
      · exact d j hj hd hw
      · rcases h2 with h2 | h2
        · exact absurd hw h2
        · exact h2.2
def sm_104 (as : List wi_V) (M : mq_H) (q : wi_Q1 mq_H) (_ : wi_Q2 mq_H) : Prop := mq_s as (mq_f M fun cd lm st sg el dr sz pr wc sp nw A B => 0 ≤ sz ∧ sz ≤ 8192 ∧ 0 ≤ pr ∧ pr ≤ 64 ∧ (∀ j : Int, 0 ≤ j → j < sz → 0 ≤ B 41 j.toNat) ∧ (∀ j : Int, 0 ≤ j → j < pr → -1 ≤ B 48 j.toNat) ∧ ∀ t : Int, mq_nx A B sz pr t → q (some (.inr (.inl t))) ([0, lm, st, sg, el, dr, sz, pr, wc, sp, nw], A, B))
theorem mm_104 {l : Launch} {D : va_G} {aC : wm_Y} {b0 : Nat} (hl0 : l.stackTraces = false) : wm_sp l D aC b0 104 (wi_lf mq_Rl sm_104) := by
  refine wi_method mq_lw 104 (cx := fun _ _ _ _ _ => False) (ids := ci_104) (tb := tb_104) (by decide +kernel) hl0 wm_cx0 (wm_tb_ok tk_104) (by decide +kernel) [11, 57] 250 (fun as M q qt hs => ?_)
  obtain ⟨rfl, hs1⟩ := mq_s_e hs
  clear hs
  obtain ⟨cd, lm, st, sg, el, dr, sz, pr, wc, sp, nw, A, B, rfl, hs⟩ := mq_f_e hs1
  clear hs1
  obtain ⟨r1, r2, r3, r4, r5, r6, h1⟩ := hs
  refine ⟨rfl, fun mz pc lv sk h cu su => match pc with | 11 => ∃ t : Int, ∃ i : Int, ∃ x4 : Option wi_V, lv = [some (wi_rf (some 11)), some (.inr (.inl (t))), none, some (.inl (i)), x4] ∧ sk = [] ∧ h = ([0, lm, st, sg, el, dr, sz, pr, wc, sp, nw], A, B) ∧ cu = 0 ∧ su = 0 ∧ mz = (10000 - i).toNat ∧ 0 ≤ i ∧ i ≤ sz ∧ mq_nx A B i 0 t | 57 => ∃ t : Int, ∃ p : Int, ∃ x4 : Option wi_V, lv = [some (wi_rf (some 11)), some (.inr (.inl (t))), none, some (.inl (p)), x4] ∧ sk = [] ∧ h = ([0, lm, st, sg, el, dr, sz, pr, wc, sp, nw], A, B) ∧ cu = 0 ∧ su = 0 ∧ mz = (100 - p).toNat ∧ 0 ≤ p ∧ p ≤ pr ∧ mq_nx A B sz p t | _ => False, mq_c2 (fun mz lv sk h cu su hI => ?_) (fun mz lv sk h cu su hI => ?_), ?_⟩
  · obtain ⟨t, i, x4, rfl, rfl, rfl, rfl, rfl, rfl, p1, p2, p3⟩ := hI
    have p4 := r5 i
    repeat' first
      | (have e : i = sz := (by omega); subst e; (refine Exists.intro _ (And.intro ?_ (Exists.intro (t) (Exists.intro (0) (Exists.intro (_) (And.intro rfl (And.intro rfl (And.intro rfl (And.intro rfl (And.intro rfl (And.intro rfl (?_))))))))))) <;> first | omega | exact ⟨by omega, by omega, p3⟩))
      | (refine Exists.intro _ (And.intro ?_ (Exists.intro (B 41 i.toNat) (Exists.intro (i + 1) (Exists.intro (_) (And.intro rfl (And.intro rfl (And.intro rfl (And.intro rfl (And.intro rfl (And.intro rfl (?_))))))))))) <;> first | omega | exact ⟨by omega, by omega, mq_nx_i p3 p1 (by omega) (by omega)⟩)
      | (refine Exists.intro _ (And.intro ?_ (Exists.intro (t) (Exists.intro (i + 1) (Exists.intro (_) (And.intro rfl (And.intro rfl (And.intro rfl (And.intro rfl (And.intro rfl (And.intro rfl (?_))))))))))) <;> first | omega | exact ⟨by omega, by omega, mq_nx_j p3 (by omega) (by omega)⟩)
      | refine And.intro ?_ ?_
      | (intro h; try omega)
      | omega
      | exact Nat.le_of_ble_eq_true rfl
  · obtain ⟨t, p, x4, rfl, rfl, rfl, rfl, rfl, rfl, p1, p2, p3⟩ := hI
    have p4 := r6 p
    repeat' first
      | (have e : p = pr := (by omega); subst e; exact h1 _ p3)
      | (refine Exists.intro _ (And.intro ?_ (Exists.intro (B 48 p.toNat) (Exists.intro (p + 1) (Exists.intro (_) (And.intro rfl (And.intro rfl (And.intro rfl (And.intro rfl (And.intro rfl (And.intro rfl (?_))))))))))) <;> first | omega | exact ⟨by omega, by omega, mq_nx_p p3 p1 ⟨by omega, by omega⟩ (by omega) (by omega)⟩)
      | (refine Exists.intro _ (And.intro ?_ (Exists.intro (t) (Exists.intro (p + 1) (Exists.intro (_) (And.intro rfl (And.intro rfl (And.intro rfl (And.intro rfl (And.intro rfl (And.intro rfl (?_))))))))))) <;> first | omega | exact ⟨by omega, by omega, mq_nx_q p3 (Or.inr ⟨by omega, by omega⟩)⟩)
      | (refine Exists.intro _ (And.intro ?_ (Exists.intro (t) (Exists.intro (p + 1) (Exists.intro (_) (And.intro rfl (And.intro rfl (And.intro rfl (And.intro rfl (And.intro rfl (And.intro rfl (?_))))))))))) <;> first | omega | exact ⟨by omega, by omega, mq_nx_q p3 (Or.inl (fun c => by unfold mq_w at c; omega))⟩)
      | refine And.intro ?_ ?_
      | (intro h; try omega)
      | omega
      | exact Nat.le_of_ble_eq_true rfl
  · refine Exists.intro _ (Exists.intro (-1) (Exists.intro (0) (Exists.intro (_) (And.intro rfl (And.intro rfl (And.intro rfl (And.intro rfl (And.intro rfl (And.intro rfl (⟨by omega, by omega, Or.inl ⟨rfl, by omega, fun j hj hj2 => by omega⟩⟩))))))))))
