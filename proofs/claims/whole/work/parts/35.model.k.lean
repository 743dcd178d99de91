/-! THE REFERENCE, 11: assignOne -/
theorem mq_row_w {A1 B1 : mq_A} {kp c v t d : Int} (h0 : 0 ≤ kp) : mq_row (md_u (md_u A1 40 kp.toNat c) 42 kp.toNat v) (md_u B1 41 kp.toNat t) d (kp + 1).toNat = if c = d then mq_row A1 B1 d kp.toNat ++ [(t, v)] else mq_row A1 B1 d kp.toNat := by
  rw [mq_row_s h0, mq_row_c (A := A1) (B := B1) _ (fun j hj => ⟨by rw [md_u_t (by decide), md_u_k (by omega)], by rw [md_u_k (by omega), md_u_t (by decide)], by rw [md_u_k (by omega)]⟩)]
  rw [md_u_t (by decide), md_u_s, md_u_s, md_u_s]
def mq_q4 (A B A1 B1 : mq_A) (d kp i : Int) : Prop :=
  (∀ t, t ≠ 40 → t ≠ 42 → A1 t = A t) ∧ (∀ t, t ≠ 41 → B1 t = B t) ∧ (∀ j : Int, 0 ≤ j → kp ≤ j → A1 40 j.toNat = A 40 j.toNat ∧ A1 42 j.toNat = A 42 j.toNat ∧ B1 41 j.toNat = B 41 j.toNat) ∧
  (∀ d', d' ≠ d → mq_row A1 B1 d' kp.toNat = mq_row A B d' i.toNat) ∧ mq_row A1 B1 d kp.toNat = [] ∧ (∀ j : Int, 0 ≤ j → j < kp → ∃ j' : Int, 0 ≤ j' ∧ j' < i ∧ A1 40 j.toNat = A 40 j'.toNat) ∧ kp + (mq_row A B d i.toNat).length = i
theorem mq_q4_0 {A B : mq_A} {d : Int} : mq_q4 A B A B d 0 0 :=
  ⟨fun _ _ _ => rfl, fun _ _ => rfl, fun _ _ _ => ⟨rfl, rfl, rfl⟩, fun _ _ => rfl, rfl, fun j a b => by omega, rfl⟩
theorem mq_q4_d {A B A1 B1 : mq_A} {d kp i : Int} (h : mq_q4 A B A1 B1 d kp i) (h0 : 0 ≤ i) (h1 : A 40 i.toNat = d) : mq_q4 A B A1 B1 d kp (i + 1) := by
  obtain ⟨t1, t2, t3, t4, t5, t6, t7⟩ := h
  refine ⟨t1, t2, t3, fun d' hd => ?_, t5, fun j a b => ?_, ?_⟩
  · rw [mq_row_s h0, if_neg (by omega)]
    exact t4 d' hd
  · obtain ⟨j', a1, a2, a3⟩ := t6 j a b
    exact ⟨j', a1, by omega, a3⟩
  · rw [mq_row_s h0, if_pos h1, List.length_append]
    simp only [List.length_cons, List.length_nil]
    omega
theorem mq_q4_m {A B A1 B1 : mq_A} {d kp i : Int} (h : mq_q4 A B A1 B1 d kp i) (h0 : 0 ≤ kp) (h2 : kp ≤ i) (h1 : A 40 i.toNat ≠ d) : mq_q4 A B (md_u (md_u A1 40 kp.toNat (A1 40 i.toNat)) 42 kp.toNat (A1 42 i.toNat)) (md_u B1 41 kp.toNat (B1 41 i.toNat)) d (kp + 1) (i + 1) := by
  obtain ⟨t1, t2, t3, t4, t5, t6, t7⟩ := h
  obtain ⟨e1, e2, e3⟩ := t3 i (by omega) h2
  refine ⟨fun t a b => by rw [md_u_t b, md_u_t a]; exact t1 t a b, fun t a => by rw [md_u_t a]; exact t2 t a, fun j a b => ?_, fun d' hd => ?_, ?_, fun j a b => ?_, ?_⟩
  · rw [md_u_t (by decide), md_u_k (by omega), md_u_k (by omega), md_u_t (by decide), md_u_k (by omega)]
    exact t3 j a (by omega)
  · rw [mq_row_w h0, mq_row_s (show 0 ≤ i by omega), e1, e2, e3, t4 d' hd]
  · rw [mq_row_w h0, e1, if_neg h1, t5]
  · rw [md_u_t (by decide)]
    rcases (show j < kp ∨ j = kp by omega) with hd | rfl
    · rw [md_u_k (by omega)]
      obtain ⟨j', a1, a2, a3⟩ := t6 j a hd
      exact ⟨j', a1, by omega, a3⟩
    · rw [md_u_s]
      exact ⟨i, by omega, by omega, e1⟩
  · rw [mq_row_s (show 0 ≤ i by omega), if_neg h1]
    omega
def mq_q5 (A B A1 B1 : mq_A) (d sz kp i : Int) : Prop :=
  (∀ t, t ≠ 40 → t ≠ 42 → A1 t = A t) ∧ (∀ t, t ≠ 41 → B1 t = B t) ∧ (∀ d', d' ≠ d → mq_row A1 B1 d' kp.toNat = mq_row A B d' sz.toNat) ∧ mq_row A1 B1 d kp.toNat = mq_cl A B i.toNat ∧
  (∀ j : Int, 0 ≤ j → j < kp → (∃ j' : Int, 0 ≤ j' ∧ j' < sz ∧ A1 40 j.toNat = A 40 j'.toNat) ∨ A1 40 j.toNat = d) ∧ kp + (mq_row A B d sz.toNat).length = sz + (mq_cl A B i.toNat).length
theorem mq_q5_0 {A B A1 B1 : mq_A} {d kp sz : Int} (h : mq_q4 A B A1 B1 d kp sz) : mq_q5 A B A1 B1 d sz kp 0 := by
  obtain ⟨t1, t2, t3, t4, t5, t6, t7⟩ := h
  exact ⟨t1, t2, t4, t5, fun j a b => Or.inl (t6 j a b), by rw [show (Int.toNat 0) = 0 from rfl]; simp only [mq_cl, List.length_nil]; omega⟩
theorem mq_q5_n {A B A1 B1 : mq_A} {d sz kp i : Int} (h : mq_q5 A B A1 B1 d sz kp i) (h0 : 0 ≤ i) (h1 : A 45 i.toNat = 0) : mq_q5 A B A1 B1 d sz kp (i + 1) := by
  obtain ⟨t1, t2, t4, t5, t6, t7⟩ := h
  refine ⟨t1, t2, t4, ?_, t6, ?_⟩ <;> rw [mq_cl_s h0, if_neg (fun z => z h1)] <;> assumption
theorem mq_q5_a {A B A1 B1 : mq_A} {d sz kp i : Int} (h : mq_q5 A B A1 B1 d sz kp i) (hk : 0 ≤ kp) (h0 : 0 ≤ i) (h1 : A 45 i.toNat ≠ 0) : mq_q5 A B (md_u (md_u A1 40 kp.toNat d) 42 kp.toNat (A 44 i.toNat)) (md_u B1 41 kp.toNat (B 43 i.toNat)) d sz (kp + 1) (i + 1) := by
  obtain ⟨t1, t2, t4, t5, t6, t7⟩ := h
  refine ⟨fun t a b => by rw [md_u_t b, md_u_t a]; exact t1 t a b, fun t a => by rw [md_u_t a]; exact t2 t a, fun d' hd => ?_, ?_, fun j a b => ?_, ?_⟩
  · rw [mq_row_w hk, if_neg (fun z => hd z.symm), t4 d' hd]
  · rw [mq_row_w hk, if_pos rfl, t5, mq_cl_s h0, if_pos h1]
  · rw [md_u_t (by decide)]
    rcases (show j < kp ∨ j = kp by omega) with hd | rfl
    · rw [md_u_k (by omega)]
      exact t6 j a hd
    · rw [md_u_s]
      exact Or.inr rfl
  · rw [mq_cl_s h0, if_pos h1, List.length_append]
    simp only [List.length_cons, List.length_nil]
    omega
theorem mq_ns_l {A B : mq_A} {nw k : Int} : ∀ n : Nat, (mq_ns A B nw k n).length = n
  | 0 => rfl
  | n + 1 => by simp only [mq_ns]; rw [List.length_append, mq_ns_l n]; rfl
theorem mq_ns_h {A B : mq_A} {nw k : Int} : ∀ n : Nat, 1 ≤ n → (mq_ns A B nw k n)[0]? = some (nw + B 52 0, A 51 (64 * ((0 : Nat) : Int) + k).toNat)
  | 0, h => by omega
  | 1, _ => rfl
  | n + 2, _ => by
    rw [mq_ns, List.getElem?_append_left (by rw [mq_ns_l]; omega)]
    exact mq_ns_h (n + 1) (by omega)
theorem mq_ns_s {A B : mq_A} {nw k w : Int} (h : 0 ≤ w) : mq_ns A B nw k (w + 1).toNat = mq_ns A B nw k w.toNat ++ [(nw + B 52 w.toNat, A 51 (64 * w + k).toNat)] := by
  rw [show (w + 1).toNat = w.toNat + 1 by omega, mq_ns, show ((w.toNat : Nat) : Int) = w by omega]
theorem mq_om_b {bg li mo : Int} {R : List (Int × Int)} : (mq_om bg li mo R).length ≤ R.length := by
  unfold mq_om
  rw [List.length_map]
  exact List.length_filter_le _ _
theorem mq_om_a {bg li mo : Int} {R : List (Int × Int)} {t v : Int} (h : t < bg) : mq_om bg li mo (R ++ [(t, v)]) = mq_om bg li mo R ++ [(t, v, decide (mo = 1 ∨ t < bg - li))] := by
  unfold mq_om
  rw [List.filter_append, List.map_append, List.filter_cons_of_pos (by simpa using h)]
  rfl
theorem mq_om_n {bg li mo : Int} {R : List (Int × Int)} {t v : Int} (h : bg ≤ t) : mq_om bg li mo (R ++ [(t, v)]) = mq_om bg li mo R := by
  unfold mq_om
  rw [List.filter_append, List.map_append, List.filter_cons_of_neg (by simp only [decide_eq_true_eq]; omega)]
  simp
theorem mq_row_e {A B A1 B1 : mq_A} {d : Int} {n : Nat} (h1 : A1 40 = A 40) (h2 : A1 42 = A 42) (h3 : B1 41 = B 41) : mq_row A1 B1 d n = mq_row A B d n := mq_row_c n (fun j _ => by rw [h1, h2, h3]; exact ⟨rfl, rfl, rfl⟩)
abbrev mq_tr (x : Int × Int) : Int × Int × Bool := (x.1, x.2, true)
def sm_98 (as : List wi_V) (M : mq_H) (q : wi_Q1 mq_H) (_ : wi_Q2 mq_H) : Prop := mq_sIIIJ as (fun d k mo li => mq_f M fun cd lm st sg el dr sz pr wc sp nw A B => 0 ≤ k ∧ k < 64 ∧ 1 ≤ wc ∧ wc ≤ 16 ∧ 0 ≤ sz ∧ sz + wc ≤ 8192 ∧ 0 ≤ nw ∧ nw ≤ 1152921504606846976 ∧ (∀ j : Int, 0 ≤ j → j < wc → 0 ≤ B 52 j.toNat ∧ B 52 j.toNat ≤ 1152921504606846976) ∧ (mo = 1 ∨ (0 ≤ li ∧ li ≤ (nw + B 52 (Int.toNat 0)))) ∧ ∀ (A1 B1 : mq_A) (kp : Int), (∀ t, t ≠ 40 → t ≠ 42 → t ≠ 44 → t ≠ 45 → A1 t = A t) → (∀ t, t ≠ 41 → t ≠ 43 → B1 t = B t) → 0 ≤ kp → kp + (mq_row A B d sz.toNat).length = sz + ((mq_kp (A 51 (64 * ((0 : Nat) : Int) + k).toNat) (mq_om (nw + B 52 (Int.toNat 0)) li mo (mq_row A B d sz.toNat))).1.length + wc) → (∀ d', d' ≠ d → mq_row A1 B1 d' kp.toNat = mq_row A B d' sz.toNat) → mq_row A1 B1 d kp.toNat = (mq_kp (A 51 (64 * ((0 : Nat) : Int) + k).toNat) (mq_om (nw + B 52 (Int.toNat 0)) li mo (mq_row A B d sz.toNat))).1 ++ (mq_ns A B nw k wc.toNat) →
  (∀ j : Int, 0 ≤ j → j < kp → (∃ j' : Int, 0 ≤ j' ∧ j' < sz ∧ A1 40 j.toNat = A 40 j'.toNat) ∨ A1 40 j.toNat = d) → q (some (.inl (((mq_row A B d sz.toNat).length : Int) - (mq_kp (A 51 (64 * ((0 : Nat) : Int) + k).toNat) (mq_om (nw + B 52 (Int.toNat 0)) li mo (mq_row A B d sz.toNat))).1.length))) ([cd, lm, st, sg, el, dr, kp, pr, wc, sp, nw], A1, B1))
theorem mm_98 {l : Launch} {D : va_G} {aC : wm_Y} {b0 : Nat} (hl0 : l.stackTraces = false) : wm_sp l D aC b0 98 (wi_lf mq_Rl sm_98) := by
  refine wi_method mq_lw 98 (cx := fun id => if id = 99 then sm_99 else fun _ _ _ _ => False) (ids := ci_98) (tb := tb_98) (by decide +kernel) hl0 (wm_cxc (mm_99 hl0) oi_98 (fun h => wm_cxn h)) (wm_tb_ok tk_98) (by decide +kernel) [22, 135, 205, 275, 318] 250 (fun as M q qt hs => ?_)
  obtain ⟨d, k, mo, li, rfl, hs1⟩ := mq_sIIIJ_e hs
  clear hs
  obtain ⟨cd, lm, st, sg, el, dr, sz, pr, wc, sp, nw, A, B, rfl, hs⟩ := mq_f_e hs1
  clear hs1
  obtain ⟨r1, r2, r3, r4, r5, r6, r7, r8, r9, r10, h1⟩ := hs
  have r11 := r9 0 (by omega) (by omega)
  refine ⟨rfl, fun mz pc lv sk h cu su => match pc with | 22 => ∃ n : Int, ∃ old : Int, ∃ i : Int, ∃ A1 : mq_A, ∃ B1 : mq_A, ∃ y1 : Option wi_V, ∃ y2 : Option wi_V, ∃ y3 : Option wi_V, lv = [some (wi_rf (some 11)), some (.inl (d)), some (.inl (k)), some (.inl (mo)), some (.inr (.inl (li))), none, some (.inr (.inl ((nw + B 52 (Int.toNat 0))))), none, some (.inl (n)), some (.inl (old)), some (.inl (i)), y1, y2, y3] ∧ sk = [] ∧ h = ([cd, lm, st, sg, el, dr, sz, pr, wc, sp, nw], A1, B1) ∧ cu = 0 ∧ su = 0 ∧ mz = (50000 - i).toNat ∧ 0 ≤ i ∧ i ≤ sz ∧ mq_s1 A B A1 B1 (mq_om (nw + B 52 (Int.toNat 0)) li mo (mq_row A B d i.toNat)) n ∧ old = (mq_row A B d i.toNat).length | 135 => ∃ n : Int, ∃ old : Int, ∃ ol : Int, ∃ w : Int, ∃ A1 : mq_A, ∃ B1 : mq_A, ∃ y2 : Option wi_V, ∃ y3 : Option wi_V, lv = [some (wi_rf (some 11)), some (.inl (d)), some (.inl (k)), some (.inl (mo)), some (.inr (.inl (li))), none, some (.inr (.inl ((nw + B 52 (Int.toNat 0))))), none, some (.inl (n)), some (.inl (old)), some (.inl (ol)), some (.inl (w)), y2, y3] ∧ sk = [] ∧ h = ([cd, lm, st, sg, el, dr, sz, pr, wc, sp, nw], A1, B1) ∧ cu = 0 ∧ su = 0 ∧ mz = (40000 - w).toNat ∧ 0 ≤ w ∧ w ≤ wc ∧ mq_s1 A B A1 B1 ((mq_om (nw + B 52 (Int.toNat 0)) li mo (mq_row A B d sz.toNat)) ++ (mq_ns A B nw k w.toNat).map mq_tr) n ∧ old = (mq_row A B d sz.toNat).length ∧ ol = (mq_om (nw + B 52 (Int.toNat 0)) li mo (mq_row A B d sz.toNat)).length | 205 => ∃ n : Int, ∃ old : Int, ∃ ol : Int, ∃ i : Int, ∃ A1 : mq_A, ∃ B1 : mq_A, ∃ y2 : Option wi_V, ∃ y3 : Option wi_V, lv = [some (wi_rf (some 11)), some (.inl (d)), some (.inl (k)), some (.inl (mo)), some (.inr (.inl (li))), none, some (.inr (.inl ((nw + B 52 (Int.toNat 0))))), none, some (.inl (n)), some (.inl (old)), some (.inl (ol)), some (.inl (i)), y2, y3] ∧ sk = [] ∧ h = ([cd, lm, st, sg, el, dr, sz, pr, wc, sp, nw], A1, B1) ∧ cu = 0 ∧ su = 0 ∧ mz = (20000 + i).toNat ∧ -1 ≤ i ∧ i < ol ∧ mq_s3 A B A1 B1 ((mq_om (nw + B 52 (Int.toNat 0)) li mo (mq_row A B d sz.toNat)) ++ (mq_ns A B nw k wc.toNat).map mq_tr) ol i ∧ old = (mq_row A B d sz.toNat).length ∧ ol = (mq_om (nw + B 52 (Int.toNat 0)) li mo (mq_row A B d sz.toNat)).length ∧ n = ol + wc | 275 => ∃ n : Int, ∃ old : Int, ∃ ol : Int, ∃ kp : Int, ∃ i : Int, ∃ A1 : mq_A, ∃ B1 : mq_A, ∃ A3 : mq_A, ∃ B3 : mq_A, ∃ y3 : Option wi_V, lv = [some (wi_rf (some 11)), some (.inl (d)), some (.inl (k)), some (.inl (mo)), some (.inr (.inl (li))), none, some (.inr (.inl ((nw + B 52 (Int.toNat 0))))), none, some (.inl (n)), some (.inl (old)), some (.inl (ol)), some (.inl (kp)), some (.inl (i)), y3] ∧ sk = [] ∧ h = ([cd, lm, st, sg, el, dr, sz, pr, wc, sp, nw], A1, B1) ∧ cu = 0 ∧ su = 0 ∧ mz = (18500 - i).toNat ∧ 0 ≤ i ∧ i ≤ sz ∧ 0 ≤ kp ∧ kp ≤ i ∧ mq_s3 A B A3 B3 ((mq_om (nw + B 52 (Int.toNat 0)) li mo (mq_row A B d sz.toNat)) ++ (mq_ns A B nw k wc.toNat).map mq_tr) ol (-1) ∧ mq_q4 A3 B3 A1 B1 d kp i ∧ old = (mq_row A B d sz.toNat).length ∧ ol = (mq_om (nw + B 52 (Int.toNat 0)) li mo (mq_row A B d sz.toNat)).length ∧ n = ol + wc | 318 => ∃ n : Int, ∃ old : Int, ∃ ol : Int, ∃ kp : Int, ∃ sy : Int, ∃ i : Int, ∃ A1 : mq_A, ∃ B1 : mq_A, ∃ A3 : mq_A, ∃ B3 : mq_A, lv = [some (wi_rf (some 11)), some (.inl (d)), some (.inl (k)), some (.inl (mo)), some (.inr (.inl (li))), none, some (.inr (.inl ((nw + B 52 (Int.toNat 0))))), none, some (.inl (n)), some (.inl (old)), some (.inl (ol)), some (.inl (kp)), some (.inl (sy)), some (.inl (i))] ∧ sk = [] ∧ h = ([cd, lm, st, sg, el, dr, sz, pr, wc, sp, nw], A1, B1) ∧ cu = 0 ∧ su = 0 ∧ mz = (9000 - i).toNat ∧ 0 ≤ i ∧ i ≤ n ∧ 0 ≤ kp ∧ mq_s3 A B A3 B3 ((mq_om (nw + B 52 (Int.toNat 0)) li mo (mq_row A B d sz.toNat)) ++ (mq_ns A B nw k wc.toNat).map mq_tr) ol (-1) ∧ mq_q5 A3 B3 A1 B1 d sz kp i ∧ old = (mq_row A B d sz.toNat).length ∧ ol = (mq_om (nw + B 52 (Int.toNat 0)) li mo (mq_row A B d sz.toNat)).length ∧ n = ol + wc ∧ (i ≤ ol → sy = (mq_cl A3 B3 i.toNat).length) ∧ (ol ≤ i → sy = (mq_cl A3 B3 ol.toNat).length) | _ => False, mq_c5 (fun mz lv sk h cu su hI => ?_) (fun mz lv sk h cu su hI => ?_) (fun mz lv sk h cu su hI => ?_) (fun mz lv sk h cu su hI => ?_) (fun mz lv sk h cu su hI => ?_), ?_⟩
  · obtain ⟨n, old, i, A1, B1, y1, y2, y3, rfl, rfl, rfl, rfl, rfl, rfl, p1, p2, p3, rfl⟩ := hI
    have b1 := mq_om_b (bg := (nw + B 52 (Int.toNat 0))) (li := li) (mo := mo) (R := mq_row A B d i.toNat)
    have b2 := mq_row_b (A := A) (B := B) (d := d) i.toNat
    have b3 := p3.2.2.1
    have e40 : A1 40 i.toNat = A 40 i.toNat := by rw [p3.1 40 (by decide) (by decide)]
    have e42 : A1 42 i.toNat = A 42 i.toNat := by rw [p3.1 42 (by decide) (by decide)]
    have e41 : B1 41 i.toNat = B 41 i.toNat := by rw [p3.2.1 41 (by decide)]
    have s1 : A 40 i.toNat ≠ d → mq_row A B d (i + 1).toNat = mq_row A B d i.toNat := fun z => by rw [mq_row_s p1, if_neg z]
    have s2 : A 40 i.toNat = d → mq_row A B d (i + 1).toNat = mq_row A B d i.toNat ++ [(B 41 i.toNat, A 42 i.toNat)] := fun z => by rw [mq_row_s p1, if_pos z]
    have s3 : A 40 i.toNat = d → ((mq_row A B d (i + 1).toNat).length : Int) = (mq_row A B d i.toNat).length + 1 := fun z => by rw [s2 z, List.length_append]; rfl
    have s4 : ∀ (m : Int) (A4 A5 B4 : mq_A), A 40 i.toNat = d → B 41 i.toNat < (nw + B 52 (Int.toNat 0)) → (m = 1 ∧ (mo = 1 ∨ B 41 i.toNat < (nw + B 52 (Int.toNat 0)) - li)) ∨ (m = 0 ∧ ¬ (mo = 1 ∨ B 41 i.toNat < (nw + B 52 (Int.toNat 0)) - li)) → B4 = md_u B1 43 n.toNat (B1 41 i.toNat) → A4 = md_u A1 44 n.toNat (A1 42 i.toNat) → A5 = md_u A4 45 n.toNat m → mq_s1 A B A5 B4 (mq_om (nw + B 52 (Int.toNat 0)) li mo (mq_row A B d (i + 1).toNat)) (n + 1) := by
      rintro m A4 A5 B4 z1 z2 z3 rfl rfl rfl
      rw [s2 z1, mq_om_a z2, e41, e42]
      refine mq_s1_a p3 ?_
      rcases z3 with ⟨rfl, z3⟩ | ⟨rfl, z3⟩
      · rw [if_pos (decide_eq_true z3)]
      · rw [if_neg (fun z => z3 (of_decide_eq_true z))]
    repeat' first
      | (intro B4 e4; have e47 : B4 41 i.toNat = B 41 i.toNat := (by rw [e4, md_u_t (by decide)]; exact e41))
      | (have g9 : A 40 i.toNat ≠ d := (by omega); refine Exists.intro _ (And.intro ?_ (Exists.intro (n) (Exists.intro (((mq_row A B d i.toNat).length : Int)) (Exists.intro (i + 1) (Exists.intro (_) (Exists.intro (_) (Exists.intro (_) (Exists.intro (_) (Exists.intro (_) (And.intro rfl (And.intro rfl (And.intro rfl (And.intro rfl (And.intro rfl (And.intro rfl (?_)))))))))))))))) <;> first | omega | exact ⟨by omega, by omega, (by rw [s1 g9]; exact p3), (by rw [s1 g9])⟩)
      | (have g9 : A 40 i.toNat = d ∧ (nw + B 52 (Int.toNat 0)) ≤ B 41 i.toNat := (by omega); refine Exists.intro _ (And.intro ?_ (Exists.intro (n) (Exists.intro (((mq_row A B d i.toNat).length : Int) + 1) (Exists.intro (i + 1) (Exists.intro (_) (Exists.intro (_) (Exists.intro (_) (Exists.intro (_) (Exists.intro (_) (And.intro rfl (And.intro rfl (And.intro rfl (And.intro rfl (And.intro rfl (And.intro rfl (?_)))))))))))))))) <;> first | omega | exact ⟨by omega, by omega, (by rw [s2 g9.1, mq_om_n g9.2]; exact p3), (s3 g9.1).symm⟩)
      | (have g9 : (mo = 1 ∨ B 41 i.toNat < (nw + B 52 (Int.toNat 0)) - li) := (by omega); refine Exists.intro _ (And.intro ?_ (Exists.intro (n + 1) (Exists.intro (((mq_row A B d i.toNat).length : Int) + 1) (Exists.intro (i + 1) (Exists.intro (_) (Exists.intro (_) (Exists.intro (_) (Exists.intro (_) (Exists.intro (_) (And.intro rfl (And.intro rfl (And.intro rfl (And.intro rfl (And.intro rfl (And.intro rfl (?_)))))))))))))))) <;> first | omega | exact ⟨by omega, by omega, s4 1 _ _ _ (by omega) (by omega) (by omega) (by assumption) (by assumption) (by assumption), (s3 (by omega)).symm⟩)
      | (have g9 : ¬ (mo = 1 ∨ B 41 i.toNat < (nw + B 52 (Int.toNat 0)) - li) := (by omega); refine Exists.intro _ (And.intro ?_ (Exists.intro (n + 1) (Exists.intro (((mq_row A B d i.toNat).length : Int) + 1) (Exists.intro (i + 1) (Exists.intro (_) (Exists.intro (_) (Exists.intro (_) (Exists.intro (_) (Exists.intro (_) (And.intro rfl (And.intro rfl (And.intro rfl (And.intro rfl (And.intro rfl (And.intro rfl (?_)))))))))))))))) <;> first | omega | exact ⟨by omega, by omega, s4 0 _ _ _ (by omega) (by omega) (by omega) (by assumption) (by assumption) (by assumption), (s3 (by omega)).symm⟩)
      | (have ed : i = sz := (by omega); subst ed; refine Exists.intro _ (And.intro ?_ (Exists.intro (n) (Exists.intro (_) (Exists.intro (n) (Exists.intro (0) (Exists.intro (_) (Exists.intro (_) (Exists.intro (_) (Exists.intro (_) (And.intro rfl (And.intro rfl (And.intro rfl (And.intro rfl (And.intro rfl (And.intro rfl (?_)))))))))))))))) <;> first | omega | exact ⟨by omega, by omega, (by show mq_s1 A B A1 B1 (_ ++ []) n; rw [List.append_nil]; exact p3), rfl, p3.2.2.1⟩)
      | refine And.intro ?_ ?_
      | (intro h; try omega)
      | omega
      | exact Nat.le_of_ble_eq_true rfl
  · obtain ⟨n, old, ol, w, A1, B1, y2, y3, rfl, rfl, rfl, rfl, rfl, rfl, p1, p2, p3, p4, p5⟩ := hI
    have b1 := mq_om_b (bg := (nw + B 52 (Int.toNat 0))) (li := li) (mo := mo) (R := mq_row A B d sz.toNat)
    have b2 := mq_row_b (A := A) (B := B) (d := d) sz.toNat
    have b3 : n = ol + w := by
      have := p3.2.2.1
      rw [List.length_append, List.length_map, mq_ns_l] at this
      omega
    have r12 := r9 w
    have e52 : B1 52 w.toNat = B 52 w.toNat := by rw [p3.2.1 52 (by decide)]
    have s4 : ∀ (A4 A5 B4 : mq_A), B4 = md_u B1 43 n.toNat (nw + B1 52 w.toNat) → A4 = md_u A1 44 n.toNat (A1 51 (64 * w + k).toNat) → A5 = md_u A4 45 n.toNat 1 → mq_s1 A B A5 B4 ((mq_om (nw + B 52 (Int.toNat 0)) li mo (mq_row A B d sz.toNat)) ++ (mq_ns A B nw k (w + 1).toNat).map mq_tr) (n + 1) := by
      rintro A4 A5 B4 rfl rfl rfl
      rw [mq_ns_s p1, List.map_append, ← List.append_assoc, e52, p3.1 51 (by decide) (by decide)]
      exact mq_s1_a p3 rfl
    repeat' first
      | (refine Exists.intro _ (And.intro ?_ (Exists.intro (n + 1) (Exists.intro (old) (Exists.intro (ol) (Exists.intro (w + 1) (Exists.intro (_) (Exists.intro (_) (Exists.intro (_) (Exists.intro (_) (And.intro rfl (And.intro rfl (And.intro rfl (And.intro rfl (And.intro rfl (And.intro rfl (?_)))))))))))))))) <;> first | omega | exact ⟨by omega, by omega, s4 _ _ _ (by assumption) (by assumption) (by assumption), p4, p5⟩)
      | (have ed : w = wc := (by omega); subst ed; refine Exists.intro _ (And.intro ?_ (Exists.intro (n) (Exists.intro (old) (Exists.intro (ol) (Exists.intro (ol - 1) (Exists.intro (_) (Exists.intro (_) (Exists.intro (_) (Exists.intro (_) (And.intro rfl (And.intro rfl (And.intro rfl (And.intro rfl (And.intro rfl (And.intro rfl (?_)))))))))))))))) <;> first | omega | exact ⟨by omega, by omega, mq_s3_0 p3, p4, p5, b3⟩)
      | refine And.intro ?_ ?_
      | (intro h; try omega)
      | omega
      | exact Nat.le_of_ble_eq_true rfl
  · obtain ⟨n, old, ol, i, A1, B1, y2, y3, rfl, rfl, rfl, rfl, rfl, rfl, p1, p2, p3, p4, p5, p6⟩ := hI
    have b1 := mq_om_b (bg := (nw + B 52 (Int.toNat 0))) (li := li) (mo := mo) (R := mq_row A B d sz.toNat)
    have b2 := mq_row_b (A := A) (B := B) (d := d) sz.toNat
    repeat' first
      | (have g9 : (A1 45 i.toNat ≠ 0 ∨ (A1 45 (i + 1).toNat ≠ 0 ∧ A1 44 i.toNat = A1 44 (i + 1).toNat)) := (by omega); refine Exists.intro _ (And.intro ?_ (Exists.intro (n) (Exists.intro (old) (Exists.intro (ol) (Exists.intro (i + -1) (Exists.intro (_) (Exists.intro (_) (Exists.intro (_) (Exists.intro (_) (And.intro rfl (And.intro rfl (And.intro rfl (And.intro rfl (And.intro rfl (And.intro rfl (?_)))))))))))))))) <;> first | omega | exact ⟨by omega, by omega, (by rw [h]; exact mq_s3_s p3 (by omega) p2 (Or.inl ⟨rfl, g9⟩)), p4, p5, p6⟩)
      | (have g9 : ¬ (A1 45 i.toNat ≠ 0 ∨ (A1 45 (i + 1).toNat ≠ 0 ∧ A1 44 i.toNat = A1 44 (i + 1).toNat)) := (by omega); refine Exists.intro _ (And.intro ?_ (Exists.intro (n) (Exists.intro (old) (Exists.intro (ol) (Exists.intro (i + -1) (Exists.intro (_) (Exists.intro (_) (Exists.intro (_) (Exists.intro (_) (And.intro rfl (And.intro rfl (And.intro rfl (And.intro rfl (And.intro rfl (And.intro rfl (?_)))))))))))))))) <;> first | omega | exact ⟨by omega, by omega, (by rw [h]; exact mq_s3_s p3 (by omega) p2 (Or.inr ⟨rfl, g9⟩)), p4, p5, p6⟩)
      | (have ed : i = -1 := (by omega); subst ed; refine Exists.intro _ (And.intro ?_ (Exists.intro (n) (Exists.intro (old) (Exists.intro (ol) (Exists.intro (0) (Exists.intro (0) (Exists.intro (_) (Exists.intro (_) (Exists.intro (A1) (Exists.intro (B1) (Exists.intro (_) (And.intro rfl (And.intro rfl (And.intro rfl (And.intro rfl (And.intro rfl (And.intro rfl (?_)))))))))))))))))) <;> first | omega | exact ⟨by omega, by omega, by omega, by omega, p3, mq_q4_0, p4, p5, p6⟩)
      | refine And.intro ?_ ?_
      | (intro h; try omega)
      | omega
      | exact Nat.le_of_ble_eq_true rfl
  · obtain ⟨n, old, ol, kp, i, A1, B1, A3, B3, y3, rfl, rfl, rfl, rfl, rfl, rfl, p1, p2, p3, p4, p5, p6, p7, p8, p9⟩ := hI
    have b1 := mq_om_b (bg := (nw + B 52 (Int.toNat 0))) (li := li) (mo := mo) (R := mq_row A B d sz.toNat)
    have b2 := mq_row_b (A := A) (B := B) (d := d) sz.toNat
    obtain ⟨e40, e42, e41⟩ := p6.2.2.1 i p1 p4
    repeat' first
      | (have g9 : A3 40 i.toNat = d := (by omega); refine Exists.intro _ (And.intro ?_ (Exists.intro (n) (Exists.intro (old) (Exists.intro (ol) (Exists.intro (kp) (Exists.intro (i + 1) (Exists.intro (_) (Exists.intro (_) (Exists.intro (A3) (Exists.intro (B3) (Exists.intro (_) (And.intro rfl (And.intro rfl (And.intro rfl (And.intro rfl (And.intro rfl (And.intro rfl (?_)))))))))))))))))) <;> first | omega | exact ⟨by omega, by omega, p3, by omega, p5, mq_q4_d p6 p1 g9, p7, p8, p9⟩)
      | (have g9 : A3 40 i.toNat ≠ d := (by omega); refine Exists.intro _ (And.intro ?_ (Exists.intro (n) (Exists.intro (old) (Exists.intro (ol) (Exists.intro (kp + 1) (Exists.intro (i + 1) (Exists.intro (_) (Exists.intro (_) (Exists.intro (A3) (Exists.intro (B3) (Exists.intro (_) (And.intro rfl (And.intro rfl (And.intro rfl (And.intro rfl (And.intro rfl (And.intro rfl (?_)))))))))))))))))) <;> first | omega | exact ⟨by omega, by omega, by omega, by omega, p5, mq_q4_m p6 p3 p4 g9, p7, p8, p9⟩)
      | (have ed : i = sz := (by omega); subst ed; refine Exists.intro _ (And.intro ?_ (Exists.intro (n) (Exists.intro (old) (Exists.intro (ol) (Exists.intro (kp) (Exists.intro (0) (Exists.intro (0) (Exists.intro (_) (Exists.intro (_) (Exists.intro (A3) (Exists.intro (B3) (And.intro rfl (And.intro rfl (And.intro rfl (And.intro rfl (And.intro rfl (And.intro rfl (?_)))))))))))))))))) <;> first | omega | exact ⟨by omega, by omega, p3, p5, mq_q5_0 p6, p7, p8, p9, fun _ => rfl, fun z => (by rw [show ol.toNat = 0 by omega]; rfl)⟩)
      | refine And.intro ?_ ?_
      | (intro h; try omega)
      | omega
      | exact Nat.le_of_ble_eq_true rfl
  · obtain ⟨n, old, ol, kp, sy, i, A1, B1, A3, B3, rfl, rfl, rfl, rfl, rfl, rfl, p1, p2, p3, p5, p6, p7, p8, p9, p10, p11⟩ := hI
    have b1 := mq_om_b (bg := (nw + B 52 (Int.toNat 0))) (li := li) (mo := mo) (R := mq_row A B d sz.toNat)
    have b2 := mq_row_b (A := A) (B := B) (d := d) sz.toNat
    have b3 := mq_cl_b (A := A3) (B := B3) i.toNat
    have b4 := mq_cl_b (A := A3) (B := B3) ol.toNat
    have b5 := p6.2.2.2.2.2
    have eR : ∀ d' m, mq_row A3 B3 d' m = mq_row A B d' m := fun d' m => mq_row_e (p5.1 40 (by decide) (by decide)) (p5.1 42 (by decide) (by decide)) (p5.2.1 41 (by decide))
    rw [eR] at b5
    have e45 : A1 45 i.toNat = A3 45 i.toNat := by rw [p6.1 45 (by decide) (by decide)]
    have e44 : A1 44 i.toNat = A3 44 i.toNat := by rw [p6.1 44 (by decide) (by decide)]
    have e43 : B1 43 i.toNat = B3 43 i.toNat := by rw [p6.2.1 43 (by decide)]
    have c1 : A3 45 i.toNat = 0 → mq_cl A3 B3 (i + 1).toNat = mq_cl A3 B3 i.toNat := fun z => by rw [mq_cl_s p1, if_neg (fun y => y z)]
    have c2 : A3 45 i.toNat ≠ 0 → ((mq_cl A3 B3 (i + 1).toNat).length : Int) = (mq_cl A3 B3 i.toNat).length + 1 := fun z => by rw [mq_cl_s p1, if_pos z, List.length_append]; rfl
    have c3 : (mq_cl A3 B3 ol.toNat).length ≤ (mq_cl A3 B3 i.toNat).length ∨ i < ol := by
      rcases Int.lt_or_le i ol with z | z
      · exact Or.inr z
      · left
        obtain ⟨m, hm⟩ : ∃ m : Nat, i.toNat = ol.toNat + m := ⟨i.toNat - ol.toNat, by omega⟩
        rw [hm]
        clear hm
        induction m with
        | zero => exact Nat.le_refl _
        | succ m ih =>
          rw [← Nat.add_assoc, mq_cl]
          split
          · rw [List.length_append]; omega
          · exact ih
    have s4 : ∀ (A4 A5 B4 : mq_A), A4 = md_u A1 40 kp.toNat d → B4 = md_u B1 41 kp.toNat (B1 43 i.toNat) → A5 = md_u A4 42 kp.toNat (A4 44 i.toNat) → A3 45 i.toNat ≠ 0 → mq_q5 A3 B3 A5 B4 d sz (kp + 1) (i + 1) := by
      rintro A4 A5 B4 rfl rfl rfl z
      rw [md_u_t (show (44 : Nat) ≠ 40 by decide), e44, e43]
      exact mq_q5_a p6 p3 p1 z
    have e46 : ∀ A4 B4 : mq_A, A4 = md_u A1 40 kp.toNat d → B4 = md_u B1 41 kp.toNat (B1 43 i.toNat) → True := fun _ _ _ _ => trivial
    have hX : ((mq_ns A B nw k wc.toNat)[0]?).map (fun x => x.2) = some (A 51 (64 * ((0 : Nat) : Int) + k).toNat) := by rw [mq_ns_h _ (by omega)]; rfl
    obtain ⟨k1, k2⟩ := mq_s3_e (nw := nw) (k := k) p5 p8 hX
    have k3 := k2 wc.toNat (by rw [mq_ns_l]; exact Nat.le_refl _)
    rw [List.take_of_length_le (by rw [mq_ns_l]; exact Nat.le_refl _)] at k3
    repeat' first
      | (have ed : i = n := (by omega); have k4 : mq_cl A3 B3 i.toNat = (mq_kp (A 51 (64 * ((0 : Nat) : Int) + k).toNat) (mq_om (nw + B 52 (Int.toNat 0)) li mo (mq_row A B d sz.toNat))).1 ++ (mq_ns A B nw k wc.toNat) := (by rw [ed, p9, p8, show ((((mq_om (nw + B 52 (Int.toNat 0)) li mo (mq_row A B d sz.toNat))).length : Int) + wc).toNat = ((mq_om (nw + B 52 (Int.toNat 0)) li mo (mq_row A B d sz.toNat))).length + wc.toNat by omega]; exact k3); have k5 : sy = (((mq_kp (A 51 (64 * ((0 : Nat) : Int) + k).toNat) (mq_om (nw + B 52 (Int.toNat 0)) li mo (mq_row A B d sz.toNat))).1).length : Int) := (by rw [p11 (by omega), p8, Int.toNat_natCast, k1]); rw [p7, k5]; refine h1 A1 B1 kp (fun t z1 z2 z3 z4 => (p6.1 t z1 z2).trans (p5.1 t z3 z4)) (fun t z1 z2 => (p6.2.1 t z1).trans (p5.2.1 t z2)) p3 ?_ (fun d' hd => (p6.2.2.1 d' hd).trans (eR d' _)) (p6.2.2.2.1.trans k4) (fun j a b => ?_); (rw [k4, List.length_append, mq_ns_l] at b5; omega); (rcases p6.2.2.2.2.1 j a b with ⟨j', a1, a2, a3⟩ | a1; exact Or.inl ⟨j', a1, a2, a3.trans (by rw [p5.1 40 (by decide) (by decide)])⟩; exact Or.inr a1))
      | (have g9 : A3 45 i.toNat = 0 := (by omega); refine Exists.intro _ (And.intro ?_ (Exists.intro (n) (Exists.intro (old) (Exists.intro (ol) (Exists.intro (kp) (Exists.intro (sy) (Exists.intro (i + 1) (Exists.intro (_) (Exists.intro (_) (Exists.intro (A3) (Exists.intro (B3) (And.intro rfl (And.intro rfl (And.intro rfl (And.intro rfl (And.intro rfl (And.intro rfl (?_)))))))))))))))))) <;> first | omega | exact ⟨by omega, by omega, p3, p5, mq_q5_n p6 p1 g9, p7, p8, p9, fun z => (by rw [c1 g9]; exact p10 (by omega)), fun z => (by rcases (show ol ≤ i ∨ ol = i + 1 by omega) with y | y; exact p11 y; rw [y, c1 g9]; exact p10 (by omega))⟩)
      | (have g9 : A3 45 i.toNat ≠ 0 ∧ i < ol := (by omega); refine Exists.intro _ (And.intro ?_ (Exists.intro (n) (Exists.intro (old) (Exists.intro (ol) (Exists.intro (kp + 1) (Exists.intro (sy + 1) (Exists.intro (i + 1) (Exists.intro (_) (Exists.intro (_) (Exists.intro (A3) (Exists.intro (B3) (And.intro rfl (And.intro rfl (And.intro rfl (And.intro rfl (And.intro rfl (And.intro rfl (?_)))))))))))))))))) <;> first | omega | exact ⟨by omega, by omega, by omega, p5, s4 _ _ _ (by assumption) (by assumption) (by assumption) g9.1, p7, p8, p9, fun z => (by have := c2 g9.1; have := p10 (by omega); omega), fun z => (by have y : ol = i + 1 := (by omega); have := c2 g9.1; have := p10 (by omega); rw [y]; omega)⟩)
      | (have g9 : A3 45 i.toNat ≠ 0 ∧ ol ≤ i := (by omega); refine Exists.intro _ (And.intro ?_ (Exists.intro (n) (Exists.intro (old) (Exists.intro (ol) (Exists.intro (kp + 1) (Exists.intro (sy) (Exists.intro (i + 1) (Exists.intro (_) (Exists.intro (_) (Exists.intro (A3) (Exists.intro (B3) (And.intro rfl (And.intro rfl (And.intro rfl (And.intro rfl (And.intro rfl (And.intro rfl (?_)))))))))))))))))) <;> first | omega | exact ⟨by omega, by omega, by omega, p5, s4 _ _ _ (by assumption) (by assumption) (by assumption) g9.1, p7, p8, p9, fun z => by omega, fun z => p11 g9.2⟩)
      | refine And.intro ?_ ?_
      | (intro h; try omega)
      | omega
      | exact Nat.le_of_ble_eq_true rfl
  · repeat' first
      | (refine Exists.intro _ (Exists.intro (0) (Exists.intro (0) (Exists.intro (0) (Exists.intro (_) (Exists.intro (_) (Exists.intro (_) (Exists.intro (_) (Exists.intro (_) (And.intro rfl (And.intro rfl (And.intro rfl (And.intro rfl (And.intro rfl (And.intro rfl (?_))))))))))))))) <;> first | omega | exact ⟨by omega, by omega, ⟨fun _ _ _ => rfl, fun _ _ => rfl, rfl, fun j x hx => by cases hx⟩, rfl⟩)
      | refine And.intro ?_ ?_
      | (intro h; try omega)
      | omega
      | exact Nat.le_of_ble_eq_true rfl
