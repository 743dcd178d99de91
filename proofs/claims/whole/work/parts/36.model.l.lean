/-! THE REFERENCE, 12: assign -/
def mq_sum (g : Nat → Int) : Nat → Int
  | 0 => 0
  | n + 1 => mq_sum g n + g n
theorem mq_sum_c {g g' : Nat → Int} : ∀ n : Nat, (∀ j, j < n → g' j = g j) → mq_sum g' n = mq_sum g n
  | 0, _ => rfl
  | n + 1, h => by rw [mq_sum, mq_sum, h n (by omega), mq_sum_c n (fun j hj => h j (by omega))]
theorem mq_kp_b {c : Int} : ∀ X : List (Int × Int × Bool), (mq_kp c X).1.length ≤ X.length
  | [] => Nat.le_refl 0
  | x :: r => by
    have := mq_kp_b (c := c) r
    simp only [mq_kp]
    split
    · simp only [List.length_cons]; omega
    · simp only [List.length_cons]; omega
theorem mq_ns_c {A B A1 B1 : mq_A} {nw k : Int} (h1 : A1 51 = A 51) (h2 : B1 52 = B 52) : ∀ n : Nat, mq_ns A1 B1 nw k n = mq_ns A B nw k n
  | 0 => rfl
  | n + 1 => by rw [mq_ns, mq_ns, mq_ns_c h1 h2 n, h1, h2]
/-- those of a driver's transactions that stay when the element k of what is laid down is assigned; its new row -/
def mq_st1 (A B : mq_A) (nw sz li mo d k : Int) : List (Int × Int) := (mq_kp (A 51 (64 * ((0 : Nat) : Int) + k).toNat) (mq_om (nw + B 52 (Int.toNat 0)) li mo (mq_row A B d sz.toNat))).1
def mq_mt (A : mq_A) (dr p e0 d j : Int) : Prop := 0 ≤ d ∧ d < dr ∧ A 37 d.toNat = p ∧ A 38 d.toNat = e0 + j
/-- behind k elements -/
def mq_am (A B A1 B1 : mq_A) (nw dr wc sz li mo p e0 sz1 del k : Int) : Prop :=
  (∀ t, t ≠ 40 → t ≠ 42 → t ≠ 44 → t ≠ 45 → A1 t = A t) ∧ (∀ t, t ≠ 41 → t ≠ 43 → B1 t = B t) ∧ (0 ≤ sz1 ∧ sz1 + del = sz + k * wc ∧ 0 ≤ del ∧ del ≤ 8192 * k) ∧
  (∀ d, (∀ j : Int, 0 ≤ j → j < k → ¬ mq_mt A dr p e0 d j) → mq_row A1 B1 d sz1.toNat = mq_row A B d sz.toNat) ∧ (∀ j d : Int, 0 ≤ j → j < k → mq_mt A dr p e0 d j → mq_row A1 B1 d sz1.toNat = mq_st1 A B nw sz li mo d j ++ mq_ns A B nw j wc.toNat) ∧
  (∃ g : Nat → Int, (∀ j d : Int, 0 ≤ j → j < k → mq_mt A dr p e0 d j → g j.toNat = ((mq_row A B d sz.toNat).length : Int) - (mq_st1 A B nw sz li mo d j).length) ∧ del = mq_sum g k.toNat) ∧
  (∀ j : Int, 0 ≤ j → j < sz1 → (∃ j' : Int, 0 ≤ j' ∧ j' < sz ∧ A1 40 j.toNat = A 40 j'.toNat) ∨ (0 ≤ A1 40 j.toNat ∧ A1 40 j.toNat < dr))
theorem mq_am_0 {A B : mq_A} {nw dr wc sz li mo p e0 : Int} (h : 0 ≤ sz) : mq_am A B A B nw dr wc sz li mo p e0 sz 0 0 :=
  ⟨fun _ _ _ _ _ => rfl, fun _ _ _ => rfl, ⟨h, by rw [Int.zero_mul], by omega, by omega⟩, fun _ _ => rfl, fun j d a b => by omega, ⟨fun _ => 0, fun j d a b => by omega, rfl⟩, fun j a b => Or.inl ⟨j, a, b, rfl⟩⟩
theorem mq_am_s {A B A1 B1 A2 B2 : mq_A} {nw dr wc sz li mo p e0 sz1 del k d kp r : Int} (h : mq_am A B A1 B1 nw dr wc sz li mo p e0 sz1 del k) (hk : 0 ≤ k) (hs : sz1 ≤ 8192) (hm : mq_mt A dr p e0 d k) (hu : ∀ d1 d2 : Int, 0 ≤ d1 → d1 < dr → 0 ≤ d2 → d2 < dr → A 37 d1.toNat = A 37 d2.toNat → A 38 d1.toNat = A 38 d2.toNat → d1 = d2)
    (g1 : ∀ t, t ≠ 40 → t ≠ 42 → t ≠ 44 → t ≠ 45 → A2 t = A1 t) (g2 : ∀ t, t ≠ 41 → t ≠ 43 → B2 t = B1 t) (g3 : 0 ≤ kp) (g4 : kp + (mq_row A1 B1 d sz1.toNat).length = sz1 + ((mq_st1 A1 B1 nw sz1 li mo d k).length + wc)) (g5 : ∀ d', d' ≠ d → mq_row A2 B2 d' kp.toNat = mq_row A1 B1 d' sz1.toNat)
    (g6 : mq_row A2 B2 d kp.toNat = mq_st1 A1 B1 nw sz1 li mo d k ++ mq_ns A1 B1 nw k wc.toNat) (g7 : ∀ j : Int, 0 ≤ j → j < kp → (∃ j' : Int, 0 ≤ j' ∧ j' < sz1 ∧ A2 40 j.toNat = A1 40 j'.toNat) ∨ A2 40 j.toNat = d) (g8 : r = ((mq_row A1 B1 d sz1.toNat).length : Int) - (mq_st1 A1 B1 nw sz1 li mo d k).length) :
    mq_am A B A2 B2 nw dr wc sz li mo p e0 kp (del + r) (k + 1) := by
  obtain ⟨t1, t2, ⟨t3, t4, t5, t6⟩, t7, t8, ⟨g, t9, t10⟩, t11⟩ := h
  have hd : mq_row A1 B1 d sz1.toNat = mq_row A B d sz.toNat := by
    refine t7 d (fun j a b c => ?_)
    have := c.2.2.2
    have := hm.2.2.2
    omega
  have hst : mq_st1 A1 B1 nw sz1 li mo d k = mq_st1 A B nw sz li mo d k := by
    unfold mq_st1
    rw [hd, t1 51 (by decide) (by decide) (by decide) (by decide), t2 52 (by decide) (by decide)]
  have hns : mq_ns A1 B1 nw k wc.toNat = mq_ns A B nw k wc.toNat := mq_ns_c (t1 51 (by decide) (by decide) (by decide) (by decide)) (t2 52 (by decide) (by decide)) _
  rw [hst] at g4 g6 g8
  rw [hd] at g4 g8
  rw [hns] at g6
  have hb1 : (mq_st1 A B nw sz li mo d k).length ≤ (mq_row A B d sz.toNat).length := Nat.le_trans (mq_kp_b _) mq_om_b
  have hb2 : (mq_row A B d sz.toNat).length ≤ sz1.toNat := by rw [← hd]; exact mq_row_b _
  have huq : ∀ d', mq_mt A dr p e0 d' k → d' = d := fun d' z => hu d' d z.1 z.2.1 hm.1 hm.2.1 (z.2.2.1.trans hm.2.2.1.symm) (z.2.2.2.trans hm.2.2.2.symm)
  refine ⟨fun t a b c e => (g1 t a b c e).trans (t1 t a b c e), fun t a b => (g2 t a b).trans (t2 t a b), ⟨g3, ?_, by omega, by omega⟩, fun d' hd' => ?_, fun j d' a b c => ?_, ⟨fun m => if m = k.toNat then r else g m, fun j d' a b c => ?_, ?_⟩, fun j a b => ?_⟩
  · rw [Int.add_mul]
    omega
  · have hne : d' ≠ d := fun z => hd' k hk (by omega) (z ▸ hm)
    rw [g5 d' hne]
    exact t7 d' (fun j a b => hd' j a (by omega))
  · rcases (show j < k ∨ j = k by omega) with z | rfl
    · have hne : d' ≠ d := fun y => by
        have y1 := c.2.2.2
        have y2 := hm.2.2.2
        rw [y] at y1
        omega
      rw [g5 d' hne]
      exact t8 j d' a z c
    · rw [huq d' c]
      exact g6
  · rcases (show j < k ∨ j = k by omega) with z | rfl
    · show (if j.toNat = k.toNat then r else g j.toNat) = _
      rw [if_neg (by omega)]
      exact t9 j d' a z c
    · show (if j.toNat = j.toNat then r else g j.toNat) = _
      rw [if_pos rfl, huq d' c]
      exact g8
  · rw [show (k + 1).toNat = k.toNat + 1 by omega, mq_sum, if_pos rfl, mq_sum_c (g := g) _ (fun j hj => if_neg (by omega)), ← t10]
  · rcases g7 j a b with ⟨j', a1, a2, a3⟩ | a1
    · rw [a3]
      exact t11 j' a1 a2
    · rw [a1]
      exact Or.inr ⟨hm.1, hm.2.1⟩
def sm_97 (as : List wi_V) (M : mq_H) (q : wi_Q1 mq_H) (_ : wi_Q2 mq_H) : Prop := mq_sIIIIIJ as (fun p s f n mo li => mq_f M fun cd lm st sg el dr sz pr wc sp nw A B => sg ≤ 200 ∧ pr ≤ 64 ∧ 0 ≤ dr ∧ dr ≤ 512 ∧ 0 ≤ wc ∧ wc ≤ 16 ∧ 0 ≤ sz ∧ sz ≤ 8192 ∧ 0 ≤ nw ∧ nw ≤ 1152921504606846976 ∧ (∀ j : Int, 0 ≤ j → j < wc → 0 ≤ B 52 j.toNat ∧ B 52 j.toNat ≤ 1152921504606846976) ∧ (∀ s : Nat, (s : Int) < sg → 0 ≤ A 32 s ∧ A 32 s ≤ 512 ∧ A 31 s ≤ 64) ∧
  (∀ d1 d2 : Int, 0 ≤ d1 → d1 < dr → 0 ≤ d2 → d2 < dr → A 37 d1.toNat = A 37 d2.toNat → A 38 d1.toNat = A 38 d2.toNat → d1 = d2) ∧ ((∃ j : Nat, (j : Int) < dr ∧ A 37 j = p ∧ A 38 j = A 32 s.toNat) → ∀ k : Int, 0 ≤ k → k < A 31 s.toNat → ∃ j : Nat, (j : Int) < dr ∧ A 37 j = p ∧ A 38 j = A 32 s.toNat + k) ∧ (p < 0 ∨ pr ≤ p ∨ s < 0 ∨ sg ≤ s ∨ f < 0 ∨ n < 1 ∨ A 31 s.toNat ≤ f ∨ A 31 s.toNat - f < n → q (some (.inl 0)) ([1, lm, st, sg, el, dr, sz, pr, wc, sp, nw], A, B)) ∧ (0 ≤ p → p < pr → 0 ≤ s → s < sg → 0 ≤ f → 1 ≤ n → f < A 31 s.toNat → n ≤ A 31 s.toNat - f → A 46 p.toNat ≠ 0 ∨ ¬ (∃ j : Nat, (j : Int) < dr ∧ A 37 j = p ∧ A 38 j = A 32 s.toNat) ∨ wc = 0 → q (some (.inl 0)) ([2, lm, st, sg, el, dr, sz, pr, wc, sp, nw], A, B)) ∧ (0 ≤ p → p < pr → 0 ≤ s → s < sg → 0 ≤ f → 1 ≤ n → f < A 31 s.toNat → n ≤ A 31 s.toNat - f → A 46 p.toNat = 0 → (∃ j : Nat, (j : Int) < dr ∧ A 37 j = p ∧ A 38 j = A 32 s.toNat) → wc ≠ 0 → ¬ mq_good A B nw wc s n mo li → q (some (.inl 0)) ([3, lm, st, sg, el, dr, sz, pr, wc, sp, nw], A, B)) ∧ (0 ≤ p → p < pr → 0 ≤ s → s < sg → 0 ≤ f → 1 ≤ n → f < A 31 s.toNat → n ≤ A 31 s.toNat - f → A 46 p.toNat = 0 → (∃ j : Nat, (j : Int) < dr ∧ A 37 j = p ∧ A 38 j = A 32 s.toNat) → wc ≠ 0 → mq_good A B nw wc s n mo li → 8192 < sz + n * wc → q (some (.inl 0)) ([2, lm, st, sg, el, dr, sz, pr, wc, sp, nw], A, B)) ∧
  (0 ≤ p → p < pr → 0 ≤ s → s < sg → 0 ≤ f → 1 ≤ n → f < A 31 s.toNat → n ≤ A 31 s.toNat - f → A 46 p.toNat = 0 → (∃ j : Nat, (j : Int) < dr ∧ A 37 j = p ∧ A 38 j = A 32 s.toNat) → wc ≠ 0 → mq_good A B nw wc s n mo li → sz + n * wc ≤ 8192 → ∀ (A1 B1 : mq_A) (sz1 del : Int), mq_am A B A1 B1 nw dr wc sz (if mo = 0 then B 52 (Int.toNat 0) else li) mo p (A 32 s.toNat + f) sz1 del n → q (some (.inl del)) ([0, lm, st, sg, el, dr, sz1, pr, 0, sp, nw], A1, B1)))
theorem mm_97 {l : Launch} {D : va_G} {aC : wm_Y} {b0 : Nat} (hl0 : l.stackTraces = false) : wm_sp l D aC b0 97 (wi_lf mq_Rl sm_97) := by
  refine wi_method mq_lw 97 (cx := fun id => if id = 80 then sm_80 else if id = 81 then sm_81 else if id = 85 then sm_85 else if id = 96 then sm_96 else if id = 98 then sm_98 else fun _ _ _ _ => False) (ids := ci_97) (tb := tb_97) (by decide +kernel) hl0 (wm_cxc (mm_80 hl0) oi_97 (fun h => wm_cxc (mm_81 hl0) h (fun h => wm_cxc (mm_85 hl0) h (fun h => wm_cxc (mm_96 hl0) h (fun h => wm_cxc (mm_98 hl0) h (fun h => wm_cxn h)))))) (wm_tb_ok tk_97) (by decide +kernel) [176] 300 (fun as M q qt hs => ?_)
  obtain ⟨p, s, f, n, mo, li, rfl, hs1⟩ := mq_sIIIIIJ_e hs
  clear hs
  obtain ⟨cd, lm, st, sg, el, dr, sz, pr, wc, sp, nw, A, B, rfl, hs⟩ := mq_f_e hs1
  clear hs1
  obtain ⟨r1, r2, r3, r4, r5, r6, r7, r8, r9, r10, r11, r12, r13, r14, h1, h2, h3, h4, h5⟩ := hs
  have r15 := r12 s.toNat
  clear r12
  have hb : 1 ≤ n → n ≤ 64 → 0 ≤ n * wc ∧ n * wc ≤ 1024 := fun a b => ⟨Int.mul_nonneg (by omega) r5, by have := Int.mul_le_mul b r6 r5 (by omega); omega⟩
  refine ⟨rfl, fun mz pc lv sk h cu su => ∃ del : Int, ∃ k : Int, ∃ A1 : mq_A, ∃ B1 : mq_A, ∃ sz1 : Int, lv = [some (wi_rf (some 11)), some (.inl (p)), some (.inl (s)), some (.inl (f)), some (.inl (n)), some (.inl (mo)), some (.inr (.inl (li))), none, some (.inl (del)), some (.inl (k))] ∧ sk = [] ∧ h = ([0, lm, st, sg, el, dr, sz1, pr, wc, sp, nw], A1, B1) ∧ cu = 0 ∧ su = 0 ∧ mz = (100 - k).toNat ∧ 0 ≤ k ∧ k ≤ n ∧ 0 ≤ p ∧ p < pr ∧ 0 ≤ s ∧ s < sg ∧ 0 ≤ f ∧ 1 ≤ n ∧ f < A 31 s.toNat ∧ n ≤ A 31 s.toNat - f ∧  A 46 p.toNat = 0 ∧ (∃ j : Nat, (j : Int) < dr ∧ A 37 j = p ∧ A 38 j = A 32 s.toNat) ∧ wc ≠ 0 ∧ mq_good A B nw wc s n mo li ∧ sz + n * wc ≤ 8192 ∧ mq_am A B A1 B1 nw dr wc sz (if mo = 0 then B 52 (Int.toNat 0) else li) mo p (A 32 s.toNat + f) sz1 del k, mq_c1 (fun mz lv sk h cu su hI => ?_), ?_⟩
  · obtain ⟨del, k, A1, B1, sz1, rfl, rfl, rfl, rfl, rfl, rfl, p1, p2, p3, p4, p5, p6, p7, p8, p9, p10, p11, p12, p13, p14, p15, p16⟩ := hI
    obtain ⟨t1, t2, ⟨t3, t4, t5, t6⟩, t7, t8, t9, t11⟩ := id p16
    have e32 : A1 32 s.toNat = A 32 s.toNat := by rw [t1 32 (by decide) (by decide) (by decide) (by decide)]
    have e52 : B1 52 = B 52 := t2 52 (by decide) (by decide)
    have e37 : A1 37 = A 37 := t1 37 (by decide) (by decide) (by decide) (by decide)
    have e38 : A1 38 = A 38 := t1 38 (by decide) (by decide) (by decide) (by decide)
    have hkn : k < n → k * wc + wc ≤ n * wc := fun z => by
      have := Int.mul_le_mul_of_nonneg_right (show k + 1 ≤ n by omega) r5
      rw [Int.add_mul] at this
      omega
    have hk0 : 0 ≤ k * wc := Int.mul_nonneg p1 r5
    have hg := p14.1
    have hg4 := p14.2.2.2
    have r11b : ∀ j : Int, 0 ≤ j → j < wc → 0 ≤ B1 52 j.toNat ∧ B1 52 j.toNat ≤ 1152921504606846976 := by rw [e52]; exact r11
    have r16 := r11 0 (by omega) (by omega)
    have hli0 : ∀ x : Int, x = (if mo = 0 then B 52 (Int.toNat 0) else li) → mo = 1 ∨ (0 ≤ x ∧ x ≤ nw + B1 52 (Int.toNat 0)) := fun x hx => by
      rw [e52, hx]
      split <;> omega
    have hex : k < n → ¬ (∀ j : Nat, (j : Int) < dr → ¬ (A1 37 j = p ∧ A1 38 j = A1 32 s.toNat + f + k)) := fun z y => by
      obtain ⟨j, a, b, c⟩ := r14 p12 (f + k) (by omega) (by omega)
      refine y j a ?_
      rw [e37, e38, e32]
      exact ⟨b, by omega⟩
    have hrb : ∀ d : Int, (mq_row A1 B1 d sz1.toNat).length ≤ sz1.toNat := fun d => mq_row_b _
    have hkb : ∀ d x : Int, (mq_st1 A1 B1 nw sz1 x mo d k).length ≤ (mq_row A1 B1 d sz1.toNat).length := fun d x => Nat.le_trans (mq_kp_b _) mq_om_b
    have fin : ∀ (d x : Int) (A2 B2 : mq_A) (kp : Int), x = (if mo = 0 then B 52 (Int.toNat 0) else li) → k < n → 0 ≤ d → d < dr → A1 37 d.toNat = p → A1 38 d.toNat = A1 32 s.toNat + f + k → (∀ t, t ≠ 40 → t ≠ 42 → t ≠ 44 → t ≠ 45 → A2 t = A1 t) → (∀ t, t ≠ 41 → t ≠ 43 → B2 t = B1 t) → 0 ≤ kp → kp + (mq_row A1 B1 d sz1.toNat).length = sz1 + ((mq_st1 A1 B1 nw sz1 x mo d k).length + wc) → (∀ d', d' ≠ d → mq_row A2 B2 d' kp.toNat = mq_row A1 B1 d' sz1.toNat) →
        mq_row A2 B2 d kp.toNat = mq_st1 A1 B1 nw sz1 x mo d k ++ mq_ns A1 B1 nw k wc.toNat → (∀ j : Int, 0 ≤ j → j < kp → (∃ j' : Int, 0 ≤ j' ∧ j' < sz1 ∧ A2 40 j.toNat = A1 40 j'.toNat) ∨ A2 40 j.toNat = d) →
        mq_am A B A2 B2 nw dr wc sz (if mo = 0 then B 52 (Int.toNat 0) else li) mo p (A 32 s.toNat + f) kp (del + (((mq_row A1 B1 d sz1.toNat).length : Int) - (mq_st1 A1 B1 nw sz1 x mo d k).length)) (k + 1) ∧ 0 ≤ (((mq_row A1 B1 d sz1.toNat).length : Int) - (mq_st1 A1 B1 nw sz1 x mo d k).length) ∧ (((mq_row A1 B1 d sz1.toNat).length : Int) - (mq_st1 A1 B1 nw sz1 x mo d k).length) ≤ 8192 := by
      rintro d x A2 B2 kp rfl z0 z1 z2 z3 z4 g1 g2 g3 g4 g5 g6 g7
      have h8 := hrb d
      have h9 := hkb d (if mo = 0 then B 52 (Int.toNat 0) else li)
      rw [e37] at z3
      rw [e38, e32] at z4
      exact ⟨mq_am_s p16 p1 (by omega) ⟨z1, z2, z3, by omega⟩ r13 g1 g2 g3 g4 g5 g6 g7 rfl, by omega, by omega⟩
    repeat' first
      | refine And.intro ?_ ?_
      | (intro hn; exact absurd hn (hex (by omega)))
      | exact r11b
      | (refine hli0 _ ?_; rw [e52, if_pos (by omega)])
      | (refine hli0 _ ?_; rw [if_neg (by omega)])
      | (intro A2 B2 kp g1 g2 g3 g4 g5 g6 g7; obtain ⟨hx, hy, hz⟩ := fin _ (B1 52 (Int.toNat 0)) A2 B2 kp (by rw [e52, if_pos (by omega)]) (by omega) (by assumption) (by assumption) (by assumption) (by assumption) g1 g2 g3 g4 g5 g6 g7; unfold mq_st1 at hy hz)
      | (intro A2 B2 kp g1 g2 g3 g4 g5 g6 g7; obtain ⟨hx, hy, hz⟩ := fin _ (li) A2 B2 kp (by rw [if_neg (by omega)]) (by omega) (by assumption) (by assumption) (by assumption) (by assumption) g1 g2 g3 g4 g5 g6 g7; unfold mq_st1 at hy hz)
      | (intro h; try omega)
      | omega
      | (have ed : k = n := (by omega); subst ed; exact h5 p3 p4 p5 p6 p7 p8 p9 p10 p11 p12 p13 p14 p15 A1 B1 sz1 del p16)
      | (refine Exists.intro _ (And.intro ?_ (Exists.intro (_) (Exists.intro (k + 1) (Exists.intro (_) (Exists.intro (_) (Exists.intro (_) (And.intro rfl (And.intro rfl (And.intro rfl (And.intro rfl (And.intro rfl (And.intro rfl (?_))))))))))))) <;> first | omega | exact ⟨by omega, by omega, p3, p4, p5, p6, p7, p8, p9, p10, p11, p12, p13, p14, p15, hx⟩)
      | exact Nat.le_of_ble_eq_true rfl
  · repeat' first
      | refine And.intro ?_ ?_
      | exact r11
      | (intro r z1 z2 z3 z4; have hD : (∃ j : Nat, (j : Int) < dr ∧ A 37 j = p ∧ A 38 j = A 32 s.toNat) := ⟨r.toNat, by omega, z3, z4⟩)
      | (intro hn; have hN : ¬ (∃ j : Nat, (j : Int) < dr ∧ A 37 j = p ∧ A 38 j = A 32 s.toNat) := fun ⟨j, a, b, c⟩ => hn j a ⟨b, c⟩)
      | (intro hg; have hG : mq_good A B nw wc s n mo li := hg)
      | (intro hg; have hG : ¬ mq_good A B nw wc s n mo li := hg)
      | (intro h; try omega)
      | omega
      | exact h1 (by omega)
      | exact h2 (by omega) (by omega) (by omega) (by omega) (by omega) (by omega) (by omega) (by omega) (Or.inl (by omega))
      | exact h2 (by omega) (by omega) (by omega) (by omega) (by omega) (by omega) (by omega) (by omega) (Or.inr (Or.inr (by omega)))
      | exact h2 (by omega) (by omega) (by omega) (by omega) (by omega) (by omega) (by omega) (by omega) (Or.inr (Or.inl hN))
      | exact h3 (by omega) (by omega) (by omega) (by omega) (by omega) (by omega) (by omega) (by omega) (by omega) hD (by omega) hG
      | exact h4 (by omega) (by omega) (by omega) (by omega) (by omega) (by omega) (by omega) (by omega) (by omega) hD (by omega) hG (by omega)
      | (refine Exists.intro _ (Exists.intro (_) (Exists.intro (0) (Exists.intro (_) (Exists.intro (_) (Exists.intro (_) (And.intro rfl (And.intro rfl (And.intro rfl (And.intro rfl (And.intro rfl (And.intro rfl (?_)))))))))))) <;> first | omega | (exact ⟨by omega, by omega, by omega, by omega, by omega, by omega, by omega, by omega, by omega, by omega, by omega, hD, by omega, hG, by omega, mq_am_0 r7⟩))
      | exact Nat.le_of_ble_eq_true rfl
