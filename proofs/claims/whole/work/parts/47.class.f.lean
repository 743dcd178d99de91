/-! THE CLASS, 6: takeDue and addBehind of rows -/
def sc_41 (as : List wi_V) (h : wc_H) (q : wi_Q1 wc_H) (qt : wi_Q2 wc_H) : Prop := wc_sTJ as (fun x t => wc_f h fun tg ln I L R n => ∃ s cs ids, wc_rs (tg, ln, I, L, R, n) x s cs ids ∧ (cs.length : Int) ≤ I 7 0 s ∧ I 7 0 s ≤ 100000 ∧ ∀ I1 R1, wc_rs (tg, ln, I1, L, R1, n) x s (cs.dropWhile (fun a => decide (L 9 0 a ≤ t))) ((cs.takeWhile (fun a => decide (L 9 0 a ≤ t))).reverse ++ ids) → wc_ro (tg, ln, I, L, R, n) (tg, ln, I1, L, R1, n) x s (cs ++ ids) → I1 7 0 s = I 7 0 s - (cs.takeWhile (fun a => decide (L 9 0 a ≤ t))).length → I1 4 2 x = wc_va t (I 4 2 x) (wc_cn I L cs) → (∀ t j a, ¬ (t = 7 ∧ j = 0 ∧ a = s) → ¬ (t = 4 ∧ j = 2 ∧ a = x) → I1 t j a = I t j a) → (cs.takeWhile (fun a => decide (L 9 0 a ≤ t)) ≠ [] → q (some (.inl 1)) (tg, ln, I1, L, R1, n)) ∧ (cs.takeWhile (fun a => decide (L 9 0 a ≤ t)) = [] → q (some (.inl 0)) (tg, ln, I1, L, R1, n)))
theorem cm_41 {l : Launch} {D : va_G} {aC : wm_Y} {b0 : Nat} (hl0 : l.stackTraces = false) : wm_sp l D aC b0 41 (wi_lf (wc_Rl wc_ok) sc_41) := by
  refine wi_method (wc_lw wc_ok) 41 (cx := fun id => if id = 40 then sc_40 else if id = 46 then sc_46 else fun _ _ _ _ => False) (ids := ci_41) (tb := tb_41) (by decide +kernel) hl0 (wm_cxc (cm_40 hl0) oi_41 (fun h => wm_cxc (cm_46 hl0) h (fun h => wm_cxn h))) (wm_tb_ok tk_41) (by decide +kernel) [14] 250 (fun as h q qt hs => ?_)
  obtain ⟨x, t, rfl, hs1⟩ := wc_sTJ_e hs
  clear hs
  obtain ⟨tg, ln, I, L, R, n⟩ := h
  have hs := id hs1
  clear hs1
  simp only [wc_f] at hs
  obtain ⟨s, cs, ids, hr, r1, r2, h1⟩ := hs
  obtain ⟨a1, a2, a3, a4, a5, a6, a7⟩ := id hr
  simp only at a1 a2 a3 a4 a5 a7
  have e0 : cs.takeWhile (fun a => decide (L 9 0 a ≤ t)) ++ cs.dropWhile (fun a => decide (L 9 0 a ≤ t)) = cs := List.takeWhile_append_dropWhile
  have m9 : ∀ a ∈ cs, tg a = 9 := fun a ha => (a7 a (List.mem_append_left _ ha)).1
  have hxs : x ≠ s := fun z => by rw [z, a3] at a1; cases a1
  refine ⟨rfl, fun mz pc lv sk h cu su => ∃ D : List Nat, ∃ r : List Nat, ∃ I2 : wm_F Int, lv = [some (wi_rf (some x)), some (.inr (.inl (t))), none, some (wi_rf (r.head?))] ∧ sk = [] ∧ h = (tg, ln, I2, L, R, n) ∧ cu = 0 ∧ su = 0 ∧ mz = r.length ∧ cs = D ++ r ∧ wc_ch R r.head? r ∧ (∀ a ∈ D, L 9 0 a ≤ t) ∧ I2 = wm_up I 4 2 x (wc_va t (I 4 2 x) (wc_cn I L cs)), mq_c1 (fun mz lv sk h cu su hI => ?_), ?_⟩
  · obtain ⟨D9, r, I2, rfl, rfl, rfl, rfl, rfl, rfl, p1, p2, p3, p4⟩ := hI
    have i70 : I2 7 0 s = I 7 0 s := by rw [p4, wm_up_t (by decide)]
    have hr2 : wc_rs (tg, ln, I2, L, R, n) x s (([] : List Nat) ++ D9 ++ r) ids := by rw [List.nil_append, ← p1]; exact hr
    have r3 : (D9.length : Int) ≤ I2 7 0 s := by
      rw [p1, List.length_append] at r1
      omega
    have r4 : I2 7 0 s ≤ 100000 := by omega
    have eT : ∀ z : r = [] ∨ (∃ a r', r = a :: r' ∧ t < L 9 0 a), cs.takeWhile (fun a => decide (L 9 0 a ≤ t)) = D9 ∧ cs.dropWhile (fun a => decide (L 9 0 a ≤ t)) = r := by
      intro z
      have e1 : r.takeWhile (fun a => decide (L 9 0 a ≤ t)) = [] := by
        rcases z with rfl | ⟨a, r', rfl, z⟩
        · rfl
        · rw [List.takeWhile_cons_of_neg (by simp only [decide_eq_true_eq]; omega)]
      have e2 : cs.takeWhile (fun a => decide (L 9 0 a ≤ t)) = D9 := by rw [p1, List.takeWhile_append_of_pos (fun a ha => decide_eq_true (p3 a ha)), e1, List.append_nil]
      have e3 := e0
      rw [e2] at e3
      exact ⟨e2, List.append_cancel_left (e3.trans p1)⟩
    have fin : (r = [] ∨ (∃ a r', r = a :: r' ∧ t < L 9 0 a)) → ∀ I1 R1, wc_rs (tg, ln, I1, L, R1, n) x s (([] : List Nat) ++ r) (D9.reverse ++ ids) → wc_ro (tg, ln, I2, L, R, n) (tg, ln, I1, L, R1, n) x s (([] : List Nat) ++ D9 ++ r ++ ids) → I1 7 0 s = I2 7 0 s - D9.length → (∀ t j a, ¬ (t = 7 ∧ j = 0 ∧ a = s) → I1 t j a = I2 t j a) → (D9 ≠ [] → q (some (.inl 1)) (tg, ln, I1, L, R1, n)) ∧ (D9 = [] → q (some (.inl 0)) (tg, ln, I1, L, R1, n)) := by
      intro z I1 R1 z1 z2 z3 z4
      obtain ⟨e1, e2⟩ := eT z
      have hz := h1 I1 R1
      rw [e1, e2] at hz
      rw [List.nil_append] at z1 z2
      rw [← p1] at z2
      refine hz z1 ⟨z2.1, z2.2.1, z2.2.2.1, fun t j a y1 y2 y3 => ?_, z2.2.2.2.2.1, z2.2.2.2.2.2⟩ (by rw [z3, i70]) ?_ (fun t j a y1 y2 => ?_)
      · show I1 t j a = I t j a
        rw [z4 t j a y1, p4]
        simp only [wm_up]
        rw [if_neg y2]
      · rw [z4 4 2 x (fun y => by omega), p4, wm_up_self]
      · rw [z4 t j a y1, p4]
        simp only [wm_up]
        rw [if_neg y2]
    cases r with
    | nil =>
      have fin := fin (Or.inl rfl)
      repeat' first
        | refine And.intro ?_ ?_
        | refine Exists.intro s (Exists.intro [] (Exists.intro D9 (Exists.intro ([]) (Exists.intro ids (And.intro hr2 (And.intro rfl (And.intro rfl (And.intro r3 (And.intro r4 ?_)))))))))
        | (intro I1 R1 z1 z2 z3 z4; obtain ⟨hz1, hz2⟩ := fin I1 R1 z1 z2 z3 z4)
        | (intro q9 (e9 : (_ : Option Nat) = some q9); cases e9)
        | (intro (e9 : (some _ : Option Nat) = none); cases e9)
        | (intro (e9 : (none : Option Nat) = none); clear e9)
        | (intro (e9 : (_ : Option Nat) ≠ _); exact absurd rfl e9)
        | (intro (e9 : (some _ : Option Nat) = some _); clear e9)
        | refine Exists.intro _ (And.intro (show _ = _ from by assumption) ?_)
        | refine Exists.intro _ (And.intro rfl (And.intro (by assumption) ?_))
        | refine Exists.intro _ (And.intro rfl ?_)
        | (intro h; try omega)
        | omega
        | exact hz1 (fun y => absurd (by rw [y]; rfl : ((D9.length : Nat) : Int) = 0) (by omega))
        | exact hz2 (List.eq_nil_of_length_eq_zero (by omega))
        | exact Nat.le_of_ble_eq_true rfl
        | assumption
    | cons a r =>
      have b1 : tg a = 9 := m9 a (by rw [p1]; simp)
      replace p2 : wc_ch R (R 9 2 a) r := p2.2
      have hh := wc_ch_h p2
      rw [hh] at p2
      have fin2 : t < L 9 0 a → _ := fun z => fin (Or.inr ⟨a, r, rfl, z⟩)
      repeat' first
        | refine And.intro ?_ ?_
        | refine Exists.intro s (Exists.intro [] (Exists.intro D9 (Exists.intro (a :: r) (Exists.intro ids (And.intro hr2 (And.intro rfl (And.intro rfl (And.intro r3 (And.intro r4 ?_)))))))))
        | (intro I1 R1 z1 z2 z3 z4; obtain ⟨hz1, hz2⟩ := fin2 (by omega) I1 R1 z1 z2 z3 z4)
        | (intro q9 (e9 : (_ : Option Nat) = some q9); cases e9)
        | (intro (e9 : (some _ : Option Nat) = none); cases e9)
        | (intro (e9 : (none : Option Nat) = none); clear e9)
        | (intro (e9 : (_ : Option Nat) ≠ _); exact absurd rfl e9)
        | (intro (e9 : (some _ : Option Nat) = some _); clear e9)
        | refine Exists.intro _ (And.intro (show _ = _ from by assumption) ?_)
        | refine Exists.intro _ (And.intro rfl (And.intro (by assumption) ?_))
        | refine Exists.intro _ (And.intro rfl ?_)
        | (intro h; try omega)
        | omega
        | (refine Exists.intro _ (And.intro ?_ (Exists.intro (D9 ++ [a]) (Exists.intro (r) (Exists.intro (_) (And.intro rfl (And.intro rfl (And.intro rfl (And.intro rfl (And.intro rfl (And.intro rfl (?_))))))))))) <;> first | exact Nat.lt_succ_self _ | exact ⟨by rw [p1]; simp, p2, fun b hb => (by rcases List.mem_append.mp hb with z | z; exact p3 b z; rw [List.mem_singleton.mp z]; omega), p4⟩)
        | exact hz1 (fun y => absurd (by rw [y]; rfl : ((D9.length : Nat) : Int) = 0) (by omega))
        | exact hz2 (List.eq_nil_of_length_eq_zero (by omega))
        | exact Nat.le_of_ble_eq_true rfl
        | assumption
  · repeat' first
      | refine And.intro ?_ ?_
      | refine Exists.intro cs (And.intro a4 (And.intro m9 ?_))
      | refine Exists.intro _ (And.intro rfl (And.intro (by assumption) (Exists.intro _ (And.intro (wc_ch_h a4) ?_))))
      | refine Exists.intro _ (And.intro (show _ = _ from by assumption) ?_)
      | refine Exists.intro _ (And.intro rfl (And.intro (by assumption) ?_))
      | refine Exists.intro _ (And.intro rfl ?_)
      | (intro h; try omega)
      | omega
      | (refine Exists.intro _ (Exists.intro ([]) (Exists.intro (cs) (Exists.intro (_) (And.intro rfl (And.intro rfl (And.intro rfl (And.intro rfl (And.intro rfl (And.intro rfl (?_)))))))))) <;> exact ⟨rfl, (by rw [← wc_ch_h a4]; exact a4), fun a ha => (by cases ha), h⟩)
      | exact Nat.le_of_ble_eq_true rfl
      | assumption
/-- behind a transaction taken from the store -/
def wc_tk (h h2 : wc_H) (x s a : Nat) (cs ids ids' : List Nat) (t v : Int) : Prop :=
  h2.1 a = 9 ∧ a < h2.2.2.2.2.2 ∧ h2.2.2.2.2.1 9 2 a = none ∧ wc_ch h2.2.2.2.2.1 (h2.2.2.2.2.1 7 1 s) ids' ∧ (a ∈ ids ∨ h.2.2.2.2.2 ≤ a) ∧ (∀ b ∈ ids', b ∈ ids) ∧ (a :: ids').Nodup ∧ h2.2.2.2.1 9 0 a = t ∧ h2.2.2.1 9 1 a = v ∧ h2.2.2.1 7 0 s = h.2.2.1 7 0 s + 1 ∧
  h.2.2.2.2.2 ≤ h2.2.2.2.2.2 ∧ (∀ b, b < h.2.2.2.2.2 → h2.1 b = h.1 b ∧ h2.2.1 b = h.2.1 b) ∧ (∀ b, h.2.2.2.2.2 ≤ b → b < h2.2.2.2.2.2 → h2.1 b = 9) ∧ (∀ t k b, ¬ (t = 7 ∧ k = 0 ∧ b = s) → ¬ (t = 9 ∧ b = a) → h2.2.2.1 t k b = h.2.2.1 t k b) ∧ (∀ t k b, ¬ (t = 9 ∧ b = a) → h2.2.2.2.1 t k b = h.2.2.2.1 t k b) ∧ (∀ t k b, ¬ (t = 7 ∧ k = 1 ∧ b = s) → ¬ (t = 9 ∧ b = a) → h2.2.2.2.2.1 t k b = h.2.2.2.2.1 t k b)
theorem wc_tk_n {tg ln : Nat → Nat} {I L : wm_F Int} {R : wm_F (Option Nat)} {n x s : Nat} {cs : List Nat} {t v : Int} (hr : wc_rs (tg, ln, I, L, R, n) x s cs []) (hs : s < n) :
    wc_tk (tg, ln, I, L, R, n) (wc_nt tg n 9, wc_nt ln n 0, wm_up (wm_up (wc_nz I n 9) 9 1 n v) 7 0 s (I 7 0 s + 1), wm_up (wc_nz L n 9) 9 0 n t, wm_up (wc_nn R n 9) 9 2 n none, n + 1) x s n cs [] [] t v := by
  obtain ⟨a1, a2, a3, a4, a5, a6, a7⟩ := hr
  have hsn : s ≠ n := by omega
  refine ⟨if_pos rfl, Nat.lt_succ_self _, wm_up_self, ?_, Or.inr (Nat.le_refl _), fun b hb => hb, by simp, wm_up_self, ?_, wm_up_self, Nat.le_succ _, fun b hb => ⟨if_neg (Nat.ne_of_lt hb), if_neg (Nat.ne_of_lt hb)⟩, fun b b1 b2 => if_pos (Nat.le_antisymm (Nat.le_of_lt_succ b2) b1), fun t k b z1 z2 => ?_, fun t k b z => ?_, fun t k b z1 z2 => ?_⟩
  · show wm_up (wc_nn R n 9) 9 2 n none 7 1 s = none
    rw [wm_up_t (by decide)]
    show (if 7 = 9 ∧ s = n then none else R 7 1 s) = none
    rw [if_neg (fun z => by omega)]
    exact a5
  · show wm_up (wm_up (wc_nz I n 9) 9 1 n v) 7 0 s (I 7 0 s + 1) 9 1 n = v
    rw [wm_up_t (by decide), wm_up_self]
  · show wm_up (wm_up (wc_nz I n 9) 9 1 n v) 7 0 s (I 7 0 s + 1) t k b = I t k b
    simp only [wm_up]
    rw [if_neg z1, if_neg (fun z => z2 ⟨z.1, z.2.2⟩)]
    exact if_neg z2
  · show wm_up (wc_nz L n 9) 9 0 n _ t k b = L t k b
    simp only [wm_up]
    rw [if_neg (fun y => z ⟨y.1, y.2.2⟩)]
    exact if_neg z
  · show wm_up (wc_nn R n 9) 9 2 n none t k b = R t k b
    simp only [wm_up]
    rw [if_neg (fun y => z2 ⟨y.1, y.2.2⟩)]
    exact if_neg z2
theorem wc_tk_o {tg ln : Nat → Nat} {I L : wm_F Int} {R : wm_F (Option Nat)} {n x s a : Nat} {cs ids : List Nat} {t v : Int} (hr : wc_rs (tg, ln, I, L, R, n) x s cs (a :: ids)) :
    wc_tk (tg, ln, I, L, R, n) (tg, ln, wm_up (wm_up I 9 1 a v) 7 0 s (I 7 0 s + 1), wm_up L 9 0 a t, wm_up (wm_up R 7 1 s (R 9 2 a)) 9 2 a none, n) x s a cs (a :: ids) ids t v := by
  obtain ⟨a1, a2, a3, a4, a5, a6, a7⟩ := hr
  have h9 := a7 a (by simp)
  have hnd := (List.nodup_append.mp a6).2.1
  refine ⟨h9.1, h9.2, wm_up_self, ?_, Or.inl List.mem_cons_self, fun b hb => List.mem_cons_of_mem _ hb, hnd, wm_up_self, ?_, wm_up_self, Nat.le_refl _, fun b hb => ⟨rfl, rfl⟩, fun b b1 b2 => absurd b1 (Nat.not_le.mpr b2), fun t k b z1 z2 => ?_, fun t k b z => ?_, fun t k b z1 z2 => ?_⟩
  · show wc_ch (wm_up (wm_up R 7 1 s (R 9 2 a)) 9 2 a none) (wm_up (wm_up R 7 1 s (R 9 2 a)) 9 2 a none 7 1 s) ids
    rw [wm_up_t (by decide), wm_up_self]
    refine wc_ch_c a5.2 (fun b hb => ?_)
    rw [wm_up_q (show b ≠ a from fun z => (List.nodup_cons.mp hnd).1 (z ▸ hb)), wm_up_t (by decide)]
  · show wm_up (wm_up I 9 1 a v) 7 0 s (I 7 0 s + 1) 9 1 a = v
    rw [wm_up_t (by decide), wm_up_self]
  · show wm_up (wm_up I 9 1 a v) 7 0 s (I 7 0 s + 1) t k b = I t k b
    simp only [wm_up]
    rw [if_neg z1, if_neg (fun z => z2 ⟨z.1, z.2.2⟩)]
  · show wm_up L 9 0 a _ t k b = L t k b
    simp only [wm_up]
    rw [if_neg (fun y => z ⟨y.1, y.2.2⟩)]
  · show wm_up (wm_up R 7 1 s (R 9 2 a)) 9 2 a none t k b = R t k b
    simp only [wm_up]
    rw [if_neg (fun y => z2 ⟨y.1, y.2.2⟩), if_neg z1]
/-- what adding behind gives -/
def wc_ab (h h3 : wc_H) (x s a : Nat) (cs ids ids' : List Nat) (t v : Int) : Prop := wc_rs h3 x s (cs ++ [a]) ids' ∧ wc_ro h h3 x s (cs ++ ids) ∧ (∀ b ∈ cs, h3.2.2.2.1 9 0 b = h.2.2.2.1 9 0 b ∧ h3.2.2.1 9 1 b = h.2.2.1 9 1 b) ∧ h3.2.2.2.1 9 0 a = t ∧ h3.2.2.1 9 1 a = v ∧ h3.2.2.1 7 0 s = h.2.2.1 7 0 s + 1 ∧ h3.2.2.1 4 2 x = h.2.2.1 4 2 x ∧ (∀ b ∈ ids', b ∈ ids) ∧ (a ∈ ids ∨ h.2.2.2.2.2 ≤ a)
theorem wc_ab_j {h h2 : wc_H} {x s a : Nat} {cs ids ids' : List Nat} {t v : Int} (hr : wc_rs h x s cs ids) (hxn : x < h.2.2.2.2.2) (hsn : s < h.2.2.2.2.2) (k : wc_tk h h2 x s a cs ids ids' t v) {R3 : wm_F (Option Nat)}
    (hj : (cs = [] ∧ R3 = wm_up h2.2.2.2.2.1 4 1 x (some a)) ∨ ∃ P c, cs = P ++ [c] ∧ R3 = wm_up h2.2.2.2.2.1 9 2 c (some a)) : wc_ab h (h2.1, h2.2.1, h2.2.2.1, h2.2.2.2.1, R3, h2.2.2.2.2.2) x s a cs ids ids' t v := by
  obtain ⟨a1, a2, a3, a4, a5, a6, a7⟩ := hr
  obtain ⟨k1, k2, k3, k4, k5, k6, k7, k8, k9, k10, k11, k12, k13, k14, k15, k16⟩ := k
  have hac : a ∉ cs := fun z => by
    rcases k5 with y | y
    · exact (List.nodup_append.mp a6).2.2 a z a y rfl
    · have := (a7 a (List.mem_append_left _ z)).2
      omega
  have hxa : x ≠ a := fun z => by
    rcases k5 with y | y
    · have := (a7 a (List.mem_append_right _ y)).1
      rw [← z, a1] at this
      cases this
    · omega
  have hsa : s ≠ a := fun z => by
    rcases k5 with y | y
    · have := (a7 a (List.mem_append_right _ y)).1
      rw [← z, a3] at this
      cases this
    · omega
  have q9 : ∀ b ∈ cs, h2.2.2.2.2.1 9 2 b = h.2.2.2.2.1 9 2 b := fun b hb => k16 9 2 b (fun z => by omega) (fun z => hac (z.2 ▸ hb))
  have hch : wc_ch h2.2.2.2.2.1 (h2.2.2.2.2.1 4 1 x) cs := by
    rw [k16 4 1 x (fun z => by omega) (fun z => by omega)]
    exact wc_ch_c a4 q9
  have hcs9 : ∀ b ∈ cs, b ∉ ids' := fun b hb z => (List.nodup_append.mp a6).2.2 b hb b (k6 b z) rfl
  have f3 : ∀ t k b, ¬ (t = 4 ∧ k = 1 ∧ b = x) → ¬ (t = 9 ∧ k = 2 ∧ b ∈ cs) → R3 t k b = h2.2.2.2.2.1 t k b := by
    rcases hj with ⟨-, rfl⟩ | ⟨P, c, rfl, rfl⟩
    · intro t k b z1 z2
      simp only [wm_up]
      rw [if_neg z1]
    · intro t k b z1 z2
      simp only [wm_up]
      rw [if_neg (fun z => z2 ⟨z.1, z.2.1, by rw [z.2.2]; simp⟩)]
  have hch3 : wc_ch R3 (R3 4 1 x) (cs ++ [a]) := by
    have r9 : R3 9 2 a = none := by rw [f3 9 2 a (fun z => by omega) (fun z => hac z.2.2)]; exact k3
    rcases hj with ⟨rfl, rfl⟩ | ⟨P, c, rfl, rfl⟩
    · rw [wm_up_self]
      exact ⟨rfl, r9⟩
    · rw [wm_up_t (by decide)]
      obtain ⟨y, g1, g2⟩ := wc_ch_s (A := P ++ [c]) (B := []) (by rw [List.append_nil]; exact hch)
      obtain ⟨g3, g4⟩ := wc_sg_e g1
      have hcP : c ∉ P := fun z => (List.nodup_append.mp (List.nodup_append.mp a6).1).2.2 c z c (by simp) rfl
      exact wc_ch_j (wc_sg_a (wc_sg_c g3 (fun b hb => wm_up_q (show b ≠ c from fun z => hcP (z ▸ hb)))) wm_up_self) ⟨rfl, r9⟩
  refine ⟨⟨(k12 x hxn).1.trans a1, ?_, (k12 s hsn).1.trans a3, hch3, ?_, ?_, fun b hb => ?_⟩, ⟨k11, k12, k13, fun t j b z1 z2 z3 => k14 t j b z1 (fun z => z3 ⟨z.1, ?_⟩), fun t j b z => k15 t j b (fun y => z ⟨y.1, ?_⟩), fun t j b z1 z2 z3 => ?_⟩, fun b hb => ⟨k15 9 0 b (fun z => hac (z.2 ▸ hb)), k14 9 1 b (fun z => by omega) (fun z => hac (z.2 ▸ hb))⟩, k8, k9, k10, k14 4 2 x (fun z => by omega) (fun z => by omega), k6, k5⟩
  · show R3 4 0 x = some s
    rw [f3 4 0 x (fun z => by omega) (fun z => by omega), k16 4 0 x (fun z => by omega) (fun z => by omega)]
    exact a2
  · show wc_ch R3 (R3 7 1 s) ids'
    rw [f3 7 1 s (fun z => by omega) (fun z => by omega)]
    exact wc_ch_c k4 (fun b hb => f3 9 2 b (fun z => by omega) (fun z => hcs9 b z.2.2 hb))
  · rw [List.append_assoc]
    refine List.nodup_append.mpr ⟨(List.nodup_append.mp a6).1, k7, fun b hb c hc => ?_⟩
    rcases List.mem_cons.mp hc with z | z
    · exact fun y => hac (z ▸ y ▸ hb)
    · exact fun y => hcs9 b hb (y ▸ z)
  · have hb2 : b ∈ cs ++ ids ∨ b = a := by
      simp only [List.mem_append, List.mem_singleton] at hb ⊢
      rcases hb with (z | z) | z
      · exact Or.inl (Or.inl z)
      · exact Or.inr z
      · exact Or.inl (Or.inr (k6 b z))
    rcases hb2 with z | rfl
    · have y := a7 b z
      exact ⟨(k12 b y.2).1.trans y.1, Nat.lt_of_lt_of_le y.2 k11⟩
    · exact ⟨k1, k2⟩
  · rcases k5 with y | y
    · exact Or.inl (z.2 ▸ List.mem_append_right _ y)
    · exact Or.inr (z.2 ▸ y)
  · rcases k5 with w | w
    · exact Or.inl (y.2 ▸ List.mem_append_right _ w)
    · exact Or.inr (y.2 ▸ w)
  · show R3 t j b = h.2.2.2.2.1 t j b
    rw [f3 t j b z2 (fun z => z3 ⟨z.1, Or.inl (List.mem_append_left _ z.2.2)⟩)]
    refine k16 t j b z1 (fun z => z3 ⟨z.1, ?_⟩)
    rcases k5 with y | y
    · exact Or.inl (z.2 ▸ List.mem_append_right _ y)
    · exact Or.inr (z.2 ▸ y)
def sc_45 (as : List wi_V) (h : wc_H) (q : wi_Q1 wc_H) (qt : wi_Q2 wc_H) : Prop := wc_sTOJI as (fun x b t v => wc_f h fun tg ln I L R n => ∃ s cs ids, wc_rs (tg, ln, I, L, R, n) x s cs ids ∧ b = cs.getLast? ∧ x < n ∧ s < n ∧ 0 ≤ I 7 0 s ∧ I 7 0 s < 100000 ∧ ∀ a ids' h3, wc_ab (tg, ln, I, L, R, n) h3 x s a cs ids ids' t v → q (some (wi_rf (some a))) h3)
theorem cm_45 {l : Launch} {D : va_G} {aC : wm_Y} {b0 : Nat} (hl0 : l.stackTraces = false) : wm_sp l D aC b0 45 (wi_lf (wc_Rl wc_ok) sc_45) := by
  refine wi_method (wc_lw wc_ok) 45 (cx := fun id => if id = 47 then sc_47 else if id = 64 then sc_64 else fun _ _ _ _ => False) (ids := ci_45) (tb := tb_45) (by decide +kernel) hl0 (wm_cxc (cm_47 hl0) oi_45 (fun h => wm_cxc (cm_64 hl0) h (fun h => wm_cxn h))) (wm_tb_ok tk_45) (by decide +kernel) [] 250 (fun as h q qt hs => ?_)
  obtain ⟨x, b, t, v, rfl, hs1⟩ := wc_sTOJI_e hs
  clear hs
  obtain ⟨tg, ln, I, L, R, n⟩ := h
  have hs := id hs1
  clear hs1
  simp only [wc_f] at hs
  refine ⟨rfl, fun _ _ _ _ _ _ _ => False, mq_nc, ?_⟩
  obtain ⟨s, cs, ids, hr, rfl, r1, r2, r3, r4, h1⟩ := hs
  obtain ⟨a1, a2, a3, a4, a5, a6, a7⟩ := id hr
  simp only at a1 a2 a3 a4 a5 a7
  have fin : ∀ (a : Nat) (ids' : List Nat) (tg2 ln2 : Nat → Nat) (I2 L2 : wm_F Int) (R2 R3 : wm_F (Option Nat)) (n2 : Nat), wc_tk (tg, ln, I, L, R, n) (tg2, ln2, I2, L2, R2, n2) x s a cs ids ids' t v → ((cs = [] ∧ R3 = wm_up R2 4 1 x (some a)) ∨ ∃ P c, cs = P ++ [c] ∧ R3 = wm_up R2 9 2 c (some a)) → q (some (wi_rf (some a))) (tg2, ln2, I2, L2, R3, n2) := fun a ids' tg2 ln2 I2 L2 R2 R3 n2 k hj => h1 a ids' _ (wc_ab_j hr r1 r2 k hj)
  cases ids with
  | nil =>
    have i0 : R 7 1 s = none := a5
    have kk := wc_tk_n (t := t) (v := v) hr r2
    have x4 : wc_nt tg n 9 x = 4 := (if_neg (Nat.ne_of_lt r1)).trans a1
    rcases List.eq_nil_or_concat cs with rfl | ⟨P, c, rfl⟩
    · have f1 := fin _ _ _ _ _ _ _ _ _ kk (Or.inl ⟨rfl, rfl⟩)
      repeat' first
        | refine And.intro ?_ ?_
        | (intro q9 (e9 : (_ : Option Nat) = some q9); cases e9)
        | (intro (e9 : (some _ : Option Nat) = none); cases e9)
        | (intro (e9 : (none : Option Nat) = none); clear e9)
        | (intro (e9 : (_ : Option Nat) ≠ _); exact absurd rfl e9)
        | (intro (e9 : (some _ : Option Nat) = some _); clear e9)
        | (intro q9 e9; exact absurd (i0.symm.trans e9) (by intro z; cases z))
        | refine Exists.intro _ (And.intro (show _ = _ from by assumption) ?_)
        | refine Exists.intro _ (And.intro rfl (And.intro (by assumption) ?_))
        | refine Exists.intro _ (And.intro rfl ?_)
        | (intro h; try omega)
        | omega
        | exact f1
        | exact Nat.le_of_ble_eq_true rfl
        | assumption
    · rw [List.concat_eq_append] at *
      have hl : (P ++ [c]).getLast? = some c := by simp
      have c9 : wc_nt tg n 9 c = 9 := (if_neg (Nat.ne_of_lt (a7 c (by simp)).2)).trans (a7 c (by simp)).1
      have f1 := fin _ _ _ _ _ _ _ _ _ kk (Or.inr ⟨P, c, rfl, rfl⟩)
      repeat' first
        | refine And.intro ?_ ?_
        | (intro q9 (e9 : (_ : Option Nat) = some q9); cases e9)
        | (intro (e9 : (some _ : Option Nat) = none); cases e9)
        | (intro (e9 : (none : Option Nat) = none); clear e9)
        | (intro (e9 : (_ : Option Nat) ≠ _); exact absurd rfl e9)
        | (intro (e9 : (some _ : Option Nat) = some _); clear e9)
        | (rw [hl])
        | (intro q9 e9; exact absurd (i0.symm.trans e9) (by intro z; cases z))
        | refine Exists.intro _ (And.intro (show _ = _ from by assumption) ?_)
        | refine Exists.intro _ (And.intro rfl (And.intro (by assumption) ?_))
        | refine Exists.intro _ (And.intro rfl ?_)
        | (intro h; try omega)
        | omega
        | exact f1
        | exact Nat.le_of_ble_eq_true rfl
        | assumption
  | cons a ids =>
    have i0 : R 7 1 s = some a := a5.1
    have b9 : tg a = 9 := (a7 a (by simp)).1
    have kk := wc_tk_o (t := t) (v := v) hr
    rcases List.eq_nil_or_concat cs with rfl | ⟨P, c, rfl⟩
    · have f1 := fin _ _ _ _ _ _ _ _ _ kk (Or.inl ⟨rfl, rfl⟩)
      repeat' first
        | refine And.intro ?_ ?_
        | (intro q9 (e9 : (_ : Option Nat) = some q9); cases e9)
        | (intro (e9 : (some _ : Option Nat) = none); cases e9)
        | (intro (e9 : (none : Option Nat) = none); clear e9)
        | (intro (e9 : (_ : Option Nat) ≠ _); exact absurd rfl e9)
        | (intro (e9 : (some _ : Option Nat) = some _); clear e9)
        | (intro (e9 : R 7 1 s = none); exact absurd (i0.symm.trans e9) (by intro z; cases z))
        | (intro q9 (e9 : R 7 1 s = some q9); cases i0.symm.trans e9)
        | refine Exists.intro _ (And.intro (show _ = _ from by assumption) ?_)
        | refine Exists.intro _ (And.intro rfl (And.intro (by assumption) ?_))
        | refine Exists.intro _ (And.intro rfl ?_)
        | (intro h; try omega)
        | omega
        | exact f1
        | exact Nat.le_of_ble_eq_true rfl
        | assumption
    · rw [List.concat_eq_append] at *
      have hl : (P ++ [c]).getLast? = some c := by simp
      have c9 : tg c = 9 := (a7 c (by simp)).1
      have f1 := fin _ _ _ _ _ _ _ _ _ kk (Or.inr ⟨P, c, rfl, rfl⟩)
      repeat' first
        | refine And.intro ?_ ?_
        | (intro q9 (e9 : (_ : Option Nat) = some q9); cases e9)
        | (intro (e9 : (some _ : Option Nat) = none); cases e9)
        | (intro (e9 : (none : Option Nat) = none); clear e9)
        | (intro (e9 : (_ : Option Nat) ≠ _); exact absurd rfl e9)
        | (intro (e9 : (some _ : Option Nat) = some _); clear e9)
        | (rw [hl])
        | (intro (e9 : R 7 1 s = none); exact absurd (i0.symm.trans e9) (by intro z; cases z))
        | (intro q9 (e9 : R 7 1 s = some q9); cases i0.symm.trans e9)
        | refine Exists.intro _ (And.intro (show _ = _ from by assumption) ?_)
        | refine Exists.intro _ (And.intro rfl (And.intro (by assumption) ?_))
        | refine Exists.intro _ (And.intro rfl ?_)
        | (intro h; try omega)
        | omega
        | exact f1
        | exact Nat.le_of_ble_eq_true rfl
        | assumption
