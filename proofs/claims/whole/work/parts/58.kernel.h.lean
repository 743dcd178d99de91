/-! THE KERNEL, 8: wakeTasks; what the model makes of drivers -/
def wk_me (L : wm_F Int) (g : Nat → Nat → Nat) (p : Nat) : Prop := ∃ s : Nat, s < 256 ∧ wc_bi L (g 6 p) s = true ∧ wc_bi L (g 0 9) s = true
def wk_wp (I L : wm_F Int) (g : Nat → Nat → Nat) (t : Int) (p : Nat) (v : Int) : Prop := (I 8 1 (g 4 p) ≠ 1 ∧ v = I 8 1 (g 4 p)) ∨ (I 8 1 (g 4 p) = 1 ∧ L 8 3 (g 4 p) = t ∧ v = 0) ∨ (I 8 1 (g 4 p) = 1 ∧ L 8 3 (g 4 p) ≠ t ∧ wk_me L g p ∧ ((I 8 2 (g 4 p) ≠ 0 ∧ v = 2) ∨ (I 8 2 (g 4 p) = 0 ∧ v = 0))) ∨ (I 8 1 (g 4 p) = 1 ∧ L 8 3 (g 4 p) ≠ t ∧ ¬ wk_me L g p ∧ v = 1)
def wk_wd (I L I2 : wm_F Int) (g : Nat → Nat → Nat) (pr t : Int) (p : Nat) : Prop := (∀ a j y, ¬ (a = 8 ∧ j = 1) → I2 a j y = I a j y) ∧ (∀ p' : Nat, p' < p → wk_wp I L g t p' (I2 8 1 (g 4 p'))) ∧ (∀ p' : Nat, p ≤ p' → (p' : Int) < pr → I2 8 1 (g 4 p') = I 8 1 (g 4 p'))
theorem wk_wd_s {I L I2 : wm_F Int} {g : Nat → Nat → Nat} {pr t : Int} {p : Nat} {v : Int} (h : wk_wd I L I2 g pr t p) (hp : (p : Int) < pr) (hi : ∀ p' : Nat, (p' : Int) < pr → p' ≠ p → g 4 p' ≠ g 4 p) (hv : wk_wp I L g t p v) : wk_wd I L (wm_up I2 8 1 (g 4 p) v) g pr t (p + 1) := by
  obtain ⟨h1, h2, h3⟩ := h
  refine ⟨fun a j y z => ?_, fun p' hp' => ?_, fun p' x1 x2 => ?_⟩
  · simp only [wm_up]
    rw [if_neg (fun k => z ⟨k.1, k.2.1⟩)]
    exact h1 a j y z
  · by_cases z : p' = p
    · rw [z, wm_up_self]
      exact hv
    · rw [wm_up_q (hi p' (by omega) z)]
      exact h2 p' (by omega)
  · rw [wm_up_q (hi p' x2 (by omega))]
    exact h3 p' (by omega) x2
theorem wk_wd_n {I L I2 : wm_F Int} {g : Nat → Nat → Nat} {pr t : Int} {p : Nat} (h : wk_wd I L I2 g pr t p) (hp : (p : Int) < pr) (hv : wk_wp I L g t p (I 8 1 (g 4 p))) : wk_wd I L I2 g pr t (p + 1) := by
  obtain ⟨h1, h2, h3⟩ := h
  refine ⟨h1, fun p' hp' => ?_, fun p' x1 x2 => h3 p' (by omega) x2⟩
  by_cases z : p' = p
  · rw [z, h3 p (Nat.le_refl _) hp]
    exact hv
  · exact h2 p' (by omega)
def sc_35 (as : List wi_V) (h : wc_H) (q : wi_Q1 wc_H) (qt : wi_Q2 wc_H) : Prop := wc_sT as (fun x => wc_f h fun tg ln I L R n => tg x = 2 ∧ ∃ (g : Nat → Nat → Nat) (pr : Int), (0 ≤ pr ∧ pr ≤ 64) ∧ I 2 8 x = pr ∧ R 2 2 x = some (g 0 1) ∧ tg (g 0 1) = 21 ∧ ln (g 0 1) = 64 ∧ R 2 6 x = some (g 0 8) ∧ tg (g 0 8) = 6 ∧ R 6 0 (g 0 8) = some (g 0 9) ∧ tg (g 0 9) = 25 ∧ ln (g 0 9) = 4 ∧ wk_T tg ln (R 8 0) (R 6) (R 21) (g 0) (g 4) (g 5) (g 6) pr ∧ ∀ I', wk_wd I L I' g pr (L 2 12 x) pr.toNat → q none (tg, ln, I', L, R, n))
theorem cm_35 {l : Launch} {D : va_G} {aC : wm_Y} {b0 : Nat} (hl0 : l.stackTraces = false) : wm_sp l D aC b0 35 (wi_lf (wc_Rl wc_ok) sc_35) := by
  refine wi_method (wc_lw wc_ok) 35 (cx := fun id => if id = 69 then sc_69 else fun _ _ _ _ => False) (ids := ci_35) (tb := tb_35) (by decide +kernel) hl0 (wm_cxc (cm_69 hl0) oi_35 (fun h => wm_cxn h)) (wm_tb_ok tk_35) (by decide +kernel) [2] 250 (fun as h q qt hs => ?_)
  obtain ⟨x, rfl, hs1⟩ := wc_sT_e hs
  clear hs
  obtain ⟨tg, ln, I, L, R, n⟩ := h
  have hs := id hs1
  clear hs1
  simp only [wc_f] at hs
  obtain ⟨b1, g, pr, ⟨u12, u13⟩, k8, b5, b6, b7, d6, d7, d8, d9, d10, kT, h1⟩ := hs
  refine ⟨rfl, fun mz pc lv sk h cu su => ∃ p : Nat, ∃ w2 : Option wi_V, ∃ I2 : wm_F Int, lv = [some (wi_rf (some x)), some (.inl ((p : Int))), w2] ∧ sk = [] ∧ h = (tg, ln, I2, L, R, n) ∧ cu = 0 ∧ su = 0 ∧ mz = pr.toNat - p ∧ (p : Int) ≤ pr ∧ wk_wd I L I2 g pr (L 2 12 x) p, mq_c1 (fun mz lv sk h cu su hI => ?_), ?_⟩
  · obtain ⟨p, w2, I2, rfl, rfl, rfl, rfl, rfl, rfl, p1, p2⟩ := hI
    have ep : ((p : Int)).toNat = p := by omega
    have k8' : I2 2 8 x = pr := by rw [p2.1 2 8 x (by omega)]; exact k8
    by_cases hp : (p : Int) < pr
    · obtain ⟨t1, t2, t3, t4, t5, t6, t7, t8, t9⟩ := kT.1 p hp
      have t1' : R 21 (p : Int).toNat (g 0 1) = some (g 4 p) := by rw [ep]; exact t1
      have l1 : (p : Int) < ln (g 0 1) := by omega
      have hi : ∀ p' : Nat, (p' : Int) < pr → p' ≠ p → g 4 p' ≠ g 4 p := fun p' y1 y2 => (kT.2 p' p y1 hp y2).1
      have v1 := p2.2.2 p (Nat.le_refl _) hp
      have v2 : I2 8 2 (g 4 p) = I 8 2 (g 4 p) := p2.1 8 2 _ (by omega)
      have n0 : I2 8 1 (g 4 p) ≠ 1 → wk_wd I L I2 g pr (L 2 12 x) (p + 1) := fun z => wk_wd_n p2 hp (Or.inl ⟨by omega, rfl⟩)
      have n1 : I2 8 1 (g 4 p) = 1 → L 8 3 (g 4 p) = L 2 12 x → wk_wd I L (wm_up I2 8 1 (g 4 p) 0) g pr (L 2 12 x) (p + 1) := fun z1 z2 => wk_wd_s p2 hp hi (Or.inr (Or.inl ⟨by omega, z2, rfl⟩))
      have n2 : I2 8 1 (g 4 p) = 1 → L 8 3 (g 4 p) ≠ L 2 12 x → wk_me L g p → I2 8 2 (g 4 p) ≠ 0 → wk_wd I L (wm_up I2 8 1 (g 4 p) 2) g pr (L 2 12 x) (p + 1) := fun z1 z2 z3 z4 => wk_wd_s p2 hp hi (Or.inr (Or.inr (Or.inl ⟨by omega, z2, z3, Or.inl ⟨by omega, rfl⟩⟩)))
      have n3 : I2 8 1 (g 4 p) = 1 → L 8 3 (g 4 p) ≠ L 2 12 x → wk_me L g p → I2 8 2 (g 4 p) = 0 → wk_wd I L (wm_up I2 8 1 (g 4 p) 0) g pr (L 2 12 x) (p + 1) := fun z1 z2 z3 z4 => wk_wd_s p2 hp hi (Or.inr (Or.inr (Or.inl ⟨by omega, z2, z3, Or.inr ⟨by omega, rfl⟩⟩)))
      have n4 : I2 8 1 (g 4 p) = 1 → L 8 3 (g 4 p) ≠ L 2 12 x → (∀ s : Nat, s < 256 → ¬ (wc_bi L (g 6 p) s = true ∧ wc_bi L (g 0 9) s = true)) → wk_wd I L I2 g pr (L 2 12 x) (p + 1) := fun z1 z2 z3 => wk_wd_n p2 hp (Or.inr (Or.inr (Or.inr ⟨by omega, z2, fun z => by obtain ⟨s, y1, y2⟩ := z; exact z3 s y1 y2, by omega⟩)))
      repeat' first
        | refine And.intro ?_ ?_
        | refine Exists.intro _ (And.intro t1' ?_)
        | (intro (z9 : ∃ s : Nat, s < 256 ∧ wc_bi L (g 6 p) s = true ∧ wc_bi L (g 0 9) s = true))
        | (intro (z9 : ∀ s : Nat, s < 256 → ¬ (wc_bi L (g 6 p) s = true ∧ wc_bi L (g 0 9) s = true)))
        | refine Exists.intro _ (And.intro (show _ = _ from by assumption) ?_)
        | refine Exists.intro _ (And.intro rfl (And.intro (by assumption) ?_))
        | refine Exists.intro _ (And.intro rfl ?_)
        | (intro h; try omega)
        | omega
        | (have n9 := n1 (by omega) (by omega); refine Exists.intro _ (And.intro ?_ (Exists.intro (p + 1) (Exists.intro (_) (Exists.intro (_) (And.intro rfl (And.intro rfl (And.intro rfl (And.intro rfl (And.intro rfl (And.intro rfl (?_))))))))))) <;> first | omega | exact ⟨by omega, n9⟩)
        | (have n9 := n2 (by omega) (by omega) z9 (by omega); refine Exists.intro _ (And.intro ?_ (Exists.intro (p + 1) (Exists.intro (_) (Exists.intro (_) (And.intro rfl (And.intro rfl (And.intro rfl (And.intro rfl (And.intro rfl (And.intro rfl (?_))))))))))) <;> first | omega | exact ⟨by omega, n9⟩)
        | (have n9 := n3 (by omega) (by omega) z9 (by omega); refine Exists.intro _ (And.intro ?_ (Exists.intro (p + 1) (Exists.intro (_) (Exists.intro (_) (And.intro rfl (And.intro rfl (And.intro rfl (And.intro rfl (And.intro rfl (And.intro rfl (?_))))))))))) <;> first | omega | exact ⟨by omega, n9⟩)
        | (have n9 := n4 (by omega) (by omega) z9; refine Exists.intro _ (And.intro ?_ (Exists.intro (p + 1) (Exists.intro (_) (Exists.intro (_) (And.intro rfl (And.intro rfl (And.intro rfl (And.intro rfl (And.intro rfl (And.intro rfl (?_))))))))))) <;> first | omega | exact ⟨by omega, n9⟩)
        | (have n9 := n0 (by omega); refine Exists.intro _ (And.intro ?_ (Exists.intro (p + 1) (Exists.intro (_) (Exists.intro (_) (And.intro rfl (And.intro rfl (And.intro rfl (And.intro rfl (And.intro rfl (And.intro rfl (?_))))))))))) <;> first | omega | exact ⟨by omega, n9⟩)
        | exact Nat.le_of_ble_eq_true rfl
        | assumption
    · have e9 : pr.toNat = p := by omega
      have f1 := h1 I2 (by rw [e9]; exact p2)
      repeat' first
        | refine And.intro ?_ ?_
        | refine Exists.intro _ (And.intro (show _ = _ from by assumption) ?_)
        | refine Exists.intro _ (And.intro rfl (And.intro (by assumption) ?_))
        | refine Exists.intro _ (And.intro rfl ?_)
        | (intro h; try omega)
        | omega
        | exact f1
        | exact Nat.le_of_ble_eq_true rfl
        | assumption
  · have p0 : wk_wd I L I g pr (L 2 12 x) 0 := ⟨fun _ _ _ _ => rfl, fun p' y => by omega, fun _ _ _ => rfl⟩
    repeat' first
      | refine And.intro ?_ ?_
      | refine Exists.intro _ (And.intro (show _ = _ from by assumption) ?_)
      | refine Exists.intro _ (And.intro rfl (And.intro (by assumption) ?_))
      | refine Exists.intro _ (And.intro rfl ?_)
      | (intro h; try omega)
      | omega
      | (refine Exists.intro _ (Exists.intro (0) (Exists.intro (_) (Exists.intro (_) (And.intro rfl (And.intro rfl (And.intro rfl (And.intro rfl (And.intro rfl (And.intro rfl (?_)))))))))) <;> exact ⟨by omega, p0⟩)
      | exact Nat.le_of_ble_eq_true rfl
      | assumption
theorem mq_both_d : ∀ a b c : Fin 9, mq_both (mq_both a.val b.val) c.val = mq_both (mq_both a.val c.val) b.val ∧ 0 ≤ mq_both a.val b.val ∧ mq_both a.val b.val ≤ 8 := by decide +kernel
def wk_b8 (v : Int) : Prop := 0 ≤ v ∧ v ≤ 8
theorem wk_b8_f {v : Int} (h : wk_b8 v) : ∃ f : Fin 9, v = f.val := ⟨⟨v.toNat, by have := h.1; have := h.2; omega⟩, by have := h.1; simp only; omega⟩
theorem mq_both_r {a b c : Int} (ha : wk_b8 a) (hb : wk_b8 b) (hc : wk_b8 c) : mq_both (mq_both a b) c = mq_both (mq_both a c) b ∧ wk_b8 (mq_both a b) := by
  obtain ⟨a', rfl⟩ := wk_b8_f ha
  obtain ⟨b', rfl⟩ := wk_b8_f hb
  obtain ⟨c', rfl⟩ := wk_b8_f hc
  exact ⟨(mq_both_d a' b' c').1, (mq_both_d a' b' c').2⟩
theorem wk_bo_m {vl : Nat → Int} {k : Nat} : ∀ {l : List (Nat × Nat)} {z : Int} {c : Nat × Nat}, wk_b8 z → wk_b8 (vl (c.2 + k)) → (∀ b ∈ l, wk_b8 (vl (b.2 + k))) → wc_bo vl k (l.foldl (wc_bo vl k) z) c = l.foldl (wc_bo vl k) (wc_bo vl k z c)
  | [], _, _, _, _, _ => rfl
  | b :: r, z, c, hz, hc, hl => by
    simp only [List.foldl_cons]
    have hb := hl b List.mem_cons_self
    have e := mq_both_r hz hb hc
    rw [wk_bo_m (l := r) (z := wc_bo vl k z b) (c := c) e.2 hc (fun a ha => hl a (List.mem_cons_of_mem _ ha))]
    have e2 : wc_bo vl k (wc_bo vl k z b) c = wc_bo vl k (wc_bo vl k z c) b := e.1
    rw [e2]
def wk_fr (vl : Nat → Int) (k : Nat) : List (Nat × Nat) → Int
  | [] => 4
  | c :: r => wc_bo vl k (wk_fr vl k r) c
theorem wk_fr_l {vl : Nat → Int} {k : Nat} : ∀ {l : List (Nat × Nat)}, (∀ b ∈ l, wk_b8 (vl (b.2 + k))) → wk_fr vl k l = l.foldl (wc_bo vl k) 4
  | [], _ => rfl
  | c :: r, hl => by
    simp only [wk_fr, List.foldl_cons]
    rw [wk_fr_l (l := r) (fun a ha => hl a (List.mem_cons_of_mem _ ha))]
    exact wk_bo_m ⟨by decide, by decide⟩ (hl c List.mem_cons_self) (fun a ha => hl a (List.mem_cons_of_mem _ ha))
theorem wk_mk {A : mq_A} {s : Nat} {e : Int} {k : Nat} : ∀ {n : Nat} {l : List (Nat × Nat)}, l.Pairwise (fun a b => b.2 < a.2) → (∀ d, d < n → (A 38 d = e ↔ ∃ c ∈ l, d = c.2 + k)) → (∀ c ∈ l, c.2 + k < n) → mq_mk A (s : Int) e n = ((match l with | [] => 4 | c :: r => if A 30 s = 2 then A 39 (c.2 + k) else wk_fr (A 39) k (c :: r)), !l.isEmpty)
  | 0, [], _, _, _ => rfl
  | 0, c :: r, _, _, h3 => absurd (h3 c List.mem_cons_self) (Nat.not_lt_zero _)
  | n + 1, l, h1, h2, h3 => by
    simp only [mq_mk, Int.toNat_natCast]
    by_cases z : A 38 n = e
    · rw [if_pos z]
      obtain ⟨c, hc, hn⟩ := (h2 n (Nat.lt_succ_self _)).mp z
      cases l with
      | nil => cases hc
      | cons c0 r =>
        obtain ⟨q1, q2⟩ := List.pairwise_cons.mp h1
        have hc0 : c0.2 + k = n := by
          rcases List.mem_cons.mp hc with rfl | hc
          · exact hn.symm
          · have := q1 c hc
            have := h3 c0 List.mem_cons_self
            omega
        have ih := wk_mk (A := A) (s := s) (e := e) (k := k) (n := n) (l := r) q2 (fun d hd => by
          rw [h2 d (by omega)]
          constructor
          · rintro ⟨b, hb, hb2⟩
            rcases List.mem_cons.mp hb with rfl | hb
            · omega
            · exact ⟨b, hb, hb2⟩
          · rintro ⟨b, hb, hb2⟩
            exact ⟨b, List.mem_cons_of_mem _ hb, hb2⟩) (fun b hb => by have := q1 b hb; omega)
        rw [ih]
        by_cases z2 : A 30 s = 2
        · simp only [if_pos z2, hc0, List.isEmpty_cons, Bool.not_false]
        · simp only [if_neg z2, List.isEmpty_cons, Bool.not_false, wk_fr, wc_bo, hc0]
          cases r with
          | nil => rfl
          | cons b r => rfl
    · rw [if_neg z]
      refine wk_mk h1 (fun d hd => h2 d (by omega)) (fun c hc => ?_)
      have := h3 c hc
      by_cases y : c.2 + k = n
      · exact absurd ((h2 n (Nat.lt_succ_self _)).mpr ⟨c, hc, y.symm⟩) z
      · omega
theorem wk_made {A : mq_A} {gd : Nat → List (Nat × Nat)} {sg dr el : Int} (hD : wn_D gd sg dr (A 31) (A 32) (A 37) (A 38)) (hS : wn_S sg el (A 30) (A 31) (A 32)) (hdr : 0 ≤ dr) {s k : Nat} (hs : (s : Int) < sg) (hk : (k : Int) < A 31 s) (hb : A 30 s ≠ 2 → ∀ c ∈ gd s, wk_b8 (A 39 (c.2 + k))) : mq_made A dr s (A 32 s + k) = wc_to (A 30 s) (A 35 (A 32 s + k).toNat) (A 39) k (gd s) := by
  obtain ⟨y1, y2, y3, y4, y5, y6⟩ := hS.1 s hs
  obtain ⟨nd1, nd2, nd3⟩ := hD.1 s hs
  have e := wk_mk (A := A) (s := s) (e := A 32 s + k) (k := k) (n := dr.toNat) (l := gd s) (nd1.imp (fun h => by omega)) (fun d hd => by
    constructor
    · intro z
      obtain ⟨c, hc, e1, e2⟩ := wn_D_u hD hS hs (k := (k : Int)) (by omega) hk (by omega) z
      exact ⟨c, hc, by omega⟩
    · rintro ⟨c, hc, rfl⟩
      exact ((nd3 c hc).2 k hk).2) (fun c hc => by have := (nd3 c hc).1; omega)
  unfold mq_made
  rw [e]
  cases hl : gd s with
  | nil => simp [wc_to]
  | cons c r =>
    simp only [List.isEmpty_cons, Bool.not_false, wc_to, if_true]
    by_cases z2 : A 30 s = 2
    · rw [if_pos z2, if_pos z2]
    · rw [if_neg z2, if_neg z2, wk_fr_l]
      intro b hb'
      exact hb z2 b (by rw [hl]; exact hb')
