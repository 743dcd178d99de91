/-! THE KERNEL, 7: updateSignals -/
def wk_vf (nw : Int) (a39 : Nat → Int) (ct : Nat → List (Int × Int)) (d : Nat) : Int := wc_va nw (a39 d) (ct d)
/-- the value of an element made of its drivers, when they have taken what is due -/
def wk_y (nw : Int) (A : mq_A) (ct : Nat → List (Int × Int)) (gd : Nat → List (Nat × Nat)) (s k : Nat) : Int := wc_to (A 30 s) (A 35 (A 32 s + k).toNat) (wk_vf nw (A 39) ct) k (gd s)
def wk_us (I2 L2 : wm_F Int) (g : Nat → Nat → Nat) (gd : Nat → List (Nat × Nat)) (A : mq_A) (ct : Nat → List (Int × Int)) (nw : Int) (s : Nat) : Prop :=
  ∃ a : Int, I2 5 5 (g 1 s) = a ∧ wc_ac (wc_in (gd s) (A 31 s).toNat) nw ct a ∧
   (((a = 0 ∨ ∀ k : Nat, (k : Int) < A 31 s → wk_y nw A ct gd s k = A 35 (A 32 s + k).toNat) ∧ wc_bi L2 (g 0 9) s = false ∧ ∀ k : Nat, (k : Int) < A 31 s → I2 26 k (g 2 s) = A 35 (A 32 s + k).toNat ∧ I2 27 k (g 3 s) = A 36 (A 32 s + k).toNat) ∨
    (a ≠ 0 ∧ (∃ k : Nat, (k : Int) < A 31 s ∧ wk_y nw A ct gd s k ≠ A 35 (A 32 s + k).toNat) ∧ wc_bi L2 (g 0 9) s = true ∧ ∀ k : Nat, (k : Int) < A 31 s → I2 26 k (g 2 s) = wk_y nw A ct gd s k ∧ I2 27 k (g 3 s) = A 35 (A 32 s + k).toNat))
def wk_uf (I L : wm_F Int) (R : wm_F (Option Nat)) (I2 L2 : wm_F Int) (R2 : wm_F (Option Nat)) (z9 : Nat) : Prop :=
  (∀ t, t ≠ 4 → t ≠ 7 → t ≠ 9 → t ≠ 5 → t ≠ 26 → t ≠ 27 → I2 t = I t) ∧ (I2 5 0 = I 5 0 ∧ I2 5 1 = I 5 1) ∧ (∀ t, t ≠ 25 → L2 t = L t) ∧ (∀ j y, y ≠ z9 → L2 25 j y = L 25 j y) ∧ (∀ t, t ≠ 4 → t ≠ 7 → t ≠ 9 → R2 t = R t)
def wk_sb (gd : Nat → List (Nat × Nat)) (a31 : Nat → Int) (s d : Nat) : Prop := ∃ s' : Nat, s' < s ∧ wc_in (gd s') (a31 s').toNat d
def wk_ur (tg ln : Nat → Nat) (I2 L2 : wm_F Int) (R2 : wm_F (Option Nat)) (n : Nat) (g : Nat → Nat → Nat) (gd : Nat → List (Nat × Nat)) (dr : Int) (A : mq_A) (ct : Nat → List (Int × Int)) (nw : Int) (s : Nat) : Prop := ∃ vl2 ct2, wc_rv (tg, ln, I2, L2, R2, n) (g 0 2) dr.toNat (g 7) vl2 ct2 ∧ wc_tq (wk_sb gd (A 31) s) nw (A 39) ct vl2 ct2
/-- the signals below s are done -/
def wk_ud (tg ln : Nat → Nat) (I L : wm_F Int) (R : wm_F (Option Nat)) (n : Nat) (I2 L2 : wm_F Int) (R2 : wm_F (Option Nat)) (g : Nat → Nat → Nat) (gd : Nat → List (Nat × Nat)) (sg dr : Int) (A : mq_A) (ct : Nat → List (Int × Int)) (nw : Int) (s : Nat) : Prop :=
  wk_uf I L R I2 L2 R2 (g 0 9) ∧ wk_ur tg ln I2 L2 R2 n g gd dr A ct nw s ∧ (∀ s' : Nat, s' < s → wk_us I2 L2 g gd A ct nw s') ∧ (∀ s' : Nat, s ≤ s' → (s' : Int) < sg → ∀ k : Nat, (k : Int) < A 31 s' → I2 26 k (g 2 s') = A 35 (A 32 s' + k).toNat ∧ I2 27 k (g 3 s') = A 36 (A 32 s' + k).toNat) ∧ (∀ s' : Nat, s ≤ s' → s' < 256 → wc_bi L2 (g 0 9) s' = false)
/-- the signal s has taken what is due -/
def wk_um (tg ln : Nat → Nat) (I L : wm_F Int) (R : wm_F (Option Nat)) (n : Nat) (I2 L2 : wm_F Int) (R2 : wm_F (Option Nat)) (g : Nat → Nat → Nat) (gd : Nat → List (Nat × Nat)) (sg dr : Int) (A : mq_A) (ct : Nat → List (Int × Int)) (nw : Int) (s : Nat) (a : Int) : Prop :=
  wk_uf I L R I2 L2 R2 (g 0 9) ∧ wk_ur tg ln I2 L2 R2 n g gd dr A ct nw (s + 1) ∧ (∀ s' : Nat, s' < s → wk_us I2 L2 g gd A ct nw s') ∧ (∀ s' : Nat, s ≤ s' → (s' : Int) < sg → ∀ k : Nat, (k : Int) < A 31 s' → I2 26 k (g 2 s') = A 35 (A 32 s' + k).toNat ∧ I2 27 k (g 3 s') = A 36 (A 32 s' + k).toNat) ∧ (∀ s' : Nat, s ≤ s' → s' < 256 → wc_bi L2 (g 0 9) s' = false) ∧ I2 5 5 (g 1 s) = a ∧ wc_ac (wc_in (gd s) (A 31 s).toNat) nw ct a
theorem wk_in_u {gd : Nat → List (Nat × Nat)} {sg dr el : Int} {a30 a31 a32 a37 a38 : Nat → Int} (hD : wn_D gd sg dr a31 a32 a37 a38) (hS : wn_S sg el a30 a31 a32) {s s' d : Nat} (hs : (s : Int) < sg) (hs' : (s' : Int) < sg) (h : wc_in (gd s) (a31 s).toNat d) (h' : wc_in (gd s') (a31 s').toNat d) : s = s' := by
  obtain ⟨c, hc, x1, x2⟩ := h
  obtain ⟨c', hc', y1, y2⟩ := h'
  have e1 := (((hD.1 s hs).2.2 c hc).2 (d - c.2) (by omega)).2
  have e2 := (((hD.1 s' hs').2.2 c' hc').2 (d - c'.2) (by omega)).2
  rw [show c.2 + (d - c.2) = d from by omega] at e1
  rw [show c'.2 + (d - c'.2) = d from by omega] at e2
  exact (wn_S_i hS hs hs' (k := ((d - c.2 : Nat) : Int)) (k' := ((d - c'.2 : Nat) : Int)) (by omega) (by omega) (by omega) (by omega) (e1.symm.trans e2)).1
theorem wk_ac_c {S : Nat → Prop} {nw a : Int} {ct ct2 : Nat → List (Int × Int)} (h : ∀ d, S d → ct2 d = ct d) (k : wc_ac S nw ct2 a) : wc_ac S nw ct a := by
  have e : wc_ha S nw ct ↔ wc_ha S nw ct2 := by
    constructor
    · rintro ⟨d, y, x1, x2, x3⟩
      exact ⟨d, y, x1, by rw [h d x1]; exact x2, x3⟩
    · rintro ⟨d, y, x1, x2, x3⟩
      exact ⟨d, y, x1, by rw [← h d x1]; exact x2, x3⟩
  unfold wc_ac at k ⊢
  rw [e]
  exact k
/-- taking what is due, and the mark -/
theorem wk_um_i {tg ln : Nat → Nat} {I L I2 L2 I3 : wm_F Int} {R R2 R3 : wm_F (Option Nat)} {n : Nat} {g : Nat → Nat → Nat} {gd : Nat → List (Nat × Nat)} {sg dr el nw : Int} {A : mq_A} {ct : Nat → List (Int × Int)} {s : Nat} {a : Int} {a37 a38 : Nat → Int} (hS : wn_S sg el (A 30) (A 31) (A 32)) (hD : wn_D gd sg dr (A 31) (A 32) a37 a38) (hs : (s : Int) < sg) (hgs : ∀ s' : Nat, (s' : Int) < sg → s' ≠ s → g 1 s' ≠ g 1 s)
    (h : wk_ud tg ln I L R n I2 L2 R2 g gd sg dr A ct nw s) {vl2 vl3 : Nat → Int} {ct2 ct3 : Nat → List (Int × Int)} (q1 : wc_tq (wk_sb gd (A 31) s) nw (A 39) ct vl2 ct2) (r3 : wc_rv (tg, ln, I3, L2, R3, n) (g 0 2) dr.toNat (g 7) vl3 ct3) (f3 : wc_fx (tg, ln, I2, L2, R2, n) (tg, ln, I3, L2, R3, n)) (q3 : wc_tq (wc_in (gd s) (A 31 s).toNat) nw vl2 ct2 vl3 ct3) (ha : wc_ac (wc_in (gd s) (A 31 s).toNat) nw ct2 a) : wk_um tg ln I L R n (wm_up I3 5 5 (g 1 s) a) L2 R3 g gd sg dr A ct nw s a := by
  obtain ⟨⟨u1, ⟨u2, u3⟩, u4, u5, u6⟩, -, h3, h4, h5⟩ := h
  obtain ⟨-, -, -, f4⟩ := f3
  have fI : ∀ t, t ≠ 4 → t ≠ 7 → t ≠ 9 → I3 t = I2 t := fun t x1 x2 x3 => (f4 t x1 x2 x3).1
  have fR : ∀ t, t ≠ 4 → t ≠ 7 → t ≠ 9 → R3 t = R2 t := fun t x1 x2 x3 => (f4 t x1 x2 x3).2.2
  have dj : ∀ d, wc_in (gd s) (A 31 s).toNat d → ¬ wk_sb gd (A 31) s d := fun d hd z => by
    obtain ⟨s', z1, z2⟩ := z
    have := wk_in_u hD hS hs (s' := s') (by omega) hd z2
    omega
  have i26 : (wm_up I3 5 5 (g 1 s) a) 26 = I2 26 := by rw [wm_up_t (by decide)]; exact fI 26 (by decide) (by decide) (by decide)
  have i27 : (wm_up I3 5 5 (g 1 s) a) 27 = I2 27 := by rw [wm_up_t (by decide)]; exact fI 27 (by decide) (by decide) (by decide)
  refine ⟨⟨fun t x1 x2 x3 x4 x5 x6 => ?_, ⟨?_, ?_⟩, u4, u5, fun t x1 x2 x3 => (fR t x1 x2 x3).trans (u6 t x1 x2 x3)⟩, ⟨vl3, ct3, wc_rv_e (Nat.le_refl _) ⟨wm_up_t (by decide), wm_up_t (by decide), wm_up_t (by decide), rfl, rfl, rfl, rfl⟩ r3, fun d => ?_⟩, fun s' hs' => ?_, fun s' x1 x2 k hk => ?_, h5, wm_up_self, wk_ac_c (fun d hd => ((q1 d).2 (dj d hd)).2) ha⟩
  · rw [wm_up_t x4, fI t x1 x2 x3]
    exact u1 t x1 x2 x3 x4 x5 x6
  · rw [wm_up_k (by decide), fI 5 (by decide) (by decide) (by decide)]
    exact u2
  · rw [wm_up_k (by decide), fI 5 (by decide) (by decide) (by decide)]
    exact u3
  · constructor
    · rintro ⟨s', z1, z2⟩
      by_cases z : s' = s
      · subst z
        have y := (q1 d).2 (dj d z2)
        have w := (q3 d).1 z2
        rw [y.1, y.2] at w
        exact w
      · have y : wk_sb gd (A 31) s d := ⟨s', by omega, z2⟩
        have w := (q3 d).2 (fun k => dj d k y)
        rw [w.1, w.2]
        exact (q1 d).1 y
    · intro z
      have w := (q3 d).2 (fun k => z ⟨s, Nat.lt_succ_self _, k⟩)
      rw [w.1, w.2]
      exact (q1 d).2 (fun k => by obtain ⟨s', z1, z2⟩ := k; exact z ⟨s', by omega, z2⟩)
  · obtain ⟨a', e1, e2, e3⟩ := h3 s' hs'
    refine ⟨a', ?_, e2, ?_⟩
    · rw [wm_up_q (hgs s' (by omega) (by omega)), fI 5 (by decide) (by decide) (by decide)]
      exact e1
    · rw [i26, i27]
      exact e3
  · rw [i26, i27]
    exact h4 s' x1 x2 k hk
theorem wk_um_0 {tg ln : Nat → Nat} {I L I2 L2 : wm_F Int} {R R2 : wm_F (Option Nat)} {n : Nat} {g : Nat → Nat → Nat} {gd : Nat → List (Nat × Nat)} {sg dr nw : Int} {A : mq_A} {ct : Nat → List (Int × Int)} {s : Nat} {a : Int} (hs : (s : Int) < sg) (hg : sg ≤ 200) (h : wk_um tg ln I L R n I2 L2 R2 g gd sg dr A ct nw s a) (h0 : a = 0 ∨ ∀ k : Nat, (k : Int) < A 31 s → wk_y nw A ct gd s k = A 35 (A 32 s + k).toNat) : wk_ud tg ln I L R n I2 L2 R2 g gd sg dr A ct nw (s + 1) := by
  obtain ⟨h1, h2, h3, h4, h5, h6, h7⟩ := h
  refine ⟨h1, h2, fun s' hs' => ?_, fun s' x1 x2 => h4 s' (by omega) x2, fun s' x1 x2 => h5 s' (by omega) x2⟩
  by_cases z : s' = s
  · subst z
    exact ⟨a, h6, h7, Or.inl ⟨h0, h5 s' (Nat.le_refl _) (by omega), h4 s' (Nat.le_refl _) hs⟩⟩
  · exact h3 s' (by omega)
theorem wk_um_1 {tg ln : Nat → Nat} {I L I2 L2 I3 L3 : wm_F Int} {R R2 : wm_F (Option Nat)} {n : Nat} {g : Nat → Nat → Nat} {gd : Nat → List (Nat × Nat)} {sg dr nw : Int} {A : mq_A} {ct : Nat → List (Int × Int)} {s : Nat} {a : Int} (hs : (s : Int) < sg) (hg : sg ≤ 200) (hgv : ∀ s' : Nat, (s' : Int) < sg → s' ≠ s → g 2 s' ≠ g 2 s ∧ g 3 s' ≠ g 3 s) (h : wk_um tg ln I L R n I2 L2 R2 g gd sg dr A ct nw s a) (h0 : a ≠ 0) (h9 : ∃ k : Nat, (k : Int) < A 31 s ∧ wk_y nw A ct gd s k ≠ A 35 (A 32 s + k).toNat)
    (hy : ∀ k : Nat, (k : Int) < A 31 s → wc_uy I2 (g 7) (g 1 s) (g 2 s) (gd s) k = wk_y nw A ct gd s k) (hu : wc_ug I2 I3 (g 7) (g 1 s) (gd s) (g 2 s) (g 3 s) (A 31 s).toNat) (hL : ∀ t j y, t ≠ 25 ∨ y ≠ g 0 9 → L3 t j y = L2 t j y) (hb : ∀ k, k < 256 → wc_bi L3 (g 0 9) k = (wc_bi L2 (g 0 9) k || decide (k = s))) : wk_ud tg ln I L R n I3 L3 R2 g gd sg dr A ct nw (s + 1) := by
  obtain ⟨⟨u1, ⟨u2, u3⟩, u4, u5, u6⟩, ⟨vl2, ct2, r1, r2⟩, h3, h4, h5, h6, h7⟩ := h
  obtain ⟨v1, v2⟩ := hu
  have it : ∀ t, t ≠ 26 → t ≠ 27 → I3 t = I2 t := fun t x1 x2 => funext fun j => funext fun y => v1 t j y (fun z => x1 z.1) (fun z => x2 z.1)
  have lt : ∀ t, t ≠ 25 → L3 t = L2 t := fun t x1 => funext fun j => funext fun y => hL t j y (Or.inl x1)
  refine ⟨⟨fun t x1 x2 x3 x4 x5 x6 => (it t x5 x6).trans (u1 t x1 x2 x3 x4 x5 x6), ⟨by rw [it 5 (by decide) (by decide)]; exact u2, by rw [it 5 (by decide) (by decide)]; exact u3⟩, fun t x1 => (lt t x1).trans (u4 t x1), fun j y hy => (hL 25 j y (Or.inr hy)).trans (u5 j y hy), u6⟩, ⟨vl2, ct2, wc_rv_e (Nat.le_refl _) ⟨it 4 (by decide) (by decide), it 7 (by decide) (by decide), it 9 (by decide) (by decide), lt 9 (by decide), rfl, rfl, rfl⟩ r1, r2⟩, fun s' hs' => ?_, fun s' x1 x2 k hk => ?_, fun s' x1 x2 => ?_⟩
  · by_cases z : s' = s
    · subst z
      refine ⟨a, ?_, h7, Or.inr ⟨h0, h9, ?_, fun k hk => ?_⟩⟩
      · rw [it 5 (by decide) (by decide)]
        exact h6
      · rw [hb s' (by omega), decide_eq_true rfl, Bool.or_true]
      · obtain ⟨e1, e2⟩ := v2 k (by omega)
        rw [e1, e2, hy k hk, (h4 s' (Nat.le_refl _) hs k hk).1]
        exact ⟨rfl, rfl⟩
    · obtain ⟨a', e1, e2, e3⟩ := h3 s' (by omega)
      obtain ⟨g2, g3⟩ := hgv s' (by omega) z
      refine ⟨a', ?_, e2, ?_⟩
      · rw [it 5 (by decide) (by decide)]
        exact e1
      · have b1 : wc_bi L3 (g 0 9) s' = wc_bi L2 (g 0 9) s' := by rw [hb s' (by omega), decide_eq_false z, Bool.or_false]
        have b2 : ∀ k, I3 26 k (g 2 s') = I2 26 k (g 2 s') := fun k => v1 26 k _ (fun y => g2 y.2.1) (fun y => absurd y.1 (by decide))
        have b3 : ∀ k, I3 27 k (g 3 s') = I2 27 k (g 3 s') := fun k => v1 27 k _ (fun y => absurd y.1 (by decide)) (fun y => g3 y.2.1)
        rw [b1]
        simp only [b2, b3]
        exact e3
  · obtain ⟨g2, g3⟩ := hgv s' x2 (by omega)
    rw [v1 26 k _ (fun y => g2 y.2.1) (fun y => absurd y.1 (by decide)), v1 27 k _ (fun y => absurd y.1 (by decide)) (fun y => g3 y.2.1)]
    exact h4 s' (by omega) x2 k hk
  · rw [hb s' x2, decide_eq_false (by omega), Bool.or_false]
    exact h5 s' (by omega) x2
theorem wc_va_b {t : Int} : ∀ {l : List (Int × Int)} {v : Int}, (0 ≤ v ∧ v ≤ 8) → (∀ y ∈ l, 0 ≤ y.2 ∧ y.2 ≤ 8) → 0 ≤ wc_va t v l ∧ wc_va t v l ≤ 8
  | [], _, h, _ => h
  | y :: r, v, h, hl => by
    simp only [wc_va]
    split
    · exact wc_va_b (hl y List.mem_cons_self) (fun b hb => hl b (List.mem_cons_of_mem _ hb))
    · exact h
/-- what the signal's drivers show then -/
theorem wk_um_v {tg ln : Nat → Nat} {I L I2 L2 : wm_F Int} {R R2 : wm_F (Option Nat)} {n : Nat} {g : Nat → Nat → Nat} {gd : Nat → List (Nat × Nat)} {sg dr nw : Int} {A : mq_A} {ct : Nat → List (Int × Int)} {s : Nat} {a : Int} (hs : (s : Int) < sg) (hc : ∀ c ∈ gd s, ((c.2 + (A 31 s).toNat : Nat) : Int) ≤ dr) (h : wk_um tg ln I L R n I2 L2 R2 g gd sg dr A ct nw s a) : ∀ c ∈ gd s, ∀ k : Nat, k < (A 31 s).toNat → tg (g 7 (c.2 + k)) = 4 ∧ I2 4 2 (g 7 (c.2 + k)) = wk_vf nw (A 39) ct (c.2 + k) := by
  intro c hcm k hk
  obtain ⟨-, ⟨vl2, ct2, ⟨-, -, -, cs, ids, r1, r2⟩, r3⟩, -⟩ := h
  have hd : c.2 + k < dr.toNat := by have := hc c hcm; omega
  refine ⟨(r1.2.1 _ hd).1, ?_⟩
  have e := (r2 _ hd).1
  simp only at e
  rw [e]
  exact ((r3 (c.2 + k)).1 ⟨s, Nat.lt_succ_self _, c, hcm, by omega, by omega⟩).1
def sc_34 (as : List wi_V) (h : wc_H) (q : wi_Q1 wc_H) (qt : wi_Q2 wc_H) : Prop := wc_sT as (fun x => wc_f h fun tg ln I L R n => ∃ (g : Nat → Nat → Nat) (gd : Nat → List (Nat × Nat)) (lm st sg el dr pr wc sp nw : Int) (A B : mq_A) (ct : Nat → List (Int × Int)), wk_K (tg, ln, I, L, R, n) x g gd lm st sg el dr pr wc sp nw A B ct ∧ (0 ≤ sg ∧ sg ≤ 200 ∧ 0 ≤ pr ∧ pr ≤ 64 ∧ 0 ≤ dr ∧ 0 ≤ nw) ∧ (∃ el, wn_S sg el (A 30) (A 31) (A 32)) ∧ wn_D gd sg dr (A 31) (A 32) (A 37) (A 38) ∧ wn_C gd sg dr nw (A 30) (A 31) (A 39) ct ∧ wn_T pr (A 46) (A 47) (B 48) ∧ ∀ I' L' R', wk_ud tg ln I L R n I' L' R' g gd sg dr A ct nw sg.toNat → q none (tg, ln, I', L', R', n))
theorem cm_34 {l : Launch} {D : va_G} {aC : wm_Y} {b0 : Nat} (hl0 : l.stackTraces = false) : wm_sp l D aC b0 34 (wi_lf (wc_Rl wc_ok) sc_34) := by
  refine wi_method (wc_lw wc_ok) 34 (cx := fun id => if id = 53 then sc_53 else if id = 54 then sc_54 else if id = 58 then sc_58 else if id = 62 then sc_62 else fun _ _ _ _ => False) (ids := ci_34) (tb := tb_34) (by decide +kernel) hl0 (wm_cxc (cm_53 hl0) oi_34 (fun h => wm_cxc (cm_54 hl0) h (fun h => wm_cxc (cm_58 hl0) h (fun h => wm_cxc (cm_62 hl0) h (fun h => wm_cxn h))))) (wm_tb_ok tk_34) (by decide +kernel) [9] 300 (fun as h q qt hs => ?_)
  obtain ⟨x, rfl, hs1⟩ := wc_sT_e hs
  clear hs
  obtain ⟨tg, ln, I, L, R, n⟩ := h
  have hs := id hs1
  clear hs1
  simp only [wc_f] at hs
  obtain ⟨g, gd, lm, st, sg, el, dr, pr, wc, sp, nw, A, B, ct, hK, ⟨u4, u5, u12, u13, u8, u18⟩, ⟨el', nS⟩, nD, nC, nT, h1⟩ := hs
  obtain ⟨hn, kN, kB, kS, kA, kV, kD, kR, kT, kU, kX1, kX2, kX3, kW⟩ := id hK
  obtain ⟨k0, k7, k8, k9, k10, k11, k12, k13⟩ := id kN
  obtain ⟨⟨b1, b2, b3, b4, b5, b6, b7, b8, b9⟩, ⟨c1, c2, c3, c4, c5, c6, c7, c8⟩, ⟨d1, d2, d3, d4, d5, d6, d7, d8, d9, d10, d11⟩⟩ := id kB
  refine ⟨rfl, fun mz pc lv sk h cu su => ∃ s : Nat, ∃ w2 : Option wi_V, ∃ I2 : wm_F Int, ∃ L2 : wm_F Int, ∃ R2 : wm_F (Option Nat), lv = [some (wi_rf (some x)), some (.inl ((s : Int))), w2] ∧ sk = [] ∧ h = (tg, ln, I2, L2, R2, n) ∧ cu = 0 ∧ su = 0 ∧ mz = sg.toNat - s ∧ (s : Int) ≤ sg ∧ wk_ud tg ln I L R n I2 L2 R2 g gd sg dr A ct nw s, mq_c1 (fun mz lv sk h cu su hI => ?_), ?_⟩
  · obtain ⟨s, w2, I2, L2, R2, rfl, rfl, rfl, rfl, rfl, rfl, p1, p2⟩ := hI
    have es : ((s : Int)).toNat = s := by omega
    obtain ⟨⟨f1, ⟨f2, f3⟩, f4, f5, f6⟩, ⟨vl2, ct2, r2, q2⟩, p3, p4, p5⟩ := id p2
    have e27 : I2 2 = I 2 := f1 2 (by decide) (by decide) (by decide) (by decide) (by decide) (by decide)
    have eR2 : R2 2 = R 2 := f6 2 (by decide) (by decide) (by decide)
    have eR20 : R2 20 = R 20 := f6 20 (by decide) (by decide) (by decide)
    have eR5 : R2 5 = R 5 := f6 5 (by decide) (by decide) (by decide)
    have eR6 : R2 6 = R 6 := f6 6 (by decide) (by decide) (by decide)
    have k7' : I2 2 7 x = sg := by rw [e27]; exact k7
    have b2' : R2 2 1 x = some (g 0 0) := by rw [eR2]; exact b2
    have d6' : R2 2 6 x = some (g 0 8) := by rw [eR2]; exact d6
    have k12' : L2 2 12 x = nw := by rw [f4 2 (by decide)]; exact k12
    by_cases hs : (s : Int) < sg
    · obtain ⟨s1, s2, s3, s4, s5, s6, s7, s8, s9, s10⟩ := kS.1 s hs
      obtain ⟨y1, y2, y3, y4, y5, y6⟩ := nS.1 s hs
      obtain ⟨nd1, nd2, nd3⟩ := nD.1 s hs
      have s1' : R2 20 (s : Int).toNat (g 0 0) = some (g 1 s) := by rw [es, eR20]; exact s1
      have l1 : (s : Int) < ln (g 0 0) := by omega
      have hw : I2 5 1 (g 1 s) = ((A 31 s).toNat : Int) := by rw [f3, s4]; omega
      have hw2 : (A 31 s).toNat ≤ 64 := by omega
      have hcD : ∀ c ∈ gd s, c.2 + (A 31 s).toNat ≤ dr.toNat := fun c hc => by have := (nd3 c hc).1; omega
      have dcs : ∀ I4 : wm_F Int, I4 3 = I2 3 → ∀ R4 : wm_F (Option Nat), R4 3 = R2 3 → R4 22 = R2 22 → R4 5 = R2 5 → wc_dc tg ln (I4 3) (R4 3) (R4 22) (A 31 s).toNat (g 7) (A 37) (R4 5 4 (g 1 s)) (gd s) := fun I4 e1 R4 e2 e3 e4 => by
        rw [e1, e2, e3, e4, f1 3 (by decide) (by decide) (by decide) (by decide) (by decide) (by decide), f6 3 (by decide) (by decide) (by decide), f6 22 (by decide) (by decide) (by decide), eR5]
        exact kD s hs
      have dc2 := dcs I2 rfl R2 rfl rfl rfl
      have hgs : ∀ s' : Nat, (s' : Int) < sg → s' ≠ s → g 1 s' ≠ g 1 s := fun s' x1 x2 => (kS.2 s' s x1 hs x2).1
      have hgv : ∀ s' : Nat, (s' : Int) < sg → s' ≠ s → g 2 s' ≠ g 2 s ∧ g 3 s' ≠ g 3 s := fun s' x1 x2 => (kS.2 s' s x1 hs x2).2
      have mk : ∀ I3 R3 vl3 ct3 a, wc_rv (tg, ln, I3, L2, R3, n) (g 0 2) dr.toNat (g 7) vl3 ct3 → wc_fx (tg, ln, I2, L2, R2, n) (tg, ln, I3, L2, R3, n) → wc_tq (wc_in (gd s) (A 31 s).toNat) nw vl2 ct2 vl3 ct3 → wc_ac (wc_in (gd s) (A 31 s).toNat) nw ct2 a →
          wk_um tg ln I L R n (wm_up I3 5 5 (g 1 s) a) L2 R3 g gd sg dr A ct nw s a ∧ (R3 3 = R2 3 ∧ R3 22 = R2 22 ∧ R3 5 = R2 5 ∧ R3 2 = R2 2 ∧ R3 6 = R2 6) ∧ (wm_up I3 5 5 (g 1 s) a) 3 = I2 3 ∧ (a = 0 ∨ a = 1) := fun I3 R3 vl3 ct3 a x1 x2 x3 x4 =>
        ⟨wk_um_i nS nD hs hgs p2 q2 x1 x2 x3 x4, ⟨(x2.2.2.2 3 (by decide) (by decide) (by decide)).2.2, (x2.2.2.2 22 (by decide) (by decide) (by decide)).2.2, (x2.2.2.2 5 (by decide) (by decide) (by decide)).2.2, (x2.2.2.2 2 (by decide) (by decide) (by decide)).2.2, (x2.2.2.2 6 (by decide) (by decide) (by decide)).2.2⟩, (by rw [wm_up_t (by decide)]; exact (x2.2.2.2 3 (by decide) (by decide) (by decide)).1), wc_ac_b x4⟩
      repeat' first
        | refine And.intro ?_ ?_
        | refine Exists.intro _ (And.intro s1' ?_)
        | refine Exists.intro (A 31 s).toNat (Exists.intro (g 7) (Exists.intro (A 37) (Exists.intro (gd s) (Exists.intro (g 0 2) (Exists.intro dr.toNat (Exists.intro vl2 (Exists.intro ct2 (And.intro hw (And.intro hw2 (And.intro dc2 (And.intro r2 (And.intro hcD (And.intro nd1 ?_)))))))))))))
        | refine Exists.intro (A 31 s).toNat (Exists.intro (g 7) (Exists.intro (A 37) (Exists.intro (gd s) (Exists.intro (g 2 s) (Exists.intro (g 3 s) (And.intro hw4 (And.intro hw2 (And.intro dc4 (And.intro s5' (And.intro s6 (And.intro lv1 (And.intro s8' (And.intro s9 (And.intro lv2 (And.intro rt (And.intro lb ?_))))))))))))))))
        | (intro I3 R3 vl3 ct3 a x1 x2 x3 x4; rw [k12'] at x3 x4; obtain ⟨m1, ⟨m2, m3, m4, m5, m6⟩, m7, m8⟩ := mk I3 R3 vl3 ct3 a x1 x2 x3 x4)
        | (intro I4 (e4 : I4 = wm_up I3 5 5 (g 1 s) a); subst e4; have t5 : (wm_up I3 5 5 (g 1 s) a) 5 5 (g 1 s) = a := wm_up_self; have hw4 : (wm_up I3 5 5 (g 1 s) a) 5 1 (g 1 s) = ((A 31 s).toNat : Int) := (by rw [m1.1.2.1.2, s4]; omega); have i50 : (wm_up I3 5 5 (g 1 s) a) 5 0 (g 1 s) = A 30 s := (by rw [m1.1.2.1.1]; exact s3); have dc4 := dcs _ m7 R3 m2 m3 m4; have vv := wk_um_v hs (fun c hc => (nd3 c hc).1) m1; have rt : ∀ c ∈ gd s, ∀ k : Nat, k < (A 31 s).toNat → tg (g 7 (c.2 + k)) = 4 := (fun c hc k hk => (vv c hc k hk).1); have lb : (wm_up I3 5 5 (g 1 s) a) 5 0 (g 1 s) ≠ 2 → ∀ c ∈ gd s, ∀ k : Nat, k < (A 31 s).toNat → 0 ≤ (wm_up I3 5 5 (g 1 s) a) 4 2 (g 7 (c.2 + k)) ∧ (wm_up I3 5 5 (g 1 s) a) 4 2 (g 7 (c.2 + k)) ≤ 8 := (fun z c hc k hk => (by rw [(vv c hc k hk).2]; have w9 := nC.2 s hs (by rw [← i50]; exact z) (c.2 + k) ⟨c, hc, by omega, by omega⟩; exact wc_va_b w9.1 w9.2)); have hy : ∀ k : Nat, (k : Int) < A 31 s → wc_uy (wm_up I3 5 5 (g 1 s) a) (g 7) (g 1 s) (g 2 s) (gd s) k = wk_y nw A ct gd s k := (fun k hk => (by unfold wc_uy wk_y; rw [i50, (m1.2.2.2.1 s (Nat.le_refl _) hs k hk).1]; exact wc_to_c (fun c hc => (vv c hc k (by omega)).2))); have s5' : R3 5 2 (g 1 s) = some (g 2 s) := (by rw [m4, eR5]; exact s5); have s8' : R3 5 3 (g 1 s) = some (g 3 s) := (by rw [m4, eR5]; exact s8); have lv1 : ln (g 2 s) = (A 31 s).toNat := (by omega); have lv2 : ln (g 3 s) = (A 31 s).toNat := (by omega); have d6'' : R3 2 6 x = some (g 0 8) := (by rw [m5]; exact d6'); have d8'' : R3 6 0 (g 0 8) = some (g 0 9) := (by rw [m6, eR6]; exact d8))
        | (intro (z9 : ∀ k : Nat, k < (A 31 s).toNat → wc_uy (wm_up I3 5 5 (g 1 s) a) (g 7) (g 1 s) (g 2 s) (gd s) k = (wm_up I3 5 5 (g 1 s) a) 26 k (g 2 s)); have n9 := wk_um_0 hs u5 m1 (Or.inr (fun k hk => (by rw [← hy k hk, z9 k (by omega)]; exact (m1.2.2.2.1 s (Nat.le_refl _) hs k hk).1))))
        | (intro (z9 : ∃ k : Nat, k < (A 31 s).toNat ∧ wc_uy (wm_up I3 5 5 (g 1 s) a) (g 7) (g 1 s) (g 2 s) (gd s) k ≠ (wm_up I3 5 5 (g 1 s) a) 26 k (g 2 s)) I5 (z10 : wc_ug (wm_up I3 5 5 (g 1 s) a) I5 (g 7) (g 1 s) (gd s) (g 2 s) (g 3 s) (A 31 s).toNat))
        | (intro L5 (z11 : ∀ t j y, t ≠ 25 ∨ y ≠ g 0 9 → L5 t j y = L2 t j y) (z12 : ∀ k, k < 256 → wc_bi L5 (g 0 9) k = (wc_bi L2 (g 0 9) k || decide (k = (s : Int).toNat))); rw [es] at z12; have n9 := wk_um_1 hs u5 hgv m1 (by omega) (by obtain ⟨k, hk, hk2⟩ := z9; exact ⟨k, by omega, by rw [← hy k (by omega), ← (m1.2.2.2.1 s (Nat.le_refl _) hs k (by omega)).1]; exact hk2⟩) hy z10 z11 z12)
        | exact hn
        | refine Exists.intro _ (And.intro (show _ = _ from by assumption) ?_)
        | refine Exists.intro _ (And.intro rfl (And.intro (by assumption) ?_))
        | refine Exists.intro _ (And.intro rfl ?_)
        | (intro h; try omega)
        | omega
        | (refine Exists.intro _ (And.intro ?_ (Exists.intro (s + 1) (Exists.intro (_) (Exists.intro (_) (Exists.intro (_) (Exists.intro (_) (And.intro rfl (And.intro rfl (And.intro rfl (And.intro rfl (And.intro rfl (And.intro rfl (?_))))))))))))) <;> first | omega | exact ⟨by omega, n9⟩)
        | (have n9 := wk_um_0 hs u5 m1 (Or.inl (by omega)); (refine Exists.intro _ (And.intro ?_ (Exists.intro (s + 1) (Exists.intro (_) (Exists.intro (_) (Exists.intro (_) (Exists.intro (_) (And.intro rfl (And.intro rfl (And.intro rfl (And.intro rfl (And.intro rfl (And.intro rfl (?_))))))))))))) <;> first | omega | exact ⟨by omega, n9⟩))
        | exact Nat.le_of_ble_eq_true rfl
        | assumption
    · have e9 : sg.toNat = s := by omega
      have f1 := h1 I2 L2 R2 (by rw [e9]; exact p2)
      repeat' first
        | refine And.intro ?_ ?_
        | refine Exists.intro _ (And.intro (show _ = _ from by assumption) ?_)
        | refine Exists.intro _ (And.intro rfl (And.intro (by assumption) ?_))
        | refine Exists.intro _ (And.intro rfl ?_)
        | (intro h; try omega)
        | omega
        | exact f1
        | exact Nat.le_of_ble_eq_true rfl
        | assumption
  · have p0 : ∀ L1, (∀ t j y, t ≠ 25 ∨ y ≠ g 0 9 → L1 t j y = L t j y) → (∀ s, s < 256 → wc_bi L1 (g 0 9) s = false) → wk_ud tg ln I L R n I L1 R g gd sg dr A ct nw 0 := fun L1 z1 z2 =>
      ⟨⟨fun _ _ _ _ _ _ _ => rfl, ⟨rfl, rfl⟩, fun t ht => funext fun j => funext fun y => z1 t j y (Or.inl ht), fun j y hy => z1 25 j y (Or.inr hy), fun _ _ _ _ => rfl⟩, ⟨A 39, ct, wc_rv_e (Nat.le_refl _) ⟨rfl, rfl, rfl, funext fun j => funext fun y => z1 9 j y (Or.inl (by decide)), rfl, rfl, rfl⟩ kR, fun d => ⟨fun z => by obtain ⟨s', y, -⟩ := z; omega, fun _ => ⟨rfl, rfl⟩⟩⟩, fun s' y => by omega, fun s' _ hs' => kV s' hs', fun s' _ hs' => z2 s' hs'⟩
    repeat' first
      | refine And.intro ?_ ?_
      | (intro L9 (z1 : ∀ t j y, t ≠ 25 ∨ y ≠ g 0 9 → L9 t j y = L t j y) z2)
      | refine Exists.intro _ (And.intro (show _ = _ from by assumption) ?_)
      | refine Exists.intro _ (And.intro rfl (And.intro (by assumption) ?_))
      | refine Exists.intro _ (And.intro rfl ?_)
      | (intro h; try omega)
      | omega
      | (refine Exists.intro _ (Exists.intro (0) (Exists.intro (_) (Exists.intro (_) (Exists.intro (_) (Exists.intro (_) (And.intro rfl (And.intro rfl (And.intro rfl (And.intro rfl (And.intro rfl (And.intro rfl (?_)))))))))))) <;> exact ⟨by omega, p0 L9 z1 z2⟩)
      | exact Nat.le_of_ble_eq_true rfl
      | assumption
