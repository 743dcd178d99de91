/-! THE KERNEL, 9: a cycle -/
theorem wc_dr_f {t : Int} : ∀ {l : List (Int × Int)}, l.Pairwise (fun a b => a.1 < b.1) → wc_dr t l = l.filter (fun x => decide (t < x.1))
  | [], _ => rfl
  | y :: r, h => by
    obtain ⟨h1, h2⟩ := List.pairwise_cons.mp h
    unfold wc_dr
    simp only [List.dropWhile_cons, List.filter_cons]
    by_cases z : y.1 ≤ t
    · rw [if_pos (decide_eq_true z), if_neg (by simp only [decide_eq_true_eq]; omega)]
      exact wc_dr_f h2
    · rw [if_neg (by simp only [decide_eq_true_eq]; omega), if_pos (by simp only [decide_eq_true_eq]; omega)]
      congr 1
      exact (List.filter_eq_self.mpr (fun a ha => by have := h1 a ha; simp only [decide_eq_true_eq]; omega)).symm
theorem mq_row_sum {A B : mq_A} {D : Nat} : ∀ {n : Nat}, (∀ j : Nat, j < n → 0 ≤ A 40 j ∧ A 40 j < D) → ((n : Nat) : Int) = mq_sum (fun d => ((mq_row A B (d : Int) n).length : Int)) D
  | 0, _ => by
    have : ∀ D : Nat, mq_sum (fun d => ((mq_row A B (d : Int) 0).length : Int)) D = 0 := fun D => by
      induction D with
      | zero => rfl
      | succ D ih => simp only [mq_sum]; rw [ih]; rfl
    rw [this]; rfl
  | n + 1, h => by
    have ih := mq_row_sum (A := A) (B := B) (D := D) (n := n) (fun j hj => h j (by omega))
    have hn := h n (Nat.lt_succ_self _)
    have e : mq_sum (fun d => ((mq_row A B (d : Int) (n + 1)).length : Int)) D = mq_sum (wc_u (fun d => ((mq_row A B (d : Int) n).length : Int)) (A 40 n).toNat (((mq_row A B ((A 40 n).toNat : Int) n).length : Int) + 1)) D := mq_sum_x (fun d hd => by
      simp only [mq_row, wc_u]
      by_cases z : d = (A 40 n).toNat
      · rw [if_pos (by omega), if_pos z, List.length_append, z]
        simp
      · rw [if_neg (by omega), if_neg z])
    rw [e, mq_sum_u (by omega)]
    omega
/-- the whole of a cycle's work, on both sides -/
theorem wk_cy {tg ln : Nat → Nat} {I L I0 L0 I1 L1 I2 : wm_F Int} {R R1 : wm_F (Option Nat)} {n x : Nat} {g : Nat → Nat → Nat} {gd : Nat → List (Nat × Nat)} {lm st sg el dr sz pr wc sp sp' nw t : Int} {A B : mq_A} {ct : Nat → List (Int × Int)}
    (hK : wk_K (tg, ln, I, L, R, n) x g gd lm st sg el dr pr wc sp nw A B ct) (hM : wn_M gd lm st sg el dr sz pr wc sp nw A B ct) (hst : st ≠ 0) (ht0 : 0 ≤ t) (ht1 : t ≤ 1152921504606846976) (hsp : 0 ≤ sp' ∧ sp' ≤ lm)
    (hI0 : I0 = wm_up I 2 13 x sp') (hL0 : L0 = wm_up L 2 12 x t) (hU : wk_ud tg ln I0 L0 R n I1 L1 R1 g gd sg dr A ct t sg.toNat) (hW : wk_wd I1 L1 I2 g pr t pr.toNat)
    {A1 B1 A2 A3 : mq_A} {kp : Int} (hC : mq_cy A B A1 B1 A2 A3 t kp sz sg dr pr) : wk_J (tg, ln, I2, L1, R1, n) x ([0, lm, st, sg, el, dr, kp, pr, wc, sp', t], A3, B1) := by
  obtain ⟨nR, nS, nD, nC, nV, nT, nW, nO, nQ, nZ⟩ := id hM
  obtain ⟨⟨u1, u2, u3⟩, ⟨u4, u5, u6, u7, u8, u9, u10, u11⟩, ⟨u12, u13, u14, u15, u16, u17, u18, u19⟩⟩ := id nR
  obtain ⟨hn, kN, kB, kS, kA, kV, kD, kR, kT, kU, kX1, kX2, kX3, kW⟩ := id hK
  obtain ⟨k0, k7, k8, k9, k10, k11, k12, k13⟩ := id kN
  obtain ⟨⟨b1, b2, b3, b4, b5, b6, b7, b8, b9⟩, ⟨c1, c2, c3, c4, c5, c6, c7, c8⟩, ⟨d1, d2, d3, d4, d5, d6, d7, d8, d9, d10, d11⟩⟩ := id kB
  obtain ⟨⟨m1, m2⟩, ⟨m3, m4, m5, m6, m7, m8⟩, m9, m10, ⟨m11, m12, m13, m14⟩, m15, m16, m17⟩ := hC
  obtain ⟨⟨f1, ⟨f2, f3⟩, f4, f5, f6⟩, ⟨vl2, ct2, r1, r2⟩, p3, -, p5⟩ := id hU
  obtain ⟨w1, w2, -⟩ := id hW
  have aT : ∀ a, a ≠ 33 → a ≠ 39 → a ≠ 40 → a ≠ 42 → a ≠ 34 → a ≠ 35 → a ≠ 36 → a ≠ 46 → A3 a = A a := fun a x1 x2 x3 x4 x5 x6 x7 x8 => by rw [m15 a x8, m11 a x5 x6 x7, m3 a x1 x2 x3 x4]
  have a30 : A3 30 = A 30 := aT 30 (by decide) (by decide) (by decide) (by decide) (by decide) (by decide) (by decide) (by decide)
  have a31 : A3 31 = A 31 := aT 31 (by decide) (by decide) (by decide) (by decide) (by decide) (by decide) (by decide) (by decide)
  have a32 : A3 32 = A 32 := aT 32 (by decide) (by decide) (by decide) (by decide) (by decide) (by decide) (by decide) (by decide)
  have a37 : A3 37 = A 37 := aT 37 (by decide) (by decide) (by decide) (by decide) (by decide) (by decide) (by decide) (by decide)
  have a38 : A3 38 = A 38 := aT 38 (by decide) (by decide) (by decide) (by decide) (by decide) (by decide) (by decide) (by decide)
  have a47 : A3 47 = A 47 := aT 47 (by decide) (by decide) (by decide) (by decide) (by decide) (by decide) (by decide) (by decide)
  have a49 : A3 49 = A 49 := aT 49 (by decide) (by decide) (by decide) (by decide) (by decide) (by decide) (by decide) (by decide)
  have a50 : A3 50 = A 50 := aT 50 (by decide) (by decide) (by decide) (by decide) (by decide) (by decide) (by decide) (by decide)
  have a51 : A3 51 = A 51 := aT 51 (by decide) (by decide) (by decide) (by decide) (by decide) (by decide) (by decide) (by decide)
  have c30 : A1 30 = A 30 := m3 30 (by decide) (by decide) (by decide) (by decide)
  have c31 : A1 31 = A 31 := m3 31 (by decide) (by decide) (by decide) (by decide)
  have c32 : A1 32 = A 32 := m3 32 (by decide) (by decide) (by decide) (by decide)
  have c35 : A1 35 = A 35 := m3 35 (by decide) (by decide) (by decide) (by decide)
  have c36 : A1 36 = A 36 := m3 36 (by decide) (by decide) (by decide) (by decide)
  have c37 : A1 37 = A 37 := m3 37 (by decide) (by decide) (by decide) (by decide)
  have c38 : A1 38 = A 38 := m3 38 (by decide) (by decide) (by decide) (by decide)
  have b48 : B1 48 = B 48 := m4 48 (by decide)
  have b52 : B1 52 = B 52 := m4 52 (by decide)
  have a33 : A3 33 = A1 33 := by rw [m15 33 (by decide), m11 33 (by decide) (by decide) (by decide)]
  have a39 : A3 39 = A1 39 := by rw [m15 39 (by decide), m11 39 (by decide) (by decide) (by decide)]
  have a34 : A3 34 = A2 34 := m15 34 (by decide)
  have a35 : A3 35 = A2 35 := m15 35 (by decide)
  have a36 : A3 36 = A2 36 := m15 36 (by decide)
  have d39 : ∀ d : Nat, (d : Int) < dr → A1 39 d = wk_vf t (A 39) ct d := fun d hd => by
    have e := m7 d (by omega)
    rw [Int.toNat_natCast, nQ.1 d hd, ← wc_va_f (nC.1 d hd).1] at e
    exact e
  have inD : ∀ (s d : Nat), (s : Int) < sg → wc_in (gd s) (A 31 s).toNat d → (d : Int) < dr ∧ A 32 s ≤ A 38 d ∧ A 38 d < A 32 s + A 31 s := fun s d hs hd => by
    obtain ⟨c, hc, x1, x2⟩ := hd
    obtain ⟨q1, q2⟩ := (nD.1 s hs).2.2 c hc
    obtain ⟨q3, q4⟩ := q2 (d - c.2) (by omega)
    rw [show c.2 + (d - c.2) = d from by omega] at q4
    exact ⟨by omega, by omega, by omega⟩
  have b8v : ∀ s : Nat, (s : Int) < sg → A 30 s ≠ 2 → ∀ d, wc_in (gd s) (A 31 s).toNat d → wk_b8 (A1 39 d) := fun s hs h2 d hd => by
    rw [d39 d (inD s d hs hd).1]
    have := nC.2 s hs h2 d hd
    exact wc_va_b this.1 this.2
  have made : ∀ s k : Nat, (s : Int) < sg → (k : Int) < A 31 s → mq_made A1 dr s (A 32 s + k) = wk_y t A ct gd s k := fun s k hs hk => by
    have e := wk_made (A := A1) (gd := gd) (sg := sg) (dr := dr) (el := el) (by rw [c31, c32, c37, c38]; exact nD) (by rw [c30, c31, c32]; exact nS) u8 hs (by rw [c31]; exact hk) (fun h2 c hc => b8v s hs (by rw [← c30]; exact h2) _ ⟨c, hc, by omega, by omega⟩)
    rw [c30, c32, c35] at e
    rw [e]
    unfold wk_y
    exact wc_to_c (fun c hc => d39 _ (inD s _ hs ⟨c, hc, by omega, by omega⟩).1)
  have due : ∀ s : Nat, (s : Int) < sg → (wc_ha (wc_in (gd s) (A 31 s).toNat) t ct ↔ mq_du A B t sz s) := fun s hs => by
    constructor
    · rintro ⟨d, y, x1, x2, x3⟩
      obtain ⟨q1, q2, q3⟩ := inD s d hs x1
      have hy : y ∈ ct d := List.mem_of_mem_head? x2
      rw [← nQ.1 d q1] at hy
      obtain ⟨j, j1, j2, j3⟩ := mq_row_o hy
      refine ⟨j, by omega, by omega, ?_, ?_, ?_⟩
      · rw [Int.toNat_natCast]
        rw [j3] at x3
        exact x3
      · rw [Int.toNat_natCast, Int.toNat_natCast, j2, Int.toNat_natCast]
        exact q2
      · rw [Int.toNat_natCast, Int.toNat_natCast, j2, Int.toNat_natCast]
        exact q3
    · rintro ⟨j, j1, j2, j3, j4, j5⟩
      obtain ⟨d, q1, q2, q3⟩ := wn_Q_i nQ (j := j.toNat) (by omega)
      rw [Int.toNat_natCast, q2, Int.toNat_natCast] at j4 j5
      obtain ⟨c, hc, e1, e2⟩ := wn_D_u nD nS hs (d := d) (k := A 38 d - A 32 s) (by omega) (by omega) q1 (by omega)
      obtain ⟨e, e3, e4⟩ := wk_hd (nC.1 d q1).1 q3
      simp only at e4
      exact ⟨d, e, ⟨c, hc, by omega, by omega⟩, e3, by omega⟩
  have act : ∀ (s : Nat) (a : Int), (s : Int) < sg → wc_ac (wc_in (gd s) (A 31 s).toNat) t ct a → a = A1 33 s := fun s a hs h => by
    have h2 := m9 s (by omega) hs
    rw [mq_ac, Int.toNat_natCast] at h2
    unfold wc_ac at h
    rw [due s hs] at h
    rcases h with ⟨x1, x2⟩ | ⟨x1, x2⟩ <;> rcases h2 with ⟨y1, y2⟩ | ⟨y1, y2⟩
    · omega
    · exact absurd x2 y2
    · exact absurd y2 x2
    · omega
  have sgl : ∀ s : Nat, (s : Int) < sg → I1 5 5 (g 1 s) = A3 33 s ∧ (wc_bi L1 (g 0 9) s = true ↔ A3 34 s ≠ 0) ∧ ∀ k : Nat, (k : Int) < A 31 s → I1 26 k (g 2 s) = A3 35 (A 32 s + k).toNat ∧ I1 27 k (g 3 s) = A3 36 (A 32 s + k).toNat := fun s hs => by
    obtain ⟨a, e1, e2, e3⟩ := p3 s (by omega)
    have ea := act s a hs e2
    have rd := m12 s (by omega) hs
    rw [mq_rd, Int.toNat_natCast, c35, c36] at rd
    have hin : ∀ j, mq_in A1 s j ↔ ∃ k : Nat, (k : Int) < A 31 s ∧ j = A 32 s + k := fun j => by
      unfold mq_in
      rw [Int.toNat_natCast, c31, c32]
      constructor
      · intro z
        exact ⟨(j - A 32 s).toNat, by omega, by omega⟩
      · rintro ⟨k, k1, k2⟩
        omega
    rw [a33, a34, a35, a36]
    refine ⟨by rw [e1]; exact ea, ?_⟩
    rcases e3 with ⟨x1, x2, x3⟩ | ⟨x1, x2, x3, x4⟩
    · rcases rd with ⟨y1, y2, y3⟩ | ⟨y1, y2, y3, y4⟩
      · rw [x2, y2]
        refine ⟨⟨fun z => (by cases z), fun z => absurd rfl z⟩, fun k hk => ?_⟩
        obtain ⟨q1, q2⟩ := y3 (A 32 s + k) ((hin _).mpr ⟨k, hk, rfl⟩)
        rw [q1, q2]
        exact x3 k hk
      · exfalso
        rcases x1 with x1 | x1
        · omega
        · obtain ⟨j, j1, j2⟩ := y2
          obtain ⟨k, k1, k2⟩ := (hin j).mp j1
          rw [k2, made s k hs k1] at j2
          exact j2 (x1 k k1)
    · rcases rd with ⟨y1, y2, y3⟩ | ⟨y1, y2, y3, y4⟩
      · exfalso
        rcases y1 with y1 | y1
        · omega
        · obtain ⟨k, k1, k2⟩ := x2
          have := y1 (A 32 s + k) ((hin _).mpr ⟨k, k1, rfl⟩)
          rw [made s k hs k1] at this
          exact k2 this
      · rw [x3, y3]
        refine ⟨⟨fun _ => (by decide), fun _ => rfl⟩, fun k hk => ?_⟩
        obtain ⟨q1, q2⟩ := y4 (A 32 s + k) ((hin _).mpr ⟨k, hk, rfl⟩)
        rw [q1, q2, made s k hs hk]
        exact x4 k hk
  have iT : ∀ a, a ≠ 4 → a ≠ 7 → a ≠ 9 → a ≠ 5 → a ≠ 26 → a ≠ 27 → a ≠ 8 → a ≠ 2 → I2 a = I a := fun a x1 x2 x3 x4 x5 x6 x7 x8 => by
    have : I2 a = I1 a := funext fun j => funext fun y => w1 a j y (fun z => x7 z.1)
    rw [this, f1 a x1 x2 x3 x4 x5 x6, hI0, wm_up_t x8]
  have iU : ∀ a j, a ≠ 8 → I2 a j = I1 a j := fun a j x1 => funext fun y => w1 a j y (fun z => x1 z.1)
  have iV : ∀ a, a ≠ 8 → I2 a = I1 a := fun a x1 => funext fun j => iU a j x1
  have lT : ∀ a, a ≠ 25 → a ≠ 2 → L1 a = L a := fun a x1 x2 => by rw [f4 a x1, hL0, wm_up_t x2]
  have l25 : ∀ j y, y ≠ g 0 9 → L1 25 j y = L 25 j y := fun j y hy => by rw [f5 j y hy, hL0, wm_up_t (by decide)]
  have i2 : I2 2 = wm_up I 2 13 x sp' 2 := by rw [iV 2 (by decide), f1 2 (by decide) (by decide) (by decide) (by decide) (by decide) (by decide), hI0]
  have l2 : L1 2 = wm_up L 2 12 x t 2 := by rw [f4 2 (by decide), hL0]
  have i8 : ∀ p : Nat, (p : Int) < pr → I1 8 1 (g 4 p) = A 46 p ∧ I1 8 2 (g 4 p) = A 47 p ∧ L1 8 3 (g 4 p) = B 48 p := fun p hp => by
    rw [f1 8 (by decide) (by decide) (by decide) (by decide) (by decide) (by decide), hI0, wm_up_t (by decide), lT 8 (by decide) (by decide)]
    exact kU p hp
  have x2b : ∀ s : Nat, s < 256 → (wc_bi L1 (g 0 9) s = true ↔ wk_e2 sg (A3 34) s) := fun s hs => by
    by_cases z : (s : Int) < sg
    · rw [(sgl s z).2.1]
      exact ⟨fun y => ⟨z, y⟩, fun y => y.2⟩
    · rw [p5 s (by omega) hs]
      exact ⟨fun y => (by cases y), fun y => absurd y.1 z⟩
  have x3b : ∀ p : Nat, (p : Int) < pr → ∀ s : Nat, s < 256 → (wc_bi L1 (g 6 p) s = true ↔ wk_e3 (A 49) p s) := fun p hp s hs => by
    unfold wc_bi
    rw [l25 _ _ (kT.1 p hp).2.2.2.2.2.2.2.2]
    exact kX3 p hp s hs
  have heard : ∀ p : Nat, (p : Int) < pr → (wk_me L1 g p ↔ mq_hd A2 sg p) := fun p hp => by
    constructor
    · rintro ⟨s, y1, y2, y3⟩
      have y2 := (x3b p hp s y1).mp y2
      have y3 := (x2b s y1).mp y3
      refine ⟨s, by omega, y3.1, ?_, ?_⟩
      · rw [Int.toNat_natCast, ← a34]
        exact y3.2
      · rw [show (200 * (p : Int) + (s : Int)).toNat = 200 * p + s from by omega, ← m15 49 (by decide), a49]
        exact y2.2
    · rintro ⟨j, y1, y2, y3, y4⟩
      refine ⟨j.toNat, by omega, (x3b p hp _ (by omega)).mpr ⟨by omega, ?_⟩, (x2b _ (by omega)).mpr ⟨by omega, ?_⟩⟩
      · rw [show (200 * (p : Int) + j).toNat = 200 * p + j.toNat from by omega, ← m15 49 (by decide), a49] at y4
        exact y4
      · rw [a34]
        exact y3
  have a46 : ∀ p : Nat, (p : Int) < pr → I2 8 1 (g 4 p) = A3 46 p ∧ 0 ≤ A3 46 p ∧ A3 46 p ≤ 3 := fun p hp => by
    obtain ⟨e1, e2, e3⟩ := i8 p hp
    have w := w2 p (by omega)
    have l := m16 p (by omega) hp
    rw [Int.toNat_natCast] at l
    unfold wk_wp at w
    unfold mq_lr at l
    rw [heard p hp, e1, e2, e3] at w
    rw [Int.toNat_natCast, m11 46 (by decide) (by decide) (by decide), m3 46 (by decide) (by decide) (by decide) (by decide), m11 47 (by decide) (by decide) (by decide), m3 47 (by decide) (by decide) (by decide) (by decide), b48] at l
    have t46 := (nT p hp).1
    by_cases hh : mq_hd A2 sg p
    · simp only [hh, not_true, false_and, and_false, or_false, true_and] at w l
      omega
    · simp only [hh, not_false_iff, false_and, and_false, or_false, false_or, true_and] at w l
      omega
  have rows : ∀ d : Nat, (d : Int) < dr → vl2 d = A3 39 d ∧ ct2 d = wc_dr t (ct d) := fun d hd => by
    obtain ⟨s, hs, hin⟩ := nD.2 d hd
    have := (r2 d).1 ⟨s, by omega, hin⟩
    rw [this.1, this.2, a39, d39 d hd]
    exact ⟨rfl, rfl⟩
  have rowm : ∀ d : Nat, (d : Int) < dr → mq_row A3 B1 d kp.toNat = wc_dr t (ct d) := fun d hd => by
    rw [mq_row_e (A := A1) (B := B1) (by rw [m15 40 (by decide), m11 40 (by decide) (by decide) (by decide)]) (by rw [m15 42 (by decide), m11 42 (by decide) (by decide) (by decide)]) rfl, m6 d, nQ.1 d hd, wc_dr_f (nC.1 d hd).1]
  have own : ∀ j : Nat, (j : Int) < kp → 0 ≤ A3 40 j ∧ A3 40 j < dr := fun j hj => by
    obtain ⟨j', y1, y2, y3, y4, -⟩ := m8 j (by omega) hj
    rw [Int.toNat_natCast] at y4
    rw [m15 40 (by decide), m11 40 (by decide) (by decide) (by decide), y4]
    exact nQ.2.1 j'.toNat (by omega)
  have drl : ∀ d : Nat, (d : Int) < dr → ∀ y ∈ wc_dr t (ct d), y ∈ ct d ∧ t < y.1 := fun d hd y hy => by
    rw [wc_dr_f (nC.1 d hd).1] at hy
    have := List.mem_filter.mp hy
    exact ⟨this.1, by simpa using this.2⟩
  refine ⟨g, gd, fun d => wc_dr t (ct d), ⟨hn, ?_, ?_, ?_, ?_, ?_, ?_, ?_, ?_, ?_, ?_, ?_, ?_, ?_⟩, ⟨?_, ?_, ?_, ?_, ?_, ?_, ?_, ?_, ?_, ?_⟩⟩
  · rw [i2, l2]
    exact ⟨by rw [wm_up_k (by decide)]; exact k0, by rw [wm_up_k (by decide)]; exact k7, by rw [wm_up_k (by decide)]; exact k8, by rw [wm_up_k (by decide)]; exact k9, by rw [wm_up_k (by decide)]; exact k10, by rw [wm_up_k (by decide)]; exact k11, wm_up_self, wm_up_self⟩
  · rw [f6 2 (by decide) (by decide) (by decide), f6 6 (by decide) (by decide) (by decide), f6 10 (by decide) (by decide) (by decide)]
    exact kB
  · rw [iU 5 0 (by decide), iU 5 1 (by decide), f2, f3, hI0, wm_up_t (by decide), f6 5 (by decide) (by decide) (by decide), f6 20 (by decide) (by decide) (by decide), a30, a31]
    exact kS
  · intro s hs
    rw [iU 5 5 (by decide)]
    exact (sgl s hs).1
  · intro s hs k hk
    rw [a31] at hk
    rw [iV 26 (by decide), iV 27 (by decide), a32]
    exact (sgl s hs).2.2 k hk
  · rw [iT 3 (by decide) (by decide) (by decide) (by decide) (by decide) (by decide) (by decide) (by decide), f6 3 (by decide) (by decide) (by decide), f6 22 (by decide) (by decide) (by decide), f6 5 (by decide) (by decide) (by decide), a31, a37]
    exact kD
  · exact wc_rv_x (wc_rv_e (Nat.le_refl _) ⟨iV 4 (by decide), iV 7 (by decide), iV 9 (by decide), rfl, rfl, rfl, rfl⟩ r1) (fun d hd => ⟨((rows d (by omega)).1).symm, ((rows d (by omega)).2).symm⟩)
  · rw [f6 8 (by decide) (by decide) (by decide), f6 6 (by decide) (by decide) (by decide), f6 21 (by decide) (by decide) (by decide)]
    exact kT
  · intro p hp
    rw [(a46 p hp).1, a47, b48]
    refine ⟨rfl, ?_, (i8 p hp).2.2⟩
    rw [w1 8 2 _ (by omega)]
    exact (i8 p hp).2.1
  · rw [a50]
    exact fun s hs => by rw [l25 _ _ d11]; exact kX1 s hs
  · exact x2b
  · rw [a49]
    exact x3b
  · rw [iT 24 (by decide) (by decide) (by decide) (by decide) (by decide) (by decide) (by decide) (by decide), iT 10 (by decide) (by decide) (by decide) (by decide) (by decide) (by decide) (by decide) (by decide), lT 23 (by decide) (by decide), a51, b52]
    exact kW
  · exact ⟨⟨u1, u2, u3⟩, ⟨u4, u5, u6, u7, u8, u9, m1, by omega⟩, ⟨u12, u13, u14, u15, hsp.1, hsp.2, ht0, ht1⟩⟩
  · rw [a30, a31, a32]; exact nS
  · rw [a31, a32, a37, a38]; exact nD
  · rw [a30, a31]
    refine ⟨fun d hd => ⟨?_, fun y hy => ?_⟩, fun s hs h2 d hd => ⟨?_, fun y hy => ?_⟩⟩
    · exact (nC.1 d hd).1.sublist (List.dropWhile_sublist _)
    · obtain ⟨q1, q2⟩ := drl d hd y hy
      exact ⟨by omega, ((nC.1 d hd).2 y q1).2⟩
    · rw [a39]
      exact b8v s hs h2 d hd
    · exact (nC.2 s hs h2 d hd).2 y (drl d (inD s d hs hd).1 y hy).1
  · intro z
    exact absurd z hst
  · intro p hp
    rw [a47, b48]
    exact ⟨(a46 p hp).2, (nT p hp).2⟩
  · rw [b52]; exact nW
  · rw [a50]; exact nO
  · refine ⟨rowm, own, ?_⟩
    have e := mq_row_sum (A := A3) (B := B1) (D := dr.toNat) (n := kp.toNat) (fun j hj => by have := own j (by omega); omega)
    rw [Int.toNat_of_nonneg m1] at e
    refine e.trans (mq_sum_x (fun d hd => ?_))
    rw [rowm d (by omega)]
  · rw [a31]; exact ⟨nZ.1, fun z => absurd z hst⟩
theorem wk_K_12 {tg ln : Nat → Nat} {I L : wm_F Int} {R : wm_F (Option Nat)} {n x : Nat} {g : Nat → Nat → Nat} {gd : Nat → List (Nat × Nat)} {lm st sg el dr pr wc sp nw : Int} {A B : mq_A} {ct : Nat → List (Int × Int)} (h : wk_K (tg, ln, I, L, R, n) x g gd lm st sg el dr pr wc sp nw A B ct) (sp' t : Int) : wk_K (tg, ln, wm_up I 2 13 x sp', wm_up L 2 12 x t, R, n) x g gd lm st sg el dr pr wc sp' t A B ct := by
  obtain ⟨hn, ⟨k0, k7, k8, k9, k10, k11, k12, k13⟩, kB, kS, kA, kV, kD, kR, kT, kU, kX1, kX2, kX3, kW⟩ := h
  refine ⟨hn, ⟨?_, ?_, ?_, ?_, ?_, ?_, wm_up_self, wm_up_self⟩, kB, ?_, ?_, ?_, ?_, wc_rv_e (Nat.le_refl _) ⟨wm_up_t (by decide), wm_up_t (by decide), wm_up_t (by decide), wm_up_t (by decide), rfl, rfl, rfl⟩ kR, kT, ?_, ?_, ?_, ?_, ?_⟩ <;> simp (disch := decide) only [wm_up_t, wm_up_k] <;> assumption
theorem wk_35 {tg ln : Nat → Nat} {I L I1 L1 : wm_F Int} {R R1 : wm_F (Option Nat)} {n x : Nat} {g : Nat → Nat → Nat} {gd : Nat → List (Nat × Nat)} {lm st sg el dr pr wc sp nw t : Int} {A B : mq_A} {ct : Nat → List (Int × Int)} {s : Nat} (h : wk_K (tg, ln, I, L, R, n) x g gd lm st sg el dr pr wc sp nw A B ct) (u : wk_ud tg ln I L R n I1 L1 R1 g gd sg dr A ct t s) : I1 2 8 x = pr ∧ R1 2 2 x = some (g 0 1) ∧ R1 2 6 x = some (g 0 8) ∧ R1 6 0 (g 0 8) = some (g 0 9) ∧ wk_T tg ln (R1 8 0) (R1 6) (R1 21) (g 0) (g 4) (g 5) (g 6) pr ∧ L1 2 12 x = nw := by
  obtain ⟨hn, ⟨k0, k7, k8, k9, k10, k11, k12, k13⟩, ⟨⟨b1, b2, b3, b4, b5, b6, b7, b8, b9⟩, -, ⟨d1, d2, d3, d4, d5, d6, d7, d8, -⟩⟩, kS, kA, kV, kD, kR, kT, kU, kX1, kX2, kX3, kW⟩ := h
  obtain ⟨⟨f1, ⟨f2, f3⟩, f4, f5, f6⟩, -⟩ := u
  rw [f1 2 (by decide) (by decide) (by decide) (by decide) (by decide) (by decide), f6 2 (by decide) (by decide) (by decide), f6 6 (by decide) (by decide) (by decide), f6 8 (by decide) (by decide) (by decide), f6 21 (by decide) (by decide) (by decide), f4 2 (by decide)]
  exact ⟨k8, b5, d6, d8, kT, k12⟩
def sc_14 (as : List wi_V) (h : wc_H) (q : wi_Q1 wc_H) (qt : wi_Q2 wc_H) : Prop := wc_sT as (fun x => wc_f h fun tg ln I L R n => ∃ M, wk_J (tg, ln, I, L, R, n) x M ∧ (∀ (r : Int) h', wk_Z sm_106 [wi_rf (some 11)] M h' x 0 (fun b => b = some (.inl r)) → q (some (.inl r)) h') ∧ (∀ h', wk_Z sm_106 [wi_rf (some 11)] M h' x 1 (fun b => ∃ v, b = some (.inl v)) → qt 2 h'))
theorem cm_14 {l : Launch} {D : va_G} {aC : wm_Y} {b0 : Nat} (hl0 : l.stackTraces = false) : wm_sp l D aC b0 14 (wi_lf (wc_Rl wc_ok) sc_14) := by
  refine wi_method (wc_lw wc_ok) 14 (cx := fun id => if id = 31 then sc_31 else if id = 32 then sc_32 else if id = 34 then sc_34 else if id = 35 then sc_35 else fun _ _ _ _ => False) (ids := ci_14) (tb := tb_14) (by decide +kernel) hl0 (wm_cxc (cm_31 hl0) oi_14 (fun h => wm_cxc (cm_32 hl0) h (fun h => wm_cxc (cm_34 hl0) h (fun h => wm_cxc (cm_35 hl0) h (fun h => wm_cxn h))))) (wm_tb_ok tk_14) (by decide +kernel) [] 300 (fun as h q qt hs => ?_)
  obtain ⟨x, rfl, hs1⟩ := wc_sT_e hs
  clear hs
  obtain ⟨tg, ln, I, L, R, n⟩ := h
  have hs := id hs1
  clear hs1
  simp only [wc_f] at hs
  refine ⟨rfl, fun _ _ _ _ _ _ _ => False, mq_nc, ?_⟩
  obtain ⟨M, hJ, f0, f1⟩ := hs
  obtain ⟨cd, lm, st, sg, el, dr, sz, pr, wc, sp, nw, A, B, rfl, g, gd, ct, hK, hM⟩ := mq_f_e hJ
  clear hJ
  obtain ⟨nR, nS, nD, nC, nV, nT, nW, nO, nQ, nZ⟩ := id hM
  obtain ⟨⟨u1, u2, u3⟩, ⟨u4, u5, u6, u7, u8, u9, u10, u11⟩, ⟨u12, u13, u14, u15, u16, u17, u18, u19⟩⟩ := id nR
  obtain ⟨hn, kN, kB, kS, kA, kV, kD, kR, kT, kU, kX1, kX2, kX3, kW⟩ := id hK
  obtain ⟨k0, k7, k8, k9, k10, k11, k12, k13⟩ := id kN
  obtain ⟨⟨b1, b2, b3, b4, b5, b6, b7, b8, b9⟩, ⟨c1, c2, c3, c4, c5, c6, c7, c8⟩, ⟨d1, d2, d3, d4, d5, d6, d7, d8, d9, d10, d11⟩⟩ := id kB
  obtain ⟨w1, w2, w3⟩ := id kW
  have eX : (st = 0 ∨ ∃ p : Nat, (p : Int) < pr ∧ (A 46 p = 0 ∨ A 46 p = 2)) → ∀ n', n ≤ n' → qt 2 (tg, ln, I, L, R, n') := by
    intro z0 n9 hn9
    refine f1 _ (fun Q T hQ => ?_)
    have bad : st ≠ 0 → (∀ j : Nat, (j : Int) < pr → A 46 j ≠ 0) → (∀ j : Nat, (j : Int) < pr → A 46 j ≠ 2) → False := fun y1 y2 y3 => by
      rcases z0 with z | ⟨p, z1, z2 | z2⟩
      · exact y1 z
      · exact y2 p z1 z2
      · exact y3 p z1 z2
    repeat' first
      | refine And.intro ?_ ?_
      | exact fun j y1 y2 => (by obtain ⟨d, d1, d2, d3⟩ := wn_Q_i nQ (j := j.toNat) (by omega); have := (nC.1 d d1).2 _ d3; simp only at this; omega)
      | exact fun j y1 y2 => (nT j.toNat (by omega)).2.2.1
      | exact fun s y1 y2 => (by have := nS.1 s.toNat (by omega); omega)
      | exact fun j y1 y2 => (by have := nQ.2.1 j.toNat (by omega); omega)
      | exact fun s1 s2 y1 y2 y3 => nS.2 s1.toNat s2.toNat (by omega) (by omega)
      | (intro (x1 : st = 0 ∨ (∃ j : Nat, (j : Int) < pr ∧ A 46 j = 0) ∨ (∃ j : Nat, (j : Int) < pr ∧ A 46 j = 2)))
      | (intro (x1 : st ≠ 0) (x2 : ∀ j : Nat, (j : Int) < pr → A 46 j ≠ 0) (x3 : ∀ j : Nat, (j : Int) < pr → A 46 j ≠ 2) t9 (h9 : mq_nx A B sz pr t9); exact (bad x1 x2 x3).elim)
      | (intro h; try omega)
      | omega
      | exact (bad (by assumption) (by assumption) (by assumption)).elim
      | exact hQ _ _ _ _ ⟨_, rfl⟩ ⟨g, gd, ct, wk_K_n hK hn9, hM⟩
      | assumption
  have hTT : ∀ p : Nat, (p : Int) < I 2 8 x → R 21 p (g 0 1) = some (g 4 p) ∧ tg (g 4 p) = 8 := fun p hp => ⟨(kT.1 p (by omega)).1, (kT.1 p (by omega)).2.1⟩
  have key : ∀ t, wk_sn (fun y => wk_t1 gd (A 31) ct sg y ∨ wk_t2 (A 46) (B 48) pr y) t → ∀ t', mq_nx A B sz pr t' → t' = t := fun t ht t' h9 => wk_nx (fun s hs c hc => ((nD.1 s hs).2.2 c hc).1) nD.2 (fun d hd => (nC.1 d hd).1) nQ ht h9
  have tb : ∀ t, wk_sn (fun y => wk_t1 gd (A 31) ct sg y ∨ wk_t2 (A 46) (B 48) pr y) t → t ≠ -1 → 0 ≤ t ∧ t ≤ 1152921504606846976 ∧ wn_C gd sg dr t (A 30) (A 31) (A 39) ct := fun t ht h1 => by
    rcases ht with ⟨z, -⟩ | ⟨z1, z2, z3⟩
    · exact absurd z h1
    · refine ⟨z1, ?_, fun d hd => ⟨(nC.1 d hd).1, fun y hy => ⟨?_, ((nC.1 d hd).2 y hy).2⟩⟩, nC.2⟩
      · rcases z2 with ⟨s, d, e, y1, ⟨c, hc, y2, y3⟩, y4, y5⟩ | ⟨p, y1, y2, y3, y4⟩
        · have hd := ((nD.1 s y1).2.2 c hc).1
          have := (nC.1 d (by omega)).2 e (List.mem_of_mem_head? y4)
          omega
        · have := (nT p y1).2.2.2
          omega
      · obtain ⟨e, e1, e2⟩ := wk_hd (nC.1 d hd).1 hy
        obtain ⟨s, s1, s2⟩ := nD.2 d hd
        have := z3 e.1 (Or.inl ⟨s, d, e, s1, s2, e1, rfl⟩)
        omega
  have nb : (∀ p : Nat, (p : Int) < I 2 8 x → I 8 1 (g 4 p) ≠ 0 ∧ I 8 1 (g 4 p) ≠ 2) → ¬ ((∃ j : Nat, (j : Int) < pr ∧ A 46 j = 0) ∨ (∃ j : Nat, (j : Int) < pr ∧ A 46 j = 2)) := fun z y => by
    rcases y with ⟨j, y1, y2⟩ | ⟨j, y1, y2⟩
    · have := z j (by omega)
      rw [(kU j y1).1] at this
      omega
    · have := z j (by omega)
      rw [(kU j y1).1] at this
      omega
  have bs : (∃ p : Nat, (p : Int) < I 2 8 x ∧ (I 8 1 (g 4 p) = 0 ∨ I 8 1 (g 4 p) = 2)) → ∀ n', n ≤ n' → qt 2 (tg, ln, I, L, R, n') := fun z => by
    obtain ⟨p, z1, z2⟩ := z
    rw [(kU p (by omega)).1] at z2
    exact eX (Or.inr ⟨p, by omega, z2⟩)
  have e0 : st ≠ 0 → (∀ p : Nat, (p : Int) < I 2 8 x → I 8 1 (g 4 p) ≠ 0 ∧ I 8 1 (g 4 p) ≠ 2) → wk_sn (fun y => wk_t1 gd (A 31) ct sg y ∨ wk_t2 (A 46) (B 48) pr y) (-1) → q (some (.inl 0)) (tg, ln, I, L, R, n) := by
    intro z0 z1 z2
    have z1 := nb z1
    refine f0 _ _ (fun Q T hQ => ?_)
    repeat' first
      | refine And.intro ?_ ?_
      | exact fun j y1 y2 => (by obtain ⟨d, d1, d2, d3⟩ := wn_Q_i nQ (j := j.toNat) (by omega); have := (nC.1 d d1).2 _ d3; simp only at this; omega)
      | exact fun j y1 y2 => (nT j.toNat (by omega)).2.2.1
      | exact fun s y1 y2 => (by have := nS.1 s.toNat (by omega); omega)
      | exact fun j y1 y2 => (by have := nQ.2.1 j.toNat (by omega); omega)
      | exact fun s1 s2 y1 y2 y3 => nS.2 s1.toNat s2.toNat (by omega) (by omega)
      | (intro (x1 : st = 0 ∨ (∃ j : Nat, (j : Int) < pr ∧ A 46 j = 0) ∨ (∃ j : Nat, (j : Int) < pr ∧ A 46 j = 2)); exact (x1.elim z0 z1).elim)
      | (intro (x1 : st ≠ 0) (x2 : ∀ j : Nat, (j : Int) < pr → A 46 j ≠ 0) (x3 : ∀ j : Nat, (j : Int) < pr → A 46 j ≠ 2) t9 (h9 : mq_nx A B sz pr t9); cases key _ z2 _ h9)
      | (intro h; try omega)
      | omega
      | exact hQ _ _ _ _ rfl ⟨g, gd, ct, hK, hM⟩
      | assumption
  have e1 : st ≠ 0 → (∀ p : Nat, (p : Int) < I 2 8 x → I 8 1 (g 4 p) ≠ 0 ∧ I 8 1 (g 4 p) ≠ 2) → ∀ t, wk_sn (fun y => wk_t1 gd (A 31) ct sg y ∨ wk_t2 (A 46) (B 48) pr y) t → t ≠ -1 → t = nw → lm ≤ sp → q (some (.inl 3)) (tg, ln, I, L, R, n) := by
    intro z0 z1 t z2 z3 z4 z5
    have z1 := nb z1
    refine f0 _ _ (fun Q T hQ => ?_)
    repeat' first
      | refine And.intro ?_ ?_
      | exact fun j y1 y2 => (by obtain ⟨d, d1, d2, d3⟩ := wn_Q_i nQ (j := j.toNat) (by omega); have := (nC.1 d d1).2 _ d3; simp only at this; omega)
      | exact fun j y1 y2 => (nT j.toNat (by omega)).2.2.1
      | exact fun s y1 y2 => (by have := nS.1 s.toNat (by omega); omega)
      | exact fun j y1 y2 => (by have := nQ.2.1 j.toNat (by omega); omega)
      | exact fun s1 s2 y1 y2 y3 => nS.2 s1.toNat s2.toNat (by omega) (by omega)
      | (intro (x1 : st = 0 ∨ (∃ j : Nat, (j : Int) < pr ∧ A 46 j = 0) ∨ (∃ j : Nat, (j : Int) < pr ∧ A 46 j = 2)); exact (x1.elim z0 z1).elim)
      | (intro (x1 : st ≠ 0) (x2 : ∀ j : Nat, (j : Int) < pr → A 46 j ≠ 0) (x3 : ∀ j : Nat, (j : Int) < pr → A 46 j ≠ 2) t9 (h9 : mq_nx A B sz pr t9); cases key _ z2 _ h9)
      | (intro h; try omega)
      | omega
      | exact hQ _ _ _ _ rfl ⟨g, gd, ct, hK, hM⟩
      | assumption
  have e2 : st ≠ 0 → (∀ p : Nat, (p : Int) < I 2 8 x → I 8 1 (g 4 p) ≠ 0 ∧ I 8 1 (g 4 p) ≠ 2) → ∀ t, wk_sn (fun y => wk_t1 gd (A 31) ct sg y ∨ wk_t2 (A 46) (B 48) pr y) t → t ≠ -1 → t = nw → sp < lm → ∀ I1 L1 R1 I2, wk_ud tg ln (wm_up I 2 13 x (sp + 1)) (wm_up L 2 12 x t) R n I1 L1 R1 g gd sg dr A ct t sg.toNat → wk_wd I1 L1 I2 g pr t pr.toNat → q (some (.inl 2)) (tg, ln, I2, L1, R1, n) := by
    intro z0 z1 t z2 z3 z4 z5 I1 L1 R1 I2 z6 z7
    have z1 := nb z1
    obtain ⟨t1, t2, t3⟩ := tb t z2 z3
    refine f0 _ _ (fun Q T hQ => ?_)
    repeat' first
      | refine And.intro ?_ ?_
      | exact fun j y1 y2 => (by obtain ⟨d, d1, d2, d3⟩ := wn_Q_i nQ (j := j.toNat) (by omega); have := (nC.1 d d1).2 _ d3; simp only at this; omega)
      | exact fun j y1 y2 => (nT j.toNat (by omega)).2.2.1
      | exact fun s y1 y2 => (by have := nS.1 s.toNat (by omega); omega)
      | exact fun j y1 y2 => (by have := nQ.2.1 j.toNat (by omega); omega)
      | exact fun s1 s2 y1 y2 y3 => nS.2 s1.toNat s2.toNat (by omega) (by omega)
      | (intro (x1 : st = 0 ∨ (∃ j : Nat, (j : Int) < pr ∧ A 46 j = 0) ∨ (∃ j : Nat, (j : Int) < pr ∧ A 46 j = 2)); exact (x1.elim z0 z1).elim)
      | (intro (x1 : st ≠ 0) (x2 : ∀ j : Nat, (j : Int) < pr → A 46 j ≠ 0) (x3 : ∀ j : Nat, (j : Int) < pr → A 46 j ≠ 2) t9 (h9 : mq_nx A B sz pr t9); cases key _ z2 _ h9)
      | (intro A9 B9 A10 A11 k9 (c9 : mq_cy A B A9 B9 A10 A11 _ k9 sz sg dr pr))
      | (intro h; try omega)
      | omega
      | exact hQ _ _ _ _ rfl (wk_cy hK hM z0 t1 t2 (by omega) rfl rfl z6 z7 c9)
      | assumption
  have e3 : st ≠ 0 → (∀ p : Nat, (p : Int) < I 2 8 x → I 8 1 (g 4 p) ≠ 0 ∧ I 8 1 (g 4 p) ≠ 2) → ∀ t, wk_sn (fun y => wk_t1 gd (A 31) ct sg y ∨ wk_t2 (A 46) (B 48) pr y) t → t ≠ -1 → t ≠ nw → ∀ I1 L1 R1 I2, wk_ud tg ln (wm_up I 2 13 x 0) (wm_up L 2 12 x t) R n I1 L1 R1 g gd sg dr A ct t sg.toNat → wk_wd I1 L1 I2 g pr t pr.toNat → q (some (.inl 1)) (tg, ln, I2, L1, R1, n) := by
    intro z0 z1 t z2 z3 z4 I1 L1 R1 I2 z6 z7
    have z1 := nb z1
    obtain ⟨t1, t2, t3⟩ := tb t z2 z3
    refine f0 _ _ (fun Q T hQ => ?_)
    repeat' first
      | refine And.intro ?_ ?_
      | exact fun j y1 y2 => (by obtain ⟨d, d1, d2, d3⟩ := wn_Q_i nQ (j := j.toNat) (by omega); have := (nC.1 d d1).2 _ d3; simp only at this; omega)
      | exact fun j y1 y2 => (nT j.toNat (by omega)).2.2.1
      | exact fun s y1 y2 => (by have := nS.1 s.toNat (by omega); omega)
      | exact fun j y1 y2 => (by have := nQ.2.1 j.toNat (by omega); omega)
      | exact fun s1 s2 y1 y2 y3 => nS.2 s1.toNat s2.toNat (by omega) (by omega)
      | (intro (x1 : st = 0 ∨ (∃ j : Nat, (j : Int) < pr ∧ A 46 j = 0) ∨ (∃ j : Nat, (j : Int) < pr ∧ A 46 j = 2)); exact (x1.elim z0 z1).elim)
      | (intro (x1 : st ≠ 0) (x2 : ∀ j : Nat, (j : Int) < pr → A 46 j ≠ 0) (x3 : ∀ j : Nat, (j : Int) < pr → A 46 j ≠ 2) t9 (h9 : mq_nx A B sz pr t9); cases key _ z2 _ h9)
      | (intro A9 B9 A10 A11 k9 (c9 : mq_cy A B A9 B9 A10 A11 _ k9 sz sg dr pr))
      | (intro h; try omega)
      | omega
      | exact hQ _ _ _ _ rfl (wk_cy hK hM z0 t1 t2 (by omega) rfl rfl z6 z7 c9)
      | assumption
  repeat' first
    | refine And.intro ?_ ?_
    | (intro n9 (h9 : n ≤ n9))
    | refine Exists.intro (g 0 1) (Exists.intro (g 4) (And.intro b5 (And.intro b6 (And.intro b7 (And.intro (by omega) (And.intro (by omega) (And.intro hTT ?_)))))))
    | refine Exists.intro g (Exists.intro gd (Exists.intro lm (Exists.intro st (Exists.intro sg (Exists.intro el (Exists.intro dr (Exists.intro pr (Exists.intro wc (Exists.intro sp (Exists.intro nw (Exists.intro A (Exists.intro B (Exists.intro ct (And.intro hK (And.intro ⟨u4, u5, u12, u13, u8, u18⟩ (And.intro ⟨el, nS⟩ (And.intro nD (And.intro nC (And.intro nT ?_)))))))))))))))))))
    | refine Exists.intro g (Exists.intro gd (Exists.intro lm (Exists.intro st (Exists.intro sg (Exists.intro el (Exists.intro dr (Exists.intro pr (Exists.intro wc (Exists.intro (sp + 1) (Exists.intro t9 (Exists.intro A (Exists.intro B (Exists.intro ct (And.intro (wk_K_12 hK (sp + 1) t9) (And.intro ⟨u4, u5, u12, u13, u8, (tb t9 h9 (by omega)).1⟩ (And.intro ⟨el, nS⟩ (And.intro nD (And.intro (tb t9 h9 (by omega)).2.2 (And.intro nT ?_)))))))))))))))))))
    | refine Exists.intro g (Exists.intro gd (Exists.intro lm (Exists.intro st (Exists.intro sg (Exists.intro el (Exists.intro dr (Exists.intro pr (Exists.intro wc (Exists.intro (0) (Exists.intro t9 (Exists.intro A (Exists.intro B (Exists.intro ct (And.intro (wk_K_12 hK (0) t9) (And.intro ⟨u4, u5, u12, u13, u8, (tb t9 h9 (by omega)).1⟩ (And.intro ⟨el, nS⟩ (And.intro nD (And.intro (tb t9 h9 (by omega)).2.2 (And.intro nT ?_)))))))))))))))))))
    | (intro I4 L4 R4 (z4 : wk_ud tg ln (wm_up I 2 13 x (sp + 1)) (wm_up L 2 12 x t9) R n I4 L4 R4 g gd sg dr A ct t9 sg.toNat); obtain ⟨q1, q2, q3, q4, q5, q6⟩ := wk_35 (wk_K_12 hK (sp + 1) t9) z4)
    | (intro I4 L4 R4 (z4 : wk_ud tg ln (wm_up I 2 13 x (0)) (wm_up L 2 12 x t9) R n I4 L4 R4 g gd sg dr A ct t9 sg.toNat); obtain ⟨q1, q2, q3, q4, q5, q6⟩ := wk_35 (wk_K_12 hK (0) t9) z4)
    | refine Exists.intro g (Exists.intro pr (And.intro ⟨u12, u13⟩ (And.intro q1 (And.intro q2 (And.intro b6 (And.intro b7 (And.intro q3 (And.intro d7 (And.intro q4 (And.intro d9 (And.intro d10 (And.intro q5 ?_))))))))))))
    | (intro I5 (z5 : wk_wd I4 L4 I5 g pr (L4 2 12 x) pr.toNat); rw [q6] at z5)
    | (intro t9 (h9 : wk_sn (fun y => wk_t1 gd (A 31) ct sg y ∨ wk_t2 (A 46) (B 48) pr y) t9))
    | (intro (z9 : ∃ p : Nat, (p : Int) < I 2 8 x ∧ (I 8 1 (g 4 p) = 0 ∨ I 8 1 (g 4 p) = 2)))
    | (intro (z9 : ∀ p : Nat, (p : Int) < I 2 8 x → I 8 1 (g 4 p) ≠ 0 ∧ I 8 1 (g 4 p) ≠ 2))
    | (intro I3 (e3 : I3 = wm_up I 2 13 x (I 2 13 x + 1)); rw [k13] at e3; subst e3)
    | (intro I3 (e3 : I3 = wm_up I 2 13 x (0)); subst e3)
    | (intro L3 (e3 : L3 = wm_up L 2 12 x t9); subst e3)
    | refine Exists.intro _ (And.intro (show _ = _ from by assumption) ?_)
    | refine Exists.intro _ (And.intro rfl (And.intro (by assumption) ?_))
    | refine Exists.intro _ (And.intro rfl ?_)
    | (intro h; try omega)
    | omega
    | exact eX (by omega) _ (by assumption)
    | exact bs z9 _ (by assumption)
    | (have g9 : t9 = -1 := (by omega); subst g9; exact e0 (by omega) z9 h9)
    | exact e1 (by omega) z9 t9 h9 (by omega) (by omega) (by omega)
    | exact e2 (by omega) z9 t9 h9 (by omega) (by omega) (by omega) I4 L4 R4 I5 z4 z5
    | exact e3 (by omega) z9 t9 h9 (by omega) (by omega) I4 L4 R4 I5 z4 z5
    | exact Nat.le_of_ble_eq_true rfl
    | assumption
