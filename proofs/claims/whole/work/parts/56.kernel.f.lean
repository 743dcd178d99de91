/-! THE KERNEL, 6: the next time -/
def sc_31 (as : List wi_V) (h : wc_H) (q : wi_Q1 wc_H) (qt : wi_Q2 wc_H) : Prop := wc_sT as (fun x => wc_f h fun tg ln I L R n => tg x = 2 ∧ ∃ (ta : Nat) (gt : Nat → Nat), R 2 2 x = some ta ∧ tg ta = 21 ∧ ln ta = 64 ∧ 0 ≤ I 2 8 x ∧ I 2 8 x ≤ 64 ∧ (∀ p : Nat, (p : Int) < I 2 8 x → R 21 p ta = some (gt p) ∧ tg (gt p) = 8) ∧ ((∃ p : Nat, (p : Int) < I 2 8 x ∧ (I 8 1 (gt p) = 0 ∨ I 8 1 (gt p) = 2)) → q (some (.inl 1)) (tg, ln, I, L, R, n)) ∧ ((∀ p : Nat, (p : Int) < I 2 8 x → I 8 1 (gt p) ≠ 0 ∧ I 8 1 (gt p) ≠ 2) → q (some (.inl 0)) (tg, ln, I, L, R, n)))
theorem cm_31 {l : Launch} {D : va_G} {aC : wm_Y} {b0 : Nat} (hl0 : l.stackTraces = false) : wm_sp l D aC b0 31 (wi_lf (wc_Rl wc_ok) sc_31) := by
  refine wi_method (wc_lw wc_ok) 31 (cx := fun id => if id = 67 then sc_67 else fun _ _ _ _ => False) (ids := ci_31) (tb := tb_31) (by decide +kernel) hl0 (wm_cxc (cm_67 hl0) oi_31 (fun h => wm_cxn h)) (wm_tb_ok tk_31) (by decide +kernel) [2] 250 (fun as h q qt hs => ?_)
  obtain ⟨x, rfl, hs1⟩ := wc_sT_e hs
  clear hs
  obtain ⟨tg, ln, I, L, R, n⟩ := h
  have hs := id hs1
  clear hs1
  simp only [wc_f] at hs
  obtain ⟨a1, ta, gt, a2, a3, a4, r1, r2, a5, h1, h2⟩ := hs
  refine ⟨rfl, fun mz pc lv sk h cu su => ∃ p : Nat, lv = [some (wi_rf (some x)), some (.inl ((p : Int)))] ∧ sk = [] ∧ h = (tg, ln, I, L, R, n) ∧ cu = 0 ∧ su = 0 ∧ mz = (I 2 8 x).toNat - p ∧ (p : Int) ≤ I 2 8 x ∧ ∀ j : Nat, j < p → I 8 1 (gt j) ≠ 0 ∧ I 8 1 (gt j) ≠ 2, mq_c1 (fun mz lv sk h cu su hI => ?_), ?_⟩
  · obtain ⟨p, rfl, rfl, rfl, rfl, rfl, rfl, p1, p2⟩ := hI
    have ep : ((p : Int)).toNat = p := by omega
    by_cases hp : (p : Int) < I 2 8 x
    · obtain ⟨t1, t2⟩ := a5 p hp
      have t1' : R 21 (p : Int).toNat ta = some (gt p) := by rw [ep]; exact t1
      have l1 : (p : Int) < ln ta := by omega
      have y1 : I 8 1 (gt p) = 0 ∨ I 8 1 (gt p) = 2 → q (some (.inl 1)) (tg, ln, I, L, R, n) := fun z => h1 ⟨p, hp, z⟩
      repeat' first
        | refine And.intro ?_ ?_
        | refine Exists.intro _ (And.intro t1' ?_)
        | refine Exists.intro _ (And.intro (show _ = _ from by assumption) ?_)
        | refine Exists.intro _ (And.intro rfl (And.intro (by assumption) ?_))
        | refine Exists.intro _ (And.intro rfl ?_)
        | (intro h; try omega)
        | omega
        | exact y1 (by omega)
        | (refine Exists.intro _ (And.intro ?_ (Exists.intro (p + 1) (And.intro rfl (And.intro rfl (And.intro rfl (And.intro rfl (And.intro rfl (And.intro rfl (?_))))))))) <;> first | omega | exact ⟨by omega, fun j hj => (by by_cases z : j = p; (rw [z]; omega); exact p2 j (by omega))⟩)
        | exact Nat.le_of_ble_eq_true rfl
        | assumption
    · have y1 := h2 (fun j hj => p2 j (by omega))
      repeat' first
        | refine And.intro ?_ ?_
        | refine Exists.intro _ (And.intro (show _ = _ from by assumption) ?_)
        | refine Exists.intro _ (And.intro rfl (And.intro (by assumption) ?_))
        | refine Exists.intro _ (And.intro rfl ?_)
        | (intro h; try omega)
        | omega
        | exact y1
        | exact Nat.le_of_ble_eq_true rfl
        | assumption
  · repeat' first
      | refine And.intro ?_ ?_
      | refine Exists.intro _ (And.intro (show _ = _ from by assumption) ?_)
      | refine Exists.intro _ (And.intro rfl (And.intro (by assumption) ?_))
      | refine Exists.intro _ (And.intro rfl ?_)
      | (intro h; try omega)
      | omega
      | (refine Exists.intro _ (Exists.intro (0) (And.intro rfl (And.intro rfl (And.intro rfl (And.intro rfl (And.intro rfl (And.intro rfl (?_)))))))) <;> exact ⟨by omega, fun j hj => absurd hj (Nat.not_lt_zero _)⟩)
      | exact Nat.le_of_ble_eq_true rfl
      | assumption
/-- the soonest of some times -/
def wk_sn (T : Int → Prop) (t : Int) : Prop := (t = -1 ∧ ∀ y, ¬ T y) ∨ (0 ≤ t ∧ T t ∧ ∀ y, T y → t ≤ y)
theorem wk_sn_u {T : Int → Prop} {a b : Int} (h1 : wk_sn T a) (h2 : wk_sn T b) : a = b := by
  rcases h1 with ⟨x1, x2⟩ | ⟨x1, x2, x3⟩ <;> rcases h2 with ⟨y1, y2⟩ | ⟨y1, y2, y3⟩
  · omega
  · exact absurd y2 (x2 b)
  · exact absurd x2 (y2 a)
  · have := x3 b y2
    have := y3 a x2
    omega
theorem wk_sn_2 {T1 T2 T : Int → Prop} {a b z : Int} (h1 : wk_sn T1 a) (h2 : wk_sn T2 b) (hT : ∀ y, T y ↔ T1 y ∨ T2 y) (hz : (a = -1 ∧ z = b) ∨ (a ≠ -1 ∧ (b = -1 ∨ a ≤ b) ∧ z = a) ∨ (a ≠ -1 ∧ b ≠ -1 ∧ b < a ∧ z = b)) : wk_sn T z := by
  rcases h1 with ⟨x1, x2⟩ | ⟨x1, x2, x3⟩ <;> rcases h2 with ⟨y1, y2⟩ | ⟨y1, y2, y3⟩
  · exact Or.inl ⟨by omega, fun y hy => ((hT y).mp hy).elim (x2 y) (y2 y)⟩
  · have : z = b := by omega
    subst this
    exact Or.inr ⟨y1, (hT _).mpr (Or.inr y2), fun y hy => ((hT y).mp hy).elim (fun k => absurd k (x2 y)) (y3 y)⟩
  · have : z = a := by omega
    subst this
    exact Or.inr ⟨x1, (hT _).mpr (Or.inl x2), fun y hy => ((hT y).mp hy).elim (x3 y) (fun k => absurd k (y2 y))⟩
  · by_cases hle : a ≤ b
    · have : z = a := by omega
      subst this
      exact Or.inr ⟨x1, (hT _).mpr (Or.inl x2), fun y hy => ((hT y).mp hy).elim (x3 y) (fun k => by have := y3 y k; omega)⟩
    · have : z = b := by omega
      subst this
      exact Or.inr ⟨y1, (hT _).mpr (Or.inr y2), fun y hy => ((hT y).mp hy).elim (fun k => by have := x3 y k; omega) (y3 y)⟩
theorem wk_sn_x {T T' : Int → Prop} {t : Int} (h : wk_sn T t) (hT : ∀ y, T' y ↔ T y) : wk_sn T' t := by
  have : T' = T := funext fun y => propext (hT y)
  rw [this]; exact h
theorem wk_sn_m {T T' : Int → Prop} {t : Int} (h : wk_sn T t) (h1 : ∀ y, T y → T' y) (h2 : ∀ y, T' y → ∃ z, T z ∧ z ≤ y) : wk_sn T' t := by
  rcases h with ⟨x1, x2⟩ | ⟨x1, x2, x3⟩
  · exact Or.inl ⟨x1, fun y hy => by obtain ⟨z, hz, -⟩ := h2 y hy; exact x2 z hz⟩
  · exact Or.inr ⟨x1, h1 t x2, fun y hy => by obtain ⟨z, hz, hl⟩ := h2 y hy; have := x3 z hz; omega⟩
/-- the times of the rows of signals below s, and of tasks below p -/
def wk_t1 (gd : Nat → List (Nat × Nat)) (a31 : Nat → Int) (ct : Nat → List (Int × Int)) (s : Int) (y : Int) : Prop := ∃ s' d e, ((s' : Nat) : Int) < s ∧ wc_in (gd s') (a31 s').toNat d ∧ (ct d).head? = some e ∧ e.1 = y
def wk_t2 (a46 b48 : Nat → Int) (p : Int) (y : Int) : Prop := ∃ p' : Nat, (p' : Int) < p ∧ (a46 p' = 1 ∨ a46 p' = 2) ∧ b48 p' ≠ -1 ∧ b48 p' = y
theorem wk_so_sn {ct : Nat → List (Int × Int)} {S : Nat → Prop} {t : Int} (h : wc_so ct S t) : wk_sn (fun y => ∃ d e, S d ∧ (ct d).head? = some e ∧ e.1 = y) t := by
  rcases h with ⟨h1, h2⟩ | ⟨h1, ⟨d, e, h2, h3, h4⟩, h5⟩
  · refine Or.inl ⟨h1, fun y hy => ?_⟩
    obtain ⟨d, e, k1, k2, k3⟩ := hy
    rw [h2 d k1] at k2
    cases k2
  · refine Or.inr ⟨h1, ⟨d, e, h2, h3, h4⟩, fun y hy => ?_⟩
    obtain ⟨d, e, k1, k2, k3⟩ := hy
    have := h5 d e k1 k2
    omega
def sc_32 (as : List wi_V) (h : wc_H) (q : wi_Q1 wc_H) (qt : wi_Q2 wc_H) : Prop := wc_sT as (fun x => wc_f h fun tg ln I L R n => ∃ (g : Nat → Nat → Nat) (gd : Nat → List (Nat × Nat)) (lm st sg el dr pr wc sp nw : Int) (A B : mq_A) (ct : Nat → List (Int × Int)), wk_K (tg, ln, I, L, R, n) x g gd lm st sg el dr pr wc sp nw A B ct ∧ (0 ≤ sg ∧ sg ≤ 200 ∧ 0 ≤ pr ∧ pr ≤ 64 ∧ 0 ≤ dr ∧ 0 ≤ nw) ∧ (∃ el, wn_S sg el (A 30) (A 31) (A 32)) ∧ wn_D gd sg dr (A 31) (A 32) (A 37) (A 38) ∧ wn_C gd sg dr nw (A 30) (A 31) (A 39) ct ∧ wn_T pr (A 46) (A 47) (B 48) ∧ ∀ t, wk_sn (fun y => wk_t1 gd (A 31) ct sg y ∨ wk_t2 (A 46) (B 48) pr y) t → q (some (.inr (.inl t))) (tg, ln, I, L, R, n))
theorem cm_32 {l : Launch} {D : va_G} {aC : wm_Y} {b0 : Nat} (hl0 : l.stackTraces = false) : wm_sp l D aC b0 32 (wi_lf (wc_Rl wc_ok) sc_32) := by
  refine wi_method (wc_lw wc_ok) 32 (cx := fun id => if id = 33 then sc_33 else if id = 52 then sc_52 else if id = 68 then sc_68 else fun _ _ _ _ => False) (ids := ci_32) (tb := tb_32) (by decide +kernel) hl0 (wm_cxc (cm_33 hl0) oi_32 (fun h => wm_cxc (cm_52 hl0) h (fun h => wm_cxc (cm_68 hl0) h (fun h => wm_cxn h)))) (wm_tb_ok tk_32) (by decide +kernel) [6, 36] 250 (fun as h q qt hs => ?_)
  obtain ⟨x, rfl, hs1⟩ := wc_sT_e hs
  clear hs
  obtain ⟨tg, ln, I, L, R, n⟩ := h
  have hs := id hs1
  clear hs1
  simp only [wc_f] at hs
  obtain ⟨g, gd, lm, st, sg, el, dr, pr, wc, sp, nw, A, B, ct, hK, ⟨u4, u5, u12, u13, u8, u18⟩, ⟨el', nS⟩, nD, nC, nT, h1⟩ := hs
  obtain ⟨hn, kN, kB, kS, kA, kV, kD, kR, kT, kU, kX1, kX2, kX3, kW⟩ := id hK
  obtain ⟨k0, k7, k8, k9, k10, k11, k12, k13⟩ := id kN
  obtain ⟨⟨b1, b2, b3, b4, b5, b6, b7, b8, b9⟩, ⟨c1, c2, c3, c4, c5, c6, c7, c8⟩, ⟨d1, d2, d3, d4, d5, d6, d7, d8, d9, d10, d11⟩⟩ := id kB
  refine ⟨rfl, fun mz pc lv sk h cu su => match pc with | 6 => ∃ s : Nat, ∃ t : Int, lv = [some (wi_rf (some x)), some (.inr (.inl (t))), none, some (.inl ((s : Int)))] ∧ sk = [] ∧ h = (tg, ln, I, L, R, n) ∧ cu = 0 ∧ su = 0 ∧ mz = 1000 + sg.toNat - s ∧ (s : Int) ≤ sg ∧ wk_sn (wk_t1 gd (A 31) ct s) t | 36 => ∃ p : Nat, ∃ t : Int, lv = [some (wi_rf (some x)), some (.inr (.inl (t))), none, some (.inl ((p : Int)))] ∧ sk = [] ∧ h = (tg, ln, I, L, R, n) ∧ cu = 0 ∧ su = 0 ∧ mz = pr.toNat - p ∧ (p : Int) ≤ pr ∧ wk_sn (fun y => wk_t1 gd (A 31) ct sg y ∨ wk_t2 (A 46) (B 48) p y) t | _ => False, mq_c2 (fun mz lv sk h cu su hI => ?_) (fun mz lv sk h cu su hI => ?_), ?_⟩
  · obtain ⟨s, t, rfl, rfl, rfl, rfl, rfl, rfl, p1, p2⟩ := hI
    have es : ((s : Int)).toNat = s := by omega
    by_cases hs : (s : Int) < sg
    · obtain ⟨s1, s2, s3, s4, s5, s6, s7, s8, s9, s10⟩ := kS.1 s hs
      obtain ⟨y1, y2, y3, y4, y5, y6⟩ := nS.1 s hs
      obtain ⟨nd1, nd2, nd3⟩ := nD.1 s hs
      have s1' : R 20 (s : Int).toNat (g 0 0) = some (g 1 s) := by rw [es]; exact s1
      have l1 : (s : Int) < ln (g 0 0) := by omega
      have dcs := kD s hs
      have hw : I 5 1 (g 1 s) = ((A 31 s).toNat : Int) := by rw [s4]; omega
      have hw2 : (A 31 s).toNat ≤ 64 := by omega
      have hcD : ∀ c ∈ gd s, c.2 + (A 31 s).toNat ≤ dr.toNat := fun c hc => by have := (nd3 c hc).1; omega
      have hpos : ∀ d, d < dr.toNat → ∀ y ∈ ct d, 0 ≤ y.1 := fun d hd y hy => by have := (nC.1 d (by omega)).2 y hy; omega
      have nx : ∀ u z, wc_so ct (wc_in (gd s) (A 31 s).toNat) u → ((t = -1 ∧ z = u) ∨ (t ≠ -1 ∧ (u = -1 ∨ t ≤ u) ∧ z = t) ∨ (t ≠ -1 ∧ u ≠ -1 ∧ u < t ∧ z = u)) → wk_sn (wk_t1 gd (A 31) ct ((s + 1 : Nat) : Int)) z := fun u z hu hz => wk_sn_2 p2 (wk_so_sn hu) (fun y => by
        constructor
        · rintro ⟨s', d, e, x1, x2, x3, x4⟩
          by_cases z9 : s' = s
          · subst z9
            exact Or.inr ⟨d, e, x2, x3, x4⟩
          · exact Or.inl ⟨s', d, e, by omega, x2, x3, x4⟩
        · rintro (⟨s', d, e, x1, x2, x3, x4⟩ | ⟨d, e, x2, x3, x4⟩)
          · exact ⟨s', d, e, by omega, x2, x3, x4⟩
          · exact ⟨s, d, e, by omega, x2, x3, x4⟩) hz
      repeat' first
        | refine And.intro ?_ ?_
        | refine Exists.intro _ (And.intro s1' ?_)
        | refine Exists.intro _ (Exists.intro _ (Exists.intro _ (Exists.intro _ (Exists.intro _ (Exists.intro _ (Exists.intro _ (Exists.intro _ (And.intro hw (And.intro hw2 (And.intro dcs (And.intro kR (And.intro hcD (And.intro hpos ?_)))))))))))))
        | (intro u9 (h9 : wc_so ct (wc_in (gd s) (A 31 s).toNat) u9))
        | refine Exists.intro _ (And.intro (show _ = _ from by assumption) ?_)
        | refine Exists.intro _ (And.intro rfl (And.intro (by assumption) ?_))
        | refine Exists.intro _ (And.intro rfl ?_)
        | (intro h; try omega)
        | omega
        | (have nx9 := nx _ (u9) h9 (Or.inl ⟨by omega, rfl⟩); refine Exists.intro _ (And.intro ?_ (Exists.intro (s + 1) (Exists.intro (_) (And.intro rfl (And.intro rfl (And.intro rfl (And.intro rfl (And.intro rfl (And.intro rfl (?_)))))))))) <;> first | omega | exact ⟨by omega, nx9⟩)
        | (have nx9 := nx _ (t) h9 (Or.inr (Or.inl ⟨by omega, by omega, rfl⟩)); refine Exists.intro _ (And.intro ?_ (Exists.intro (s + 1) (Exists.intro (_) (And.intro rfl (And.intro rfl (And.intro rfl (And.intro rfl (And.intro rfl (And.intro rfl (?_)))))))))) <;> first | omega | exact ⟨by omega, nx9⟩)
        | (have nx9 := nx _ (u9) h9 (Or.inr (Or.inr ⟨by omega, by omega, by omega, rfl⟩)); refine Exists.intro _ (And.intro ?_ (Exists.intro (s + 1) (Exists.intro (_) (And.intro rfl (And.intro rfl (And.intro rfl (And.intro rfl (And.intro rfl (And.intro rfl (?_)))))))))) <;> first | omega | exact ⟨by omega, nx9⟩)
        | exact Nat.le_of_ble_eq_true rfl
        | assumption
    · have e9 : ((s : Nat) : Int) = sg := by omega
      rw [e9] at p2
      have p3 : wk_sn (fun y => wk_t1 gd (A 31) ct sg y ∨ wk_t2 (A 46) (B 48) ((0 : Nat) : Int) y) t := wk_sn_x p2 (fun y => ⟨fun z => z.elim id (fun k => by obtain ⟨p', k1, -⟩ := k; omega), Or.inl⟩)
      repeat' first
        | refine And.intro ?_ ?_
        | refine Exists.intro _ (And.intro (show _ = _ from by assumption) ?_)
        | refine Exists.intro _ (And.intro rfl (And.intro (by assumption) ?_))
        | refine Exists.intro _ (And.intro rfl ?_)
        | (intro h; try omega)
        | omega
        | (refine Exists.intro _ (And.intro ?_ (Exists.intro (0) (Exists.intro (_) (And.intro rfl (And.intro rfl (And.intro rfl (And.intro rfl (And.intro rfl (And.intro rfl (?_)))))))))) <;> first | omega | exact ⟨by omega, p3⟩)
        | exact Nat.le_of_ble_eq_true rfl
        | assumption
  · obtain ⟨p, t, rfl, rfl, rfl, rfl, rfl, rfl, p1, p2⟩ := hI
    have ep : ((p : Int)).toNat = p := by omega
    by_cases hp : (p : Int) < pr
    · obtain ⟨t1, t2, t3, t4, t5, t6, t7, t8, t9⟩ := kT.1 p hp
      obtain ⟨v1, v2, v3⟩ := kU p hp
      obtain ⟨m1, m2, m3⟩ := nT p hp
      have t1' : R 21 (p : Int).toNat (g 0 1) = some (g 4 p) := by rw [ep]; exact t1
      have l1 : (p : Int) < ln (g 0 1) := by omega
      have nx : ∀ u z, ((I 8 1 (g 4 p) = 1 ∨ I 8 1 (g 4 p) = 2) ∧ u = L 8 3 (g 4 p)) ∨ (I 8 1 (g 4 p) ≠ 1 ∧ I 8 1 (g 4 p) ≠ 2 ∧ u = -1) → ((t = -1 ∧ z = u) ∨ (t ≠ -1 ∧ (u = -1 ∨ t ≤ u) ∧ z = t) ∨ (t ≠ -1 ∧ u ≠ -1 ∧ u < t ∧ z = u)) → wk_sn (fun y => wk_t1 gd (A 31) ct sg y ∨ wk_t2 (A 46) (B 48) ((p + 1 : Nat) : Int) y) z := fun u z hu hz => wk_sn_2 (T2 := fun y => (A 46 p = 1 ∨ A 46 p = 2) ∧ B 48 p ≠ -1 ∧ B 48 p = y) p2 (by
        rw [v1, v3] at hu
        by_cases w9 : (A 46 p = 1 ∨ A 46 p = 2) ∧ B 48 p ≠ -1
        · exact Or.inr ⟨by omega, ⟨w9.1, w9.2, by omega⟩, fun y hy => by omega⟩
        · exact Or.inl ⟨by omega, fun y hy => w9 ⟨hy.1, hy.2.1⟩⟩) (fun y => by
        constructor
        · rintro (k | ⟨p', k1, k2, k3, k4⟩)
          · exact Or.inl (Or.inl k)
          · by_cases z9 : p' = p
            · subst z9
              exact Or.inr ⟨k2, k3, k4⟩
            · exact Or.inl (Or.inr ⟨p', by omega, k2, k3, k4⟩)
        · rintro ((k | ⟨p', k1, k2, k3, k4⟩) | ⟨k2, k3, k4⟩)
          · exact Or.inl k
          · exact Or.inr ⟨p', by omega, k2, k3, k4⟩
          · exact Or.inr ⟨p, by omega, k2, k3, k4⟩) hz
      repeat' first
        | refine And.intro ?_ ?_
        | refine Exists.intro _ (And.intro t1' ?_)
        | refine Exists.intro _ (And.intro (show _ = _ from by assumption) ?_)
        | refine Exists.intro _ (And.intro rfl (And.intro (by assumption) ?_))
        | refine Exists.intro _ (And.intro rfl ?_)
        | (intro h; try omega)
        | omega
        | (have nx9 := nx _ (L 8 3 (g 4 p)) (Or.inl ⟨by omega, rfl⟩) (Or.inl ⟨by omega, rfl⟩); refine Exists.intro _ (And.intro ?_ (Exists.intro (p + 1) (Exists.intro (_) (And.intro rfl (And.intro rfl (And.intro rfl (And.intro rfl (And.intro rfl (And.intro rfl (?_)))))))))) <;> first | omega | exact ⟨by omega, nx9⟩)
        | (have nx9 := nx _ (t) (Or.inl ⟨by omega, rfl⟩) (Or.inr (Or.inl ⟨by omega, by omega, rfl⟩)); refine Exists.intro _ (And.intro ?_ (Exists.intro (p + 1) (Exists.intro (_) (And.intro rfl (And.intro rfl (And.intro rfl (And.intro rfl (And.intro rfl (And.intro rfl (?_)))))))))) <;> first | omega | exact ⟨by omega, nx9⟩)
        | (have nx9 := nx _ (L 8 3 (g 4 p)) (Or.inl ⟨by omega, rfl⟩) (Or.inr (Or.inr ⟨by omega, by omega, by omega, rfl⟩)); refine Exists.intro _ (And.intro ?_ (Exists.intro (p + 1) (Exists.intro (_) (And.intro rfl (And.intro rfl (And.intro rfl (And.intro rfl (And.intro rfl (And.intro rfl (?_)))))))))) <;> first | omega | exact ⟨by omega, nx9⟩)
        | (have nx9 := nx _ (-1) (Or.inr ⟨by omega, by omega, rfl⟩) (Or.inl ⟨by omega, rfl⟩); refine Exists.intro _ (And.intro ?_ (Exists.intro (p + 1) (Exists.intro (_) (And.intro rfl (And.intro rfl (And.intro rfl (And.intro rfl (And.intro rfl (And.intro rfl (?_)))))))))) <;> first | omega | exact ⟨by omega, nx9⟩)
        | (have nx9 := nx _ (t) (Or.inr ⟨by omega, by omega, rfl⟩) (Or.inr (Or.inl ⟨by omega, by omega, rfl⟩)); refine Exists.intro _ (And.intro ?_ (Exists.intro (p + 1) (Exists.intro (_) (And.intro rfl (And.intro rfl (And.intro rfl (And.intro rfl (And.intro rfl (And.intro rfl (?_)))))))))) <;> first | omega | exact ⟨by omega, nx9⟩)
        | (have nx9 := nx _ (-1) (Or.inr ⟨by omega, by omega, rfl⟩) (Or.inr (Or.inr ⟨by omega, by omega, by omega, rfl⟩)); refine Exists.intro _ (And.intro ?_ (Exists.intro (p + 1) (Exists.intro (_) (And.intro rfl (And.intro rfl (And.intro rfl (And.intro rfl (And.intro rfl (And.intro rfl (?_)))))))))) <;> first | omega | exact ⟨by omega, nx9⟩)
        | exact Nat.le_of_ble_eq_true rfl
        | assumption
    · have e9 : ((p : Nat) : Int) = pr := by omega
      rw [e9] at p2
      have f1 := h1 t p2
      repeat' first
        | refine And.intro ?_ ?_
        | refine Exists.intro _ (And.intro (show _ = _ from by assumption) ?_)
        | refine Exists.intro _ (And.intro rfl (And.intro (by assumption) ?_))
        | refine Exists.intro _ (And.intro rfl ?_)
        | (intro h; try omega)
        | omega
        | exact f1
        | exact Nat.le_of_ble_eq_true rfl
        | assumption
  · have p3 : wk_sn (wk_t1 gd (A 31) ct ((0 : Nat) : Int)) (-1) := Or.inl ⟨rfl, fun y hy => by obtain ⟨s', d, e, x1, -⟩ := hy; omega⟩
    repeat' first
      | refine And.intro ?_ ?_
      | refine Exists.intro _ (And.intro (show _ = _ from by assumption) ?_)
      | refine Exists.intro _ (And.intro rfl (And.intro (by assumption) ?_))
      | refine Exists.intro _ (And.intro rfl ?_)
      | (intro h; try omega)
      | omega
      | (refine Exists.intro _ (Exists.intro (0) (Exists.intro (-1) (And.intro rfl (And.intro rfl (And.intro rfl (And.intro rfl (And.intro rfl (And.intro rfl (?_))))))))) <;> exact ⟨by omega, p3⟩)
      | exact Nat.le_of_ble_eq_true rfl
      | assumption
theorem mq_row_i {A B : mq_A} {d : Int} : ∀ {n j : Nat}, j < n → A 40 j = d → (B 41 j, A 42 j) ∈ mq_row A B d n
  | 0, _, h, _ => absurd h (Nat.not_lt_zero _)
  | n + 1, j, h, e => by
    simp only [mq_row]
    by_cases z : j = n
    · subst z
      rw [if_pos e]
      simp
    · have := mq_row_i (A := A) (B := B) (d := d) (n := n) (j := j) (by omega) e
      split
      · exact List.mem_append_left _ this
      · exact this
theorem mq_row_o {A B : mq_A} {d : Int} : ∀ {n : Nat} {y : Int × Int}, y ∈ mq_row A B d n → ∃ j, j < n ∧ A 40 j = d ∧ y = (B 41 j, A 42 j)
  | 0, _, h => by cases h
  | n + 1, y, h => by
    simp only [mq_row] at h
    split at h
    · rename_i e
      rcases List.mem_append.mp h with z | z
      · obtain ⟨j, j1, j2, j3⟩ := mq_row_o z
        exact ⟨j, by omega, j2, j3⟩
      · exact ⟨n, Nat.lt_succ_self _, e, List.mem_singleton.mp z⟩
    · obtain ⟨j, j1, j2, j3⟩ := mq_row_o h
      exact ⟨j, by omega, j2, j3⟩
/-- an entry of the model lies in its row -/
theorem wn_Q_i {dr sz : Int} {A B : mq_A} {ct : Nat → List (Int × Int)} (h : wn_Q dr sz A B ct) {j : Nat} (hj : (j : Int) < sz) : ∃ d : Nat, (d : Int) < dr ∧ A 40 j = d ∧ (B 41 j, A 42 j) ∈ ct d := by
  obtain ⟨a1, a2, a3⟩ := h
  have := a2 j hj
  refine ⟨(A 40 j).toNat, by omega, by omega, ?_⟩
  rw [← a1 _ (by omega)]
  exact mq_row_i (by omega) (by omega)
theorem wk_hd {l : List (Int × Int)} (h : l.Pairwise (fun a b => a.1 < b.1)) {y : Int × Int} (hy : y ∈ l) : ∃ e, l.head? = some e ∧ e.1 ≤ y.1 := by
  cases l with
  | nil => cases hy
  | cons a r =>
    refine ⟨a, rfl, ?_⟩
    rcases List.mem_cons.mp hy with rfl | hy
    · exact Int.le_refl _
    · have := (List.pairwise_cons.mp h).1 y hy
      omega
theorem wk_nx {gd : Nat → List (Nat × Nat)} {sg dr sz pr t t' : Int} {A B : mq_A} {ct : Nat → List (Int × Int)} (hw : ∀ s : Nat, (s : Int) < sg → ∀ c ∈ gd s, ((c.2 + (A 31 s).toNat : Nat) : Int) ≤ dr) (hc : ∀ d : Nat, (d : Int) < dr → ∃ s : Nat, (s : Int) < sg ∧ wc_in (gd s) (A 31 s).toNat d) (hs : ∀ d : Nat, (d : Int) < dr → (ct d).Pairwise (fun a b => a.1 < b.1)) (hQ : wn_Q dr sz A B ct) (h1 : wk_sn (fun y => wk_t1 gd (A 31) ct sg y ∨ wk_t2 (A 46) (B 48) pr y) t) (h2 : mq_nx A B sz pr t') : t' = t := by
  have a1 : wk_sn (fun y => (∃ j : Int, 0 ≤ j ∧ j < sz ∧ B 41 j.toNat = y) ∨ (∃ j : Int, 0 ≤ j ∧ j < pr ∧ mq_w A B j ∧ B 48 j.toNat = y)) t' := by
    rcases h2 with ⟨x1, x2, x3⟩ | ⟨x1, x2, x3, x4⟩
    · refine Or.inl ⟨x1, fun y hy => ?_⟩
      rcases hy with ⟨j, j1, j2, j3⟩ | ⟨j, j1, j2, j3, j4⟩
      · omega
      · exact x3 j j1 j2 j3
    · refine Or.inr ⟨x1, x2, fun y hy => ?_⟩
      rcases hy with ⟨j, j1, j2, j3⟩ | ⟨j, j1, j2, j3, j4⟩
      · have := x3 j j1 j2
        omega
      · have := x4 j j1 j2 j3
        omega
  refine wk_sn_u a1 (wk_sn_m h1 (fun y hy => ?_) (fun y hy => ?_))
  · rcases hy with ⟨s, d, e, k1, ⟨c, hcm, k2, k3⟩, k4, k5⟩ | ⟨p, k1, k2, k3, k4⟩
    · have hd := hw s k1 c hcm
      have hm : e ∈ ct d := List.mem_of_mem_head? k4
      rw [← hQ.1 d (by omega)] at hm
      obtain ⟨j, j1, j2, j3⟩ := mq_row_o hm
      refine Or.inl ⟨j, by omega, by omega, ?_⟩
      rw [Int.toNat_natCast]
      rw [j3] at k5
      exact k5
    · exact Or.inr ⟨p, by omega, k1, ⟨by rw [Int.toNat_natCast]; exact k2, by rw [Int.toNat_natCast]; exact k3⟩, by rw [Int.toNat_natCast]; exact k4⟩
  · rcases hy with ⟨j, j1, j2, j3⟩ | ⟨j, j1, j2, j3, j4⟩
    · obtain ⟨d, d1, d2, d3⟩ := wn_Q_i hQ (j := j.toNat) (by omega)
      obtain ⟨e, e1, e2⟩ := wk_hd (hs d d1) d3
      obtain ⟨s, s1, s2⟩ := hc d d1
      exact ⟨e.1, Or.inl ⟨s, d, e, s1, s2, e1, rfl⟩, by simp only at e2; omega⟩
    · exact ⟨y, Or.inr ⟨j.toNat, by omega, j3.1, j3.2, j4⟩, Int.le_refl _⟩
def sc_22 (as : List wi_V) (h : wc_H) (q : wi_Q1 wc_H) (qt : wi_Q2 wc_H) : Prop := wc_sT as (fun x => wc_f h fun tg ln I L R n => ∃ M, wk_J (tg, ln, I, L, R, n) x M ∧ (∀ (r : Int) h', wk_Z sm_104 [wi_rf (some 11)] M h' x 0 (fun b => b = some (.inr (.inl r))) → q (some (.inr (.inl r))) h'))
theorem cm_22 {l : Launch} {D : va_G} {aC : wm_Y} {b0 : Nat} (hl0 : l.stackTraces = false) : wm_sp l D aC b0 22 (wi_lf (wc_Rl wc_ok) sc_22) := by
  refine wi_method (wc_lw wc_ok) 22 (cx := fun id => if id = 32 then sc_32 else fun _ _ _ _ => False) (ids := ci_22) (tb := tb_22) (by decide +kernel) hl0 (wm_cxc (cm_32 hl0) oi_22 (fun h => wm_cxn h)) (wm_tb_ok tk_22) (by decide +kernel) [] 300 (fun as h q qt hs => ?_)
  obtain ⟨x, rfl, hs1⟩ := wc_sT_e hs
  clear hs
  obtain ⟨tg, ln, I, L, R, n⟩ := h
  have hs := id hs1
  clear hs1
  simp only [wc_f] at hs
  refine ⟨rfl, fun _ _ _ _ _ _ _ => False, mq_nc, ?_⟩
  obtain ⟨M, hJ, f0⟩ := hs
  obtain ⟨cd, lm, st, sg, el, dr, sz, pr, wc, sp, nw, A, B, rfl, g, gd, ct, hK, hM⟩ := mq_f_e hJ
  clear hJ
  obtain ⟨nR, nS, nD, nC, nV, nT, nW, nO, nQ, nZ⟩ := id hM
  obtain ⟨⟨u1, u2, u3⟩, ⟨u4, u5, u6, u7, u8, u9, u10, u11⟩, ⟨u12, u13, u14, u15, u16, u17, u18, u19⟩⟩ := id nR
  obtain ⟨hn, kN, kB, kS, kA, kV, kD, kR, kT, kU, kX1, kX2, kX3, kW⟩ := id hK
  obtain ⟨k0, k7, k8, k9, k10, k11, k12, k13⟩ := id kN
  obtain ⟨⟨b1, b2, b3, b4, b5, b6, b7, b8, b9⟩, ⟨c1, c2, c3, c4, c5, c6, c7, c8⟩, ⟨d1, d2, d3, d4, d5, d6, d7, d8, d9, d10, d11⟩⟩ := id kB
  obtain ⟨w1, w2, w3⟩ := id kW
  have e0 : ∀ t, wk_sn (fun y => wk_t1 gd (A 31) ct sg y ∨ wk_t2 (A 46) (B 48) pr y) t → q (some (.inr (.inl t))) (tg, ln, I, L, R, n) := by
    intro t ht
    refine f0 _ _ (fun Q T hQ => ?_)
    have key : ∀ t', mq_nx A B sz pr t' → t' = t := fun t' h9 => wk_nx (fun s hs c hc => ((nD.1 s hs).2.2 c hc).1) nD.2 (fun d hd => (nC.1 d hd).1) nQ ht h9
    repeat' first
      | refine And.intro ?_ ?_
      | exact fun j y1 y2 => (by obtain ⟨d, d1, d2, d3⟩ := wn_Q_i nQ (j := j.toNat) (by omega); have := (nC.1 d d1).2 _ d3; simp only at this; omega)
      | exact fun j y1 y2 => (nT j.toNat (by omega)).2.2.1
      | (intro t9 (h9 : mq_nx A B sz pr t9))
      | (intro h; try omega)
      | omega
      | (cases key _ (by assumption); exact hQ _ _ _ _ rfl ⟨g, gd, ct, hK, hM⟩)
      | assumption
  repeat' first
    | refine And.intro ?_ ?_
    | refine Exists.intro g (Exists.intro gd (Exists.intro lm (Exists.intro st (Exists.intro sg (Exists.intro el (Exists.intro dr (Exists.intro pr (Exists.intro wc (Exists.intro sp (Exists.intro nw (Exists.intro A (Exists.intro B (Exists.intro ct (And.intro hK (And.intro ⟨u4, u5, u12, u13, u8, u18⟩ (And.intro ⟨el, nS⟩ (And.intro nD (And.intro nC (And.intro nT ?_)))))))))))))))))))
    | (intro t9 (h9 : wk_sn (fun y => wk_t1 gd (A 31) ct sg y ∨ wk_t2 (A 46) (B 48) pr y) t9))
    | refine Exists.intro _ (And.intro (show _ = _ from by assumption) ?_)
    | refine Exists.intro _ (And.intro rfl (And.intro (by assumption) ?_))
    | refine Exists.intro _ (And.intro rfl ?_)
    | (intro h; try omega)
    | omega
    | exact e0 t9 h9
    | exact Nat.le_of_ble_eq_true rfl
    | assumption
