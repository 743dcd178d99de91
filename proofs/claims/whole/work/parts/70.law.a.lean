/-! THE LAW, 1: the worlds of class and model side by side -/
def wc_ok3 (a : Nat) : Bool := match a with
  | 0 => false
  | 1 => false
  | _ => true
theorem wc_wid {l : Launch} {D : va_G} {aC : wm_Y} {b0 mi : Nat} {ok ok' : Nat → Bool} {sp : List wi_V → wc_H → wi_Q1 wc_H → wi_Q2 wc_H → Prop} (ho : ∀ t, ok' t = false → ok t = false) (h : wm_sp l D aC b0 mi (wi_lf (wc_Rl ok) sp)) : wm_sp l D aC b0 mi (wi_lf (wc_Rl ok') sp) := by
  intro as' h' q1' q2' z
  obtain ⟨ρ, as, h0, q1, q2, z1, z2, z3, z4, z5⟩ := z
  obtain ⟨y1, y2, y3⟩ := id z2
  have key : ∀ g g', wc_Rl ok ρ h' g g' → wc_Rl ok' ρ h' g g' := fun g g' ⟨x1, x2, w1, w2, w3, w4⟩ => ⟨x1, x2, w1, w2, w3, fun t ht => w4 t (ho t ht)⟩
  exact h as' h' q1' q2' ⟨ρ, as, h0, q1, q2, z1, ⟨y1, y2, y3.1, Nat.le_refl _, fun _ _ => ⟨rfl, rfl⟩, fun _ _ => ⟨rfl, rfl, rfl⟩⟩, z3, fun v g v' g' hv ro rl => z4 v g v' g' hv ro (key g g' rl), fun t g g' hv rl => z5 t g g' hv (key g g' rl)⟩
/-- class contracts in the law's world, with their frame -/
theorem wl_cl {l : Launch} {D : va_G} {aC : wm_Y} {b0 mi : Nat} {sp : List wi_V → wc_H → wi_Q1 wc_H → wi_Q2 wc_H → Prop} (h : wm_sp l D aC b0 mi (wi_lf (wc_Rl wc_ok) sp)) : wm_sp l D aC b0 mi (wi_lf (wc_Rl wc_ok3) (wc_fr wc_ok sp)) := wc_wid (fun t ht => by
  unfold wc_ok3 at ht
  split at ht
  · rfl
  · rfl
  · cases ht) (wc_free h)
/-- what a class's state needs of a heap -/
theorem wk_J_c {tg ln : Nat → Nat} {I L I' L' : wm_F Int} {R R' : wm_F (Option Nat)} {n x : Nat} {M : mq_H} (h : ∀ t, t < 28 → t ≠ 11 → I' t = I t ∧ L' t = L t ∧ R' t = R t) (k : wk_J (tg, ln, I, L, R, n) x M) : wk_J (tg, ln, I', L', R', n) x M := by
  obtain ⟨cd, lm, st, sg, el, dr, sz, pr, wc, sp, nw, A, B, rfl, g, gd, ct, hK, hM⟩ := mq_f_e k
  refine ⟨g, gd, ct, ?_, hM⟩
  obtain ⟨hn, kN, kB, kS, kA, kV, kD, kR, kT, kU, kX1, kX2, kX3, kW⟩ := id hK
  have i : ∀ t, t < 28 → t ≠ 11 → I' t = I t := fun t a b => (h t a b).1
  have j : ∀ t, t < 28 → t ≠ 11 → L' t = L t := fun t a b => (h t a b).2.1
  have r : ∀ t, t < 28 → t ≠ 11 → R' t = R t := fun t a b => (h t a b).2.2
  refine ⟨hn, ?_, ?_, ?_, ?_, ?_, ?_, ?_, ?_, ?_, ?_, ?_, ?_, ?_⟩
  · rw [i 2 (by decide) (by decide), j 2 (by decide) (by decide)]; exact kN
  · rw [r 2 (by decide) (by decide), r 6 (by decide) (by decide), r 10 (by decide) (by decide)]; exact kB
  · rw [i 5 (by decide) (by decide), r 5 (by decide) (by decide), r 20 (by decide) (by decide)]; exact kS
  · rw [i 5 (by decide) (by decide)]; exact kA
  · rw [i 26 (by decide) (by decide), i 27 (by decide) (by decide)]; exact kV
  · rw [i 3 (by decide) (by decide), r 3 (by decide) (by decide), r 22 (by decide) (by decide), r 5 (by decide) (by decide)]; exact kD
  · exact wc_rv_e (Nat.le_refl _) ⟨i 4 (by decide) (by decide), i 7 (by decide) (by decide), i 9 (by decide) (by decide), j 9 (by decide) (by decide), r 4 (by decide) (by decide), r 7 (by decide) (by decide), r 9 (by decide) (by decide)⟩ kR
  · rw [r 8 (by decide) (by decide), r 6 (by decide) (by decide), r 21 (by decide) (by decide)]; exact kT
  · rw [i 8 (by decide) (by decide), j 8 (by decide) (by decide)]; exact kU
  · rw [j 25 (by decide) (by decide)]; exact kX1
  · rw [j 25 (by decide) (by decide)]; exact kX2
  · rw [j 25 (by decide) (by decide)]; exact kX3
  · rw [i 10 (by decide) (by decide), i 24 (by decide) (by decide), j 23 (by decide) (by decide)]; exact kW
/-- the model's object at m, its arrays at ad, with the state M -/
def wl_R (h : wc_H) (m : Nat) (ad : Nat → Nat) (M : mq_H) : Prop :=
  h.1 m = 11 ∧ M.1 = [h.2.2.1 11 0 m, h.2.2.1 11 1 m, h.2.2.1 11 2 m, h.2.2.1 11 3 m, h.2.2.1 11 9 m, h.2.2.1 11 12 m, h.2.2.1 11 16 m, h.2.2.1 11 23 m, h.2.2.1 11 31 m, h.2.2.1 11 33 m, h.2.2.2.1 11 32 m] ∧
  (∀ x ∈ md_as, h.2.2.2.2.1 11 x.1 m = some (ad x.2.1) ∧ h.1 (ad x.2.1) = x.2.1 ∧ h.2.1 (ad x.2.1) = x.2.2 ∧ (∀ k, h.2.2.1 x.2.1 k (ad x.2.1) = M.2.1 x.2.1 k) ∧ ∀ k, h.2.2.2.1 x.2.1 k (ad x.2.1) = M.2.2 x.2.1 k) ∧
  ∀ t k, 11 < t → (∃ w : Int32, w.toInt = M.2.1 t k) ∧ ∃ w : Int64, w.toInt = M.2.2 t k
def wl_S (h h2 : wc_H) (m : Nat) (ad : Nat → Nat) (M : mq_H) : Prop := wl_R h2 m ad M ∧ h2.1 = h.1 ∧ h2.2.1 = h.2.1 ∧ (∀ t, t < 30 → t ≠ 11 → h2.2.2.1 t = h.2.2.1 t ∧ h2.2.2.2.1 t = h.2.2.2.1 t) ∧ h2.2.2.2.2.1 = h.2.2.2.2.1 ∧ h2.2.2.2.2.2 = h.2.2.2.2.2
def wl_nr (v : wi_V) : Prop := match v with
  | .inl _ => True
  | .inr (.inl _) => True
  | _ => False
def wl_nb (b : Option wi_V) : Prop := match b with
  | none => True
  | some v => wl_nr v
/-- a contract of the model in the law's world -/
def wl_m (sm : List wi_V → mq_H → wi_Q1 mq_H → wi_Q2 mq_H → Prop) (as : List wi_V) (h : wc_H) (q : wi_Q1 wc_H) (_ : wi_Q2 wc_H) : Prop :=
  ∃ m r ad M, as = wi_rf (some m) :: r ∧ (∀ v ∈ r, wl_nr v) ∧ wl_R h m ad M ∧ sm (wi_rf (some 11) :: r) M (fun b M' => wl_nb b ∧ ∀ h2, wl_S h h2 m ad M' → q b h2) (fun _ _ => False)
theorem wl_rs_nr {ρ ρ' : Nat → Nat} : ∀ {r : List wi_V} {s : List wm_V}, (∀ v ∈ r, wl_nr v) → wi_rs ρ r s → wi_rs ρ' r s
  | [], [], _, _ => trivial
  | [], _ :: _, _, h => h.elim
  | _ :: _, [], _, h => h.elim
  | v :: r, x :: s, hv, h => by
    obtain ⟨h1, h2⟩ := h
    refine ⟨?_, wl_rs_nr (fun w hw => hv w (List.mem_cons_of_mem _ hw)) h2⟩
    have h3 := hv v List.mem_cons_self
    rcases v with v | v | v | v
    · exact h1
    · exact h1
    · exact h3.elim
    · exact h3.elim
theorem wl_mok {l : Launch} {D : va_G} {aC : wm_Y} {b0 mi : Nat} {sm : List wi_V → mq_H → wi_Q1 mq_H → wi_Q2 mq_H → Prop} (h : wm_sp l D aC b0 mi (wi_lf mq_Rl sm)) : wm_sp l D aC b0 mi (wi_lf (wc_Rl wc_ok3) (wl_m sm)) := by
  intro as' h' q1' q2' z
  obtain ⟨ρ, as, h0, q1, q2, z1, z2, z3, z4, z5⟩ := z
  obtain ⟨y1, ⟨e1, e2, e3, e4, e5, e6⟩, y3⟩ := id z2
  obtain ⟨m, r, ad, M, rfl, hr, ⟨r1, r2, r3, r4⟩, hs⟩ := z3
  obtain ⟨W, hW⟩ : ∃ W : Nat → Nat → Int32, ∀ t k, 11 < t → (W t k).toInt = M.2.1 t k := ⟨fun t k => if h : 11 < t then Classical.choose (r4 t k h).1 else 0, fun t k h => by
    simp only [dif_pos h]
    exact Classical.choose_spec (r4 t k h).1⟩
  obtain ⟨V, hV⟩ : ∃ V : Nat → Nat → Int64, ∀ t k, 11 < t → (V t k).toInt = M.2.2 t k := ⟨fun t k => if h : 11 < t then Classical.choose (r4 t k h).2 else 0, fun t k h => by
    simp only [dif_pos h]
    exact Classical.choose_spec (r4 t k h).2⟩
  have ρa : ∀ x ∈ md_as, (fun a => if a = 11 then m else ad a) x.2.1 = ad x.2.1 := fun x hx => if_neg (by have := md_as_t x hx; omega)
  have hR : md_R h' m (fun a => if a = 11 then m else ad a) (fun t k => if t = 11 then h'.2.2.1 11 k m else W t k, fun t k => if t = 11 then h'.2.2.2.1 11 k m else V t k) := by
    refine ⟨by rw [e1]; exact r1, fun k => by simp only [if_true], fun k => by simp only [if_true], fun x hx => ?_⟩
    obtain ⟨a1, a2, a3, a4, a5⟩ := r3 x hx
    have ht : x.2.1 ≠ 11 := by have := md_as_t x hx; omega
    have ht2 : 11 < x.2.1 := by have := md_as_t x hx; omega
    rw [ρa x hx]
    refine ⟨by rw [e5]; exact a1, by rw [e1]; exact a2, by rw [e2]; exact a3, fun k => ?_, fun k => ?_⟩
    · simp only [if_neg ht]
      apply Int32.toInt_inj.mp
      rw [e3, hW _ _ ht2]
      exact a4 k
    · simp only [if_neg ht]
      apply Int64.toInt_inj.mp
      rw [e4, hV _ _ ht2]
      exact a5 k
  have hE : mq_E M (fun t k => if t = 11 then h'.2.2.1 11 k m else W t k, fun t k => if t = 11 then h'.2.2.2.1 11 k m else V t k) := by
    refine ⟨?_, fun t k ht => ?_, fun t k ht => ?_⟩
    · rw [r2]
      simp only [mq_F, if_true, e3, e4]
    · simp only [if_neg (show t ≠ 11 from by omega)]
      exact hW t k ht
    · simp only [if_neg (show t ≠ 11 from by omega)]
      exact hV t k ht
  have ar : wi_rs (fun a => if a = 11 then m else ad a) (wi_rf (some 11) :: r) as' := by
    cases as' with
    | nil => exact z1.elim
    | cons x s =>
      obtain ⟨x1, x2⟩ := z1
      refine ⟨?_, wl_rs_nr hr x2⟩
      show x = .inr (.inr (some _))
      have x1 : x = .inr (.inr (some (ρ m))) := x1
      rw [x1, y1]
      rfl
  refine h as' h' q1' q2' ⟨_, _, M, _, _, ar, ⟨_, md_S_rf hR, hE⟩, hs, fun v M' v' g' hv ro rl => ?_, fun t M' g' hf _ => hf.elim⟩
  obtain ⟨N', ⟨⟨a1, a2, a3, a4⟩, F1, F2, F3, F4, F5⟩, E1, E2, E3⟩ := rl
  have nb := hv.1
  have ro2 : wi_ro ρ v v' := by
    unfold wi_ro at ro ⊢
    cases v with
    | none =>
      cases v' with
      | none => trivial
      | some w => exact ro.elim
    | some v => exact wl_rs_nr (fun w hw => by cases List.mem_singleton.mp hw; exact nb) ro
  refine z4 v (g'.1, g'.2.1, fun t k q => (g'.2.2.1 t k q).toInt, fun t k q => (g'.2.2.2.1 t k q).toInt, g'.2.2.2.2.1, g'.2.2.2.2.2) v' g' (hv.2 _ ⟨⟨a1, ?_, fun x hx => ?_, fun t k ht => ⟨⟨_, E2 t k ht⟩, ⟨_, E3 t k ht⟩⟩⟩, F1.trans e1, F2.trans e2, fun t t1 t2 => ⟨?_, ?_⟩, F4.trans e5, F5.trans e6⟩) ro2 ⟨y1, ⟨rfl, rfl, fun _ _ _ => rfl, fun _ _ _ => rfl, rfl, rfl⟩, fun q hq => ?_, ?_, fun q hq => ?_, fun t ht => ?_⟩
  · rw [E1]
    simp only [mq_F]
    rw [← a2 0, ← a2 1, ← a2 2, ← a2 3, ← a2 9, ← a2 12, ← a2 16, ← a2 23, ← a2 31, ← a2 33, ← a3 32]
    rfl
  · obtain ⟨b1, b2, b3, b4, b5⟩ := a4 x hx
    rw [ρa x hx] at b1 b2 b3 b4 b5
    have ht2 : 11 < x.2.1 := by have := md_as_t x hx; omega
    refine ⟨b1, b2, b3, fun k => ?_, fun k => ?_⟩
    · simp only
      rw [b4 k]
      exact E2 _ _ ht2
    · simp only
      rw [b5 k]
      exact E3 _ _ ht2
  · funext k q
    simp only
    rw [(F3 t t1 t2).1]
    exact e3 t k q
  · funext k q
    simp only
    rw [(F3 t t1 t2).2]
    exact e4 t k q
  · rw [F5]
    exact y3.1 q (by rw [← F1]; exact hq)
  · rw [F5]
    exact Nat.le_refl _
  · rw [F1, F2]
    exact ⟨rfl, rfl⟩
  · have t9 : t < 30 ∧ t ≠ 11 := by
      unfold wc_ok3 at ht
      split at ht
      · omega
      · omega
      · cases ht
    exact ⟨(F3 t t9.1 t9.2).1, (F3 t t9.1 t9.2).2, by rw [F4]⟩
/-- the model's state stays over a call of the class -/
theorem wl_R_c {h h2 : wc_H} {m : Nat} {ad : Nat → Nat} {M : mq_H} (k : wl_R h m ad M) (hn : wc_hn h) (g : wc_G wc_ok h h2) : wl_R h2 m ad M := by
  obtain ⟨r1, r2, r3, r4⟩ := k
  obtain ⟨-, g2, g3, g4⟩ := g
  have t11 := g4 11 rfl
  have mn : m < h.2.2.2.2.2 := hn m (by rw [r1]; decide)
  refine ⟨(g3 m mn).1.trans r1, ?_, fun x hx => ?_, r4⟩
  · rw [t11.1, t11.2.1]
    exact r2
  · obtain ⟨a1, a2, a3, a4, a5⟩ := r3 x hx
    have hx30 := md_as_t x hx
    have tx := g4 x.2.1 (by
      have : ∀ t, 30 ≤ t → wc_ok t = false := fun t ht => by
        unfold wc_ok
        split
        · rfl
        · rfl
        · rfl
        · exact Bool.eq_false_iff.mpr (fun z => by have := Nat.le_of_ble_eq_true z; omega)
      exact this _ hx30)
    have xn : ad x.2.1 < h.2.2.2.2.2 := hn _ (by rw [a2]; omega)
    rw [t11.2.2, tx.1, tx.2.1]
    exact ⟨a1, (g3 _ xn).1.trans a2, (g3 _ xn).2.trans a3, a4, a5⟩
/-- the class's state stays over a call of the model -/
theorem wl_J_c {h h2 : wc_H} {m x : Nat} {ad : Nat → Nat} {M M' : mq_H} (k : wk_J h x M) (s : wl_S h h2 m ad M') : wk_J h2 x M := by
  obtain ⟨-, s1, s2, s3, s4, s5⟩ := s
  obtain ⟨tg, ln, I, L, R, n⟩ := h
  obtain ⟨tg2, ln2, I2, L2, R2, n2⟩ := h2
  simp only at s1 s2 s3 s4 s5
  subst s1 s2 s4 s5
  exact wk_J_c (fun t t1 t2 => ⟨(s3 t (by omega) t2).1, (s3 t (by omega) t2).2, rfl⟩) k
