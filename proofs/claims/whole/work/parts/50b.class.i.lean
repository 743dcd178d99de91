/-! THE CLASS, 10: update of a signal -/
def wc_uy (I : wm_F Int) (rw : Nat → Nat) (x va : Nat) (l : List (Nat × Nat)) (j : Nat) : Int := wc_to (I 5 0 x) (I 26 j va) (fun d => I 4 2 (rw d)) j l
def wc_ug (I I' : wm_F Int) (rw : Nat → Nat) (x : Nat) (l : List (Nat × Nat)) (va la k : Nat) : Prop :=
  (∀ t j a, ¬ (t = 26 ∧ a = va ∧ j < k) → ¬ (t = 27 ∧ a = la ∧ j < k) → I' t j a = I t j a) ∧ (∀ j, j < k → I' 26 j va = wc_uy I rw x va l j ∧ I' 27 j la = I 26 j va)
theorem wc_ug_s {I I' : wm_F Int} {rw : Nat → Nat} {x : Nat} {l : List (Nat × Nat)} {va la k : Nat} (h : wc_ug I I' rw x l va la k) : wc_ug I (wm_up (wm_up I' 27 k la (I 26 k va)) 26 k va (wc_uy I rw x va l k)) rw x l va la (k + 1) := by
  obtain ⟨h1, h2⟩ := h
  refine ⟨fun t j a z1 z2 => ?_, fun j hj => ?_⟩
  · simp only [wm_up]
    rw [if_neg (fun y => z1 ⟨y.1, y.2.2, by omega⟩), if_neg (fun y => z2 ⟨y.1, y.2.2, by omega⟩)]
    exact h1 t j a (fun y => z1 ⟨y.1, y.2.1, by omega⟩) (fun y => z2 ⟨y.1, y.2.1, by omega⟩)
  · by_cases z : j = k
    · subst z
      refine ⟨wm_up_self, ?_⟩
      rw [wm_up_t (by decide), wm_up_self]
    · refine ⟨?_, ?_⟩
      · rw [wm_up_k z, wm_up_t (by decide)]
        exact (h2 j (by omega)).1
      · rw [wm_up_t (by decide), wm_up_k z]
        exact (h2 j (by omega)).2
def sc_54 (as : List wi_V) (h : wc_H) (q : wi_Q1 wc_H) (qt : wi_Q2 wc_H) : Prop := wc_sT as (fun x => wc_f h fun tg ln I L R n => tg x = 5 ∧ ∃ (w : Nat) (rw : Nat → Nat) (pp : Nat → Int) (l : List (Nat × Nat)) (va la : Nat), I 5 1 x = w ∧ w ≤ 64 ∧ wc_dc tg ln (I 3) (R 3) (R 22) w rw pp (R 5 4 x) l ∧ R 5 2 x = some va ∧ tg va = 26 ∧ ln va = w ∧ R 5 3 x = some la ∧ tg la = 27 ∧ ln la = w ∧ (∀ c ∈ l, ∀ k : Nat, k < w → tg (rw (c.2 + k)) = 4) ∧ (I 5 0 x ≠ 2 → ∀ c ∈ l, ∀ k : Nat, k < w → 0 ≤ I 4 2 (rw (c.2 + k)) ∧ I 4 2 (rw (c.2 + k)) ≤ 8) ∧ ((∀ k : Nat, k < w → wc_uy I rw x va l k = I 26 k va) → q (some (.inl 0)) (tg, ln, I, L, R, n)) ∧ ((∃ k : Nat, k < w ∧ wc_uy I rw x va l k ≠ I 26 k va) → ∀ I', wc_ug I I' rw x l va la w → q (some (.inl 1)) (tg, ln, I', L, R, n)))
theorem cm_54 {l : Launch} {D : va_G} {aC : wm_Y} {b0 : Nat} (hl0 : l.stackTraces = false) : wm_sp l D aC b0 54 (wi_lf (wc_Rl wc_ok) sc_54) := by
  refine wi_method (wc_lw wc_ok) 54 (cx := fun id => if id = 55 then sc_55 else fun _ _ _ _ => False) (ids := ci_54) (tb := tb_54) (by decide +kernel) hl0 (wm_cxc (cm_55 hl0) oi_54 (fun h => wm_cxn h)) (wm_tb_ok tk_54) (by decide +kernel) [4, 40] 250 (fun as h q qt hs => ?_)
  obtain ⟨x, rfl, hs1⟩ := wc_sT_e hs
  clear hs
  obtain ⟨tg, ln, I, L, R, n⟩ := h
  have hs := id hs1
  clear hs1
  simp only [wc_f] at hs
  obtain ⟨a1, w, rw, pp, l, va, la, e1, r1, c1, a2, a3, a4, a5, a6, a7, b1, b2, h1, h2⟩ := hs
  refine ⟨rfl, fun mz pc lv sk h cu su => match pc with | 4 => ∃ k : Nat, ∃ ch : Int, lv = [some (wi_rf (some x)), some (.inl (ch)), some (.inl ((k : Int)))] ∧ sk = [] ∧ h = (tg, ln, I, L, R, n) ∧ cu = 0 ∧ su = 0 ∧ mz = 1000 + w - k ∧ k ≤ w ∧ ((ch = 1 ∧ ∃ j : Nat, j < k ∧ wc_uy I rw x va l j ≠ I 26 j va) ∨ (ch = 0 ∧ ∀ j : Nat, j < k → wc_uy I rw x va l j = I 26 j va)) | 40 => ∃ k : Nat, ∃ I2 : wm_F Int, lv = [some (wi_rf (some x)), some (.inl (1)), some (.inl ((k : Int)))] ∧ sk = [] ∧ h = (tg, ln, I2, L, R, n) ∧ cu = 0 ∧ su = 0 ∧ mz = w - k ∧ k ≤ w ∧ (∃ j : Nat, j < w ∧ wc_uy I rw x va l j ≠ I 26 j va) ∧ wc_ug I I2 rw x l va la k | _ => False, mq_c2 (fun mz lv sk h cu su hI => ?_) (fun mz lv sk h cu su hI => ?_), ?_⟩
  · obtain ⟨k, ch, rfl, rfl, rfl, rfl, rfl, rfl, p1, p2⟩ := hI
    have ek : ((k : Int)).toNat = k := by omega
    have hch : ch = 0 ∨ ch = 1 := p2.elim (fun z => Or.inr z.1) (fun z => Or.inl z.1)
    by_cases hk : k < w
    · have bl : (k : Int) < ln va := by omega
      have kw : (k : Int) < (w : Int) := by omega
      have g1 : ∀ c ∈ l, tg (rw (c.2 + (k : Int).toNat)) = 4 := fun c hc => by rw [ek]; exact b1 c hc k hk
      have g2 : I 5 0 x ≠ 2 → ∀ c ∈ l, 0 ≤ I 4 2 (rw (c.2 + (k : Int).toNat)) ∧ I 4 2 (rw (c.2 + (k : Int).toNat)) ≤ 8 := fun z c hc => by rw [ek]; exact b2 z c hc k hk
      have ez : wc_to (I 5 0 x) (I 26 (k : Int).toNat va) (fun d => I 4 2 (rw d)) (k : Int).toNat l = wc_uy I rw x va l k := by rw [ek]; rfl
      have n1 : wc_uy I rw x va l k ≠ I 26 k va → ((1 : Int) = 1 ∧ ∃ j : Nat, j < k + 1 ∧ wc_uy I rw x va l j ≠ I 26 j va) ∨ ((1 : Int) = 0 ∧ ∀ j : Nat, j < k + 1 → wc_uy I rw x va l j = I 26 j va) := fun z => Or.inl ⟨rfl, k, Nat.lt_succ_self _, z⟩
      have n0 : wc_uy I rw x va l k = I 26 k va → (ch = 1 ∧ ∃ j : Nat, j < k + 1 ∧ wc_uy I rw x va l j ≠ I 26 j va) ∨ (ch = 0 ∧ ∀ j : Nat, j < k + 1 → wc_uy I rw x va l j = I 26 j va) := fun z => p2.elim (fun y => Or.inl ⟨y.1, y.2.elim fun j hj => ⟨j, by omega, hj.2⟩⟩) (fun y => Or.inr ⟨y.1, fun j hj => by
        by_cases z2 : j = k
        · rw [z2]; exact z
        · exact y.2 j (by omega)⟩)
      repeat' first
        | refine And.intro ?_ ?_
        | refine Exists.intro w (Exists.intro rw (Exists.intro pp (Exists.intro l (Exists.intro va (And.intro c1 (And.intro kw (And.intro g1 (And.intro g2 (And.intro a2 (And.intro a3 (And.intro a4 ?_)))))))))))
        | (intro (hz : wc_to _ _ _ _ _ = I 26 (k : Int).toNat va); rw [ez, ek] at hz)
        | (intro (hz : wc_to _ _ _ _ _ ≠ I 26 (k : Int).toNat va); rw [ez, ek] at hz)
        | refine Exists.intro _ (And.intro a2 (And.intro a3 ?_))
        | (intro q9 (e9 : (_ : Option Nat) = some q9); cases e9)
        | (intro (e9 : (some _ : Option Nat) = none); cases e9)
        | (intro (e9 : (none : Option Nat) = none); clear e9)
        | refine Exists.intro _ (And.intro (show _ = _ from by assumption) ?_)
        | refine Exists.intro _ (And.intro rfl (And.intro (by assumption) ?_))
        | refine Exists.intro _ (And.intro rfl ?_)
        | (intro h; try omega)
        | omega
        | (refine Exists.intro _ (And.intro ?_ (Exists.intro (k + 1) (Exists.intro (ch) (And.intro rfl (And.intro rfl (And.intro rfl (And.intro rfl (And.intro rfl (And.intro rfl (?_)))))))))) <;> first | omega | exact ⟨by omega, n0 hz⟩)
        | (refine Exists.intro _ (And.intro ?_ (Exists.intro (k + 1) (Exists.intro (1) (And.intro rfl (And.intro rfl (And.intro rfl (And.intro rfl (And.intro rfl (And.intro rfl (?_)))))))))) <;> first | omega | exact ⟨by omega, n1 hz⟩)
        | exact Nat.le_of_ble_eq_true rfl
        | assumption
    · have : k = w := by omega
      subst this
      have f0 : ch = 0 → q (some (.inl ch)) (tg, ln, I, L, R, n) := fun z => by
        rcases p2 with y | y
        · omega
        · rw [z]; exact h1 y.2
      have f1 : ch ≠ 0 → ch = 1 ∧ ∃ j : Nat, j < k ∧ wc_uy I rw x va l j ≠ I 26 j va := fun z => p2.resolve_right (fun y => z y.1)
      by_cases hc0 : ch = 0
      · have f0 := f0 hc0
        repeat' first
          | refine And.intro ?_ ?_
          | (intro q9 (e9 : (_ : Option Nat) = some q9); cases e9)
          | (intro (e9 : (some _ : Option Nat) = none); cases e9)
          | (intro (e9 : (none : Option Nat) = none); clear e9)
          | refine Exists.intro _ (And.intro (show _ = _ from by assumption) ?_)
          | refine Exists.intro _ (And.intro rfl (And.intro (by assumption) ?_))
          | refine Exists.intro _ (And.intro rfl ?_)
          | (intro h; try omega)
          | omega
          | exact f0
          | exact Nat.le_of_ble_eq_true rfl
          | assumption
      · obtain ⟨rfl, f3⟩ := f1 hc0
        have nx : wc_ug I I rw x l va la 0 := ⟨fun _ _ _ _ _ => rfl, fun j hj => absurd hj (Nat.not_lt_zero _)⟩
        repeat' first
          | refine And.intro ?_ ?_
          | (intro q9 (e9 : (_ : Option Nat) = some q9); cases e9)
          | (intro (e9 : (some _ : Option Nat) = none); cases e9)
          | (intro (e9 : (none : Option Nat) = none); clear e9)
          | refine Exists.intro _ (And.intro (show _ = _ from by assumption) ?_)
          | refine Exists.intro _ (And.intro rfl (And.intro (by assumption) ?_))
          | refine Exists.intro _ (And.intro rfl ?_)
          | (intro h; try omega)
          | omega
          | (refine Exists.intro _ (And.intro ?_ (Exists.intro (0) (Exists.intro (_) (And.intro rfl (And.intro rfl (And.intro rfl (And.intro rfl (And.intro rfl (And.intro rfl (?_)))))))))) <;> first | omega | exact ⟨Nat.zero_le _, f3, nx⟩)
          | exact Nat.le_of_ble_eq_true rfl
          | assumption
  · obtain ⟨k, I2, rfl, rfl, rfl, rfl, rfl, rfl, p1, p2, p3⟩ := hI
    have ek : ((k : Int)).toNat = k := by omega
    have i51 : I2 5 1 x = w := (p3.1 5 1 x (by omega) (by omega)).trans e1
    by_cases hk : k < w
    · have bl : (k : Int) < ln va := by omega
      have bl2 : (k : Int) < ln la := by omega
      have kw : (k : Int) < (w : Int) := by omega
      have i26 : I2 26 (k : Int).toNat va = I 26 k va := by rw [ek]; exact p3.1 26 k va (by omega) (by omega)
      have g0 : ∀ t j a, t ≠ 26 → t ≠ 27 → wm_up I2 27 k la (I 26 k va) t j a = I t j a := fun t j a z1 z2 => by
        rw [wm_up_t z2]
        exact p3.1 t j a (fun y => z1 y.1) (fun y => z2 y.1)
      have i3 : (wm_up I2 27 k la (I 26 k va)) 3 = I 3 := by
        funext j a
        exact g0 3 j a (by decide) (by decide)
      have c1' : wc_dc tg ln ((wm_up I2 27 k la (I 26 k va)) 3) (R 3) (R 22) w rw pp (R 5 4 x) l := by rw [i3]; exact c1
      have g1 : ∀ c ∈ l, tg (rw (c.2 + (k : Int).toNat)) = 4 := fun c hc => by rw [ek]; exact b1 c hc k hk
      have g2 : (wm_up I2 27 k la (I 26 k va)) 5 0 x ≠ 2 → ∀ c ∈ l, 0 ≤ (wm_up I2 27 k la (I 26 k va)) 4 2 (rw (c.2 + (k : Int).toNat)) ∧ (wm_up I2 27 k la (I 26 k va)) 4 2 (rw (c.2 + (k : Int).toNat)) ≤ 8 := fun z c hc => by
        rw [g0 4 2 _ (by decide) (by decide), ek]
        rw [g0 5 0 _ (by decide) (by decide)] at z
        exact b2 z c hc k hk
      have ez : wc_to ((wm_up I2 27 k la (I 26 k va)) 5 0 x) ((wm_up I2 27 k la (I 26 k va)) 26 (k : Int).toNat va) (fun d => (wm_up I2 27 k la (I 26 k va)) 4 2 (rw d)) (k : Int).toNat l = wc_uy I rw x va l k := by
        rw [g0 5 0 _ (by decide) (by decide), wm_up_t (t' := 26) (by decide), i26, ek]
        unfold wc_uy
        congr 1
        funext d
        exact g0 4 2 _ (by decide) (by decide)
      have nx := wc_ug_s p3
      repeat' first
        | refine And.intro ?_ ?_
        | refine Exists.intro w (Exists.intro rw (Exists.intro pp (Exists.intro l (Exists.intro va (And.intro c1' (And.intro kw (And.intro g1 (And.intro g2 (And.intro a2 (And.intro a3 (And.intro a4 ?_)))))))))))
        | (intro I3 (e3 : I3 = wm_up I2 27 (k : Int).toNat la (I2 26 (k : Int).toNat va)); rw [i26, ek] at e3; subst e3)
        | (intro I3 (e3 : I3 = wm_up (wm_up I2 27 k la (I 26 k va)) 26 (k : Int).toNat va (wc_to _ _ _ _ _)); rw [ez, ek] at e3; subst e3)
        | refine Exists.intro _ (And.intro a2 (And.intro a3 ?_))
        | refine Exists.intro _ (And.intro a5 (And.intro a6 ?_))
        | (intro q9 (e9 : (_ : Option Nat) = some q9); cases e9)
        | (intro (e9 : (some _ : Option Nat) = none); cases e9)
        | (intro (e9 : (none : Option Nat) = none); clear e9)
        | refine Exists.intro _ (And.intro (show _ = _ from by assumption) ?_)
        | refine Exists.intro _ (And.intro rfl (And.intro (by assumption) ?_))
        | refine Exists.intro _ (And.intro rfl ?_)
        | (intro h; try omega)
        | omega
        | (refine Exists.intro _ (And.intro ?_ (Exists.intro (k + 1) (Exists.intro (_) (And.intro rfl (And.intro rfl (And.intro rfl (And.intro rfl (And.intro rfl (And.intro rfl (?_)))))))))) <;> first | omega | exact ⟨by omega, p2, nx⟩)
        | exact Nat.le_of_ble_eq_true rfl
        | assumption
    · have : k = w := by omega
      subst this
      have f1 := h2 p2 I2 p3
      repeat' first
        | refine And.intro ?_ ?_
        | (intro q9 (e9 : (_ : Option Nat) = some q9); cases e9)
        | (intro (e9 : (some _ : Option Nat) = none); cases e9)
        | (intro (e9 : (none : Option Nat) = none); clear e9)
        | refine Exists.intro _ (And.intro (show _ = _ from by assumption) ?_)
        | refine Exists.intro _ (And.intro rfl (And.intro (by assumption) ?_))
        | refine Exists.intro _ (And.intro rfl ?_)
        | (intro h; try omega)
        | omega
        | exact f1
        | exact Nat.le_of_ble_eq_true rfl
        | assumption
  · repeat' first
      | refine And.intro ?_ ?_
      | refine Exists.intro _ (And.intro (show _ = _ from by assumption) ?_)
      | refine Exists.intro _ (And.intro rfl (And.intro (by assumption) ?_))
      | refine Exists.intro _ (And.intro rfl ?_)
      | (intro h; try omega)
      | omega
      | (refine Exists.intro _ (Exists.intro (0) (Exists.intro (0) (And.intro rfl (And.intro rfl (And.intro rfl (And.intro rfl (And.intro rfl (And.intro rfl (?_))))))))) <;> exact ⟨Nat.zero_le _, Or.inr ⟨rfl, fun j hj => absurd hj (Nat.not_lt_zero _)⟩⟩)
      | exact Nat.le_of_ble_eq_true rfl
      | assumption
