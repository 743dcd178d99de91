/-! THE CLASS, 4: rows -/
def sc_46 (as : List wi_V) (h : wc_H) (q : wi_Q1 wc_H) (qt : wi_Q2 wc_H) : Prop := wc_sTOO as (fun x b k => wc_f h fun tg ln I L R n => ∃ s P D K ids, wc_rs (tg, ln, I, L, R, n) x s (P ++ D ++ K) ids ∧ b = P.getLast? ∧ k = K.head? ∧ (D.length : Int) ≤ I 7 0 s ∧ I 7 0 s ≤ 100000 ∧ ∀ I1 R1, wc_rs (tg, ln, I1, L, R1, n) x s (P ++ K) (D.reverse ++ ids) → wc_ro (tg, ln, I, L, R, n) (tg, ln, I1, L, R1, n) x s (P ++ D ++ K ++ ids) → I1 7 0 s = I 7 0 s - D.length → (∀ t j a, ¬ (t = 7 ∧ j = 0 ∧ a = s) → I1 t j a = I t j a) → q (some (.inl (D.length : Int))) (tg, ln, I1, L, R1, n))
theorem cm_46 {l : Launch} {D : va_G} {aC : wm_Y} {b0 : Nat} (hl0 : l.stackTraces = false) : wm_sp l D aC b0 46 (wi_lf (wc_Rl wc_ok) sc_46) := by
  refine wi_method (wc_lw wc_ok) 46 (cx := fun id => if id = 47 then sc_47 else if id = 65 then sc_65 else fun _ _ _ _ => False) (ids := ci_46) (tb := tb_46) (by decide +kernel) hl0 (wm_cxc (cm_47 hl0) oi_46 (fun h => wm_cxc (cm_65 hl0) h (fun h => wm_cxn h))) (wm_tb_ok tk_46) (by decide +kernel) [19] 250 (fun as h q qt hs => ?_)
  obtain ⟨x, b, k, rfl, hs1⟩ := wc_sTOO_e hs
  clear hs
  obtain ⟨tg, ln, I, L, R, n⟩ := h
  have hs := id hs1
  clear hs1
  simp only [wc_f] at hs
  obtain ⟨s, P, D9, K, ids, hr, rfl, rfl, r1, r2, h1⟩ := hs
  obtain ⟨a1, a2, a3, a4, a5, a6, a7⟩ := id hr
  simp only at a1 a2 a3 a4 a5 a7
  have hnd := List.nodup_append.mp a6
  have hmem : ∀ a ∈ P ++ D9 ++ K ++ ids, tg a = 9 := fun a ha => (a7 a ha).1
  have hxs : x ≠ s := fun z => by rw [z, a3] at a1; cases a1
  have hs9 : ∀ a ∈ P ++ D9 ++ K ++ ids, a ≠ s := fun a ha z => by have := hmem a ha; rw [z, a3] at this; cases this
  have hx9 : ∀ a ∈ P ++ D9 ++ K ++ ids, a ≠ x := fun a ha z => by have := hmem a ha; rw [z, a1] at this; cases this
  refine ⟨rfl, fun mz pc lv sk h cu su => ∃ Dd : List Nat, ∃ Dr : List Nat, ∃ I1 : wm_F Int, ∃ R1 : wm_F (Option Nat), ∃ y5 : Option wi_V, lv = [some (wi_rf (some x)), some (wi_rf (P.getLast?)), some (wi_rf (K.head?)), some (.inl ((Dd.length : Int))), some (wi_rf ((Dr ++ K).head?)), y5] ∧ sk = [] ∧ h = (tg, ln, I1, L, R1, n) ∧ cu = 0 ∧ su = 0 ∧ mz = Dr.length ∧ D9 = Dd ++ Dr ∧ wc_ch R1 (Dr ++ K).head? (Dr ++ K) ∧ wc_ch R1 (R1 7 1 s) (Dd.reverse ++ ids) ∧ (∀ t j a, ¬ (t = 9 ∧ j = 2 ∧ a ∈ Dd) → ¬ (t = 7 ∧ j = 1 ∧ a = s) → R1 t j a = R t j a) ∧ I1 7 0 s = I 7 0 s - Dd.length ∧ (∀ t j a, ¬ (t = 7 ∧ j = 0 ∧ a = s) → I1 t j a = I t j a), mq_c1 (fun mz lv sk h cu su hI => ?_), ?_⟩
  · obtain ⟨Dd, Dr, I1, R1, y5, rfl, rfl, rfl, rfl, rfl, rfl, rfl, p2, p3, p4, p5, p6⟩ := hI
    have f40 : R1 4 0 x = some s := by rw [p4 4 0 x (fun z => by omega) (fun z => by omega)]; exact a2
    have hl : ((Dd ++ Dr).length : Int) = Dd.length + Dr.length := by rw [List.length_append]; omega
    cases Dr with
    | nil =>
      simp only [List.append_nil, List.nil_append] at p2 hmem hs9 hx9 h1 a4 a6 r1 hr
      have hsub : ∀ a, a ∈ P ++ K ++ (Dd.reverse ++ ids) → a ∈ P ++ Dd ++ K ++ ids := fun a ha => by
        simp only [List.mem_append, List.mem_reverse] at ha ⊢
        rcases ha with (z | z) | z | z
        · exact Or.inl (Or.inl (Or.inl z))
        · exact Or.inl (Or.inr z)
        · exact Or.inl (Or.inl (Or.inr z))
        · exact Or.inr z
      have hnd2 : (P ++ K ++ (Dd.reverse ++ ids)).Nodup := by
        refine List.Perm.nodup_iff ?_ |>.mp a6
        have e1 : (P ++ Dd ++ K ++ ids).Perm (P ++ (K ++ (Dd ++ ids))) := by
          rw [List.append_assoc, List.append_assoc]
          refine List.Perm.append_left P ?_
          rw [← List.append_assoc, ← List.append_assoc]
          exact List.Perm.append_right ids List.perm_append_comm
        refine e1.trans ?_
        rw [List.append_assoc]
        exact List.Perm.append_left P (List.Perm.append_left K (List.Perm.append_right ids (List.reverse_perm Dd).symm))
      have fin : ∀ R3, wc_ch R3 (R3 4 1 x) (P ++ K) → (∀ t j a, ¬ (t = 9 ∧ j = 2 ∧ a ∈ P) → ¬ (t = 4 ∧ j = 1 ∧ a = x) → R3 t j a = R1 t j a) → q (some (.inl (Dd.length : Int))) (tg, ln, I1, L, R3, n) := by
        intro R3 c1 c2
        have d71 : R3 7 1 s = R1 7 1 s := c2 7 1 s (fun z => by omega) (fun z => by omega)
        have dch : wc_ch R3 (R3 7 1 s) (Dd.reverse ++ ids) := by
          rw [d71]
          refine wc_ch_c p3 (fun a ha => c2 9 2 a (fun z => ?_) (fun z => by omega))
          have := (List.nodup_append.mp hnd2).2.2 a (List.mem_append_left _ z.2.2) a ha
          exact this rfl
        refine h1 I1 R3 ⟨a1, ?_, a3, c1, dch, hnd2, fun a ha => ⟨hmem a (hsub a ha), (a7 a (by simpa using hsub a ha)).2⟩⟩ ⟨Nat.le_refl _, fun _ _ => ⟨rfl, rfl⟩, fun a z1 z2 => absurd z1 (Nat.not_le.mpr z2), fun t j a z1 z2 z3 => p6 t j a z1, fun _ _ _ _ => rfl, fun t j a z1 z2 z3 => ?_⟩ p5 p6
        · show R3 4 0 x = some s
          rw [c2 4 0 x (fun z => by omega) (fun z => by omega)]
          exact f40
        · show R3 t j a = R t j a
          rw [c2 t j a (fun z => z3 ⟨z.1, Or.inl (by simp only [List.mem_append]; exact Or.inl (Or.inl (Or.inl z.2.2)))⟩) z2]
          exact p4 t j a (fun z => z3 ⟨z.1, Or.inl (by simp only [List.mem_append]; exact Or.inl (Or.inl (Or.inr z.2.2)))⟩) z1
      have nxt : ∀ Y : wm_F (Option Nat) → Prop, True := fun _ => trivial
      rcases List.eq_nil_or_concat P with rfl | ⟨P', c, rfl⟩
      · have f1 : q (some (.inl (Dd.length : Int))) (tg, ln, I1, L, wm_up R1 4 1 x K.head?, n) := by
          refine fin _ ?_ (fun t j a z1 z2 => by simp only [wm_up]; rw [if_neg z2])
          rw [wm_up_self]
          exact wc_ch_c p2 (fun a ha => by rw [wm_up_t (by decide)])
        cases K with
        | nil =>
          repeat' first
            | refine And.intro ?_ ?_
            | (intro q9 (e9 : (_ : Option Nat) = some q9); cases e9)
            | (intro (e9 : (some _ : Option Nat) = none); cases e9)
            | (intro (e9 : (none : Option Nat) = none); clear e9)
            | (intro (e9 : (_ : Option Nat) ≠ _); exact absurd rfl e9)
            | (intro (e9 : (some _ : Option Nat) = some _); clear e9)
            | refine Exists.intro _ (And.intro (show _ = _ from by assumption) ?_)
            | refine Exists.intro _ (And.intro rfl (And.intro (by assumption) ?_))
            | refine Exists.intro _ (And.intro rfl ?_)
            | (intro h; try omega)
            | omega
            | exact f1
            | exact Nat.le_of_ble_eq_true rfl
            | assumption
        | cons d K =>
          repeat' first
            | refine And.intro ?_ ?_
            | (intro q9 (e9 : (_ : Option Nat) = some q9); cases e9)
            | (intro (e9 : (some _ : Option Nat) = none); cases e9)
            | (intro (e9 : (none : Option Nat) = none); clear e9)
            | (intro (e9 : (_ : Option Nat) ≠ _); exact absurd rfl e9)
            | (intro (e9 : (some _ : Option Nat) = some _); clear e9)
            | refine Exists.intro _ (And.intro (show _ = _ from by assumption) ?_)
            | refine Exists.intro _ (And.intro rfl (And.intro (by assumption) ?_))
            | refine Exists.intro _ (And.intro rfl ?_)
            | (intro h; try omega)
            | omega
            | exact f1
            | exact Nat.le_of_ble_eq_true rfl
            | assumption
      · simp only [List.concat_eq_append] at *
        have b1 : tg c = 9 := hmem c (by simp)
        have hlast : (P' ++ [c]).getLast? = some c := by simp
        have hcP : c ∉ P' := fun z => by
          have := (List.nodup_append.mp (List.nodup_append.mp (List.nodup_append.mp (List.nodup_append.mp a6).1).1).1).2.2 c z c (by simp)
          exact this rfl
        have hcK : c ∉ K := fun z => by
          have := (List.nodup_append.mp (List.nodup_append.mp hnd2).1).2.2 c (by simp) c z
          exact this rfl
        have f1 : q (some (.inl (Dd.length : Int))) (tg, ln, I1, L, wm_up R1 9 2 c K.head?, n) := by
          refine fin _ ?_ (fun t j a z1 z2 => by simp only [wm_up]; rw [if_neg (fun z => z1 ⟨z.1, z.2.1, by rw [z.2.2]; simp⟩)])
          rw [wm_up_t (by decide), p4 4 1 x (fun z => by omega) (fun z => by omega)]
          rw [List.append_assoc, List.append_assoc] at a4
          obtain ⟨y, g1, g2⟩ := wc_ch_s (A := P' ++ [c]) (by rw [List.append_assoc]; simpa using a4)
          obtain ⟨g3, g4⟩ := wc_sg_e g1
          refine wc_ch_j (wc_sg_a (wc_sg_c g3 (fun a ha => ?_)) wm_up_self) (wc_ch_c p2 (fun a ha => ?_))
          · rw [wm_up_q (show a ≠ c from fun z => hcP (z ▸ ha)), p4 9 2 a (fun z => ?_) (fun z => by omega)]
            have := (List.nodup_append.mp (List.nodup_append.mp (List.nodup_append.mp a6).1).1).2.2 a (by simp [ha]) a z.2.2
            exact this rfl
          · exact wm_up_q (show a ≠ c from fun z => hcK (z ▸ ha))
        cases K with
        | nil =>
          repeat' first
            | refine And.intro ?_ ?_
            | (intro q9 (e9 : (_ : Option Nat) = some q9); cases e9)
            | (intro (e9 : (some _ : Option Nat) = none); cases e9)
            | (intro (e9 : (none : Option Nat) = none); clear e9)
            | (intro (e9 : (_ : Option Nat) ≠ _); exact absurd rfl e9)
            | (intro (e9 : (some _ : Option Nat) = some _); clear e9)
            | (rw [hlast])
            | refine Exists.intro _ (And.intro (show _ = _ from by assumption) ?_)
            | refine Exists.intro _ (And.intro rfl (And.intro (by assumption) ?_))
            | refine Exists.intro _ (And.intro rfl ?_)
            | (intro h; try omega)
            | omega
            | exact f1
            | exact Nat.le_of_ble_eq_true rfl
            | assumption
        | cons d K =>
          repeat' first
            | refine And.intro ?_ ?_
            | (intro q9 (e9 : (_ : Option Nat) = some q9); cases e9)
            | (intro (e9 : (some _ : Option Nat) = none); cases e9)
            | (intro (e9 : (none : Option Nat) = none); clear e9)
            | (intro (e9 : (_ : Option Nat) ≠ _); exact absurd rfl e9)
            | (intro (e9 : (some _ : Option Nat) = some _); clear e9)
            | (rw [hlast])
            | refine Exists.intro _ (And.intro (show _ = _ from by assumption) ?_)
            | refine Exists.intro _ (And.intro rfl (And.intro (by assumption) ?_))
            | refine Exists.intro _ (And.intro rfl ?_)
            | (intro h; try omega)
            | omega
            | exact f1
            | exact Nat.le_of_ble_eq_true rfl
            | assumption
    | cons a Dr =>
      have b1 : tg a = 9 := hmem a (by simp)
      have hne : (some a : Option Nat) ≠ K.head? := by
        intro z
        cases K with
        | nil => cases z
        | cons d K =>
          cases z
          have := (List.nodup_append.mp (List.nodup_append.mp a6).1).2.2 a (by simp) a (by simp)
          exact this rfl
      replace p2 : wc_ch R1 (R1 9 2 a) (Dr ++ K) := p2.2
      have hh := wc_ch_h p2
      have haD : a ∉ Dr ++ K := fun z => by
        have e1 : P ++ (Dd ++ a :: Dr) ++ K = (P ++ Dd ++ [a]) ++ (Dr ++ K) := by simp
        have a8 := (List.nodup_append.mp a6).1
        rw [e1] at a8
        exact (List.nodup_append.mp a8).2.2 a (by simp) a z rfl
      have haI : a ∉ Dd.reverse ++ ids := fun z => by
        rcases List.mem_append.mp z with z | z
        · have a8 := (List.nodup_append.mp (List.nodup_append.mp (List.nodup_append.mp a6).1).1).2.1
          exact (List.nodup_append.mp a8).2.2 a (List.mem_reverse.mp z) a (by simp) rfl
        · exact (List.nodup_append.mp a6).2.2 a (by simp) a z rfl
      have has : a ≠ s := hs9 a (by simp)
      have r3 : I1 7 0 s ≤ 100000 ∧ 1 ≤ I1 7 0 s := by
        rw [p5]
        simp only [List.length_append, List.length_cons] at r1 hl
        omega
      have fin : ∀ (R3 : wm_F (Option Nat)) (I3 : wm_F Int), R3 = wm_up (wm_up R1 9 2 a (R1 7 1 s)) 7 1 s (some a) → I3 = wm_up I1 7 0 s (I1 7 0 s - 1) → Dd ++ a :: Dr = (Dd ++ [a]) ++ Dr ∧ wc_ch R3 (Dr ++ K).head? (Dr ++ K) ∧ wc_ch R3 (R3 7 1 s) ((Dd ++ [a]).reverse ++ ids) ∧ (∀ t j y, ¬ (t = 9 ∧ j = 2 ∧ y ∈ Dd ++ [a]) → ¬ (t = 7 ∧ j = 1 ∧ y = s) → R3 t j y = R t j y) ∧ I3 7 0 s = I 7 0 s - (Dd ++ [a]).length ∧ (∀ t j y, ¬ (t = 7 ∧ j = 0 ∧ y = s) → I3 t j y = I t j y) := by
        rintro R3 I3 rfl rfl
        refine ⟨by simp, ?_, ?_, fun t j y z1 z2 => ?_, ?_, fun t j y z => ?_⟩
        · rw [← hh]
          refine wc_ch_c p2 (fun y hy => ?_)
          rw [wm_up_t (by decide), wm_up_q (show y ≠ a from fun z => haD (z ▸ hy))]
        · rw [wm_up_self]
          have e2 : (Dd ++ [a]).reverse ++ ids = a :: (Dd.reverse ++ ids) := by simp
          rw [e2]
          refine ⟨rfl, ?_⟩
          rw [wm_up_t (by decide), wm_up_self]
          refine wc_ch_c p3 (fun y hy => ?_)
          rw [wm_up_t (by decide), wm_up_q (show y ≠ a from fun z => haI (z ▸ hy))]
        · simp only [wm_up]
          rw [if_neg z2, if_neg (fun z => z1 ⟨z.1, z.2.1, by rw [z.2.2]; simp⟩)]
          exact p4 t j y (fun z => z1 ⟨z.1, z.2.1, List.mem_append_left _ z.2.2⟩) z2
        · rw [wm_up_self, p5, List.length_append]
          simp only [List.length_cons, List.length_nil]
          omega
        · simp only [wm_up]
          rw [if_neg z]
          exact p6 t j y z
      repeat' first
        | refine And.intro ?_ ?_
        | (intro q9 (e9 : (_ : Option Nat) = some q9); cases e9)
        | (intro (e9 : (some _ : Option Nat) = none); cases e9)
        | (intro (e9 : (none : Option Nat) = none); clear e9)
        | (intro (e9 : (_ : Option Nat) ≠ _); exact absurd rfl e9)
        | (intro (e9 : (some _ : Option Nat) = some _); clear e9)
        | (intro e9; exact absurd e9 hne)
        | refine Exists.intro _ (And.intro (show _ = _ from by assumption) ?_)
        | refine Exists.intro _ (And.intro rfl (And.intro (by assumption) ?_))
        | refine Exists.intro _ (And.intro rfl ?_)
        | (intro h; try omega)
        | omega
        | (obtain ⟨g1, g2, g3, g4, g5, g6⟩ := fin _ _ rfl rfl; refine Exists.intro _ (And.intro ?_ (Exists.intro (Dd ++ [a]) (Exists.intro (Dr) (Exists.intro (_) (Exists.intro (_) (Exists.intro (_) (And.intro (by rw [List.length_append]; rfl) (And.intro rfl (And.intro rfl (And.intro rfl (And.intro rfl (And.intro rfl (?_))))))))))))) <;> first | exact Nat.lt_succ_self _ | exact ⟨g1, g2, g3, g4, g5, g6⟩)
        | exact Nat.le_of_ble_eq_true rfl
        | assumption
  · have hh := wc_ch_h a4
    have g0 : ∀ v, v = (D9 ++ K).head? → wc_ch R v (D9 ++ K) → True := fun _ _ _ => trivial
    rcases List.eq_nil_or_concat P with rfl | ⟨P', c, rfl⟩
    · rw [List.nil_append] at a4 hh
      repeat' first
        | refine And.intro ?_ ?_
        | (intro q9 (e9 : (_ : Option Nat) = some q9); cases e9)
        | (intro (e9 : (some _ : Option Nat) = none); cases e9)
        | (intro (e9 : (none : Option Nat) = none); clear e9)
        | (intro (e9 : (_ : Option Nat) ≠ _); exact absurd rfl e9)
        | (intro (e9 : (some _ : Option Nat) = some _); clear e9)
        | refine Exists.intro _ (And.intro (show _ = _ from by assumption) ?_)
        | refine Exists.intro _ (And.intro rfl (And.intro (by assumption) ?_))
        | refine Exists.intro _ (And.intro rfl ?_)
        | (intro h; try omega)
        | omega
        | (refine Exists.intro _ (Exists.intro ([]) (Exists.intro (D9) (Exists.intro (_) (Exists.intro (_) (Exists.intro (_) (And.intro (by rw [← hh]; rfl) (And.intro rfl (And.intro rfl (And.intro rfl (And.intro rfl (And.intro rfl (?_)))))))))))) <;> exact ⟨rfl, (by rw [← hh]; exact a4), a5, fun t j a _ _ => rfl, by simp, fun t j a _ => rfl⟩)
        | exact Nat.le_of_ble_eq_true rfl
        | assumption
    · simp only [List.concat_eq_append] at *
      have b1 : tg c = 9 := hmem c (by simp)
      have hlast : (P' ++ [c]).getLast? = some c := by simp
      rw [List.append_assoc] at a4
      obtain ⟨y, g1, g2⟩ := wc_ch_s (A := P' ++ [c]) a4
      obtain ⟨g3, g4⟩ := wc_sg_e g1
      have g5 := wc_ch_h g2
      rw [g5] at g4 g2
      repeat' first
        | refine And.intro ?_ ?_
        | (intro q9 (e9 : (_ : Option Nat) = some q9); cases e9)
        | (intro (e9 : (some _ : Option Nat) = none); cases e9)
        | (intro (e9 : (none : Option Nat) = none); clear e9)
        | (intro (e9 : (_ : Option Nat) ≠ _); exact absurd rfl e9)
        | (intro (e9 : (some _ : Option Nat) = some _); clear e9)
        | (rw [hlast])
        | refine Exists.intro _ (And.intro (show _ = _ from by assumption) ?_)
        | refine Exists.intro _ (And.intro rfl (And.intro (by assumption) ?_))
        | refine Exists.intro _ (And.intro rfl ?_)
        | (intro h; try omega)
        | omega
        | (refine Exists.intro _ (Exists.intro ([]) (Exists.intro (D9) (Exists.intro (_) (Exists.intro (_) (Exists.intro (_) (And.intro (by rw [← hlast]; rfl) (And.intro rfl (And.intro rfl (And.intro rfl (And.intro rfl (And.intro rfl (?_)))))))))))) <;> exact ⟨rfl, g2, a5, fun t j a _ _ => rfl, by simp, fun t j a _ => rfl⟩)
        | exact Nat.le_of_ble_eq_true rfl
        | assumption
