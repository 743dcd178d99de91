/-! THE MACHINE OF WHOLE NUMBERS, 3: methods -/
def wi_ct {H : Type} (hs : List Nat) (I : Nat → wi_N H) (pc : Nat) (A : Prop) (lv : wi_L) (st : List wi_V) (h : H) (cu su : Nat) : Prop := if hs.contains pc then I pc lv st h cu su else A
def wi_w {H : Type} (hp : wi_P H) (RC RS mc ms : Nat) (cx : wi_X H) (qr : wi_Q1 H) (qt : wi_Q2 H) (tb : wm_T) (hs : List Nat) (I : Nat → wi_N H) : Nat → wm_T → wi_N H
  | 0, _ => fun _ _ _ _ _ => False
  | _ + 1, [] => fun _ _ _ _ _ => False
  | n + 1, (pc, i, a, b, c, _) :: r => wi_1 hp RC RS mc ms cx qr qt (fun lv st h cu su => wi_ct hs I (pc + wm_len i) (wi_w hp RC RS mc ms cx qr qt tb hs I n (wm_nt i c r) lv st h cu su) lv st h cu su) (fun t lv st h cu su => wi_ct hs I t (wi_w hp RC RS mc ms cx qr qt tb hs I n (wm_dp tb t) lv st h cu su) lv st h cu su) i a b c
def wi_tc (tb : wm_T) : Bool := tb.all fun x => wi_ck x.2.1 x.2.2.1
theorem wi_tc_sub : ∀ {u t : wm_T}, wi_tc (u ++ t) = true → wi_tc t = true := by
  intro u t h
  unfold wi_tc at h ⊢
  rw [List.all_append, Bool.and_eq_true] at h
  exact h.2
/-- the world's relation to heaps, from a heap on -/
abbrev wi_RL (H : Type) : Type := (Nat → Nat) → wm_H → H → wm_H → Prop
def wi_Lw {H : Type} (Rl : wi_RL H) (hp : wi_P H) : Prop := (∀ ρ h0 h h', Rl ρ h0 h h' → Rl ρ h' h h') ∧ (∀ ρ h0 h h' h2 h2', Rl ρ h0 h h' → Rl ρ h' h2 h2' → Rl ρ h0 h2 h2') ∧ ∀ ρ h0, wi_hk ρ (Rl ρ h0) hp
/-- a contract over the world as one over heaps -/
def wi_lf {H : Type} (Rl : wi_RL H) (sp : List wi_V → H → wi_Q1 H → wi_Q2 H → Prop) : List wm_V → wm_H → wm_Q1 → wm_Q2 → Prop := fun as' h' q1' q2' =>
  ∃ ρ as h q1 q2, wi_rs ρ as as' ∧ Rl ρ h' h h' ∧ sp as h q1 q2 ∧ (∀ v g v' g', q1 v g → wi_ro ρ v v' → Rl ρ h' g g' → q1' v' g') ∧ ∀ t g g', q2 t g → Rl ρ h' g g' → q2' t g'
theorem wi_w_ok {H : Type} {Rl : wi_RL H} {hp : wi_P H} (W : wi_Lw Rl hp) {ρ : Nat → Nat} {h0 : wm_H} {RC RS mc ms : Nat} {cx : wi_X H} {qr : wi_Q1 H} {qt : wi_Q2 H} {qr' : wm_Q1} {qt' : wm_Q2}
    (hq : ∀ v h v' h', qr v h → wi_ro ρ v v' → Rl ρ h0 h h' → qr' v' h') (ht : ∀ t h h', qt t h → Rl ρ h0 h h' → qt' t h') {tb : wm_T} (hk : wi_tc tb = true) {hs : List Nat} {I : Nat → wi_N H} {I' : Nat → wm_S → Prop}
    (hI : ∀ pc lv st h cu su lv' st' h', I pc lv st h cu su → wi_rl ρ lv lv' → wi_rs ρ st st' → Rl ρ h0 h h' → I' pc (lv', st', h', cu, su)) :
    ∀ n T, wi_tc T = true → ∀ lv st h cu su lv' st' h', wi_w hp RC RS mc ms cx qr qt tb hs I n T lv st h cu su → wi_rl ρ lv lv' → wi_rs ρ st st' → Rl ρ h0 h h' → wm_w RC RS mc ms (fun id => wi_lf Rl (cx id)) qr' qt' tb hs I' n T lv' st' h' cu su := by
  obtain ⟨w1, w2, w3⟩ := W
  intro n
  induction n with
  | zero => intro T _ lv st h cu su lv' st' h' d; exact d.elim
  | succ n ih =>
    intro T hT lv st h cu su lv' st' h' d rl rs rr
    cases T with
    | nil => exact d.elim
    | cons x r =>
      obtain ⟨pc, i, a, b, c, e⟩ := x
      have hT2 : wi_ck i a = true ∧ wi_tc r = true := by
        unfold wi_tc at hT ⊢
        rw [List.all_cons, Bool.and_eq_true] at hT
        exact hT
      refine wi_1_ok (w3 ρ h0) hq ht (fun id as h q1 q2 as' h' q1' q2' z1 z2 z3 z4 z5 => ?_) (fun lv st h cu su lv' st' h' z1 z2 z3 z4 => ?_) (fun t lv st h cu su lv' st' h' z1 z2 z3 z4 => ?_) hT2.1 d rl rs rr
      · exact ⟨ρ, as, h, q1, q2, z2, w1 _ _ _ _ z3, z1, fun v g v' g' y1 y2 y3 => z4 _ _ _ _ y1 y2 (w2 _ _ _ _ _ _ z3 y3), fun t g g' y1 y3 => z5 _ _ _ y1 (w2 _ _ _ _ _ _ z3 y3)⟩
      · unfold wi_ct at z1
        unfold wm_ct
        split at z1
        · next e1 => rw [if_pos e1]; exact hI _ _ _ _ _ _ _ _ _ z1 z2 z3 z4
        · next e1 =>
          rw [if_neg e1]
          refine ih _ ?_ _ _ _ _ _ _ _ _ z1 z2 z3 z4
          rcases wm_nt_e i c r r with e9 | ⟨e9, -⟩
          · rw [e9]; rfl
          · rw [e9]; exact hT2.2
      · unfold wi_ct at z1
        unfold wm_ct
        split at z1
        · next e1 => rw [if_pos e1]; exact hI _ _ _ _ _ _ _ _ _ z1 z2 z3 z4
        · next e1 =>
          rw [if_neg e1]
          refine ih _ ?_ _ _ _ _ _ _ _ _ z1 z2 z3 z4
          obtain ⟨u, hu⟩ := wm_dp_e tb t
          rw [hu] at hk
          exact wi_tc_sub hk
/-- what must be shown of a method with cuts -/
def wi_go {H : Type} (hp : wi_P H) (id : Nat) (cx : wi_X H) (tb : wm_T) (hs : List Nat) (f : Nat) (as : List wi_V) (h : H) (qr : wi_Q1 H) (qt : wi_Q2 H) : Prop :=
  ∃ I : Nat → Nat → wi_N H, (∀ pc, hs.contains pc = true → ∀ n lv st h cu su, I n pc lv st h cu su → wi_w hp (wm_mr id).cells (wm_mr id).slots (wm_mc id) (wm_ms id) cx qr qt tb hs (fun pc' lv st h cu su => ∃ n', n' < n ∧ I n' pc' lv st h cu su) f (wm_dp tb pc) lv st h cu su) ∧
    wi_w hp (wm_mr id).cells (wm_mr id).slots (wm_mc id) (wm_ms id) cx qr qt tb hs (fun pc' lv st h cu su => ∃ n', I n' pc' lv st h cu su) f (wm_dp tb 0) (wi_en as (wm_mL id)) [] h 0 0
theorem wi_method {l : Launch} {D : va_G} {aC : wm_Y} {b0 : Nat} {H : Type} {Rl : wi_RL H} {hp : wi_P H} (W : wi_Lw Rl hp) (id : Nat) {cx : wi_X H} {ids : List Nat} {tb : wm_T} {sp : List wi_V → H → wi_Q1 H → wi_Q2 H → Prop}
    (hy : plainName (wm_my id).cls = true) (hl0 : l.stackTraces = false) (hcx : wm_cxok l (wm_mr id) D aC b0 (fun id => wi_lf Rl (cx id)) ids)
    (ht : wm_tok (wm_mr id) (wm_my id).cls (wm_my id).name (wm_mrt id) ids (wm_mb id) tb) (hk : wi_tc tb = true) (hs : List Nat) (f : Nat)
    (main : ∀ as h q1 q2, sp as h q1 q2 → Nat.ble ((as.map wi_cat).sum) (wm_mL id) = true ∧ wi_go hp id cx tb hs f as h q1 q2) : wm_sp l D aC b0 id (wi_lf Rl sp) := by
  intro as' h' q1' q2' z
  obtain ⟨ρ, as, h, q1, q2, z1, z2, z3, z4, z5⟩ := z
  obtain ⟨m1, I, m2, m3⟩ := main as h q1 q2 z3
  have m1 := Nat.le_of_ble_eq_true m1
  refine wm_method id hy (by unfold wm_ws; rw [wi_rs_cat z1]; exact m1) hl0 hcx ht hs (fun n pc σ => ∃ lv st g, I n pc lv st g σ.2.2.2.1 σ.2.2.2.2 ∧ wi_rl ρ lv σ.1 ∧ wi_rs ρ st σ.2.1 ∧ Rl ρ h' g σ.2.2.1) f (fun pc hpc n σ hσ => ?_) (fun hw => ?_)
  · obtain ⟨lv, st, g, y1, y2, y3, y4⟩ := hσ
    exact wi_w_ok W z4 z5 hk (fun pc lv st h cu su lv' st' h2 x1 x2 x3 x4 => by
      obtain ⟨n', x5, x6⟩ := x1
      exact ⟨n', x5, lv, st, h, x6, x2, x3, x4⟩) f _ (by obtain ⟨u, hu⟩ := wm_dp_e tb pc; rw [hu] at hk; exact wi_tc_sub hk) _ _ _ _ _ _ _ _ (m2 pc hpc n lv st g _ _ y1) y2 y3 y4
  · exact wi_w_ok W z4 z5 hk (fun pc lv st h cu su lv' st' h2 x1 x2 x3 x4 => by
      obtain ⟨n', x6⟩ := x1
      exact ⟨n', lv, st, h, x6, x2, x3, x4⟩) f _ (by obtain ⟨u, hu⟩ := wm_dp_e tb 0; rw [hu] at hk; exact wi_tc_sub hk) _ _ _ _ _ _ _ _ m3 (wi_rl_en _ z1) trivial z2
