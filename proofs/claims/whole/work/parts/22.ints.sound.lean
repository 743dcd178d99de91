/-! THE MACHINE OF WHOLE NUMBERS, 2: what it asks is enough -/
section WIS
variable {H : Type} {ρ : Nat → Nat} {Rr : H → wm_H → Prop} {hp : wi_P H} {RC RS mc ms : Nat} {cx : wi_X H} {qr : wi_Q1 H} {qt : wi_Q2 H} {nx : wi_N H} {jp : Nat → wi_N H}
variable {cx' : wm_X} {qr' : wm_Q1} {qt' : wm_Q2} {nx' : wm_N} {jp' : Nat → wm_N}
/-- results -/
def wi_ro (ρ : Nat → Nat) (v : Option wi_V) (x : Option wm_V) : Prop := wi_rs ρ v.toList x.toList
theorem wi_1_ok (K : wi_hk ρ Rr hp)
    (hq : ∀ v h v' h', qr v h → wi_ro ρ v v' → Rr h h' → qr' v' h') (ht : ∀ t h h', qt t h → Rr h h' → qt' t h')
    (hc : ∀ id as h q1 q2 as' h' q1' q2', cx id as h q1 q2 → wi_rs ρ as as' → Rr h h' → (∀ v h v' h', q1 v h → wi_ro ρ v v' → Rr h h' → q1' v' h') → (∀ t h h', q2 t h → Rr h h' → q2' t h') → cx' id as' h' q1' q2')
    (hn : ∀ lv st h cu su lv' st' h', nx lv st h cu su → wi_rl ρ lv lv' → wi_rs ρ st st' → Rr h h' → nx' lv' st' h' cu su)
    (hj : ∀ t lv st h cu su lv' st' h', jp t lv st h cu su → wi_rl ρ lv lv' → wi_rs ρ st st' → Rr h h' → jp' t lv' st' h' cu su)
    {i : Instr} {a b c : Nat} (hk : wi_ck i a = true) {lv : wi_L} {st : List wi_V} {h : H} {cu su : Nat} {lv' : wm_L} {st' : List wm_V} {h' : wm_H}
    (d : wi_1 hp RC RS mc ms cx qr qt nx jp i a b c lv st h cu su) (rl : wi_rl ρ lv lv') (rs : wi_rs ρ st st') (rr : Rr h h') : wm_1 RC RS mc ms cx' qr' qt' nx' jp' i a b c lv' st' h' cu su := by
  obtain ⟨k0, k1, k2, k3, k4, k5, k7, k8, k9⟩ := K
  have hro : ∀ (v : wi_V) (x : wm_V), wi_r ρ v x → wi_ro ρ (some v) (some x) := fun v x z => And.intro z trivial
  have hrn : wi_ro ρ none none := trivial
  have cxk : ∀ id as r as' r' (g : H) (g' : wm_H), wi_rs ρ as as' → wi_rs ρ r r' → Rr g g' → cx id as g (fun v h' => nx lv (v.toList ++ r) h' (cu + wm_mc id) (su + wm_ms id)) (fun t h' => cu + wm_mc id ≤ mc ∧ su + wm_ms id ≤ ms ∧ qt t h') → cx' id as' g' (fun v h' => nx' lv' (v.toList ++ r') h' (cu + wm_mc id) (su + wm_ms id)) (fun t h' => cu + wm_mc id ≤ mc ∧ su + wm_ms id ≤ ms ∧ qt' t h') :=
    fun id as r as' r' g g' z1 z2 z3 z4 => hc id as g _ _ as' g' _ _ z4 z1 z3 (fun v h v' h' y1 y2 y3 => hn _ _ _ _ _ _ _ _ y1 rl (wi_rs_app y2 z2) y3) (fun t h h' y1 y2 => ⟨y1.1, y1.2.1, ht _ _ _ y1.2.2 y2⟩)
  unfold wi_1 at d
  split at d
  · simp only [wi_ck, decide_eq_true_eq] at hk
    exact hn _ _ _ _ _ _ _ _ d rl (And.intro ⟨_, rfl, wi_o32 hk.1 hk.2⟩ rs) rr
  · simp only [wi_ck, decide_eq_true_eq] at hk
    refine hn _ _ _ _ _ _ _ _ d rl (And.intro ⟨_, rfl, ?_⟩ rs) rr
    rw [Int8.toInt_toInt32, Int8.toInt_ofInt]
    show Int.bmod _ 256 = _
    unfold Int.bmod
    simp only []
    split <;> omega
  · simp only [wi_ck, decide_eq_true_eq] at hk
    refine hn _ _ _ _ _ _ _ _ d rl (And.intro ⟨_, rfl, ?_⟩ rs) rr
    rw [Int16.toInt_toInt32, Int16.toInt_ofInt]
    show Int.bmod _ 65536 = _
    unfold Int.bmod
    simp only []
    split <;> omega
  · simp only [wi_ck, decide_eq_true_eq] at hk
    refine hn _ _ _ _ _ _ _ _ d rl (And.intro ⟨_, rfl, ?_⟩ rs) rr
    unfold nI
    rw [Int32.toInt_ofNat']
    exact wi_b32 (by omega) (by omega)
  · rename_i n
    have hz : n = 0 ∨ n = 1 := by omega
    rcases hz with rfl | rfl
    · exact hn _ _ _ _ _ _ _ _ d rl (And.intro ⟨_, rfl, by decide⟩ rs) rr
    · exact hn _ _ _ _ _ _ _ _ d rl (And.intro ⟨_, rfl, by decide⟩ rs) rr
  · simp only [wi_ck, decide_eq_true_eq] at hk
    split at d
    · refine hn _ _ _ _ _ _ _ _ d rl (And.intro ⟨_, rfl, ?_⟩ rs) rr
      unfold lN
      rw [Int64.toInt_ofNat']
      exact wi_b64 (by omega) (by omega)
    · refine hn _ _ _ _ _ _ _ _ d rl (And.intro ⟨_, rfl, ?_⟩ rs) rr
      unfold lN
      rw [Int64.toInt_ofNat']
      show Int.bmod _ 18446744073709551616 = _
      unfold Int.bmod
      simp only []
      split <;> omega
  · exact hn _ _ _ _ _ _ _ _ d rl (And.intro rfl rs) rr
  iterate 2
    · obtain ⟨x, e, d_1⟩ := wi_gi_e d
      obtain ⟨y, e', z, rfl, hz⟩ := wi_rl_lk rl e
      show wm_gi _ _
      rw [e']
      exact hn _ _ _ _ _ _ _ _ d_1 rl (And.intro ⟨_, rfl, hz⟩ rs) rr
  iterate 2
    · obtain ⟨x, e, d_2⟩ := wi_gj_e d
      obtain ⟨y, e', z, rfl, hz⟩ := wi_rl_lk rl e
      show wm_gj _ _
      rw [e']
      exact hn _ _ _ _ _ _ _ _ d_2 rl (And.intro ⟨_, rfl, hz⟩ rs) rr
  iterate 2
    · obtain ⟨x, e, d_3⟩ := wi_gr_e d
      obtain ⟨y, e', hz⟩ := wi_rl_lk rl e
      cases (show y = .inr (.inr (x.map ρ)) from hz)
      show wm_gr _ _
      rw [e']
      exact hn _ _ _ _ _ _ _ _ d_3 rl (And.intro rfl rs) rr
  iterate 2
    · obtain ⟨x, r, rfl, d_4⟩ := wi_pi_e d
      obtain ⟨z, t, rfl, hz, rs_5⟩ := wi_rs_i rs
      split at d_4
      · next e => exact And.intro (by rw [wi_rl_len rl]; exact e) (hn _ _ _ _ _ _ _ _ d_4 (wi_rl_s1 (v := .inl x) ⟨z, rfl, hz⟩ rl) rs_5 rr)
      · exact d_4.elim
  iterate 2
    · obtain ⟨x, r, rfl, d_6⟩ := wi_pj_e d
      obtain ⟨z, t, rfl, hz, rs_7⟩ := wi_rs_j rs
      split at d_6
      · next e => exact And.intro (by rw [wi_rl_len rl]; exact e) (hn _ _ _ _ _ _ _ _ d_6 (wi_rl_s2 (v := .inr (.inl x)) ⟨z, rfl, hz⟩ rl) rs_7 rr)
      · exact d_6.elim
  iterate 2
    · obtain ⟨x, r, rfl, d_8⟩ := wi_pr_e d
      obtain ⟨t, rfl, rs_9⟩ := wi_rs_r rs
      split at d_8
      · next e => exact And.intro (by rw [wi_rl_len rl]; exact e) (hn _ _ _ _ _ _ _ _ d_8 (wi_rl_s1 (v := wi_rf x) rfl rl) rs_9 rr)
      · exact d_8.elim
  · simp only [wi_ck, decide_eq_true_eq] at hk
    obtain ⟨x, e, d1, d2, d_10⟩ := wi_gi_e d
    obtain ⟨y, e', z, rfl, hz⟩ := wi_rl_lk rl e
    show wm_gi _ _
    rw [e']
    exact hn _ _ _ _ _ _ _ _ d_10 (wi_rl_s1 (v := .inl _) ⟨_, rfl, wi_add hz (wi_o32 hk.1 hk.2) d1 d2⟩ rl) rs rr
  · obtain ⟨y, r, rfl, d_11⟩ := wi_pi_e d
    obtain ⟨x, r, rfl, d1, d2, d_12⟩ := wi_pi_e d_11
    obtain ⟨z, t, rfl, hz, rs_13⟩ := wi_rs_i rs
    obtain ⟨u, t, rfl, hu, rs_14⟩ := wi_rs_i rs_13
    exact hn _ _ _ _ _ _ _ _ d_12 rl (And.intro ⟨_, rfl, wi_add hu hz d1 d2⟩ rs_14) rr
  · obtain ⟨y, r, rfl, d_15⟩ := wi_pi_e d
    obtain ⟨x, r, rfl, d1, d2, d_16⟩ := wi_pi_e d_15
    obtain ⟨z, t, rfl, hz, rs_17⟩ := wi_rs_i rs
    obtain ⟨u, t, rfl, hu, rs_18⟩ := wi_rs_i rs_17
    exact hn _ _ _ _ _ _ _ _ d_16 rl (And.intro ⟨_, rfl, wi_sub hu hz d1 d2⟩ rs_18) rr
  · obtain ⟨y, r, rfl, d_19⟩ := wi_pi_e d
    obtain ⟨x, r, rfl, d1, d2, d_20⟩ := wi_pi_e d_19
    obtain ⟨z, t, rfl, hz, rs_21⟩ := wi_rs_i rs
    obtain ⟨u, t, rfl, hu, rs_22⟩ := wi_rs_i rs_21
    exact hn _ _ _ _ _ _ _ _ d_20 rl (And.intro ⟨_, rfl, wi_mul hu hz d1 d2⟩ rs_22) rr
  iterate 2
    · obtain ⟨y, r, rfl, d_23⟩ := wi_pi_e d
      obtain ⟨x, r, rfl, d_24⟩ := wi_pi_e d_23
      obtain ⟨z, t, rfl, hz, rs_25⟩ := wi_rs_i rs
      obtain ⟨u, t, rfl, hu, rs_26⟩ := wi_rs_i rs_25
      cases wi_e32 hz
      cases wi_e32 hu
      exact hn _ _ _ _ _ _ _ _ d_24 rl (And.intro ⟨_, rfl, rfl⟩ rs_26) rr
  · obtain ⟨y, r, rfl, d_27⟩ := wi_pj_e d
    obtain ⟨x, r, rfl, d1, d2, d_28⟩ := wi_pj_e d_27
    obtain ⟨z, t, rfl, hz, rs_29⟩ := wi_rs_j rs
    obtain ⟨u, t, rfl, hu, rs_30⟩ := wi_rs_j rs_29
    exact hn _ _ _ _ _ _ _ _ d_28 rl (And.intro ⟨_, rfl, wi_ladd hu hz d1 d2⟩ rs_30) rr
  · obtain ⟨y, r, rfl, d_31⟩ := wi_pj_e d
    obtain ⟨x, r, rfl, d1, d2, d_32⟩ := wi_pj_e d_31
    obtain ⟨z, t, rfl, hz, rs_33⟩ := wi_rs_j rs
    obtain ⟨u, t, rfl, hu, rs_34⟩ := wi_rs_j rs_33
    exact hn _ _ _ _ _ _ _ _ d_32 rl (And.intro ⟨_, rfl, wi_lsub hu hz d1 d2⟩ rs_34) rr
  iterate 2
    · obtain ⟨y, r, rfl, d_35⟩ := wi_pj_e d
      obtain ⟨x, r, rfl, d_36⟩ := wi_pj_e d_35
      obtain ⟨z, t, rfl, hz, rs_37⟩ := wi_rs_j rs
      obtain ⟨u, t, rfl, hu, rs_38⟩ := wi_rs_j rs_37
      cases wi_e64 hz
      cases wi_e64 hu
      exact hn _ _ _ _ _ _ _ _ d_36 rl (And.intro ⟨_, rfl, rfl⟩ rs_38) rr
  iterate 2
    · obtain ⟨y, r, rfl, d_39⟩ := wi_pi_e d
      obtain ⟨x, r, rfl, d_40⟩ := wi_pj_e d_39
      obtain ⟨z, t, rfl, hz, rs_41⟩ := wi_rs_i rs
      obtain ⟨u, t, rfl, hu, rs_42⟩ := wi_rs_j rs_41
      cases wi_e32 hz
      cases wi_e64 hu
      exact hn _ _ _ _ _ _ _ _ d_40 rl (And.intro ⟨_, rfl, rfl⟩ rs_42) rr
  · obtain ⟨x, r, rfl, d_43⟩ := wi_pi_e d
    obtain ⟨z, t, rfl, hz, rs_44⟩ := wi_rs_i rs
    exact hn _ _ _ _ _ _ _ _ d_43 rl (And.intro ⟨_, rfl, (Int32.toInt_toInt64 z).trans hz⟩ rs_44) rr
  · obtain ⟨y, r, rfl, d_45⟩ := wi_pj_e d
    obtain ⟨x, r, rfl, d_46⟩ := wi_pj_e d_45
    obtain ⟨z, t, rfl, hz, rs_47⟩ := wi_rs_j rs
    obtain ⟨u, t, rfl, hu, rs_48⟩ := wi_rs_j rs_47
    exact hn _ _ _ _ _ _ _ _ d_46 rl (And.intro ⟨_, _, rfl, hu, hz⟩ rs_48) rr
  · obtain ⟨v, r, rfl, e, d_49⟩ := wi_p1_e d
    obtain ⟨x, t, rfl, hz, rs_50⟩ := wi_rs_c rs
    have hx : wm_p1 (x :: t) (fun v r => nx' lv' (v :: v :: r) h' cu su) = nx' lv' (x :: x :: t) h' cu su := by
      rcases e with ⟨y, rfl⟩ | ⟨y, rfl⟩
      · obtain ⟨z, rfl, -⟩ := hz; rfl
      · cases (show x = .inr (.inr (y.map ρ)) from hz); rfl
    show wm_p1 (x :: t) (fun v r => nx' lv' (v :: v :: r) h' cu su)
    rw [hx]
    exact hn _ _ _ _ _ _ _ _ d_49 rl (And.intro hz (And.intro hz rs_50)) rr
  · obtain ⟨v, r, rfl, e, d_51⟩ := wi_p1_e d
    obtain ⟨x, t, rfl, hz, rs_52⟩ := wi_rs_c rs
    have hx : wm_p1 (x :: t) (fun v r => nx' lv' r h' cu su) = nx' lv' t h' cu su := by
      rcases e with ⟨y, rfl⟩ | ⟨y, rfl⟩
      · obtain ⟨z, rfl, -⟩ := hz; rfl
      · cases (show x = .inr (.inr (y.map ρ)) from hz); rfl
    show wm_p1 (x :: t) (fun _ r => nx' lv' r h' cu su)
    rw [hx]
    exact hn _ _ _ _ _ _ _ _ d_51 rl rs_52 rr
  · obtain ⟨v, r, rfl, e, d_53⟩ := wi_p1_e d
    obtain ⟨w, r, rfl, e2, d_54⟩ := wi_p1_e d_53
    obtain ⟨x, t, rfl, hz, rs_55⟩ := wi_rs_c rs
    obtain ⟨x2, t, rfl, hz2, rs_56⟩ := wi_rs_c rs_55
    have hx : ∀ (f : wm_V → List wm_V → Prop) (s : List wm_V), wm_p1 (x :: s) f = f x s := by
      intro f s
      rcases e with ⟨y, rfl⟩ | ⟨y, rfl⟩
      · obtain ⟨z, rfl, -⟩ := hz; rfl
      · cases (show x = .inr (.inr (y.map ρ)) from hz); rfl
    have hx2 : ∀ (f : wm_V → List wm_V → Prop) (s : List wm_V), wm_p1 (x2 :: s) f = f x2 s := by
      intro f s
      rcases e2 with ⟨y, rfl⟩ | ⟨y, rfl⟩
      · obtain ⟨z, rfl, -⟩ := hz2; rfl
      · cases (show x2 = .inr (.inr (y.map ρ)) from hz2); rfl
    show wm_p1 (x :: x2 :: t) (fun v r => wm_p1 r fun w r => nx' lv' (v :: w :: v :: r) h' cu su)
    rw [hx, hx2]
    exact hn _ _ _ _ _ _ _ _ d_54 rl (And.intro hz (And.intro hz2 (And.intro hz rs_56))) rr
  · show ite _ _ _
    split at d
    · next e =>
      rw [if_pos e]
      obtain ⟨x, r, rfl, d_57⟩ := wi_pj_e d
      obtain ⟨z, t, rfl, hz, rs_58⟩ := wi_rs_j rs
      exact hn _ _ _ _ _ _ _ _ d_57 rl (And.intro ⟨_, rfl, hz⟩ (And.intro ⟨_, rfl, hz⟩ rs_58)) rr
    · next e =>
      rw [if_neg e]
      obtain ⟨v, r, rfl, e, d_59⟩ := wi_p1_e d
      obtain ⟨w, r, rfl, e2, d_60⟩ := wi_p1_e d_59
      obtain ⟨x, t, rfl, hz, rs_61⟩ := wi_rs_c rs
      obtain ⟨x2, t, rfl, hz2, rs_62⟩ := wi_rs_c rs_61
      have hx : ∀ (f : wm_V → List wm_V → Prop) (s : List wm_V), wm_p1 (x :: s) f = f x s := by
        intro f s
        rcases e with ⟨y, rfl⟩ | ⟨y, rfl⟩
        · obtain ⟨z, rfl, -⟩ := hz; rfl
        · cases (show x = .inr (.inr (y.map ρ)) from hz); rfl
      have hx2 : ∀ (f : wm_V → List wm_V → Prop) (s : List wm_V), wm_p1 (x2 :: s) f = f x2 s := by
        intro f s
        rcases e2 with ⟨y, rfl⟩ | ⟨y, rfl⟩
        · obtain ⟨z, rfl, -⟩ := hz2; rfl
        · cases (show x2 = .inr (.inr (y.map ρ)) from hz2); rfl
      rw [hx, hx2]
      exact hn _ _ _ _ _ _ _ _ d_60 rl (And.intro hz (And.intro hz2 (And.intro hz (And.intro hz2 rs_62)))) rr
  · unfold wi_pc at d
    split at d
    · obtain ⟨z, t, rfl, hz, rs_63⟩ := wi_rs_i rs
      exact wi_ic32 hz (by decide) (fun d => hj _ _ _ _ _ _ _ _ _ d rl rs_63 rr) (fun d => hn _ _ _ _ _ _ _ _ d rl rs_63 rr) d
    · obtain ⟨x, t, rfl, ⟨z, z', rfl, hz, hz'⟩, rs_64⟩ := wi_rs_c rs
      exact wi_ic64 hz hz' (fun d => hj _ _ _ _ _ _ _ _ _ d rl rs_64 rr) (fun d => hn _ _ _ _ _ _ _ _ d rl rs_64 rr) d
    · exact d.elim
  · obtain ⟨y, r, rfl, d_65⟩ := wi_pi_e d
    obtain ⟨x, r, rfl, d_66⟩ := wi_pi_e d_65
    obtain ⟨z, t, rfl, hz, rs_67⟩ := wi_rs_i rs
    obtain ⟨u, t, rfl, hu, rs_68⟩ := wi_rs_i rs_67
    exact wi_ic32 hu hz (fun d_66 => hj _ _ _ _ _ _ _ _ _ d_66 rl rs_68 rr) (fun d_66 => hn _ _ _ _ _ _ _ _ d_66 rl rs_68 rr) d_66
  · obtain ⟨y, r, rfl, d_69⟩ := wi_pr_e d
    obtain ⟨x, r, rfl, d_70⟩ := wi_pr_e d_69
    obtain ⟨t, rfl, rs_71⟩ := wi_rs_r rs
    obtain ⟨t, rfl, rs_72⟩ := wi_rs_r rs_71
    obtain ⟨d1, d2⟩ := k7 _ _ _ _ _ d_70 rr
    exact And.intro (fun e => hj _ _ _ _ _ _ _ _ _ (d1 e) rl rs_72 rr) (fun e => hn _ _ _ _ _ _ _ _ (d2 e) rl rs_72 rr)
  · obtain ⟨y, r, rfl, d_73⟩ := wi_pr_e d
    obtain ⟨x, r, rfl, d_74⟩ := wi_pr_e d_73
    obtain ⟨t, rfl, rs_75⟩ := wi_rs_r rs
    obtain ⟨t, rfl, rs_76⟩ := wi_rs_r rs_75
    obtain ⟨d1, d2⟩ := k7 _ _ _ _ _ d_74 rr
    exact And.intro (fun e => hn _ _ _ _ _ _ _ _ (d1 e) rl rs_76 rr) (fun e => hj _ _ _ _ _ _ _ _ _ (d2 e) rl rs_76 rr)
  · obtain ⟨x, r, rfl, d_77⟩ := wi_pr_e d
    obtain ⟨t, rfl, rs_78⟩ := wi_rs_r rs
    refine And.intro (fun e => ?_) (fun e => ?_)
    · cases x with
      | none => exact hj _ _ _ _ _ _ _ _ _ (d_77.1 rfl) rl rs_78 rr
      | some q => cases e
    · cases x with
      | none => exact absurd rfl e
      | some q => exact hn _ _ _ _ _ _ _ _ (d_77.2 q rfl) rl rs_78 rr
  · obtain ⟨x, r, rfl, d_79⟩ := wi_pr_e d
    obtain ⟨t, rfl, rs_80⟩ := wi_rs_r rs
    refine And.intro (fun e => ?_) (fun e => ?_)
    · cases x with
      | none => exact hn _ _ _ _ _ _ _ _ (d_79.1 rfl) rl rs_80 rr
      | some q => cases e
    · cases x with
      | none => exact absurd rfl e
      | some q => exact hj _ _ _ _ _ _ _ _ _ (d_79.2 q rfl) rl rs_80 rr
  · exact hj _ _ _ _ _ _ _ _ _ d rl rs rr
  · obtain ⟨o, r, rfl, d_81⟩ := wi_pr_e d
    obtain ⟨t, rfl, rs_82⟩ := wi_rs_r rs
    obtain ⟨q, e1, e2, v, e3, d_83⟩ := k0 _ _ _ _ _ _ _ d_81 rr
    exact ⟨q, e1, e2, hn _ _ _ _ _ _ _ _ d_83 rl (And.intro e3 rs_82) rr⟩
  · split at d
    · obtain ⟨o, r, rfl, d_84⟩ := wi_pr_e d
      obtain ⟨x, t, rfl, hz, rs_85⟩ := wi_rs_c rs
      obtain ⟨t, rfl, rs_86⟩ := wi_rs_r rs_85
      obtain ⟨q, e1, e2, e3, e4, h2, e5, d_87⟩ := k1 _ _ _ _ _ _ _ _ _ d_84 rr hz
      exact ⟨q, e1, e2, e3, e4, hn _ _ _ _ _ _ _ _ d_87 rl rs_86 e5⟩
    · exact d.elim
  · obtain ⟨o, r, rfl, d_88⟩ := wi_pr_e d
    obtain ⟨t, rfl, rs_89⟩ := wi_rs_r rs
    obtain ⟨q, e1, e2, v, e3, d_90⟩ := k2 _ _ _ _ _ d_88 rr
    exact ⟨q, e1, e2, hn _ _ _ _ _ _ _ _ d_90 rl (And.intro e3 rs_89) rr⟩
  iterate 4
    · obtain ⟨j, r, rfl, d_91⟩ := wi_pi_e d
      obtain ⟨o, r, rfl, d_92⟩ := wi_pr_e d_91
      obtain ⟨z, t, rfl, hz, rs_93⟩ := wi_rs_i rs
      obtain ⟨t, rfl, rs_94⟩ := wi_rs_r rs_93
      obtain ⟨q, e1, e2, e3, e4, v, e5, d_95⟩ := k3 _ _ _ _ _ _ _ d_92 rr
      refine ⟨q, e1, e2, by rw [hz]; exact e3, by rw [hz]; exact e4, ?_⟩
      rw [wi_nat hz]
      exact hn _ _ _ _ _ _ _ _ d_95 rl (And.intro e5 rs_94) rr
  · obtain ⟨x, r, rfl, d_96⟩ := wi_pi_e d
    obtain ⟨j, r, rfl, d_97⟩ := wi_pi_e d_96
    obtain ⟨o, r, rfl, d_98⟩ := wi_pr_e d_97
    obtain ⟨y, t, rfl, hy, rs_99⟩ := wi_rs_i rs
    obtain ⟨z, t, rfl, hz, rs_100⟩ := wi_rs_i rs_99
    obtain ⟨t, rfl, rs_101⟩ := wi_rs_r rs_100
    obtain ⟨q, e1, e2, e3, e4, -, h2, e5, d_102⟩ := k4 _ _ _ _ _ _ _ _ _ _ d_98 rr ⟨y, rfl, hy⟩
    refine ⟨q, e1, e2, by rw [hz]; exact e3, by rw [hz]; exact e4, ?_⟩
    rw [wi_nat hz]
    exact hn _ _ _ _ _ _ _ _ d_102 rl rs_101 e5
  · obtain ⟨x, r, rfl, d_103⟩ := wi_pi_e d
    obtain ⟨j, r, rfl, d_104⟩ := wi_pi_e d_103
    obtain ⟨o, r, rfl, d0, d_105⟩ := wi_pr_e d_104
    obtain ⟨y, t, rfl, hy, rs_106⟩ := wi_rs_i rs
    obtain ⟨z, t, rfl, hz, rs_107⟩ := wi_rs_i rs_106
    obtain ⟨t, rfl, rs_108⟩ := wi_rs_r rs_107
    obtain ⟨q, e1, e2, e3, e4, -, h2, e5, d_109⟩ := k4 _ _ _ _ _ _ _ _ _ _ d_105 rr ⟨y, rfl, hy⟩
    refine ⟨q, e1, e2, ?_, by rw [hz]; exact e3, by rw [hz]; exact e4, ?_⟩
    · rw [← Int32.toInt_inj, ← Int32.toInt_inj, hy]
      exact d0
    · rw [wi_nat hz]
      exact hn _ _ _ _ _ _ _ _ d_109 rl rs_108 e5
  · obtain ⟨x, r, rfl, d_110⟩ := wi_pj_e d
    obtain ⟨j, r, rfl, d_111⟩ := wi_pi_e d_110
    obtain ⟨o, r, rfl, d_112⟩ := wi_pr_e d_111
    obtain ⟨y, t, rfl, hy, rs_113⟩ := wi_rs_j rs
    obtain ⟨z, t, rfl, hz, rs_114⟩ := wi_rs_i rs_113
    obtain ⟨t, rfl, rs_115⟩ := wi_rs_r rs_114
    obtain ⟨q, e1, e2, e3, e4, -, h2, e5, d_116⟩ := k4 _ _ _ _ _ _ _ _ _ _ d_112 rr ⟨y, rfl, hy⟩
    refine ⟨q, e1, e2, by rw [hz]; exact e3, by rw [hz]; exact e4, ?_⟩
    rw [wi_nat hz]
    exact hn _ _ _ _ _ _ _ _ d_116 rl rs_115 e5
  · obtain ⟨x, r, rfl, d_117⟩ := wi_pr_e d
    obtain ⟨j, r, rfl, d_118⟩ := wi_pi_e d_117
    obtain ⟨o, r, rfl, d_119⟩ := wi_pr_e d_118
    obtain ⟨t, rfl, rs_120⟩ := wi_rs_r rs
    obtain ⟨z, t, rfl, hz, rs_121⟩ := wi_rs_i rs_120
    obtain ⟨t, rfl, rs_122⟩ := wi_rs_r rs_121
    obtain ⟨q, e1, e2, e3, e4, e6, h2, e5, d_123⟩ := k4 _ _ _ _ _ _ _ _ _ _ d_119 rr rfl
    refine ⟨q, e1, e2, fun v hv => e6 rfl v (by rw [hv]), by rw [hz]; exact e3, by rw [hz]; exact e4, ?_⟩
    rw [wi_nat hz]
    exact hn _ _ _ _ _ _ _ _ d_123 rl rs_122 e5
  iterate 2
    · obtain ⟨x, r, rfl, d1, d2, d3, d4, d_124⟩ := wi_pi_e d
      obtain ⟨z, t, rfl, hz, rs_125⟩ := wi_rs_i rs
      obtain ⟨v, h2, e1, e2, d_126⟩ := k5 _ _ _ _ _ d_124 rr d1 d2
      refine And.intro (by rw [hz]; exact d1) (And.intro (by rw [hz]; exact d2) ?_)
      rw [wi_nat hz]
      exact ⟨d3, d4, hn _ _ _ _ _ _ _ _ d_126 rl (And.intro e1 rs_125) e2⟩
  · obtain ⟨d1, d2, d_127⟩ := d
    refine And.intro d1 (And.intro d2 ?_)
    split at d_127
    · next e =>
      rw [if_pos e]
      obtain ⟨d3, d4, d_128⟩ := d_127
      split at d_128
      · next e2 =>
        refine ⟨d3, d4, by rw [wi_rs_cat rs]; exact e2, fun n hn => ?_⟩
        obtain ⟨h2, e3, d_129⟩ := k9 _ _ _ d_128 rr n hn
        exact ht _ _ _ d_129 e3
      · exact d_128.elim
    · next e =>
      rw [if_neg e]
      obtain ⟨v, h2, e1, e2, d_130⟩ := k5 _ _ _ _ _ d_127 rr (by decide) (by decide)
      exact hn _ _ _ _ _ _ _ _ d_130 rl (And.intro e1 rs) e2
  · show ite _ _ _
    split at d
    · next e =>
      rw [if_pos e]
      obtain ⟨o, r, rfl, d_131⟩ := wi_pr_e d
      obtain ⟨t, rfl, rs_132⟩ := wi_rs_r rs
      split at d_131
      · split at d_131
        · next e2 => exact And.intro ⟨_, rfl⟩ (And.intro (by rw [wi_rs_cat rs_132]; exact e2) (hn _ _ _ _ _ _ _ _ d_131 rl rs_132 rr))
        · exact d_131.elim
      · exact d_131.elim
    · next e =>
      rw [if_neg e]
      obtain ⟨d1, d2, d_133⟩ := d
      unfold wi_pp at d_133
      split at d_133
      · next e3 =>
        obtain ⟨t1, t2⟩ := wi_rs_td (wm_mn a) rs
        refine ⟨d1, d2, by rw [wi_rs_len rs]; exact e3, ?_⟩
        have t1 := wi_rs_rev t1
        split at d_133
        · next e4 =>
          split at d_133
          · next e5 =>
            refine ⟨by rw [wi_rs_cat t2]; exact e5, ?_, cxk _ _ _ _ _ _ _ t1 t2 rr d_133⟩
            rw [e4] at t1
            obtain ⟨t, e6, -⟩ := wi_rs_r t1
            exact ⟨_, _, e6⟩
          · exact d_133.elim
        · exact d_133.elim
      · exact d_133.elim
  · obtain ⟨d1, d2, d_134⟩ := d
    unfold wi_pp at d_134
    split at d_134
    · next e3 =>
      obtain ⟨t1, t2⟩ := wi_rs_td (wm_mn a) rs
      refine ⟨d1, d2, by rw [wi_rs_len rs]; exact e3, ?_⟩
      have t1 := wi_rs_rev t1
      split at d_134
      · next e4 =>
        split at d_134
        · next e5 =>
          obtain ⟨q, e7, e8, d_135⟩ := k8 _ _ _ _ _ d_134 rr
          refine ⟨by rw [wi_rs_cat t2]; exact e5, ?_, cxk _ _ _ _ _ _ _ t1 t2 rr d_135⟩
          rw [e4] at t1
          obtain ⟨t, e6, -⟩ := wi_rs_r t1
          exact ⟨q, t, by rw [e6, e7], e8⟩
        · exact d_134.elim
      · exact d_134.elim
    · exact d_134.elim
  · obtain ⟨d1, d2, d_136⟩ := d
    unfold wi_pp at d_136
    split at d_136
    · next e3 =>
      obtain ⟨t1, t2⟩ := wi_rs_td (wm_mn a) rs
      refine ⟨d1, d2, by rw [wi_rs_len rs]; exact e3, ?_⟩
      have t1 := wi_rs_rev t1
      split at d_136
      · next e5 => exact ⟨by rw [wi_rs_cat t2]; exact e5, cxk _ _ _ _ _ _ _ t1 t2 rr d_136⟩
      · exact d_136.elim
    · exact d_136.elim
  · obtain ⟨x, r, rfl, d_137⟩ := wi_pi_e d
    obtain ⟨z, t, rfl, hz, rs_138⟩ := wi_rs_i rs
    split at d_137
    · obtain ⟨d1, d2, d_139⟩ := d_137
      cases wi_rs_n rs_138
      refine ⟨rfl, d1, d2, fun e => ?_, ?_⟩
      · rw [if_pos e] at d_139
        rw [← Int32.toInt_inj, ← Int32.toInt_inj, hz]
        exact d_139.1
      · split at d_139
        · exact hq _ _ _ _ d_139.2 (hro _ _ ⟨z, rfl, hz⟩) rr
        · exact hq _ _ _ _ d_139 (hro _ _ ⟨z, rfl, hz⟩) rr
    · exact d_137.elim
  · obtain ⟨x, r, rfl, d_140⟩ := wi_pj_e d
    obtain ⟨z, t, rfl, hz, rs_141⟩ := wi_rs_j rs
    split at d_140
    · obtain ⟨d1, d2, d_142⟩ := d_140
      cases wi_rs_n rs_141
      exact ⟨rfl, d1, d2, hq _ _ _ _ d_142 (hro _ _ ⟨z, rfl, hz⟩) rr⟩
    · exact d_140.elim
  · obtain ⟨x, r, rfl, d_143⟩ := wi_pr_e d
    obtain ⟨t, rfl, rs_144⟩ := wi_rs_r rs
    split at d_143
    · obtain ⟨d1, d2, d_145⟩ := d_143
      cases wi_rs_n rs_144
      exact ⟨rfl, d1, d2, hq _ _ _ _ d_145 (hro _ _ rfl) rr⟩
    · exact d_143.elim
  · split at d
    · obtain ⟨d1, d2, d_146⟩ := d
      cases wi_rs_n rs
      exact And.intro rfl (And.intro d1 (And.intro d2 (hq _ _ _ _ d_146 hrn rr)))
    · exact d.elim
  · exact d.elim
end WIS
