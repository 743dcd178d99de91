/-! THE LAW, 8: the cases of its switch -/
set_option maxHeartbeats 4000000 in
set_option maxRecDepth 20000 in
theorem wl_g863 {b Lw : Nat} (hL : Lw ≤ 4097) : wl_g b Lw 863 := by
  intro n lv st h cu su hI
  obtain ⟨x, m, out, ad, M, i, a5, a6, j, rfl, rfl, ⟨hJ, hQ⟩, hi, hB⟩ := hI
  obtain ⟨n1, n2, n3, n4⟩ := hB.2.1 (by omega) (by omega)
  obtain ⟨hx, hn⟩ := wk_J_x hJ
  obtain ⟨tg, ln, I, L, R, nn⟩ := h
  have l1 := wl_L2 hi n4 hL hQ.2.2.2 1 (by decide) (by decide)
  have l2 := wl_L2 hi n4 hL hQ.2.2.2 2 (by decide) (by decide)
  refine And.intro l1.1 (And.intro l1.2.1 (Exists.intro b (And.intro rfl (And.intro hQ.2.2.1 (And.intro l1.2.2.1 (And.intro l1.2.2.2 ?_))))))
  refine And.intro l2.1 (And.intro l2.2.1 (Exists.intro b (And.intro rfl (And.intro hQ.2.2.1 (And.intro l2.2.2.1 (And.intro l2.2.2.2 ?_))))))
  refine And.intro (fun ez => ?_) (fun ez => ?_)
  ·
    refine And.intro (show cu + 2 ≤ 601024 by omega) (And.intro (show su + 12 ≤ 7293000 by omega) ?_)
    refine Exists.intro x (Exists.intro _ (Exists.intro _ (And.intro rfl (Exists.intro M (And.intro hJ (And.intro (fun h' z g => ?_) (fun y hy h' z g => ?_)))))))
    ·
      have A := wl_Q_g hQ hn g
      have A2 := A.1
      obtain ⟨tg', ln', I', L', R', n'⟩ := h'
      have e1 : I' 1 = I 1 := A.2
      rw [← e1] at z
      have m1 := wl_L2 hi n4 hL A2.2.2.2 1 (by decide) (by decide)
      have m2 := wl_L2 hi n4 hL A2.2.2.2 2 (by decide) (by decide)
      refine And.intro m1.1 (And.intro m1.2.1 (Exists.intro b (And.intro rfl (And.intro A2.2.2.1 (And.intro m1.2.2.1 (And.intro m1.2.2.2 ?_))))))
      refine And.intro m2.1 (And.intro m2.2.1 (Exists.intro b (And.intro rfl (And.intro A2.2.2.1 (And.intro m2.2.2.1 (And.intro m2.2.2.2 ?_))))))
      have ez2 : I' 1 (i + 2).toNat b = 0 := by rw [e1]; exact ez
      refine And.intro (fun _ => ?_) (fun e => absurd ez2 e)
      refine And.intro (show cu + 2 + 0 ≤ 601024 by omega) (And.intro (show su + 12 + 0 ≤ 7293000 by omega) (Exists.intro m (And.intro rfl (And.intro A2.1.1 ?_))))
      refine Exists.intro m (Exists.intro _ (Exists.intro ad (Exists.intro M (And.intro rfl (And.intro ?_ (And.intro A2.1 (z _ _ (fun b9 F A8 B8 okb hJ9 => And.intro ?_ (fun h2 hS => ?_)))))))))
      · simp [wl_nr]
      · cases okb
        trivial
      · cases okb
        have B1 := wl_Q_s A2 hS
        have J2 := wl_J_c hJ9 hS
        obtain ⟨tg2, ln2, I2, L2, R2, n2⟩ := h2
        refine And.intro (show cu + 2 + 0 + 0 ≤ 601024 by omega) (And.intro (show su + 12 + 0 + 0 ≤ 7293000 by omega) (Exists.intro m (And.intro rfl (And.intro B1.1.1.1 (wl_79 (qt := fun _ _ => False) B1.1.1 (fun h3 hS3 => ?_))))))
        have B2 := wl_Q_s B1.1 hS3
        have J3 := wl_J_c J2 hS3
        obtain ⟨tg3, ln3, I3, L3, R3, n3⟩ := h3
        refine And.intro (fun _ => ?_) (fun e => absurd rfl e)
        exact wl_fin J3 B2.1 hi hL n1 (show cu + 2 + 0 + 0 ≤ _ by omega) (show su + 12 + 0 + 0 ≤ _ by omega) n4
    ·
      obtain ⟨ky, cy⟩ := y
      have hc : cy ≠ 0 := wh_nz hy (by decide)
      have A := wl_Q_g hQ hn g
      have A2 := A.1
      obtain ⟨tg', ln', I', L', R', n'⟩ := h'
      have e1 : I' 1 = I 1 := A.2
      rw [← e1] at z
      have m1 := wl_L2 hi n4 hL A2.2.2.2 1 (by decide) (by decide)
      have m2 := wl_L2 hi n4 hL A2.2.2.2 2 (by decide) (by decide)
      refine And.intro m1.1 (And.intro m1.2.1 (Exists.intro b (And.intro rfl (And.intro A2.2.2.1 (And.intro m1.2.2.1 (And.intro m1.2.2.2 ?_))))))
      refine And.intro m2.1 (And.intro m2.2.1 (Exists.intro b (And.intro rfl (And.intro A2.2.2.1 (And.intro m2.2.2.1 (And.intro m2.2.2.2 ?_))))))
      have ez2 : I' 1 (i + 2).toNat b = 0 := by rw [e1]; exact ez
      refine And.intro (fun _ => ?_) (fun e => absurd ez2 e)
      refine And.intro (show cu + 2 + 0 ≤ 601024 by omega) (And.intro (show su + 12 + 0 ≤ 7293000 by omega) (Exists.intro m (And.intro rfl (And.intro A2.1.1 ?_))))
      refine Exists.intro m (Exists.intro _ (Exists.intro ad (Exists.intro M (And.intro rfl (And.intro ?_ (And.intro A2.1 (z _ _ (fun b9 F A8 B8 okb hJ9 => And.intro ?_ (fun h2 hS => ?_)))))))))
      · simp [wl_nr]
      · cases okb
        trivial
      · cases okb
        have B1 := wl_Q_s A2 hS
        have J2 := wl_J_c hJ9 hS
        obtain ⟨tg2, ln2, I2, L2, R2, n2⟩ := h2
        refine And.intro (show cu + 2 + 0 + 0 ≤ 601024 by omega) (And.intro (show su + 12 + 0 + 0 ≤ 7293000 by omega) (Exists.intro m (And.intro rfl (And.intro B1.1.1.1 (wl_79 (qt := fun _ _ => False) B1.1.1 (fun h3 hS3 => ?_))))))
        have B2 := wl_Q_s B1.1 hS3
        have J3 := wl_J_c J2 hS3
        obtain ⟨tg3, ln3, I3, L3, R3, n3⟩ := h3
        refine And.intro (fun _ => ?_) (fun e => absurd rfl e)
        exact wl_fin J3 B2.1 hi hL n1 (show cu + 2 + 0 + 0 ≤ _ by omega) (show su + 12 + 0 + 0 ≤ _ by omega) n4
  ·
    refine And.intro (show cu + 2 ≤ 601024 by omega) (And.intro (show su + 12 ≤ 7293000 by omega) ?_)
    refine Exists.intro x (Exists.intro _ (Exists.intro _ (And.intro rfl (Exists.intro M (And.intro hJ (And.intro (fun h' z g => ?_) (fun y hy h' z g => ?_)))))))
    ·
      have A := wl_Q_g hQ hn g
      have A2 := A.1
      obtain ⟨tg', ln', I', L', R', n'⟩ := h'
      have e1 : I' 1 = I 1 := A.2
      rw [← e1] at z
      have m1 := wl_L2 hi n4 hL A2.2.2.2 1 (by decide) (by decide)
      have m2 := wl_L2 hi n4 hL A2.2.2.2 2 (by decide) (by decide)
      refine And.intro m1.1 (And.intro m1.2.1 (Exists.intro b (And.intro rfl (And.intro A2.2.2.1 (And.intro m1.2.2.1 (And.intro m1.2.2.2 ?_))))))
      refine And.intro m2.1 (And.intro m2.2.1 (Exists.intro b (And.intro rfl (And.intro A2.2.2.1 (And.intro m2.2.2.1 (And.intro m2.2.2.2 ?_))))))
      have ez2 : ¬ I' 1 (i + 2).toNat b = 0 := by rw [e1]; exact ez
      refine And.intro (fun e => absurd e ez2) (fun _ => ?_)
      refine And.intro (show cu + 2 + 0 ≤ 601024 by omega) (And.intro (show su + 12 + 0 ≤ 7293000 by omega) (Exists.intro m (And.intro rfl (And.intro A2.1.1 ?_))))
      refine Exists.intro m (Exists.intro _ (Exists.intro ad (Exists.intro M (And.intro rfl (And.intro ?_ (And.intro A2.1 (z _ _ (fun b9 F A8 B8 okb hJ9 => And.intro ?_ (fun h2 hS => ?_)))))))))
      · simp [wl_nr]
      · cases okb
        trivial
      · cases okb
        have B1 := wl_Q_s A2 hS
        have J2 := wl_J_c hJ9 hS
        obtain ⟨tg2, ln2, I2, L2, R2, n2⟩ := h2
        refine And.intro (show cu + 2 + 0 + 0 ≤ 601024 by omega) (And.intro (show su + 12 + 0 + 0 ≤ 7293000 by omega) (Exists.intro m (And.intro rfl (And.intro B1.1.1.1 (wl_79 (qt := fun _ _ => False) B1.1.1 (fun h3 hS3 => ?_))))))
        have B2 := wl_Q_s B1.1 hS3
        have J3 := wl_J_c J2 hS3
        obtain ⟨tg3, ln3, I3, L3, R3, n3⟩ := h3
        refine And.intro (fun _ => ?_) (fun e => absurd rfl e)
        exact wl_fin J3 B2.1 hi hL n1 (show cu + 2 + 0 + 0 ≤ _ by omega) (show su + 12 + 0 + 0 ≤ _ by omega) n4
    ·
      obtain ⟨ky, cy⟩ := y
      have hc : cy ≠ 0 := wh_nz hy (by decide)
      have A := wl_Q_g hQ hn g
      have A2 := A.1
      obtain ⟨tg', ln', I', L', R', n'⟩ := h'
      have e1 : I' 1 = I 1 := A.2
      rw [← e1] at z
      have m1 := wl_L2 hi n4 hL A2.2.2.2 1 (by decide) (by decide)
      have m2 := wl_L2 hi n4 hL A2.2.2.2 2 (by decide) (by decide)
      refine And.intro m1.1 (And.intro m1.2.1 (Exists.intro b (And.intro rfl (And.intro A2.2.2.1 (And.intro m1.2.2.1 (And.intro m1.2.2.2 ?_))))))
      refine And.intro m2.1 (And.intro m2.2.1 (Exists.intro b (And.intro rfl (And.intro A2.2.2.1 (And.intro m2.2.2.1 (And.intro m2.2.2.2 ?_))))))
      have ez2 : ¬ I' 1 (i + 2).toNat b = 0 := by rw [e1]; exact ez
      refine And.intro (fun e => absurd e ez2) (fun _ => ?_)
      refine And.intro (show cu + 2 + 0 ≤ 601024 by omega) (And.intro (show su + 12 + 0 ≤ 7293000 by omega) (Exists.intro m (And.intro rfl (And.intro A2.1.1 ?_))))
      refine Exists.intro m (Exists.intro _ (Exists.intro ad (Exists.intro M (And.intro rfl (And.intro ?_ (And.intro A2.1 (z _ _ (fun b9 F A8 B8 okb hJ9 => And.intro ?_ (fun h2 hS => ?_)))))))))
      · simp [wl_nr]
      · cases okb
        trivial
      · cases okb
        have B1 := wl_Q_s A2 hS
        have J2 := wl_J_c hJ9 hS
        obtain ⟨tg2, ln2, I2, L2, R2, n2⟩ := h2
        refine And.intro (show cu + 2 + 0 + 0 ≤ 601024 by omega) (And.intro (show su + 12 + 0 + 0 ≤ 7293000 by omega) (Exists.intro m (And.intro rfl (And.intro B1.1.1.1 (wl_79 (qt := fun _ _ => False) B1.1.1 (fun h3 hS3 => ?_))))))
        have B2 := wl_Q_s B1.1 hS3
        have J3 := wl_J_c J2 hS3
        obtain ⟨tg3, ln3, I3, L3, R3, n3⟩ := h3
        refine And.intro (fun _ => ?_) (fun e => absurd rfl e)
        exact wl_fin J3 B2.1 hi hL n1 (show cu + 2 + 0 + 0 ≤ _ by omega) (show su + 12 + 0 + 0 ≤ _ by omega) n4
set_option maxHeartbeats 4000000 in
set_option maxRecDepth 20000 in
theorem wl_g927 {b Lw : Nat} (hL : Lw ≤ 4097) : wl_g b Lw 927 := by
  intro n lv st h cu su hI
  obtain ⟨x, m, out, ad, M, i, a5, a6, j, rfl, rfl, ⟨hJ, hQ⟩, hi, hB⟩ := hI
  obtain ⟨n1, n2, n3, n4⟩ := hB.2.1 (by omega) (by omega)
  obtain ⟨hx, hn⟩ := wk_J_x hJ
  obtain ⟨tg, ln, I, L, R, nn⟩ := h
  refine And.intro (show cu + 1 ≤ 601024 by omega) (And.intro (show su + 6 ≤ 7293000 by omega) ?_)
  refine Exists.intro x (Exists.intro out (And.intro rfl (And.intro hQ.2.1 (Exists.intro M (And.intro hJ (And.intro (fun r h' z g => ?_) (fun y hy h' z g => ?_)))))))
  ·
    have A := wl_Q_g hQ hn g
    have A2 := (wl_Q_o (r := r) A.1).1
    have A3 := (wl_Q_o (r := r) A.1).2
    obtain ⟨tg', ln', I', L', R', n'⟩ := h'
    have e1 : I' 1 = I 1 := A.2
    refine And.intro (show cu + 1 + 0 ≤ 601024 by omega) (And.intro (show su + 6 + 0 ≤ 7293000 by omega) (Exists.intro m (And.intro rfl (And.intro A2.1.1 ?_))))
    refine Exists.intro m (Exists.intro _ (Exists.intro ad (Exists.intro M (And.intro rfl (And.intro ?_ (And.intro A2.1 (z _ _ (fun b9 F A8 B8 okb hJ9 => And.intro ?_ (fun h2 hS => ?_)))))))))
    · simp [wl_nr]
    · cases okb
      trivial
    · cases okb
      have B1 := wl_Q_s A2 hS
      have J2 := wl_J_c (wl_J_o (out := out) (r := r) hJ9) hS
      obtain ⟨tg2, ln2, I2, L2, R2, n2⟩ := h2
      refine And.intro (show cu + 1 + 0 + 0 ≤ 601024 by omega) (And.intro (show su + 6 + 0 + 0 ≤ 7293000 by omega) (Exists.intro m (And.intro rfl (And.intro B1.1.1.1 (wl_79 (qt := fun _ _ => False) B1.1.1 (fun h3 hS3 => ?_))))))
      have B2 := wl_Q_s B1.1 hS3
      have J3 := wl_J_c J2 hS3
      obtain ⟨tg3, ln3, I3, L3, R3, n3⟩ := h3
      refine And.intro (fun _ => ?_) (fun e => absurd rfl e)
      refine And.intro (fun e => absurd rfl e) (fun _ => ?_)
      refine Exists.intro out (And.intro rfl (And.intro B2.1.2.1.1 (And.intro (Int.le_refl 0) (And.intro ?_ (And.intro (fun _ => ?_) (fun e => absurd ?_ e))))))
      · have e9 : ln3 out = 1 := B2.1.2.1.2
        rw [e9]
        decide
      · exact wl_fin J3 B2.1 hi hL n1 (show cu + 1 + 0 + 0 ≤ _ by omega) (show su + 6 + 0 + 0 ≤ _ by omega) n4
      · exact (congrFun (congrFun B2.2.2 0) out).trans ((congrFun (congrFun B1.2.2 0) out).trans A3)
  ·
    obtain ⟨ky, cy⟩ := y
    have hc : cy ≠ 0 := wh_nz hy (by decide)
    have A := wl_Q_g hQ hn g
    have A2 := A.1
    obtain ⟨tg', ln', I', L', R', n'⟩ := h'
    have e1 : I' 1 = I 1 := A.2
    refine And.intro (show cu + 1 + 0 ≤ 601024 by omega) (And.intro (show su + 6 + 0 ≤ 7293000 by omega) (Exists.intro m (And.intro rfl (And.intro A2.1.1 ?_))))
    refine Exists.intro m (Exists.intro _ (Exists.intro ad (Exists.intro M (And.intro rfl (And.intro ?_ (And.intro A2.1 (z _ _ (fun b9 F A8 B8 okb hJ9 => And.intro ?_ (fun h2 hS => ?_)))))))))
    · simp [wl_nr]
    · obtain ⟨v9, rfl⟩ := okb
      trivial
    · obtain ⟨v9, rfl⟩ := okb
      have B1 := wl_Q_s A2 hS
      have J2 := wl_J_c hJ9 hS
      obtain ⟨tg2, ln2, I2, L2, R2, n2⟩ := h2
      refine And.intro (show cu + 1 + 0 + 0 ≤ 601024 by omega) (And.intro (show su + 6 + 0 + 0 ≤ 7293000 by omega) (Exists.intro m (And.intro rfl (And.intro B1.1.1.1 (wl_79 (qt := fun _ _ => False) B1.1.1 (fun h3 hS3 => ?_))))))
      have B2 := wl_Q_s B1.1 hS3
      have J3 := wl_J_c J2 hS3
      obtain ⟨tg3, ln3, I3, L3, R3, n3⟩ := h3
      refine And.intro (fun _ => ?_) (fun e => absurd rfl e)
      refine And.intro (fun _ => ?_) (fun e => absurd e hc)
      exact wl_fin J3 B2.1 hi hL n1 (show cu + 1 + 0 + 0 ≤ _ by omega) (show su + 6 + 0 + 0 ≤ _ by omega) n4
set_option maxHeartbeats 4000000 in
set_option maxRecDepth 20000 in
theorem wl_g971 {b Lw : Nat} (hL : Lw ≤ 4097) : wl_g b Lw 971 := by
  intro n lv st h cu su hI
  obtain ⟨x, m, out, ad, M, i, a5, a6, j, rfl, rfl, ⟨hJ, hQ⟩, hi, hB⟩ := hI
  obtain ⟨n1, n2, n3, n4⟩ := hB.2.1 (by omega) (by omega)
  obtain ⟨hx, hn⟩ := wk_J_x hJ
  obtain ⟨tg, ln, I, L, R, nn⟩ := h
  have l1 := wl_L2 hi n4 hL hQ.2.2.2 1 (by decide) (by decide)
  refine And.intro l1.1 (And.intro l1.2.1 (Exists.intro b (And.intro rfl (And.intro hQ.2.2.1 (And.intro l1.2.2.1 (And.intro l1.2.2.2 ?_))))))
  refine And.intro (show cu + 1 ≤ 601024 by omega) (And.intro (show su + 6 ≤ 7293000 by omega) ?_)
  refine Exists.intro x (Exists.intro _ (Exists.intro out (And.intro rfl (And.intro hQ.2.1 (Exists.intro M (And.intro hJ (And.intro (fun r h' z g => ?_) (fun y hy h' z g => ?_))))))))
  ·
    have A := wl_Q_g hQ hn g
    have A2 := (wl_Q_o (r := r) A.1).1
    have A3 := (wl_Q_o (r := r) A.1).2
    obtain ⟨tg', ln', I', L', R', n'⟩ := h'
    have e1 : I' 1 = I 1 := A.2
    rw [← e1] at z
    have m1 := wl_L2 hi n4 hL A2.2.2.2 1 (by decide) (by decide)
    refine And.intro m1.1 (And.intro m1.2.1 (Exists.intro b (And.intro rfl (And.intro A2.2.2.1 (And.intro m1.2.2.1 (And.intro m1.2.2.2 ?_))))))
    refine And.intro (show cu + 1 + 0 ≤ 601024 by omega) (And.intro (show su + 6 + 0 ≤ 7293000 by omega) (Exists.intro m (And.intro rfl (And.intro A2.1.1 ?_))))
    refine Exists.intro m (Exists.intro _ (Exists.intro ad (Exists.intro M (And.intro rfl (And.intro ?_ (And.intro A2.1 (z _ _ (fun b9 F A8 B8 okb hJ9 => And.intro ?_ (fun h2 hS => ?_)))))))))
    · simp [wl_nr]
    · cases okb
      trivial
    · cases okb
      have B1 := wl_Q_s A2 hS
      have J2 := wl_J_c (wl_J_o (out := out) (r := r) hJ9) hS
      obtain ⟨tg2, ln2, I2, L2, R2, n2⟩ := h2
      refine And.intro (show cu + 1 + 0 + 0 ≤ 601024 by omega) (And.intro (show su + 6 + 0 + 0 ≤ 7293000 by omega) (Exists.intro m (And.intro rfl (And.intro B1.1.1.1 (wl_79 (qt := fun _ _ => False) B1.1.1 (fun h3 hS3 => ?_))))))
      have B2 := wl_Q_s B1.1 hS3
      have J3 := wl_J_c J2 hS3
      obtain ⟨tg3, ln3, I3, L3, R3, n3⟩ := h3
      refine And.intro (fun _ => ?_) (fun e => absurd rfl e)
      refine And.intro (fun e => absurd rfl e) (fun _ => ?_)
      refine Exists.intro out (And.intro rfl (And.intro B2.1.2.1.1 (And.intro (Int.le_refl 0) (And.intro ?_ (And.intro (fun _ => ?_) (fun e => absurd ?_ e))))))
      · have e9 : ln3 out = 1 := B2.1.2.1.2
        rw [e9]
        decide
      · exact wl_fin J3 B2.1 hi hL n1 (show cu + 1 + 0 + 0 ≤ _ by omega) (show su + 6 + 0 + 0 ≤ _ by omega) n4
      · exact (congrFun (congrFun B2.2.2 0) out).trans ((congrFun (congrFun B1.2.2 0) out).trans A3)
  ·
    obtain ⟨ky, cy⟩ := y
    have hc : cy ≠ 0 := wh_nz hy (by decide)
    have A := wl_Q_g hQ hn g
    have A2 := A.1
    obtain ⟨tg', ln', I', L', R', n'⟩ := h'
    have e1 : I' 1 = I 1 := A.2
    rw [← e1] at z
    have m1 := wl_L2 hi n4 hL A2.2.2.2 1 (by decide) (by decide)
    refine And.intro m1.1 (And.intro m1.2.1 (Exists.intro b (And.intro rfl (And.intro A2.2.2.1 (And.intro m1.2.2.1 (And.intro m1.2.2.2 ?_))))))
    refine And.intro (show cu + 1 + 0 ≤ 601024 by omega) (And.intro (show su + 6 + 0 ≤ 7293000 by omega) (Exists.intro m (And.intro rfl (And.intro A2.1.1 ?_))))
    refine Exists.intro m (Exists.intro _ (Exists.intro ad (Exists.intro M (And.intro rfl (And.intro ?_ (And.intro A2.1 (z _ _ (fun b9 F A8 B8 okb hJ9 => And.intro ?_ (fun h2 hS => ?_)))))))))
    · simp [wl_nr]
    · obtain ⟨v9, rfl⟩ := okb
      trivial
    · obtain ⟨v9, rfl⟩ := okb
      have B1 := wl_Q_s A2 hS
      have J2 := wl_J_c hJ9 hS
      obtain ⟨tg2, ln2, I2, L2, R2, n2⟩ := h2
      refine And.intro (show cu + 1 + 0 + 0 ≤ 601024 by omega) (And.intro (show su + 6 + 0 + 0 ≤ 7293000 by omega) (Exists.intro m (And.intro rfl (And.intro B1.1.1.1 (wl_79 (qt := fun _ _ => False) B1.1.1 (fun h3 hS3 => ?_))))))
      have B2 := wl_Q_s B1.1 hS3
      have J3 := wl_J_c J2 hS3
      obtain ⟨tg3, ln3, I3, L3, R3, n3⟩ := h3
      refine And.intro (fun _ => ?_) (fun e => absurd rfl e)
      refine And.intro (fun _ => ?_) (fun e => absurd e hc)
      exact wl_fin J3 B2.1 hi hL n1 (show cu + 1 + 0 + 0 ≤ _ by omega) (show su + 6 + 0 + 0 ≤ _ by omega) n4
set_option maxHeartbeats 4000000 in
set_option maxRecDepth 20000 in
theorem wl_g1027 {b Lw : Nat} (hL : Lw ≤ 4097) : wl_g b Lw 1027 := by
  intro n lv st h cu su hI
  obtain ⟨x, m, out, ad, M, i, a5, a6, j, rfl, rfl, ⟨hJ, hQ⟩, hi, hB⟩ := hI
  obtain ⟨n1, n2, n3, n4⟩ := hB.2.1 (by omega) (by omega)
  obtain ⟨hx, hn⟩ := wk_J_x hJ
  obtain ⟨tg, ln, I, L, R, nn⟩ := h
  have l1 := wl_L2 hi n4 hL hQ.2.2.2 1 (by decide) (by decide)
  have l2 := wl_L2 hi n4 hL hQ.2.2.2 2 (by decide) (by decide)
  refine And.intro l1.1 (And.intro l1.2.1 (Exists.intro b (And.intro rfl (And.intro hQ.2.2.1 (And.intro l1.2.2.1 (And.intro l1.2.2.2 ?_))))))
  refine And.intro l2.1 (And.intro l2.2.1 (Exists.intro b (And.intro rfl (And.intro hQ.2.2.1 (And.intro l2.2.2.1 (And.intro l2.2.2.2 ?_))))))
  refine And.intro (show cu + 1 ≤ 601024 by omega) (And.intro (show su + 6 ≤ 7293000 by omega) ?_)
  refine Exists.intro x (Exists.intro _ (Exists.intro _ (Exists.intro out (And.intro rfl (And.intro hQ.2.1 (Exists.intro M (And.intro hJ (And.intro (fun r h' z g => ?_) (fun y hy h' z g => ?_)))))))))
  ·
    have A := wl_Q_g hQ hn g
    have A2 := (wl_Q_o (r := r) A.1).1
    have A3 := (wl_Q_o (r := r) A.1).2
    obtain ⟨tg', ln', I', L', R', n'⟩ := h'
    have e1 : I' 1 = I 1 := A.2
    rw [← e1] at z
    have m1 := wl_L2 hi n4 hL A2.2.2.2 1 (by decide) (by decide)
    have m2 := wl_L2 hi n4 hL A2.2.2.2 2 (by decide) (by decide)
    refine And.intro m1.1 (And.intro m1.2.1 (Exists.intro b (And.intro rfl (And.intro A2.2.2.1 (And.intro m1.2.2.1 (And.intro m1.2.2.2 ?_))))))
    refine And.intro m2.1 (And.intro m2.2.1 (Exists.intro b (And.intro rfl (And.intro A2.2.2.1 (And.intro m2.2.2.1 (And.intro m2.2.2.2 ?_))))))
    refine And.intro (show cu + 1 + 0 ≤ 601024 by omega) (And.intro (show su + 6 + 0 ≤ 7293000 by omega) (Exists.intro m (And.intro rfl (And.intro A2.1.1 ?_))))
    refine Exists.intro m (Exists.intro _ (Exists.intro ad (Exists.intro M (And.intro rfl (And.intro ?_ (And.intro A2.1 (z _ _ (fun b9 F A8 B8 okb hJ9 => And.intro ?_ (fun h2 hS => ?_)))))))))
    · simp [wl_nr]
    · cases okb
      trivial
    · cases okb
      have B1 := wl_Q_s A2 hS
      have J2 := wl_J_c (wl_J_o (out := out) (r := r) hJ9) hS
      obtain ⟨tg2, ln2, I2, L2, R2, n2⟩ := h2
      refine And.intro (show cu + 1 + 0 + 0 ≤ 601024 by omega) (And.intro (show su + 6 + 0 + 0 ≤ 7293000 by omega) (Exists.intro m (And.intro rfl (And.intro B1.1.1.1 (wl_79 (qt := fun _ _ => False) B1.1.1 (fun h3 hS3 => ?_))))))
      have B2 := wl_Q_s B1.1 hS3
      have J3 := wl_J_c J2 hS3
      obtain ⟨tg3, ln3, I3, L3, R3, n3⟩ := h3
      refine And.intro (fun _ => ?_) (fun e => absurd rfl e)
      refine And.intro (fun e => absurd rfl e) (fun _ => ?_)
      refine Exists.intro out (And.intro rfl (And.intro B2.1.2.1.1 (And.intro (Int.le_refl 0) (And.intro ?_ (And.intro (fun _ => ?_) (fun e => absurd ?_ e))))))
      · have e9 : ln3 out = 1 := B2.1.2.1.2
        rw [e9]
        decide
      · exact wl_fin J3 B2.1 hi hL n1 (show cu + 1 + 0 + 0 ≤ _ by omega) (show su + 6 + 0 + 0 ≤ _ by omega) n4
      · exact (congrFun (congrFun B2.2.2 0) out).trans ((congrFun (congrFun B1.2.2 0) out).trans A3)
  ·
    obtain ⟨ky, cy⟩ := y
    have hc : cy ≠ 0 := wh_nz hy (by decide)
    have A := wl_Q_g hQ hn g
    have A2 := A.1
    obtain ⟨tg', ln', I', L', R', n'⟩ := h'
    have e1 : I' 1 = I 1 := A.2
    rw [← e1] at z
    have m1 := wl_L2 hi n4 hL A2.2.2.2 1 (by decide) (by decide)
    have m2 := wl_L2 hi n4 hL A2.2.2.2 2 (by decide) (by decide)
    refine And.intro m1.1 (And.intro m1.2.1 (Exists.intro b (And.intro rfl (And.intro A2.2.2.1 (And.intro m1.2.2.1 (And.intro m1.2.2.2 ?_))))))
    refine And.intro m2.1 (And.intro m2.2.1 (Exists.intro b (And.intro rfl (And.intro A2.2.2.1 (And.intro m2.2.2.1 (And.intro m2.2.2.2 ?_))))))
    refine And.intro (show cu + 1 + 0 ≤ 601024 by omega) (And.intro (show su + 6 + 0 ≤ 7293000 by omega) (Exists.intro m (And.intro rfl (And.intro A2.1.1 ?_))))
    refine Exists.intro m (Exists.intro _ (Exists.intro ad (Exists.intro M (And.intro rfl (And.intro ?_ (And.intro A2.1 (z _ _ (fun b9 F A8 B8 okb hJ9 => And.intro ?_ (fun h2 hS => ?_)))))))))
    · simp [wl_nr]
    · obtain ⟨v9, rfl⟩ := okb
      trivial
    · obtain ⟨v9, rfl⟩ := okb
      have B1 := wl_Q_s A2 hS
      have J2 := wl_J_c hJ9 hS
      obtain ⟨tg2, ln2, I2, L2, R2, n2⟩ := h2
      refine And.intro (show cu + 1 + 0 + 0 ≤ 601024 by omega) (And.intro (show su + 6 + 0 + 0 ≤ 7293000 by omega) (Exists.intro m (And.intro rfl (And.intro B1.1.1.1 (wl_79 (qt := fun _ _ => False) B1.1.1 (fun h3 hS3 => ?_))))))
      have B2 := wl_Q_s B1.1 hS3
      have J3 := wl_J_c J2 hS3
      obtain ⟨tg3, ln3, I3, L3, R3, n3⟩ := h3
      refine And.intro (fun _ => ?_) (fun e => absurd rfl e)
      refine And.intro (fun _ => ?_) (fun e => absurd e hc)
      exact wl_fin J3 B2.1 hi hL n1 (show cu + 1 + 0 + 0 ≤ _ by omega) (show su + 6 + 0 + 0 ≤ _ by omega) n4
set_option maxHeartbeats 4000000 in
set_option maxRecDepth 20000 in
theorem wl_g1095 {b Lw : Nat} (hL : Lw ≤ 4097) : wl_g b Lw 1095 := by
  intro n lv st h cu su hI
  obtain ⟨x, m, out, ad, M, i, a5, a6, j, rfl, rfl, ⟨hJ, hQ⟩, hi, hB⟩ := hI
  obtain ⟨n1, n2, n3, n4⟩ := hB.2.1 (by omega) (by omega)
  obtain ⟨hx, hn⟩ := wk_J_x hJ
  obtain ⟨tg, ln, I, L, R, nn⟩ := h
  have l1 := wl_L2 hi n4 hL hQ.2.2.2 1 (by decide) (by decide)
  have l2 := wl_L2 hi n4 hL hQ.2.2.2 2 (by decide) (by decide)
  have l3 := wl_L2 hi n4 hL hQ.2.2.2 3 (by decide) (by decide)
  refine And.intro l1.1 (And.intro l1.2.1 (Exists.intro b (And.intro rfl (And.intro hQ.2.2.1 (And.intro l1.2.2.1 (And.intro l1.2.2.2 ?_))))))
  refine And.intro l2.1 (And.intro l2.2.1 (Exists.intro b (And.intro rfl (And.intro hQ.2.2.1 (And.intro l2.2.2.1 (And.intro l2.2.2.2 ?_))))))
  refine And.intro l3.1 (And.intro l3.2.1 (Exists.intro b (And.intro rfl (And.intro hQ.2.2.1 (And.intro l3.2.2.1 (And.intro l3.2.2.2 ?_))))))
  refine And.intro (fun ez => ?_) (fun ez => ?_)
  ·
    refine And.intro (show cu + 2 ≤ 601024 by omega) (And.intro (show su + 12 ≤ 7293000 by omega) ?_)
    refine Exists.intro x (Exists.intro _ (Exists.intro _ (Exists.intro _ (Exists.intro out (And.intro rfl (And.intro hQ.2.1 (Exists.intro M (And.intro hJ (And.intro (fun r h' z g => ?_) (fun y hy h' z g => ?_))))))))))
    ·
      have A := wl_Q_g hQ hn g
      have A2 := (wl_Q_o (r := r) A.1).1
      have A3 := (wl_Q_o (r := r) A.1).2
      obtain ⟨tg', ln', I', L', R', n'⟩ := h'
      have e1 : I' 1 = I 1 := A.2
      rw [← e1] at z
      have m1 := wl_L2 hi n4 hL A2.2.2.2 1 (by decide) (by decide)
      have m2 := wl_L2 hi n4 hL A2.2.2.2 2 (by decide) (by decide)
      have m3 := wl_L2 hi n4 hL A2.2.2.2 3 (by decide) (by decide)
      refine And.intro m1.1 (And.intro m1.2.1 (Exists.intro b (And.intro rfl (And.intro A2.2.2.1 (And.intro m1.2.2.1 (And.intro m1.2.2.2 ?_))))))
      refine And.intro m2.1 (And.intro m2.2.1 (Exists.intro b (And.intro rfl (And.intro A2.2.2.1 (And.intro m2.2.2.1 (And.intro m2.2.2.2 ?_))))))
      refine And.intro m3.1 (And.intro m3.2.1 (Exists.intro b (And.intro rfl (And.intro A2.2.2.1 (And.intro m3.2.2.1 (And.intro m3.2.2.2 ?_))))))
      have ez2 : I' 1 (i + 3).toNat b = 0 := by rw [e1]; exact ez
      refine And.intro (fun _ => ?_) (fun e => absurd ez2 e)
      refine And.intro (show cu + 2 + 0 ≤ 601024 by omega) (And.intro (show su + 12 + 0 ≤ 7293000 by omega) (Exists.intro m (And.intro rfl (And.intro A2.1.1 ?_))))
      refine Exists.intro m (Exists.intro _ (Exists.intro ad (Exists.intro M (And.intro rfl (And.intro ?_ (And.intro A2.1 (z _ _ (fun b9 F A8 B8 okb hJ9 => And.intro ?_ (fun h2 hS => ?_)))))))))
      · simp [wl_nr]
      · cases okb
        trivial
      · cases okb
        have B1 := wl_Q_s A2 hS
        have J2 := wl_J_c (wl_J_o (out := out) (r := r) hJ9) hS
        obtain ⟨tg2, ln2, I2, L2, R2, n2⟩ := h2
        refine And.intro (show cu + 2 + 0 + 0 ≤ 601024 by omega) (And.intro (show su + 12 + 0 + 0 ≤ 7293000 by omega) (Exists.intro m (And.intro rfl (And.intro B1.1.1.1 (wl_79 (qt := fun _ _ => False) B1.1.1 (fun h3 hS3 => ?_))))))
        have B2 := wl_Q_s B1.1 hS3
        have J3 := wl_J_c J2 hS3
        obtain ⟨tg3, ln3, I3, L3, R3, n3⟩ := h3
        refine And.intro (fun _ => ?_) (fun e => absurd rfl e)
        refine And.intro (fun e => absurd rfl e) (fun _ => ?_)
        refine Exists.intro out (And.intro rfl (And.intro B2.1.2.1.1 (And.intro (Int.le_refl 0) (And.intro ?_ (And.intro (fun _ => ?_) (fun e => absurd ?_ e))))))
        · have e9 : ln3 out = 1 := B2.1.2.1.2
          rw [e9]
          decide
        · exact wl_fin J3 B2.1 hi hL n1 (show cu + 2 + 0 + 0 ≤ _ by omega) (show su + 12 + 0 + 0 ≤ _ by omega) n4
        · exact (congrFun (congrFun B2.2.2 0) out).trans ((congrFun (congrFun B1.2.2 0) out).trans A3)
    ·
      obtain ⟨ky, cy⟩ := y
      have hc : cy ≠ 0 := wh_nz hy (by decide)
      have A := wl_Q_g hQ hn g
      have A2 := A.1
      obtain ⟨tg', ln', I', L', R', n'⟩ := h'
      have e1 : I' 1 = I 1 := A.2
      rw [← e1] at z
      have m1 := wl_L2 hi n4 hL A2.2.2.2 1 (by decide) (by decide)
      have m2 := wl_L2 hi n4 hL A2.2.2.2 2 (by decide) (by decide)
      have m3 := wl_L2 hi n4 hL A2.2.2.2 3 (by decide) (by decide)
      refine And.intro m1.1 (And.intro m1.2.1 (Exists.intro b (And.intro rfl (And.intro A2.2.2.1 (And.intro m1.2.2.1 (And.intro m1.2.2.2 ?_))))))
      refine And.intro m2.1 (And.intro m2.2.1 (Exists.intro b (And.intro rfl (And.intro A2.2.2.1 (And.intro m2.2.2.1 (And.intro m2.2.2.2 ?_))))))
      refine And.intro m3.1 (And.intro m3.2.1 (Exists.intro b (And.intro rfl (And.intro A2.2.2.1 (And.intro m3.2.2.1 (And.intro m3.2.2.2 ?_))))))
      have ez2 : I' 1 (i + 3).toNat b = 0 := by rw [e1]; exact ez
      refine And.intro (fun _ => ?_) (fun e => absurd ez2 e)
      refine And.intro (show cu + 2 + 0 ≤ 601024 by omega) (And.intro (show su + 12 + 0 ≤ 7293000 by omega) (Exists.intro m (And.intro rfl (And.intro A2.1.1 ?_))))
      refine Exists.intro m (Exists.intro _ (Exists.intro ad (Exists.intro M (And.intro rfl (And.intro ?_ (And.intro A2.1 (z _ _ (fun b9 F A8 B8 okb hJ9 => And.intro ?_ (fun h2 hS => ?_)))))))))
      · simp [wl_nr]
      · obtain ⟨v9, rfl⟩ := okb
        trivial
      · obtain ⟨v9, rfl⟩ := okb
        have B1 := wl_Q_s A2 hS
        have J2 := wl_J_c hJ9 hS
        obtain ⟨tg2, ln2, I2, L2, R2, n2⟩ := h2
        refine And.intro (show cu + 2 + 0 + 0 ≤ 601024 by omega) (And.intro (show su + 12 + 0 + 0 ≤ 7293000 by omega) (Exists.intro m (And.intro rfl (And.intro B1.1.1.1 (wl_79 (qt := fun _ _ => False) B1.1.1 (fun h3 hS3 => ?_))))))
        have B2 := wl_Q_s B1.1 hS3
        have J3 := wl_J_c J2 hS3
        obtain ⟨tg3, ln3, I3, L3, R3, n3⟩ := h3
        refine And.intro (fun _ => ?_) (fun e => absurd rfl e)
        refine And.intro (fun _ => ?_) (fun e => absurd e hc)
        exact wl_fin J3 B2.1 hi hL n1 (show cu + 2 + 0 + 0 ≤ _ by omega) (show su + 12 + 0 + 0 ≤ _ by omega) n4
  ·
    refine And.intro (show cu + 2 ≤ 601024 by omega) (And.intro (show su + 12 ≤ 7293000 by omega) ?_)
    refine Exists.intro x (Exists.intro _ (Exists.intro _ (Exists.intro _ (Exists.intro out (And.intro rfl (And.intro hQ.2.1 (Exists.intro M (And.intro hJ (And.intro (fun r h' z g => ?_) (fun y hy h' z g => ?_))))))))))
    ·
      have A := wl_Q_g hQ hn g
      have A2 := (wl_Q_o (r := r) A.1).1
      have A3 := (wl_Q_o (r := r) A.1).2
      obtain ⟨tg', ln', I', L', R', n'⟩ := h'
      have e1 : I' 1 = I 1 := A.2
      rw [← e1] at z
      have m1 := wl_L2 hi n4 hL A2.2.2.2 1 (by decide) (by decide)
      have m2 := wl_L2 hi n4 hL A2.2.2.2 2 (by decide) (by decide)
      have m3 := wl_L2 hi n4 hL A2.2.2.2 3 (by decide) (by decide)
      refine And.intro m1.1 (And.intro m1.2.1 (Exists.intro b (And.intro rfl (And.intro A2.2.2.1 (And.intro m1.2.2.1 (And.intro m1.2.2.2 ?_))))))
      refine And.intro m2.1 (And.intro m2.2.1 (Exists.intro b (And.intro rfl (And.intro A2.2.2.1 (And.intro m2.2.2.1 (And.intro m2.2.2.2 ?_))))))
      refine And.intro m3.1 (And.intro m3.2.1 (Exists.intro b (And.intro rfl (And.intro A2.2.2.1 (And.intro m3.2.2.1 (And.intro m3.2.2.2 ?_))))))
      have ez2 : ¬ I' 1 (i + 3).toNat b = 0 := by rw [e1]; exact ez
      refine And.intro (fun e => absurd e ez2) (fun _ => ?_)
      refine And.intro (show cu + 2 + 0 ≤ 601024 by omega) (And.intro (show su + 12 + 0 ≤ 7293000 by omega) (Exists.intro m (And.intro rfl (And.intro A2.1.1 ?_))))
      refine Exists.intro m (Exists.intro _ (Exists.intro ad (Exists.intro M (And.intro rfl (And.intro ?_ (And.intro A2.1 (z _ _ (fun b9 F A8 B8 okb hJ9 => And.intro ?_ (fun h2 hS => ?_)))))))))
      · simp [wl_nr]
      · cases okb
        trivial
      · cases okb
        have B1 := wl_Q_s A2 hS
        have J2 := wl_J_c (wl_J_o (out := out) (r := r) hJ9) hS
        obtain ⟨tg2, ln2, I2, L2, R2, n2⟩ := h2
        refine And.intro (show cu + 2 + 0 + 0 ≤ 601024 by omega) (And.intro (show su + 12 + 0 + 0 ≤ 7293000 by omega) (Exists.intro m (And.intro rfl (And.intro B1.1.1.1 (wl_79 (qt := fun _ _ => False) B1.1.1 (fun h3 hS3 => ?_))))))
        have B2 := wl_Q_s B1.1 hS3
        have J3 := wl_J_c J2 hS3
        obtain ⟨tg3, ln3, I3, L3, R3, n3⟩ := h3
        refine And.intro (fun _ => ?_) (fun e => absurd rfl e)
        refine And.intro (fun e => absurd rfl e) (fun _ => ?_)
        refine Exists.intro out (And.intro rfl (And.intro B2.1.2.1.1 (And.intro (Int.le_refl 0) (And.intro ?_ (And.intro (fun _ => ?_) (fun e => absurd ?_ e))))))
        · have e9 : ln3 out = 1 := B2.1.2.1.2
          rw [e9]
          decide
        · exact wl_fin J3 B2.1 hi hL n1 (show cu + 2 + 0 + 0 ≤ _ by omega) (show su + 12 + 0 + 0 ≤ _ by omega) n4
        · exact (congrFun (congrFun B2.2.2 0) out).trans ((congrFun (congrFun B1.2.2 0) out).trans A3)
    ·
      obtain ⟨ky, cy⟩ := y
      have hc : cy ≠ 0 := wh_nz hy (by decide)
      have A := wl_Q_g hQ hn g
      have A2 := A.1
      obtain ⟨tg', ln', I', L', R', n'⟩ := h'
      have e1 : I' 1 = I 1 := A.2
      rw [← e1] at z
      have m1 := wl_L2 hi n4 hL A2.2.2.2 1 (by decide) (by decide)
      have m2 := wl_L2 hi n4 hL A2.2.2.2 2 (by decide) (by decide)
      have m3 := wl_L2 hi n4 hL A2.2.2.2 3 (by decide) (by decide)
      refine And.intro m1.1 (And.intro m1.2.1 (Exists.intro b (And.intro rfl (And.intro A2.2.2.1 (And.intro m1.2.2.1 (And.intro m1.2.2.2 ?_))))))
      refine And.intro m2.1 (And.intro m2.2.1 (Exists.intro b (And.intro rfl (And.intro A2.2.2.1 (And.intro m2.2.2.1 (And.intro m2.2.2.2 ?_))))))
      refine And.intro m3.1 (And.intro m3.2.1 (Exists.intro b (And.intro rfl (And.intro A2.2.2.1 (And.intro m3.2.2.1 (And.intro m3.2.2.2 ?_))))))
      have ez2 : ¬ I' 1 (i + 3).toNat b = 0 := by rw [e1]; exact ez
      refine And.intro (fun e => absurd e ez2) (fun _ => ?_)
      refine And.intro (show cu + 2 + 0 ≤ 601024 by omega) (And.intro (show su + 12 + 0 ≤ 7293000 by omega) (Exists.intro m (And.intro rfl (And.intro A2.1.1 ?_))))
      refine Exists.intro m (Exists.intro _ (Exists.intro ad (Exists.intro M (And.intro rfl (And.intro ?_ (And.intro A2.1 (z _ _ (fun b9 F A8 B8 okb hJ9 => And.intro ?_ (fun h2 hS => ?_)))))))))
      · simp [wl_nr]
      · obtain ⟨v9, rfl⟩ := okb
        trivial
      · obtain ⟨v9, rfl⟩ := okb
        have B1 := wl_Q_s A2 hS
        have J2 := wl_J_c hJ9 hS
        obtain ⟨tg2, ln2, I2, L2, R2, n2⟩ := h2
        refine And.intro (show cu + 2 + 0 + 0 ≤ 601024 by omega) (And.intro (show su + 12 + 0 + 0 ≤ 7293000 by omega) (Exists.intro m (And.intro rfl (And.intro B1.1.1.1 (wl_79 (qt := fun _ _ => False) B1.1.1 (fun h3 hS3 => ?_))))))
        have B2 := wl_Q_s B1.1 hS3
        have J3 := wl_J_c J2 hS3
        obtain ⟨tg3, ln3, I3, L3, R3, n3⟩ := h3
        refine And.intro (fun _ => ?_) (fun e => absurd rfl e)
        refine And.intro (fun _ => ?_) (fun e => absurd e hc)
        exact wl_fin J3 B2.1 hi hL n1 (show cu + 2 + 0 + 0 ≤ _ by omega) (show su + 12 + 0 + 0 ≤ _ by omega) n4
set_option maxHeartbeats 4000000 in
set_option maxRecDepth 20000 in
theorem wl_g1191 {b Lw : Nat} (hL : Lw ≤ 4097) : wl_g b Lw 1191 := by
  intro n lv st h cu su hI
  obtain ⟨x, m, out, ad, M, i, a5, a6, j, rfl, rfl, ⟨hJ, hQ⟩, hi, hB⟩ := hI
  obtain ⟨n1, n2, n3, n4⟩ := hB.2.1 (by omega) (by omega)
  obtain ⟨hx, hn⟩ := wk_J_x hJ
  obtain ⟨tg, ln, I, L, R, nn⟩ := h
  have l1 := wl_L2 hi n4 hL hQ.2.2.2 1 (by decide) (by decide)
  refine And.intro l1.1 (And.intro l1.2.1 (Exists.intro b (And.intro rfl (And.intro hQ.2.2.1 (And.intro l1.2.2.1 (And.intro l1.2.2.2 ?_))))))
  refine And.intro (show cu + 1 ≤ 601024 by omega) (And.intro (show su + 6 ≤ 7293000 by omega) ?_)
  refine Exists.intro x (Exists.intro _ (Exists.intro out (And.intro rfl (And.intro hQ.2.1 (Exists.intro M (And.intro hJ (And.intro (fun r h' z g => ?_) (fun y hy h' z g => ?_))))))))
  ·
    have A := wl_Q_g hQ hn g
    have A2 := (wl_Q_o (r := r) A.1).1
    have A3 := (wl_Q_o (r := r) A.1).2
    obtain ⟨tg', ln', I', L', R', n'⟩ := h'
    have e1 : I' 1 = I 1 := A.2
    rw [← e1] at z
    have m1 := wl_L2 hi n4 hL A2.2.2.2 1 (by decide) (by decide)
    refine And.intro m1.1 (And.intro m1.2.1 (Exists.intro b (And.intro rfl (And.intro A2.2.2.1 (And.intro m1.2.2.1 (And.intro m1.2.2.2 ?_))))))
    refine And.intro (show cu + 1 + 0 ≤ 601024 by omega) (And.intro (show su + 6 + 0 ≤ 7293000 by omega) (Exists.intro m (And.intro rfl (And.intro A2.1.1 ?_))))
    refine Exists.intro m (Exists.intro _ (Exists.intro ad (Exists.intro M (And.intro rfl (And.intro ?_ (And.intro A2.1 (z _ _ (fun b9 F A8 B8 okb hJ9 => And.intro ?_ (fun h2 hS => ?_)))))))))
    · simp [wl_nr]
    · cases okb
      trivial
    · cases okb
      have B1 := wl_Q_s A2 hS
      have J2 := wl_J_c (wl_J_o (out := out) (r := r) hJ9) hS
      obtain ⟨tg2, ln2, I2, L2, R2, n2⟩ := h2
      refine And.intro (show cu + 1 + 0 + 0 ≤ 601024 by omega) (And.intro (show su + 6 + 0 + 0 ≤ 7293000 by omega) (Exists.intro m (And.intro rfl (And.intro B1.1.1.1 (wl_79 (qt := fun _ _ => False) B1.1.1 (fun h3 hS3 => ?_))))))
      have B2 := wl_Q_s B1.1 hS3
      have J3 := wl_J_c J2 hS3
      obtain ⟨tg3, ln3, I3, L3, R3, n3⟩ := h3
      refine And.intro (fun _ => ?_) (fun e => absurd rfl e)
      refine And.intro (fun e => absurd rfl e) (fun _ => ?_)
      refine Exists.intro out (And.intro rfl (And.intro B2.1.2.1.1 (And.intro (Int.le_refl 0) (And.intro ?_ (And.intro (fun _ => ?_) (fun e => absurd ?_ e))))))
      · have e9 : ln3 out = 1 := B2.1.2.1.2
        rw [e9]
        decide
      · exact wl_fin J3 B2.1 hi hL n1 (show cu + 1 + 0 + 0 ≤ _ by omega) (show su + 6 + 0 + 0 ≤ _ by omega) n4
      · exact (congrFun (congrFun B2.2.2 0) out).trans ((congrFun (congrFun B1.2.2 0) out).trans A3)
  ·
    obtain ⟨ky, cy⟩ := y
    have hc : cy ≠ 0 := wh_nz hy (by decide)
    have A := wl_Q_g hQ hn g
    have A2 := A.1
    obtain ⟨tg', ln', I', L', R', n'⟩ := h'
    have e1 : I' 1 = I 1 := A.2
    rw [← e1] at z
    have m1 := wl_L2 hi n4 hL A2.2.2.2 1 (by decide) (by decide)
    refine And.intro m1.1 (And.intro m1.2.1 (Exists.intro b (And.intro rfl (And.intro A2.2.2.1 (And.intro m1.2.2.1 (And.intro m1.2.2.2 ?_))))))
    refine And.intro (show cu + 1 + 0 ≤ 601024 by omega) (And.intro (show su + 6 + 0 ≤ 7293000 by omega) (Exists.intro m (And.intro rfl (And.intro A2.1.1 ?_))))
    refine Exists.intro m (Exists.intro _ (Exists.intro ad (Exists.intro M (And.intro rfl (And.intro ?_ (And.intro A2.1 (z _ _ (fun b9 F A8 B8 okb hJ9 => And.intro ?_ (fun h2 hS => ?_)))))))))
    · simp [wl_nr]
    · obtain ⟨v9, rfl⟩ := okb
      trivial
    · obtain ⟨v9, rfl⟩ := okb
      have B1 := wl_Q_s A2 hS
      have J2 := wl_J_c hJ9 hS
      obtain ⟨tg2, ln2, I2, L2, R2, n2⟩ := h2
      refine And.intro (show cu + 1 + 0 + 0 ≤ 601024 by omega) (And.intro (show su + 6 + 0 + 0 ≤ 7293000 by omega) (Exists.intro m (And.intro rfl (And.intro B1.1.1.1 (wl_79 (qt := fun _ _ => False) B1.1.1 (fun h3 hS3 => ?_))))))
      have B2 := wl_Q_s B1.1 hS3
      have J3 := wl_J_c J2 hS3
      obtain ⟨tg3, ln3, I3, L3, R3, n3⟩ := h3
      refine And.intro (fun _ => ?_) (fun e => absurd rfl e)
      refine And.intro (fun _ => ?_) (fun e => absurd e hc)
      exact wl_fin J3 B2.1 hi hL n1 (show cu + 1 + 0 + 0 ≤ _ by omega) (show su + 6 + 0 + 0 ≤ _ by omega) n4
set_option maxHeartbeats 4000000 in
set_option maxRecDepth 20000 in
theorem wl_g1247 {b Lw : Nat} (hL : Lw ≤ 4097) : wl_g b Lw 1247 := by
  intro n lv st h cu su hI
  obtain ⟨x, m, out, ad, M, i, a5, a6, j, rfl, rfl, ⟨hJ, hQ⟩, hi, hB⟩ := hI
  obtain ⟨n1, n2, n3, n4⟩ := hB.2.1 (by omega) (by omega)
  obtain ⟨hx, hn⟩ := wk_J_x hJ
  obtain ⟨tg, ln, I, L, R, nn⟩ := h
  have l1 := wl_L2 hi n4 hL hQ.2.2.2 1 (by decide) (by decide)
  refine And.intro l1.1 (And.intro l1.2.1 (Exists.intro b (And.intro rfl (And.intro hQ.2.2.1 (And.intro l1.2.2.1 (And.intro l1.2.2.2 ?_))))))
  refine And.intro (show cu + 0 ≤ 601024 by omega) (And.intro (show su + 0 ≤ 7293000 by omega) (Exists.intro x (And.intro rfl (And.intro hx (fun _ => ?_)))))
  refine Exists.intro M (And.intro hJ (fun r h' z g => ?_))
  have A := wl_Q_g hQ hn g
  obtain ⟨tg', ln', I', L', R', n'⟩ := h'
  have e1 : I' 1 = I 1 := A.2
  rw [← e1] at z
  have m1 := wl_L2 hi n4 hL A.1.2.2.2 1 (by decide) (by decide)
  refine And.intro m1.1 (And.intro m1.2.1 (Exists.intro b (And.intro rfl (And.intro A.1.2.2.1 (And.intro m1.2.2.1 (And.intro m1.2.2.2 ?_))))))
  refine And.intro (show cu + 0 + 0 ≤ 601024 by omega) (And.intro (show su + 0 + 0 ≤ 7293000 by omega) (Exists.intro m (And.intro rfl (And.intro A.1.1.1 ?_))))
  refine Exists.intro m (Exists.intro _ (Exists.intro ad (Exists.intro M (And.intro rfl (And.intro ?_ (And.intro A.1.1 (z _ _ (fun b9 F A8 B8 okb hJ9 => And.intro ?_ (fun h2 hS => ?_)))))))))
  · simp [wl_nr]
  · cases okb
    trivial
  · cases okb
    have B1 := wl_Q_s A.1 hS
    have J2 := wl_J_c hJ9 hS
    obtain ⟨tg2, ln2, I2, L2, R2, n2⟩ := h2
    refine And.intro (fun _ => ?_) (fun e => absurd rfl e)
    exact wl_fin J2 B1.1 hi hL n1 (show cu + 0 + 0 ≤ _ by omega) (show su + 0 + 0 ≤ _ by omega) n4
set_option maxHeartbeats 4000000 in
set_option maxRecDepth 20000 in
theorem wl_g1272 {b Lw : Nat} (hL : Lw ≤ 4097) : wl_g b Lw 1272 := by
  intro n lv st h cu su hI
  obtain ⟨x, m, out, ad, M, i, a5, a6, j, rfl, rfl, ⟨hJ, hQ⟩, hi, hB⟩ := hI
  obtain ⟨n1, n2, n3, n4⟩ := hB.2.1 (by omega) (by omega)
  obtain ⟨hx, hn⟩ := wk_J_x hJ
  obtain ⟨tg, ln, I, L, R, nn⟩ := h
  refine And.intro (show cu + 0 ≤ 601024 by omega) (And.intro (show su + 0 ≤ 7293000 by omega) (Exists.intro x (And.intro rfl (And.intro hx (fun _ => ?_)))))
  refine Exists.intro M (And.intro hJ (fun r h' z g => ?_))
  have A := wl_Q_g hQ hn g
  obtain ⟨tg', ln', I', L', R', n'⟩ := h'
  have e1 : I' 1 = I 1 := A.2
  refine And.intro (show cu + 0 + 0 ≤ 601024 by omega) (And.intro (show su + 0 + 0 ≤ 7293000 by omega) (Exists.intro m (And.intro rfl (And.intro A.1.1.1 ?_))))
  refine Exists.intro m (Exists.intro _ (Exists.intro ad (Exists.intro M (And.intro rfl (And.intro ?_ (And.intro A.1.1 (z _ _ (fun b9 F A8 B8 okb hJ9 => And.intro ?_ (fun h2 hS => ?_)))))))))
  · simp [wl_nr]
  · cases okb
    trivial
  · cases okb
    have B1 := wl_Q_s A.1 hS
    have J2 := wl_J_c hJ9 hS
    obtain ⟨tg2, ln2, I2, L2, R2, n2⟩ := h2
    refine And.intro (fun _ => ?_) (fun e => absurd rfl e)
    exact wl_fin J2 B1.1 hi hL n1 (show cu + 0 + 0 ≤ _ by omega) (show su + 0 + 0 ≤ _ by omega) n4
set_option maxHeartbeats 4000000 in
set_option maxRecDepth 20000 in
theorem wl_g1286 {b Lw : Nat} (hL : Lw ≤ 4097) : wl_g b Lw 1286 := by
  intro n lv st h cu su hI
  obtain ⟨x, m, out, ad, M, i, a5, a6, j, rfl, rfl, ⟨hJ, hQ⟩, hi, hB⟩ := hI
  obtain ⟨n1, n2, n3, n4⟩ := hB.2.1 (by omega) (by omega)
  obtain ⟨hx, hn⟩ := wk_J_x hJ
  obtain ⟨tg, ln, I, L, R, nn⟩ := h
  refine And.intro (show cu + 0 ≤ 601024 by omega) (And.intro (show su + 0 ≤ 7293000 by omega) (Exists.intro x (And.intro rfl (And.intro hx (fun _ => ?_)))))
  refine Exists.intro M (And.intro hJ (fun r h' z g => ?_))
  have A := wl_Q_g hQ hn g
  obtain ⟨tg', ln', I', L', R', n'⟩ := h'
  have e1 : I' 1 = I 1 := A.2
  refine And.intro (show cu + 0 + 0 ≤ 601024 by omega) (And.intro (show su + 0 + 0 ≤ 7293000 by omega) (Exists.intro m (And.intro rfl (And.intro A.1.1.1 ?_))))
  refine Exists.intro m (Exists.intro _ (Exists.intro ad (Exists.intro M (And.intro rfl (And.intro ?_ (And.intro A.1.1 (z _ _ (fun b9 F A8 B8 okb hJ9 => And.intro ?_ (fun h2 hS => ?_)))))))))
  · simp [wl_nr]
  · cases okb
    trivial
  · cases okb
    have B1 := wl_Q_s A.1 hS
    have J2 := wl_J_c hJ9 hS
    obtain ⟨tg2, ln2, I2, L2, R2, n2⟩ := h2
    refine And.intro (fun _ => ?_) (fun e => absurd rfl e)
    exact wl_fin J2 B1.1 hi hL n1 (show cu + 0 + 0 ≤ _ by omega) (show su + 0 + 0 ≤ _ by omega) n4
set_option maxHeartbeats 4000000 in
set_option maxRecDepth 20000 in
theorem wl_g1299 {b Lw : Nat} (hL : Lw ≤ 4097) : wl_g b Lw 1299 := by
  intro n lv st h cu su hI
  obtain ⟨x, m, out, ad, M, i, a5, a6, j, rfl, rfl, ⟨hJ, hQ⟩, hi, hB⟩ := hI
  obtain ⟨n1, n2, n3, n4⟩ := hB.2.1 (by omega) (by omega)
  obtain ⟨hx, hn⟩ := wk_J_x hJ
  obtain ⟨tg, ln, I, L, R, nn⟩ := h
  refine And.intro (show cu + 0 ≤ 601024 by omega) (And.intro (show su + 0 ≤ 7293000 by omega) (Exists.intro x (And.intro rfl (And.intro hx (fun _ => ?_)))))
  refine Exists.intro M (And.intro hJ (fun r h' z g => ?_))
  have A := wl_Q_g hQ hn g
  obtain ⟨tg', ln', I', L', R', n'⟩ := h'
  have e1 : I' 1 = I 1 := A.2
  refine And.intro (show cu + 0 + 0 ≤ 601024 by omega) (And.intro (show su + 0 + 0 ≤ 7293000 by omega) (Exists.intro m (And.intro rfl (And.intro A.1.1.1 ?_))))
  refine Exists.intro m (Exists.intro _ (Exists.intro ad (Exists.intro M (And.intro rfl (And.intro ?_ (And.intro A.1.1 (z _ _ (fun b9 F A8 B8 okb hJ9 => And.intro ?_ (fun h2 hS => ?_)))))))))
  · simp [wl_nr]
  · cases okb
    trivial
  · cases okb
    have B1 := wl_Q_s A.1 hS
    have J2 := wl_J_c hJ9 hS
    obtain ⟨tg2, ln2, I2, L2, R2, n2⟩ := h2
    refine And.intro (fun _ => ?_) (fun e => absurd rfl e)
    exact wl_fin J2 B1.1 hi hL n1 (show cu + 0 + 0 ≤ _ by omega) (show su + 0 + 0 ≤ _ by omega) n4
set_option maxHeartbeats 4000000 in
set_option maxRecDepth 20000 in
theorem wl_g1313 {b Lw : Nat} (hL : Lw ≤ 4097) : wl_g b Lw 1313 := by
  intro n lv st h cu su hI
  obtain ⟨x, m, out, ad, M, i, a5, a6, j, rfl, rfl, ⟨hJ, hQ⟩, hi, hB⟩ := hI
  obtain ⟨n1, n2, n3, n4⟩ := hB.2.1 (by omega) (by omega)
  obtain ⟨hx, hn⟩ := wk_J_x hJ
  obtain ⟨tg, ln, I, L, R, nn⟩ := h
  have l1 := wl_L2 hi n4 hL hQ.2.2.2 1 (by decide) (by decide)
  have l2 := wl_L2 hi n4 hL hQ.2.2.2 2 (by decide) (by decide)
  have l3 := wl_L2 hi n4 hL hQ.2.2.2 3 (by decide) (by decide)
  refine And.intro l1.1 (And.intro l1.2.1 (Exists.intro b (And.intro rfl (And.intro hQ.2.2.1 (And.intro l1.2.2.1 (And.intro l1.2.2.2 ?_))))))
  refine And.intro l2.1 (And.intro l2.2.1 (Exists.intro b (And.intro rfl (And.intro hQ.2.2.1 (And.intro l2.2.2.1 (And.intro l2.2.2.2 ?_))))))
  refine And.intro l3.1 (And.intro l3.2.1 (Exists.intro b (And.intro rfl (And.intro hQ.2.2.1 (And.intro l3.2.2.1 (And.intro l3.2.2.2 ?_))))))
  refine And.intro (show cu + 3 ≤ 601024 by omega) (And.intro (show su + 18 ≤ 7293000 by omega) ?_)
  refine Exists.intro x (Exists.intro _ (Exists.intro _ (Exists.intro _ (Exists.intro out (And.intro rfl (And.intro hQ.2.1 (Exists.intro M (And.intro hJ (And.intro (fun r h' z g => ?_) (fun y hy h' z g => ?_))))))))))
  ·
    have A := wl_Q_g hQ hn g
    have A2 := (wl_Q_o (r := r) A.1).1
    have A3 := (wl_Q_o (r := r) A.1).2
    obtain ⟨tg', ln', I', L', R', n'⟩ := h'
    have e1 : I' 1 = I 1 := A.2
    rw [← e1] at z
    have m1 := wl_L2 hi n4 hL A2.2.2.2 1 (by decide) (by decide)
    have m2 := wl_L2 hi n4 hL A2.2.2.2 2 (by decide) (by decide)
    have m3 := wl_L2 hi n4 hL A2.2.2.2 3 (by decide) (by decide)
    refine And.intro m1.1 (And.intro m1.2.1 (Exists.intro b (And.intro rfl (And.intro A2.2.2.1 (And.intro m1.2.2.1 (And.intro m1.2.2.2 ?_))))))
    refine And.intro m2.1 (And.intro m2.2.1 (Exists.intro b (And.intro rfl (And.intro A2.2.2.1 (And.intro m2.2.2.1 (And.intro m2.2.2.2 ?_))))))
    refine And.intro m3.1 (And.intro m3.2.1 (Exists.intro b (And.intro rfl (And.intro A2.2.2.1 (And.intro m3.2.2.1 (And.intro m3.2.2.2 ?_))))))
    refine And.intro (show cu + 3 + 0 ≤ 601024 by omega) (And.intro (show su + 18 + 0 ≤ 7293000 by omega) (Exists.intro m (And.intro rfl (And.intro A2.1.1 ?_))))
    refine Exists.intro m (Exists.intro _ (Exists.intro ad (Exists.intro M (And.intro rfl (And.intro ?_ (And.intro A2.1 (z _ _ (fun b9 F A8 B8 okb hJ9 => And.intro ?_ (fun h2 hS => ?_)))))))))
    · simp [wl_nr]
    · cases okb
      trivial
    · cases okb
      have B1 := wl_Q_s A2 hS
      have J2 := wl_J_c (wl_J_o (out := out) (r := r) hJ9) hS
      obtain ⟨tg2, ln2, I2, L2, R2, n2⟩ := h2
      refine And.intro (show cu + 3 + 0 + 0 ≤ 601024 by omega) (And.intro (show su + 18 + 0 + 0 ≤ 7293000 by omega) (Exists.intro m (And.intro rfl (And.intro B1.1.1.1 (wl_79 (qt := fun _ _ => False) B1.1.1 (fun h3 hS3 => ?_))))))
      have B2 := wl_Q_s B1.1 hS3
      have J3 := wl_J_c J2 hS3
      obtain ⟨tg3, ln3, I3, L3, R3, n3⟩ := h3
      refine And.intro (fun _ => ?_) (fun e => absurd rfl e)
      refine And.intro (fun e => absurd rfl e) (fun _ => ?_)
      refine Exists.intro out (And.intro rfl (And.intro B2.1.2.1.1 (And.intro (Int.le_refl 0) (And.intro ?_ (And.intro (fun _ => ?_) (fun e => absurd ?_ e))))))
      · have e9 : ln3 out = 1 := B2.1.2.1.2
        rw [e9]
        decide
      · exact wl_fin J3 B2.1 hi hL n1 (show cu + 3 + 0 + 0 ≤ _ by omega) (show su + 18 + 0 + 0 ≤ _ by omega) n4
      · exact (congrFun (congrFun B2.2.2 0) out).trans ((congrFun (congrFun B1.2.2 0) out).trans A3)
  ·
    obtain ⟨ky, cy⟩ := y
    have hc : cy ≠ 0 := wh_nz hy (by decide)
    have A := wl_Q_g hQ hn g
    have A2 := A.1
    obtain ⟨tg', ln', I', L', R', n'⟩ := h'
    have e1 : I' 1 = I 1 := A.2
    rw [← e1] at z
    have m1 := wl_L2 hi n4 hL A2.2.2.2 1 (by decide) (by decide)
    have m2 := wl_L2 hi n4 hL A2.2.2.2 2 (by decide) (by decide)
    have m3 := wl_L2 hi n4 hL A2.2.2.2 3 (by decide) (by decide)
    refine And.intro m1.1 (And.intro m1.2.1 (Exists.intro b (And.intro rfl (And.intro A2.2.2.1 (And.intro m1.2.2.1 (And.intro m1.2.2.2 ?_))))))
    refine And.intro m2.1 (And.intro m2.2.1 (Exists.intro b (And.intro rfl (And.intro A2.2.2.1 (And.intro m2.2.2.1 (And.intro m2.2.2.2 ?_))))))
    refine And.intro m3.1 (And.intro m3.2.1 (Exists.intro b (And.intro rfl (And.intro A2.2.2.1 (And.intro m3.2.2.1 (And.intro m3.2.2.2 ?_))))))
    refine And.intro (show cu + 3 + 0 ≤ 601024 by omega) (And.intro (show su + 18 + 0 ≤ 7293000 by omega) (Exists.intro m (And.intro rfl (And.intro A2.1.1 ?_))))
    refine Exists.intro m (Exists.intro _ (Exists.intro ad (Exists.intro M (And.intro rfl (And.intro ?_ (And.intro A2.1 (z _ _ (fun b9 F A8 B8 okb hJ9 => And.intro ?_ (fun h2 hS => ?_)))))))))
    · simp [wl_nr]
    · obtain ⟨v9, rfl⟩ := okb
      trivial
    · obtain ⟨v9, rfl⟩ := okb
      have B1 := wl_Q_s A2 hS
      have J2 := wl_J_c hJ9 hS
      obtain ⟨tg2, ln2, I2, L2, R2, n2⟩ := h2
      refine And.intro (show cu + 3 + 0 + 0 ≤ 601024 by omega) (And.intro (show su + 18 + 0 + 0 ≤ 7293000 by omega) (Exists.intro m (And.intro rfl (And.intro B1.1.1.1 (wl_79 (qt := fun _ _ => False) B1.1.1 (fun h3 hS3 => ?_))))))
      have B2 := wl_Q_s B1.1 hS3
      have J3 := wl_J_c J2 hS3
      obtain ⟨tg3, ln3, I3, L3, R3, n3⟩ := h3
      refine And.intro (fun _ => ?_) (fun e => absurd rfl e)
      refine And.intro (fun _ => ?_) (fun e => absurd e hc)
      exact wl_fin J3 B2.1 hi hL n1 (show cu + 3 + 0 + 0 ≤ _ by omega) (show su + 18 + 0 + 0 ≤ _ by omega) n4
set_option maxHeartbeats 4000000 in
set_option maxRecDepth 20000 in
theorem wl_g1393 {b Lw : Nat} (hL : Lw ≤ 4097) : wl_g b Lw 1393 := by
  intro n lv st h cu su hI
  obtain ⟨x, m, out, ad, M, i, a5, a6, j, rfl, rfl, ⟨hJ, hQ⟩, hi, hB⟩ := hI
  obtain ⟨n1, n2, n3, n4⟩ := hB.2.1 (by omega) (by omega)
  obtain ⟨hx, hn⟩ := wk_J_x hJ
  obtain ⟨tg, ln, I, L, R, nn⟩ := h
  have l1 := wl_L2 hi n4 hL hQ.2.2.2 1 (by decide) (by decide)
  have l2 := wl_L2 hi n4 hL hQ.2.2.2 2 (by decide) (by decide)
  have l3 := wl_L2 hi n4 hL hQ.2.2.2 3 (by decide) (by decide)
  have l4 := wl_L2 hi n4 hL hQ.2.2.2 4 (by decide) (by decide)
  have l5 := wl_L2 hi n4 hL hQ.2.2.2 5 (by decide) (by decide)
  refine And.intro l1.1 (And.intro l1.2.1 (Exists.intro b (And.intro rfl (And.intro hQ.2.2.1 (And.intro l1.2.2.1 (And.intro l1.2.2.2 ?_))))))
  refine And.intro l2.1 (And.intro l2.2.1 (Exists.intro b (And.intro rfl (And.intro hQ.2.2.1 (And.intro l2.2.2.1 (And.intro l2.2.2.2 ?_))))))
  refine And.intro l3.1 (And.intro l3.2.1 (Exists.intro b (And.intro rfl (And.intro hQ.2.2.1 (And.intro l3.2.2.1 (And.intro l3.2.2.2 ?_))))))
  refine And.intro l4.1 (And.intro l4.2.1 (Exists.intro b (And.intro rfl (And.intro hQ.2.2.1 (And.intro l4.2.2.1 (And.intro l4.2.2.2 ?_))))))
  refine And.intro l5.1 (And.intro l5.2.1 (Exists.intro b (And.intro rfl (And.intro hQ.2.2.1 (And.intro l5.2.2.1 (And.intro l5.2.2.2 ?_))))))
  refine And.intro (show cu + 4 ≤ 601024 by omega) (And.intro (show su + 24 ≤ 7293000 by omega) ?_)
  generalize hw : (Int64.ofInt (Int64.ofInt (I 1 (i + 4).toNat b) <<< ((Int32.ofInt 32).toInt64 &&& 63)).toInt ||| Int64.ofInt (Int64.ofInt (I 1 (i + 5).toNat b) &&& Int64.ofInt ((4294967295 : Nat) : Int)).toInt).toInt = w
  refine Exists.intro x (Exists.intro _ (Exists.intro _ (Exists.intro _ (Exists.intro _ (Exists.intro out (And.intro rfl (And.intro hQ.2.1 (Exists.intro M (And.intro hJ (And.intro (fun r h' z g => ?_) (fun y hy h' z g => ?_)))))))))))
  ·
    have A := wl_Q_g hQ hn g
    have A2 := (wl_Q_o (r := r) A.1).1
    have A3 := (wl_Q_o (r := r) A.1).2
    obtain ⟨tg', ln', I', L', R', n'⟩ := h'
    have e1 : I' 1 = I 1 := A.2
    rw [← e1] at z
    have m1 := wl_L2 hi n4 hL A2.2.2.2 1 (by decide) (by decide)
    have m2 := wl_L2 hi n4 hL A2.2.2.2 2 (by decide) (by decide)
    have m3 := wl_L2 hi n4 hL A2.2.2.2 3 (by decide) (by decide)
    have m4 := wl_L2 hi n4 hL A2.2.2.2 4 (by decide) (by decide)
    have m5 := wl_L2 hi n4 hL A2.2.2.2 5 (by decide) (by decide)
    refine And.intro m1.1 (And.intro m1.2.1 (Exists.intro b (And.intro rfl (And.intro A2.2.2.1 (And.intro m1.2.2.1 (And.intro m1.2.2.2 ?_))))))
    refine And.intro m2.1 (And.intro m2.2.1 (Exists.intro b (And.intro rfl (And.intro A2.2.2.1 (And.intro m2.2.2.1 (And.intro m2.2.2.2 ?_))))))
    refine And.intro m3.1 (And.intro m3.2.1 (Exists.intro b (And.intro rfl (And.intro A2.2.2.1 (And.intro m3.2.2.1 (And.intro m3.2.2.2 ?_))))))
    refine And.intro m4.1 (And.intro m4.2.1 (Exists.intro b (And.intro rfl (And.intro A2.2.2.1 (And.intro m4.2.2.1 (And.intro m4.2.2.2 ?_))))))
    refine And.intro m5.1 (And.intro m5.2.1 (Exists.intro b (And.intro rfl (And.intro A2.2.2.1 (And.intro m5.2.2.1 (And.intro m5.2.2.2 ?_))))))
    refine And.intro (show cu + 4 + 0 ≤ 601024 by omega) (And.intro (show su + 24 + 0 ≤ 7293000 by omega) (Exists.intro m (And.intro rfl (And.intro A2.1.1 ?_))))
    have hw2 : (Int64.ofInt (Int64.ofInt (I' 1 (i + 4).toNat b) <<< ((Int32.ofInt 32).toInt64 &&& 63)).toInt ||| Int64.ofInt (Int64.ofInt (I' 1 (i + 5).toNat b) &&& Int64.ofInt ((4294967295 : Nat) : Int)).toInt).toInt = w := by rw [e1]; exact hw
    rw [hw2]
    refine Exists.intro m (Exists.intro _ (Exists.intro ad (Exists.intro M (And.intro rfl (And.intro ?_ (And.intro A2.1 (z _ _ (fun b9 F A8 B8 okb hJ9 => And.intro ?_ (fun h2 hS => ?_)))))))))
    · simp [wl_nr]
    · cases okb
      trivial
    · cases okb
      have B1 := wl_Q_s A2 hS
      have J2 := wl_J_c (wl_J_o (out := out) (r := r) hJ9) hS
      obtain ⟨tg2, ln2, I2, L2, R2, n2⟩ := h2
      refine And.intro (show cu + 4 + 0 + 0 ≤ 601024 by omega) (And.intro (show su + 24 + 0 + 0 ≤ 7293000 by omega) (Exists.intro m (And.intro rfl (And.intro B1.1.1.1 (wl_79 (qt := fun _ _ => False) B1.1.1 (fun h3 hS3 => ?_))))))
      have B2 := wl_Q_s B1.1 hS3
      have J3 := wl_J_c J2 hS3
      obtain ⟨tg3, ln3, I3, L3, R3, n3⟩ := h3
      refine And.intro (fun _ => ?_) (fun e => absurd rfl e)
      refine And.intro (fun e => absurd rfl e) (fun _ => ?_)
      refine Exists.intro out (And.intro rfl (And.intro B2.1.2.1.1 (And.intro (Int.le_refl 0) (And.intro ?_ (And.intro (fun _ => ?_) (fun e => absurd ?_ e))))))
      · have e9 : ln3 out = 1 := B2.1.2.1.2
        rw [e9]
        decide
      · exact wl_fin J3 B2.1 hi hL n1 (show cu + 4 + 0 + 0 ≤ _ by omega) (show su + 24 + 0 + 0 ≤ _ by omega) n4
      · exact (congrFun (congrFun B2.2.2 0) out).trans ((congrFun (congrFun B1.2.2 0) out).trans A3)
  ·
    obtain ⟨ky, cy⟩ := y
    have hc : cy ≠ 0 := wh_nz hy (by decide)
    have A := wl_Q_g hQ hn g
    have A2 := A.1
    obtain ⟨tg', ln', I', L', R', n'⟩ := h'
    have e1 : I' 1 = I 1 := A.2
    rw [← e1] at z
    have m1 := wl_L2 hi n4 hL A2.2.2.2 1 (by decide) (by decide)
    have m2 := wl_L2 hi n4 hL A2.2.2.2 2 (by decide) (by decide)
    have m3 := wl_L2 hi n4 hL A2.2.2.2 3 (by decide) (by decide)
    have m4 := wl_L2 hi n4 hL A2.2.2.2 4 (by decide) (by decide)
    have m5 := wl_L2 hi n4 hL A2.2.2.2 5 (by decide) (by decide)
    refine And.intro m1.1 (And.intro m1.2.1 (Exists.intro b (And.intro rfl (And.intro A2.2.2.1 (And.intro m1.2.2.1 (And.intro m1.2.2.2 ?_))))))
    refine And.intro m2.1 (And.intro m2.2.1 (Exists.intro b (And.intro rfl (And.intro A2.2.2.1 (And.intro m2.2.2.1 (And.intro m2.2.2.2 ?_))))))
    refine And.intro m3.1 (And.intro m3.2.1 (Exists.intro b (And.intro rfl (And.intro A2.2.2.1 (And.intro m3.2.2.1 (And.intro m3.2.2.2 ?_))))))
    refine And.intro m4.1 (And.intro m4.2.1 (Exists.intro b (And.intro rfl (And.intro A2.2.2.1 (And.intro m4.2.2.1 (And.intro m4.2.2.2 ?_))))))
    refine And.intro m5.1 (And.intro m5.2.1 (Exists.intro b (And.intro rfl (And.intro A2.2.2.1 (And.intro m5.2.2.1 (And.intro m5.2.2.2 ?_))))))
    refine And.intro (show cu + 4 + 0 ≤ 601024 by omega) (And.intro (show su + 24 + 0 ≤ 7293000 by omega) (Exists.intro m (And.intro rfl (And.intro A2.1.1 ?_))))
    have hw2 : (Int64.ofInt (Int64.ofInt (I' 1 (i + 4).toNat b) <<< ((Int32.ofInt 32).toInt64 &&& 63)).toInt ||| Int64.ofInt (Int64.ofInt (I' 1 (i + 5).toNat b) &&& Int64.ofInt ((4294967295 : Nat) : Int)).toInt).toInt = w := by rw [e1]; exact hw
    rw [hw2]
    refine Exists.intro m (Exists.intro _ (Exists.intro ad (Exists.intro M (And.intro rfl (And.intro ?_ (And.intro A2.1 (z _ _ (fun b9 F A8 B8 okb hJ9 => And.intro ?_ (fun h2 hS => ?_)))))))))
    · simp [wl_nr]
    · obtain ⟨v9, rfl⟩ := okb
      trivial
    · obtain ⟨v9, rfl⟩ := okb
      have B1 := wl_Q_s A2 hS
      have J2 := wl_J_c hJ9 hS
      obtain ⟨tg2, ln2, I2, L2, R2, n2⟩ := h2
      refine And.intro (show cu + 4 + 0 + 0 ≤ 601024 by omega) (And.intro (show su + 24 + 0 + 0 ≤ 7293000 by omega) (Exists.intro m (And.intro rfl (And.intro B1.1.1.1 (wl_79 (qt := fun _ _ => False) B1.1.1 (fun h3 hS3 => ?_))))))
      have B2 := wl_Q_s B1.1 hS3
      have J3 := wl_J_c J2 hS3
      obtain ⟨tg3, ln3, I3, L3, R3, n3⟩ := h3
      refine And.intro (fun _ => ?_) (fun e => absurd rfl e)
      refine And.intro (fun _ => ?_) (fun e => absurd e hc)
      exact wl_fin J3 B2.1 hi hL n1 (show cu + 4 + 0 + 0 ≤ _ by omega) (show su + 24 + 0 + 0 ≤ _ by omega) n4
