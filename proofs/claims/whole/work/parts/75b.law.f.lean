/-! THE LAW, 6b: what it calls -/
theorem oi_L0 : wm_oib room_1 0 = true := by decide +kernel
theorem oi_L8 : wm_oib room_1 8 = true := by decide +kernel
theorem oi_L19 : wm_oib room_1 19 = true := by decide +kernel
theorem oi_L20 : wm_oib room_1 20 = true := by decide +kernel
theorem oi_L21 : wm_oib room_1 21 = true := by decide +kernel
theorem oi_L22 : wm_oib room_1 22 = true := by decide +kernel
theorem oi_L78 : wm_oib room_1 78 = true := by decide +kernel
theorem oi_L79 : wm_oib room_1 79 = true := by decide +kernel
theorem oi_L83 : wm_oib room_1 83 = true := by decide +kernel
theorem oi_L84 : wm_oib room_1 84 = true := by decide +kernel
theorem oi_L87 : wm_oib room_1 87 = true := by decide +kernel
theorem oi_L89 : wm_oib room_1 89 = true := by decide +kernel
theorem oi_L90 : wm_oib room_1 90 = true := by decide +kernel
theorem oi_L93 : wm_oib room_1 93 = true := by decide +kernel
theorem oi_L94 : wm_oib room_1 94 = true := by decide +kernel
theorem oi_L95 : wm_oib room_1 95 = true := by decide +kernel
theorem oi_L97 : wm_oib room_1 97 = true := by decide +kernel
theorem oi_L100 : wm_oib room_1 100 = true := by decide +kernel
theorem oi_L101 : wm_oib room_1 101 = true := by decide +kernel
theorem oi_L102 : wm_oib room_1 102 = true := by decide +kernel
theorem oi_L103 : wm_oib room_1 103 = true := by decide +kernel
theorem oi_L104 : wm_oib room_1 104 = true := by decide +kernel
theorem oi_L106 : wm_oib room_1 106 = true := by decide +kernel
theorem oi_L110 : wm_oib room_1 110 = true := by decide +kernel
theorem oi_L111 : wm_oib room_1 111 = true := by decide +kernel
theorem oi_L112 : wm_oib room_1 112 = true := by decide +kernel
theorem oi_L113 : wm_oib room_1 113 = true := by decide +kernel
theorem oi_L114 : wm_oib room_1 114 = true := by decide +kernel
theorem oi_L115 : wm_oib room_1 115 = true := by decide +kernel
theorem oi_L116 : wm_oib room_1 116 = true := by decide +kernel
theorem oi_L117 : wm_oib room_1 117 = true := by decide +kernel
theorem oi_L118 : wm_oib room_1 118 = true := by decide +kernel
theorem oi_L119 : wm_oib room_1 119 = true := by decide +kernel
theorem oi_L : wl_ids.all (wm_oib room_1) = true := Bool.and_eq_true_iff.mpr ⟨oi_L0, Bool.and_eq_true_iff.mpr ⟨oi_L8, Bool.and_eq_true_iff.mpr ⟨oi_L19, Bool.and_eq_true_iff.mpr ⟨oi_L20, Bool.and_eq_true_iff.mpr ⟨oi_L21, Bool.and_eq_true_iff.mpr ⟨oi_L22, Bool.and_eq_true_iff.mpr ⟨oi_L78, Bool.and_eq_true_iff.mpr ⟨oi_L79, Bool.and_eq_true_iff.mpr ⟨oi_L83, Bool.and_eq_true_iff.mpr ⟨oi_L84, Bool.and_eq_true_iff.mpr ⟨oi_L87, Bool.and_eq_true_iff.mpr ⟨oi_L89, Bool.and_eq_true_iff.mpr ⟨oi_L90, Bool.and_eq_true_iff.mpr ⟨oi_L93, Bool.and_eq_true_iff.mpr ⟨oi_L94, Bool.and_eq_true_iff.mpr ⟨oi_L95, Bool.and_eq_true_iff.mpr ⟨oi_L97, Bool.and_eq_true_iff.mpr ⟨oi_L100, Bool.and_eq_true_iff.mpr ⟨oi_L101, Bool.and_eq_true_iff.mpr ⟨oi_L102, Bool.and_eq_true_iff.mpr ⟨oi_L103, Bool.and_eq_true_iff.mpr ⟨oi_L104, Bool.and_eq_true_iff.mpr ⟨oi_L106, Bool.and_eq_true_iff.mpr ⟨oi_L110, Bool.and_eq_true_iff.mpr ⟨oi_L111, Bool.and_eq_true_iff.mpr ⟨oi_L112, Bool.and_eq_true_iff.mpr ⟨oi_L113, Bool.and_eq_true_iff.mpr ⟨oi_L114, Bool.and_eq_true_iff.mpr ⟨oi_L115, Bool.and_eq_true_iff.mpr ⟨oi_L116, Bool.and_eq_true_iff.mpr ⟨oi_L117, Bool.and_eq_true_iff.mpr ⟨oi_L118, Bool.and_eq_true_iff.mpr ⟨oi_L119, rfl⟩⟩⟩⟩⟩⟩⟩⟩⟩⟩⟩⟩⟩⟩⟩⟩⟩⟩⟩⟩⟩⟩⟩⟩⟩⟩⟩⟩⟩⟩⟩⟩⟩
theorem oh_L : wl_hids.all (wh_oib room_1) = true := by decide +kernel
def wl_cx : wi_X wc_H := fun id => match id with
  | 0 => wc_fr wc_ok sc_0
  | 8 => wc_fr wc_ok sc_8
  | 19 => wc_fr wc_ok sc_19
  | 20 => wc_fr wc_ok sc_20
  | 21 => wc_fr wc_ok sc_21
  | 22 => wc_fr wc_ok sc_22
  | 78 => wc_fr wc_ok2 sc_78
  | 79 => wl_m sm_79
  | 83 => wl_m sm_83
  | 84 => wl_m sm_84
  | 87 => wl_m sm_87
  | 89 => wl_m sm_89
  | 90 => wl_m sm_90
  | 93 => wl_m sm_93
  | 94 => wl_m sm_94
  | 95 => wl_m sm_95
  | 97 => wl_m sm_97
  | 100 => wl_m sm_100
  | 101 => wl_m sm_101
  | 102 => wl_m sm_102
  | 103 => wl_m sm_103
  | 104 => wl_m sm_104
  | 106 => wl_m sm_106
  | 110 => wl_m sm_110
  | 111 => wl_m sm_111
  | 112 => wl_m sm_112
  | 113 => wl_m sm_113
  | 114 => wl_m sm_114
  | 115 => wl_m sm_115
  | 116 => wl_m sm_116
  | 117 => wl_m sm_117
  | 118 => wl_m sm_118
  | 119 => sh_119
  | 120 => sh_120
  | 121 => sh_121
  | 122 => sh_122
  | 123 => sh_123
  | 124 => sh_124
  | 125 => sh_125
  | 126 => sh_126
  | 127 => sh_127
  | 128 => sh_128
  | 129 => sh_129
  | 130 => sh_130
  | 131 => sh_131
  | 132 => sh_132
  | 133 => sh_133
  | 134 => sh_134
  | 135 => sh_135
  | 136 => sh_136
  | 137 => sh_137
  | 138 => sh_138
  | _ => fun _ _ _ _ => False
theorem wl_o32 : ∀ t, wc_ok3 t = false → wc_ok2 t = false := fun t ht => by
  unfold wc_ok3 at ht
  split at ht
  · rfl
  · rfl
  · cases ht
theorem wl_cxok {l : Launch} {D : va_G} {aC : wm_Y} {b0 : Nat} (hl0 : l.stackTraces = false) : wm_cxok l room_1 D aC b0 (fun id => wi_lf (wc_Rl wc_ok3) (wl_cx id)) wl_ids :=
  wm_cxc (wl_cl (cm_0 hl0)) oi_L (fun h => wm_cxc (wl_cl (cm_8 hl0)) h (fun h => wm_cxc (wl_cl (cm_19 hl0)) h (fun h => wm_cxc (wl_cl (cm_20 hl0)) h (fun h => wm_cxc (wl_cl (cm_21 hl0)) h (fun h => wm_cxc (wl_cl (cm_22 hl0)) h (fun h => wm_cxc (wc_wid wl_o32 (wc_free (cm_78 hl0))) h (fun h => wm_cxc (wl_mok (mm_79 hl0)) h (fun h => wm_cxc (wl_mok (mm_83 hl0)) h (fun h => wm_cxc (wl_mok (mm_84 hl0)) h (fun h => wm_cxc (wl_mok (mm_87 hl0)) h (fun h => wm_cxc (wl_mok (mm_89 hl0)) h (fun h => wm_cxc (wl_mok (mm_90 hl0)) h (fun h => wm_cxc (wl_mok (mm_93 hl0)) h (fun h => wm_cxc (wl_mok (mm_94 hl0)) h (fun h => wm_cxc (wl_mok (mm_95 hl0)) h (fun h => wm_cxc (wl_mok (mm_97 hl0)) h (fun h => wm_cxc (wl_mok (mm_100 hl0)) h (fun h => wm_cxc (wl_mok (mm_101 hl0)) h (fun h => wm_cxc (wl_mok (mm_102 hl0)) h (fun h => wm_cxc (wl_mok (mm_103 hl0)) h (fun h => wm_cxc (wl_mok (mm_104 hl0)) h (fun h => wm_cxc (wl_mok (mm_106 hl0)) h (fun h => wm_cxc (wl_mok (mm_110 hl0)) h (fun h => wm_cxc (wl_mok (mm_111 hl0)) h (fun h => wm_cxc (wl_mok (mm_112 hl0)) h (fun h => wm_cxc (wl_mok (mm_113 hl0)) h (fun h => wm_cxc (wl_mok (mm_114 hl0)) h (fun h => wm_cxc (wl_mok (mm_115 hl0)) h (fun h => wm_cxc (wl_mok (mm_116 hl0)) h (fun h => wm_cxc (wl_mok (mm_117 hl0)) h (fun h => wm_cxc (wl_mok (mm_118 hl0)) h (fun h => wm_cxc (ch_119 hl0) h (fun h => wm_cxn h)))))))))))))))))))))))))))))))))
theorem wl_cxoh {l : Launch} {D : va_G} {aC : wm_Y} {b0 : Nat} (hl0 : l.stackTraces = false) : wh_cxok l room_1 D aC b0 (fun id => wi_lf (wc_Rl wc_ok3) (wl_cx id)) wl_hids :=
  wh_cxc (ch_120 hl0) oh_L (fun h => wh_cxc (ch_121 hl0) h (fun h => wh_cxc (ch_122 hl0) h (fun h => wh_cxc (ch_123 hl0) h (fun h => wh_cxc (ch_124 hl0) h (fun h => wh_cxc (ch_125 hl0) h (fun h => wh_cxc (ch_126 hl0) h (fun h => wh_cxc (ch_127 hl0) h (fun h => wh_cxc (ch_128 hl0) h (fun h => wh_cxc (ch_129 hl0) h (fun h => wh_cxc (ch_130 hl0) h (fun h => wh_cxc (ch_131 hl0) h (fun h => wh_cxc (ch_132 hl0) h (fun h => wh_cxc (ch_133 hl0) h (fun h => wh_cxc (ch_134 hl0) h (fun h => wh_cxc (ch_135 hl0) h (fun h => wh_cxc (ch_136 hl0) h (fun h => wh_cxc (ch_137 hl0) h (fun h => wh_cxc (ch_138 hl0) h (fun h => wh_cxn h)))))))))))))))))))
def wl_g (b Lw pc : Nat) : Prop := ∀ n lv st h cu su, wl_I b Lw n pc lv st h cu su → wj_w (wc_hp wc_ok3) 601024 7293000 601024 7293000 wl_cx (fun v _ => v = some (.inl 1)) (fun _ _ => False) tbL wl_hs (fun pc' lv st h cu su => ∃ n', n' < n ∧ wl_I b Lw n' pc' lv st h cu su) 200 (wm_dp tbL pc) lv st h cu su
theorem wl_L2 {Lw j : Nat} {i : Int} {l : Nat} (hi : i = 1 + 8 * (j : Int)) (h4 : 9 + 8 * j ≤ Lw) (hL : Lw ≤ 4097) (hl : l = Lw) (k : Int) (k1 : 0 ≤ k) (k2 : k ≤ 7) : -2147483648 ≤ i + k ∧ i + k ≤ 2147483647 ∧ 0 ≤ i + k ∧ i + k < (l : Int) := by
  subst hl
  omega
theorem wh_nz {id : Nat} {k : Nat} {c : Int} (h : (k, c) ∈ wh_ex id) (hh : (wh_ex id).all (fun y => decide (y.2 ≠ 0)) = true) : c ≠ 0 := of_decide_eq_true (List.all_eq_true.mp hh _ h)
