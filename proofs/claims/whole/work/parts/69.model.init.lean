/-! THE MODEL, last: its <init>, in the world of the class -/
def wc_ok2 (a : Nat) : Bool := match a with
  | 11 => true
  | a => Nat.ble 30 a
/-- after i arrays -/
def wl_P (h0 : wc_H) (m i : Nat) (h : wc_H) : Prop := h.2.2.2.2.2 = h0.2.2.2.2.2 + i ∧ (∀ q, q < h0.2.2.2.2.2 → h.1 q = h0.1 q ∧ h.2.1 q = h0.2.1 q) ∧ (∀ t j q, q < h0.2.2.2.2.2 → h.2.2.1 t j q = h0.2.2.1 t j q ∧ h.2.2.2.1 t j q = h0.2.2.2.1 t j q) ∧ ∀ k, k < i → ∀ y, md_as[k]? = some y → h.2.2.2.2.1 11 y.1 m = some (h0.2.2.2.2.2 + k) ∧ h.1 (h0.2.2.2.2.2 + k) = y.2.1 ∧ h.2.1 (h0.2.2.2.2.2 + k) = y.2.2 ∧ ∀ j, h.2.2.1 y.2.1 j (h0.2.2.2.2.2 + k) = 0 ∧ h.2.2.2.1 y.2.1 j (h0.2.2.2.2.2 + k) = 0
theorem wl_md : ∀ i j : Fin 23, i ≠ j → (md_as[i.val]?).map (·.1) ≠ (md_as[j.val]?).map (·.1) := by decide
theorem wl_P_s {h0 : wc_H} {m i b t ll : Nat} {tg ln : Nat → Nat} {I L : wm_F Int} {R : wm_F (Option Nat)} {n : Nat} (h : wl_P h0 m i (tg, ln, I, L, R, n)) (hm : m < h0.2.2.2.2.2) (hi : i < 23) (e : md_as[i]? = some (b, t, ll)) : wl_P h0 m (i + 1) (wc_nt tg n t, wc_nt ln n ll, wc_nz I n t, wc_nz L n t, wm_up (wc_nn R n t) 11 b m (some n), n + 1) := by
  obtain ⟨h1, h2, h3, h4⟩ := h
  simp only at h1 h2 h3 h4
  refine ⟨by simp only; omega, fun q hq => ?_, fun t' j q hq => ?_, fun k hk y hy => ?_⟩
  · have := h2 q hq
    exact ⟨(if_neg (by omega)).trans this.1, (if_neg (by omega)).trans this.2⟩
  · have := h3 t' j q hq
    exact ⟨(if_neg (fun z => absurd z.2 (by omega))).trans this.1, (if_neg (fun z => absurd z.2 (by omega))).trans this.2⟩
  · by_cases z : k = i
    · subst z
      rw [e] at hy
      cases hy
      refine ⟨by rw [← h1]; exact wm_up_self, by rw [← h1]; exact if_pos rfl, by rw [← h1]; exact if_pos rfl, fun j => ?_⟩
      rw [← h1]
      exact ⟨if_pos ⟨rfl, rfl⟩, if_pos ⟨rfl, rfl⟩⟩
    · obtain ⟨a1, a2, a3, a4⟩ := h4 k (by omega) y hy
      have hne : y.1 ≠ b := fun w => by
        have := wl_md ⟨k, by omega⟩ ⟨i, hi⟩ (fun v => z (congrArg Fin.val v))
        simp only at this
        rw [e, hy] at this
        simp only [Option.map_some] at this
        exact this (by rw [w])
      refine ⟨?_, (if_neg (by omega)).trans a2, (if_neg (by omega)).trans a3, fun j => ⟨(if_neg (fun w => absurd w.2 (by omega))).trans (a4 j).1, (if_neg (fun w => absurd w.2 (by omega))).trans (a4 j).2⟩⟩
      show wm_up (wc_nn R n t) 11 b m (some n) 11 y.1 m = _
      rw [wm_up_k hne]
      exact (if_neg (fun w => absurd w.2 (by omega))).trans a1
theorem mq_c23 {a0 a1 a2 a3 a4 a5 a6 a7 a8 a9 a10 a11 a12 a13 a14 a15 a16 a17 a18 a19 a20 a21 a22 : Nat} {P : Nat → Prop} (h0 : P a0) (h1 : P a1) (h2 : P a2) (h3 : P a3) (h4 : P a4) (h5 : P a5) (h6 : P a6) (h7 : P a7) (h8 : P a8) (h9 : P a9) (h10 : P a10) (h11 : P a11) (h12 : P a12) (h13 : P a13) (h14 : P a14) (h15 : P a15) (h16 : P a16) (h17 : P a17) (h18 : P a18) (h19 : P a19) (h20 : P a20) (h21 : P a21) (h22 : P a22) : ∀ pc, [a0, a1, a2, a3, a4, a5, a6, a7, a8, a9, a10, a11, a12, a13, a14, a15, a16, a17, a18, a19, a20, a21, a22].contains pc = true → P pc := fun pc h => by
  have e : pc = a0 ∨ pc = a1 ∨ pc = a2 ∨ pc = a3 ∨ pc = a4 ∨ pc = a5 ∨ pc = a6 ∨ pc = a7 ∨ pc = a8 ∨ pc = a9 ∨ pc = a10 ∨ pc = a11 ∨ pc = a12 ∨ pc = a13 ∨ pc = a14 ∨ pc = a15 ∨ pc = a16 ∨ pc = a17 ∨ pc = a18 ∨ pc = a19 ∨ pc = a20 ∨ pc = a21 ∨ pc = a22 := by simpa using h
  rcases e with e | e | e | e | e | e | e | e | e | e | e | e | e | e | e | e | e | e | e | e | e | e | e <;> rw [e] <;> assumption
def sc_78 (as : List wi_V) (h : wc_H) (q : wi_Q1 wc_H) (qt : wi_Q2 wc_H) : Prop := wc_sTI as (fun x li => wc_f h fun tg ln I L R n => tg x = 11 ∧ x < n ∧ ∀ h' v, v = (if 1 ≤ li ∧ li ≤ 100000 then li else 1000) → wl_P (tg, ln, I, L, R, n) x 23 h' → q none (h'.1, h'.2.1, wm_up h'.2.2.1 11 1 x v, h'.2.2.2.1, h'.2.2.2.2.1, h'.2.2.2.2.2))
set_option maxRecDepth 20000 in
set_option maxHeartbeats 8000000 in
theorem cm_78 {l : Launch} {D : va_G} {aC : wm_Y} {b0 : Nat} (hl0 : l.stackTraces = false) : wm_sp l D aC b0 78 (wi_lf (wc_Rl wc_ok2) sc_78) := by
  refine wi_method (wc_lw wc_ok2) 78 (cx := fun _ _ _ _ _ => False) (ids := ci_78) (tb := tb_78) (by decide +kernel) hl0 wm_cx0 (wm_tb_ok tk_78) (by decide +kernel) [13, 22, 31, 40, 49, 58, 67, 76, 85, 94, 103, 112, 121, 130, 139, 148, 156, 164, 172, 181, 190, 199, 207] 300 (fun as h q qt hs => ?_)
  obtain ⟨x, li, rfl, hs1⟩ := wc_sTI_e hs
  clear hs
  obtain ⟨tg, ln, I, L, R, n⟩ := h
  have hs := id hs1
  clear hs1
  simp only [wc_f] at hs
  obtain ⟨b1, xn, h1⟩ := hs
  refine ⟨rfl, fun mz pc lv sk h cu su => match pc with | 13 => ∃ tg2 : Nat → Nat, ∃ ln2 : Nat → Nat, ∃ I2 : wm_F Int, ∃ L2 : wm_F Int, ∃ R2 : wm_F (Option Nat), ∃ n2 : Nat, lv = [some (wi_rf (some x)), some (.inl (li))] ∧ sk = [] ∧ h = (tg2, ln2, I2, L2, R2, n2) ∧ cu = 1 ∧ su = 200 ∧ mz = 100 ∧ wl_P (tg, ln, I, L, R, n) x 1 (tg2, ln2, I2, L2, R2, n2) | 22 => ∃ tg2 : Nat → Nat, ∃ ln2 : Nat → Nat, ∃ I2 : wm_F Int, ∃ L2 : wm_F Int, ∃ R2 : wm_F (Option Nat), ∃ n2 : Nat, lv = [some (wi_rf (some x)), some (.inl (li))] ∧ sk = [] ∧ h = (tg2, ln2, I2, L2, R2, n2) ∧ cu = 2 ∧ su = 400 ∧ mz = 99 ∧ wl_P (tg, ln, I, L, R, n) x 2 (tg2, ln2, I2, L2, R2, n2) | 31 => ∃ tg2 : Nat → Nat, ∃ ln2 : Nat → Nat, ∃ I2 : wm_F Int, ∃ L2 : wm_F Int, ∃ R2 : wm_F (Option Nat), ∃ n2 : Nat, lv = [some (wi_rf (some x)), some (.inl (li))] ∧ sk = [] ∧ h = (tg2, ln2, I2, L2, R2, n2) ∧ cu = 3 ∧ su = 600 ∧ mz = 98 ∧ wl_P (tg, ln, I, L, R, n) x 3 (tg2, ln2, I2, L2, R2, n2) | 40 => ∃ tg2 : Nat → Nat, ∃ ln2 : Nat → Nat, ∃ I2 : wm_F Int, ∃ L2 : wm_F Int, ∃ R2 : wm_F (Option Nat), ∃ n2 : Nat, lv = [some (wi_rf (some x)), some (.inl (li))] ∧ sk = [] ∧ h = (tg2, ln2, I2, L2, R2, n2) ∧ cu = 4 ∧ su = 800 ∧ mz = 97 ∧ wl_P (tg, ln, I, L, R, n) x 4 (tg2, ln2, I2, L2, R2, n2) | 49 => ∃ tg2 : Nat → Nat, ∃ ln2 : Nat → Nat, ∃ I2 : wm_F Int, ∃ L2 : wm_F Int, ∃ R2 : wm_F (Option Nat), ∃ n2 : Nat, lv = [some (wi_rf (some x)), some (.inl (li))] ∧ sk = [] ∧ h = (tg2, ln2, I2, L2, R2, n2) ∧ cu = 5 ∧ su = 1000 ∧ mz = 96 ∧ wl_P (tg, ln, I, L, R, n) x 5 (tg2, ln2, I2, L2, R2, n2) | 58 => ∃ tg2 : Nat → Nat, ∃ ln2 : Nat → Nat, ∃ I2 : wm_F Int, ∃ L2 : wm_F Int, ∃ R2 : wm_F (Option Nat), ∃ n2 : Nat, lv = [some (wi_rf (some x)), some (.inl (li))] ∧ sk = [] ∧ h = (tg2, ln2, I2, L2, R2, n2) ∧ cu = 6 ∧ su = 1512 ∧ mz = 95 ∧ wl_P (tg, ln, I, L, R, n) x 6 (tg2, ln2, I2, L2, R2, n2) | 67 => ∃ tg2 : Nat → Nat, ∃ ln2 : Nat → Nat, ∃ I2 : wm_F Int, ∃ L2 : wm_F Int, ∃ R2 : wm_F (Option Nat), ∃ n2 : Nat, lv = [some (wi_rf (some x)), some (.inl (li))] ∧ sk = [] ∧ h = (tg2, ln2, I2, L2, R2, n2) ∧ cu = 7 ∧ su = 2024 ∧ mz = 94 ∧ wl_P (tg, ln, I, L, R, n) x 7 (tg2, ln2, I2, L2, R2, n2) | 76 => ∃ tg2 : Nat → Nat, ∃ ln2 : Nat → Nat, ∃ I2 : wm_F Int, ∃ L2 : wm_F Int, ∃ R2 : wm_F (Option Nat), ∃ n2 : Nat, lv = [some (wi_rf (some x)), some (.inl (li))] ∧ sk = [] ∧ h = (tg2, ln2, I2, L2, R2, n2) ∧ cu = 8 ∧ su = 2536 ∧ mz = 93 ∧ wl_P (tg, ln, I, L, R, n) x 8 (tg2, ln2, I2, L2, R2, n2) | 85 => ∃ tg2 : Nat → Nat, ∃ ln2 : Nat → Nat, ∃ I2 : wm_F Int, ∃ L2 : wm_F Int, ∃ R2 : wm_F (Option Nat), ∃ n2 : Nat, lv = [some (wi_rf (some x)), some (.inl (li))] ∧ sk = [] ∧ h = (tg2, ln2, I2, L2, R2, n2) ∧ cu = 9 ∧ su = 3048 ∧ mz = 92 ∧ wl_P (tg, ln, I, L, R, n) x 9 (tg2, ln2, I2, L2, R2, n2) | 94 => ∃ tg2 : Nat → Nat, ∃ ln2 : Nat → Nat, ∃ I2 : wm_F Int, ∃ L2 : wm_F Int, ∃ R2 : wm_F (Option Nat), ∃ n2 : Nat, lv = [some (wi_rf (some x)), some (.inl (li))] ∧ sk = [] ∧ h = (tg2, ln2, I2, L2, R2, n2) ∧ cu = 10 ∧ su = 3560 ∧ mz = 91 ∧ wl_P (tg, ln, I, L, R, n) x 10 (tg2, ln2, I2, L2, R2, n2) | 103 => ∃ tg2 : Nat → Nat, ∃ ln2 : Nat → Nat, ∃ I2 : wm_F Int, ∃ L2 : wm_F Int, ∃ R2 : wm_F (Option Nat), ∃ n2 : Nat, lv = [some (wi_rf (some x)), some (.inl (li))] ∧ sk = [] ∧ h = (tg2, ln2, I2, L2, R2, n2) ∧ cu = 11 ∧ su = 11752 ∧ mz = 90 ∧ wl_P (tg, ln, I, L, R, n) x 11 (tg2, ln2, I2, L2, R2, n2) | 112 => ∃ tg2 : Nat → Nat, ∃ ln2 : Nat → Nat, ∃ I2 : wm_F Int, ∃ L2 : wm_F Int, ∃ R2 : wm_F (Option Nat), ∃ n2 : Nat, lv = [some (wi_rf (some x)), some (.inl (li))] ∧ sk = [] ∧ h = (tg2, ln2, I2, L2, R2, n2) ∧ cu = 12 ∧ su = 19944 ∧ mz = 89 ∧ wl_P (tg, ln, I, L, R, n) x 12 (tg2, ln2, I2, L2, R2, n2) | 121 => ∃ tg2 : Nat → Nat, ∃ ln2 : Nat → Nat, ∃ I2 : wm_F Int, ∃ L2 : wm_F Int, ∃ R2 : wm_F (Option Nat), ∃ n2 : Nat, lv = [some (wi_rf (some x)), some (.inl (li))] ∧ sk = [] ∧ h = (tg2, ln2, I2, L2, R2, n2) ∧ cu = 13 ∧ su = 28136 ∧ mz = 88 ∧ wl_P (tg, ln, I, L, R, n) x 13 (tg2, ln2, I2, L2, R2, n2) | 130 => ∃ tg2 : Nat → Nat, ∃ ln2 : Nat → Nat, ∃ I2 : wm_F Int, ∃ L2 : wm_F Int, ∃ R2 : wm_F (Option Nat), ∃ n2 : Nat, lv = [some (wi_rf (some x)), some (.inl (li))] ∧ sk = [] ∧ h = (tg2, ln2, I2, L2, R2, n2) ∧ cu = 14 ∧ su = 36344 ∧ mz = 87 ∧ wl_P (tg, ln, I, L, R, n) x 14 (tg2, ln2, I2, L2, R2, n2) | 139 => ∃ tg2 : Nat → Nat, ∃ ln2 : Nat → Nat, ∃ I2 : wm_F Int, ∃ L2 : wm_F Int, ∃ R2 : wm_F (Option Nat), ∃ n2 : Nat, lv = [some (wi_rf (some x)), some (.inl (li))] ∧ sk = [] ∧ h = (tg2, ln2, I2, L2, R2, n2) ∧ cu = 15 ∧ su = 44552 ∧ mz = 86 ∧ wl_P (tg, ln, I, L, R, n) x 15 (tg2, ln2, I2, L2, R2, n2) | 148 => ∃ tg2 : Nat → Nat, ∃ ln2 : Nat → Nat, ∃ I2 : wm_F Int, ∃ L2 : wm_F Int, ∃ R2 : wm_F (Option Nat), ∃ n2 : Nat, lv = [some (wi_rf (some x)), some (.inl (li))] ∧ sk = [] ∧ h = (tg2, ln2, I2, L2, R2, n2) ∧ cu = 16 ∧ su = 52760 ∧ mz = 85 ∧ wl_P (tg, ln, I, L, R, n) x 16 (tg2, ln2, I2, L2, R2, n2) | 156 => ∃ tg2 : Nat → Nat, ∃ ln2 : Nat → Nat, ∃ I2 : wm_F Int, ∃ L2 : wm_F Int, ∃ R2 : wm_F (Option Nat), ∃ n2 : Nat, lv = [some (wi_rf (some x)), some (.inl (li))] ∧ sk = [] ∧ h = (tg2, ln2, I2, L2, R2, n2) ∧ cu = 17 ∧ su = 52824 ∧ mz = 84 ∧ wl_P (tg, ln, I, L, R, n) x 17 (tg2, ln2, I2, L2, R2, n2) | 164 => ∃ tg2 : Nat → Nat, ∃ ln2 : Nat → Nat, ∃ I2 : wm_F Int, ∃ L2 : wm_F Int, ∃ R2 : wm_F (Option Nat), ∃ n2 : Nat, lv = [some (wi_rf (some x)), some (.inl (li))] ∧ sk = [] ∧ h = (tg2, ln2, I2, L2, R2, n2) ∧ cu = 18 ∧ su = 52888 ∧ mz = 83 ∧ wl_P (tg, ln, I, L, R, n) x 18 (tg2, ln2, I2, L2, R2, n2) | 172 => ∃ tg2 : Nat → Nat, ∃ ln2 : Nat → Nat, ∃ I2 : wm_F Int, ∃ L2 : wm_F Int, ∃ R2 : wm_F (Option Nat), ∃ n2 : Nat, lv = [some (wi_rf (some x)), some (.inl (li))] ∧ sk = [] ∧ h = (tg2, ln2, I2, L2, R2, n2) ∧ cu = 19 ∧ su = 52952 ∧ mz = 82 ∧ wl_P (tg, ln, I, L, R, n) x 19 (tg2, ln2, I2, L2, R2, n2) | 181 => ∃ tg2 : Nat → Nat, ∃ ln2 : Nat → Nat, ∃ I2 : wm_F Int, ∃ L2 : wm_F Int, ∃ R2 : wm_F (Option Nat), ∃ n2 : Nat, lv = [some (wi_rf (some x)), some (.inl (li))] ∧ sk = [] ∧ h = (tg2, ln2, I2, L2, R2, n2) ∧ cu = 20 ∧ su = 65752 ∧ mz = 81 ∧ wl_P (tg, ln, I, L, R, n) x 20 (tg2, ln2, I2, L2, R2, n2) | 190 => ∃ tg2 : Nat → Nat, ∃ ln2 : Nat → Nat, ∃ I2 : wm_F Int, ∃ L2 : wm_F Int, ∃ R2 : wm_F (Option Nat), ∃ n2 : Nat, lv = [some (wi_rf (some x)), some (.inl (li))] ∧ sk = [] ∧ h = (tg2, ln2, I2, L2, R2, n2) ∧ cu = 21 ∧ su = 65952 ∧ mz = 80 ∧ wl_P (tg, ln, I, L, R, n) x 21 (tg2, ln2, I2, L2, R2, n2) | 199 => ∃ tg2 : Nat → Nat, ∃ ln2 : Nat → Nat, ∃ I2 : wm_F Int, ∃ L2 : wm_F Int, ∃ R2 : wm_F (Option Nat), ∃ n2 : Nat, lv = [some (wi_rf (some x)), some (.inl (li))] ∧ sk = [] ∧ h = (tg2, ln2, I2, L2, R2, n2) ∧ cu = 22 ∧ su = 66976 ∧ mz = 79 ∧ wl_P (tg, ln, I, L, R, n) x 22 (tg2, ln2, I2, L2, R2, n2) | 207 => ∃ tg2 : Nat → Nat, ∃ ln2 : Nat → Nat, ∃ I2 : wm_F Int, ∃ L2 : wm_F Int, ∃ R2 : wm_F (Option Nat), ∃ n2 : Nat, lv = [some (wi_rf (some x)), some (.inl (li))] ∧ sk = [] ∧ h = (tg2, ln2, I2, L2, R2, n2) ∧ cu = 23 ∧ su = 66992 ∧ mz = 78 ∧ wl_P (tg, ln, I, L, R, n) x 23 (tg2, ln2, I2, L2, R2, n2) | _ => False, mq_c23 (fun mz lv sk h cu su hI => ?_) (fun mz lv sk h cu su hI => ?_) (fun mz lv sk h cu su hI => ?_) (fun mz lv sk h cu su hI => ?_) (fun mz lv sk h cu su hI => ?_) (fun mz lv sk h cu su hI => ?_) (fun mz lv sk h cu su hI => ?_) (fun mz lv sk h cu su hI => ?_) (fun mz lv sk h cu su hI => ?_) (fun mz lv sk h cu su hI => ?_) (fun mz lv sk h cu su hI => ?_) (fun mz lv sk h cu su hI => ?_) (fun mz lv sk h cu su hI => ?_) (fun mz lv sk h cu su hI => ?_) (fun mz lv sk h cu su hI => ?_) (fun mz lv sk h cu su hI => ?_) (fun mz lv sk h cu su hI => ?_) (fun mz lv sk h cu su hI => ?_) (fun mz lv sk h cu su hI => ?_) (fun mz lv sk h cu su hI => ?_) (fun mz lv sk h cu su hI => ?_) (fun mz lv sk h cu su hI => ?_) (fun mz lv sk h cu su hI => ?_), ?_⟩
  · obtain ⟨tg2, ln2, I2, L2, R2, n2, rfl, rfl, rfl, rfl, rfl, rfl, p1⟩ := hI
    have tx : tg2 x = 11 := (p1.2.1 x xn).1.trans b1
    have ty : wc_nt tg2 n2 31 x = 11 := (if_neg (by have := p1.1; simp only at this; omega)).trans tx
    have nx := wl_P_s p1 xn (by decide) (show md_as[1]? = some (5, 31, 200) from rfl)
    repeat' first
      | refine And.intro ?_ ?_
      | (intro tg1 ln1 I1 L1 R1 (e1 : tg1 = wc_nt tg2 n2 31) (e2 : ln1 = wc_nt ln2 n2 200) (e3 : I1 = wc_nz I2 n2 31) (e4 : L1 = wc_nz L2 n2 31) (e5 : R1 = wc_nn R2 n2 31); subst e1 e2 e3 e4 e5)
      | (intro R9 (e9 : R9 = wm_up (wc_nn R2 n2 31) 11 5 x (some n2)); subst e9)
      | refine Exists.intro _ (And.intro (show _ = _ from by assumption) ?_)
      | refine Exists.intro _ (And.intro rfl (And.intro (by assumption) ?_))
      | refine Exists.intro _ (And.intro rfl ?_)
      | (intro h; try omega)
      | omega
      | (refine Exists.intro _ (And.intro ?_ (Exists.intro _ (Exists.intro _ (Exists.intro _ (Exists.intro _ (Exists.intro _ (Exists.intro _ (And.intro rfl (And.intro rfl (And.intro rfl (And.intro rfl (And.intro rfl (And.intro rfl ?_))))))))))))) <;> first | decide | exact nx)
      | (simp only [wm_mr, wm_mc, wm_ms]; omega)
      | exact Nat.le_of_ble_eq_true rfl
      | assumption
  · obtain ⟨tg2, ln2, I2, L2, R2, n2, rfl, rfl, rfl, rfl, rfl, rfl, p1⟩ := hI
    have tx : tg2 x = 11 := (p1.2.1 x xn).1.trans b1
    have ty : wc_nt tg2 n2 32 x = 11 := (if_neg (by have := p1.1; simp only at this; omega)).trans tx
    have nx := wl_P_s p1 xn (by decide) (show md_as[2]? = some (6, 32, 200) from rfl)
    repeat' first
      | refine And.intro ?_ ?_
      | (intro tg1 ln1 I1 L1 R1 (e1 : tg1 = wc_nt tg2 n2 32) (e2 : ln1 = wc_nt ln2 n2 200) (e3 : I1 = wc_nz I2 n2 32) (e4 : L1 = wc_nz L2 n2 32) (e5 : R1 = wc_nn R2 n2 32); subst e1 e2 e3 e4 e5)
      | (intro R9 (e9 : R9 = wm_up (wc_nn R2 n2 32) 11 6 x (some n2)); subst e9)
      | refine Exists.intro _ (And.intro (show _ = _ from by assumption) ?_)
      | refine Exists.intro _ (And.intro rfl (And.intro (by assumption) ?_))
      | refine Exists.intro _ (And.intro rfl ?_)
      | (intro h; try omega)
      | omega
      | (refine Exists.intro _ (And.intro ?_ (Exists.intro _ (Exists.intro _ (Exists.intro _ (Exists.intro _ (Exists.intro _ (Exists.intro _ (And.intro rfl (And.intro rfl (And.intro rfl (And.intro rfl (And.intro rfl (And.intro rfl ?_))))))))))))) <;> first | decide | exact nx)
      | (simp only [wm_mr, wm_mc, wm_ms]; omega)
      | exact Nat.le_of_ble_eq_true rfl
      | assumption
  · obtain ⟨tg2, ln2, I2, L2, R2, n2, rfl, rfl, rfl, rfl, rfl, rfl, p1⟩ := hI
    have tx : tg2 x = 11 := (p1.2.1 x xn).1.trans b1
    have ty : wc_nt tg2 n2 33 x = 11 := (if_neg (by have := p1.1; simp only at this; omega)).trans tx
    have nx := wl_P_s p1 xn (by decide) (show md_as[3]? = some (7, 33, 200) from rfl)
    repeat' first
      | refine And.intro ?_ ?_
      | (intro tg1 ln1 I1 L1 R1 (e1 : tg1 = wc_nt tg2 n2 33) (e2 : ln1 = wc_nt ln2 n2 200) (e3 : I1 = wc_nz I2 n2 33) (e4 : L1 = wc_nz L2 n2 33) (e5 : R1 = wc_nn R2 n2 33); subst e1 e2 e3 e4 e5)
      | (intro R9 (e9 : R9 = wm_up (wc_nn R2 n2 33) 11 7 x (some n2)); subst e9)
      | refine Exists.intro _ (And.intro (show _ = _ from by assumption) ?_)
      | refine Exists.intro _ (And.intro rfl (And.intro (by assumption) ?_))
      | refine Exists.intro _ (And.intro rfl ?_)
      | (intro h; try omega)
      | omega
      | (refine Exists.intro _ (And.intro ?_ (Exists.intro _ (Exists.intro _ (Exists.intro _ (Exists.intro _ (Exists.intro _ (Exists.intro _ (And.intro rfl (And.intro rfl (And.intro rfl (And.intro rfl (And.intro rfl (And.intro rfl ?_))))))))))))) <;> first | decide | exact nx)
      | (simp only [wm_mr, wm_mc, wm_ms]; omega)
      | exact Nat.le_of_ble_eq_true rfl
      | assumption
  · obtain ⟨tg2, ln2, I2, L2, R2, n2, rfl, rfl, rfl, rfl, rfl, rfl, p1⟩ := hI
    have tx : tg2 x = 11 := (p1.2.1 x xn).1.trans b1
    have ty : wc_nt tg2 n2 34 x = 11 := (if_neg (by have := p1.1; simp only at this; omega)).trans tx
    have nx := wl_P_s p1 xn (by decide) (show md_as[4]? = some (8, 34, 200) from rfl)
    repeat' first
      | refine And.intro ?_ ?_
      | (intro tg1 ln1 I1 L1 R1 (e1 : tg1 = wc_nt tg2 n2 34) (e2 : ln1 = wc_nt ln2 n2 200) (e3 : I1 = wc_nz I2 n2 34) (e4 : L1 = wc_nz L2 n2 34) (e5 : R1 = wc_nn R2 n2 34); subst e1 e2 e3 e4 e5)
      | (intro R9 (e9 : R9 = wm_up (wc_nn R2 n2 34) 11 8 x (some n2)); subst e9)
      | refine Exists.intro _ (And.intro (show _ = _ from by assumption) ?_)
      | refine Exists.intro _ (And.intro rfl (And.intro (by assumption) ?_))
      | refine Exists.intro _ (And.intro rfl ?_)
      | (intro h; try omega)
      | omega
      | (refine Exists.intro _ (And.intro ?_ (Exists.intro _ (Exists.intro _ (Exists.intro _ (Exists.intro _ (Exists.intro _ (Exists.intro _ (And.intro rfl (And.intro rfl (And.intro rfl (And.intro rfl (And.intro rfl (And.intro rfl ?_))))))))))))) <;> first | decide | exact nx)
      | (simp only [wm_mr, wm_mc, wm_ms]; omega)
      | exact Nat.le_of_ble_eq_true rfl
      | assumption
  · obtain ⟨tg2, ln2, I2, L2, R2, n2, rfl, rfl, rfl, rfl, rfl, rfl, p1⟩ := hI
    have tx : tg2 x = 11 := (p1.2.1 x xn).1.trans b1
    have ty : wc_nt tg2 n2 35 x = 11 := (if_neg (by have := p1.1; simp only at this; omega)).trans tx
    have nx := wl_P_s p1 xn (by decide) (show md_as[5]? = some (10, 35, 512) from rfl)
    repeat' first
      | refine And.intro ?_ ?_
      | (intro tg1 ln1 I1 L1 R1 (e1 : tg1 = wc_nt tg2 n2 35) (e2 : ln1 = wc_nt ln2 n2 512) (e3 : I1 = wc_nz I2 n2 35) (e4 : L1 = wc_nz L2 n2 35) (e5 : R1 = wc_nn R2 n2 35); subst e1 e2 e3 e4 e5)
      | (intro R9 (e9 : R9 = wm_up (wc_nn R2 n2 35) 11 10 x (some n2)); subst e9)
      | refine Exists.intro _ (And.intro (show _ = _ from by assumption) ?_)
      | refine Exists.intro _ (And.intro rfl (And.intro (by assumption) ?_))
      | refine Exists.intro _ (And.intro rfl ?_)
      | (intro h; try omega)
      | omega
      | (refine Exists.intro _ (And.intro ?_ (Exists.intro _ (Exists.intro _ (Exists.intro _ (Exists.intro _ (Exists.intro _ (Exists.intro _ (And.intro rfl (And.intro rfl (And.intro rfl (And.intro rfl (And.intro rfl (And.intro rfl ?_))))))))))))) <;> first | decide | exact nx)
      | (simp only [wm_mr, wm_mc, wm_ms]; omega)
      | exact Nat.le_of_ble_eq_true rfl
      | assumption
  · obtain ⟨tg2, ln2, I2, L2, R2, n2, rfl, rfl, rfl, rfl, rfl, rfl, p1⟩ := hI
    have tx : tg2 x = 11 := (p1.2.1 x xn).1.trans b1
    have ty : wc_nt tg2 n2 36 x = 11 := (if_neg (by have := p1.1; simp only at this; omega)).trans tx
    have nx := wl_P_s p1 xn (by decide) (show md_as[6]? = some (11, 36, 512) from rfl)
    repeat' first
      | refine And.intro ?_ ?_
      | (intro tg1 ln1 I1 L1 R1 (e1 : tg1 = wc_nt tg2 n2 36) (e2 : ln1 = wc_nt ln2 n2 512) (e3 : I1 = wc_nz I2 n2 36) (e4 : L1 = wc_nz L2 n2 36) (e5 : R1 = wc_nn R2 n2 36); subst e1 e2 e3 e4 e5)
      | (intro R9 (e9 : R9 = wm_up (wc_nn R2 n2 36) 11 11 x (some n2)); subst e9)
      | refine Exists.intro _ (And.intro (show _ = _ from by assumption) ?_)
      | refine Exists.intro _ (And.intro rfl (And.intro (by assumption) ?_))
      | refine Exists.intro _ (And.intro rfl ?_)
      | (intro h; try omega)
      | omega
      | (refine Exists.intro _ (And.intro ?_ (Exists.intro _ (Exists.intro _ (Exists.intro _ (Exists.intro _ (Exists.intro _ (Exists.intro _ (And.intro rfl (And.intro rfl (And.intro rfl (And.intro rfl (And.intro rfl (And.intro rfl ?_))))))))))))) <;> first | decide | exact nx)
      | (simp only [wm_mr, wm_mc, wm_ms]; omega)
      | exact Nat.le_of_ble_eq_true rfl
      | assumption
  · obtain ⟨tg2, ln2, I2, L2, R2, n2, rfl, rfl, rfl, rfl, rfl, rfl, p1⟩ := hI
    have tx : tg2 x = 11 := (p1.2.1 x xn).1.trans b1
    have ty : wc_nt tg2 n2 37 x = 11 := (if_neg (by have := p1.1; simp only at this; omega)).trans tx
    have nx := wl_P_s p1 xn (by decide) (show md_as[7]? = some (13, 37, 512) from rfl)
    repeat' first
      | refine And.intro ?_ ?_
      | (intro tg1 ln1 I1 L1 R1 (e1 : tg1 = wc_nt tg2 n2 37) (e2 : ln1 = wc_nt ln2 n2 512) (e3 : I1 = wc_nz I2 n2 37) (e4 : L1 = wc_nz L2 n2 37) (e5 : R1 = wc_nn R2 n2 37); subst e1 e2 e3 e4 e5)
      | (intro R9 (e9 : R9 = wm_up (wc_nn R2 n2 37) 11 13 x (some n2)); subst e9)
      | refine Exists.intro _ (And.intro (show _ = _ from by assumption) ?_)
      | refine Exists.intro _ (And.intro rfl (And.intro (by assumption) ?_))
      | refine Exists.intro _ (And.intro rfl ?_)
      | (intro h; try omega)
      | omega
      | (refine Exists.intro _ (And.intro ?_ (Exists.intro _ (Exists.intro _ (Exists.intro _ (Exists.intro _ (Exists.intro _ (Exists.intro _ (And.intro rfl (And.intro rfl (And.intro rfl (And.intro rfl (And.intro rfl (And.intro rfl ?_))))))))))))) <;> first | decide | exact nx)
      | (simp only [wm_mr, wm_mc, wm_ms]; omega)
      | exact Nat.le_of_ble_eq_true rfl
      | assumption
  · obtain ⟨tg2, ln2, I2, L2, R2, n2, rfl, rfl, rfl, rfl, rfl, rfl, p1⟩ := hI
    have tx : tg2 x = 11 := (p1.2.1 x xn).1.trans b1
    have ty : wc_nt tg2 n2 38 x = 11 := (if_neg (by have := p1.1; simp only at this; omega)).trans tx
    have nx := wl_P_s p1 xn (by decide) (show md_as[8]? = some (14, 38, 512) from rfl)
    repeat' first
      | refine And.intro ?_ ?_
      | (intro tg1 ln1 I1 L1 R1 (e1 : tg1 = wc_nt tg2 n2 38) (e2 : ln1 = wc_nt ln2 n2 512) (e3 : I1 = wc_nz I2 n2 38) (e4 : L1 = wc_nz L2 n2 38) (e5 : R1 = wc_nn R2 n2 38); subst e1 e2 e3 e4 e5)
      | (intro R9 (e9 : R9 = wm_up (wc_nn R2 n2 38) 11 14 x (some n2)); subst e9)
      | refine Exists.intro _ (And.intro (show _ = _ from by assumption) ?_)
      | refine Exists.intro _ (And.intro rfl (And.intro (by assumption) ?_))
      | refine Exists.intro _ (And.intro rfl ?_)
      | (intro h; try omega)
      | omega
      | (refine Exists.intro _ (And.intro ?_ (Exists.intro _ (Exists.intro _ (Exists.intro _ (Exists.intro _ (Exists.intro _ (Exists.intro _ (And.intro rfl (And.intro rfl (And.intro rfl (And.intro rfl (And.intro rfl (And.intro rfl ?_))))))))))))) <;> first | decide | exact nx)
      | (simp only [wm_mr, wm_mc, wm_ms]; omega)
      | exact Nat.le_of_ble_eq_true rfl
      | assumption
  · obtain ⟨tg2, ln2, I2, L2, R2, n2, rfl, rfl, rfl, rfl, rfl, rfl, p1⟩ := hI
    have tx : tg2 x = 11 := (p1.2.1 x xn).1.trans b1
    have ty : wc_nt tg2 n2 39 x = 11 := (if_neg (by have := p1.1; simp only at this; omega)).trans tx
    have nx := wl_P_s p1 xn (by decide) (show md_as[9]? = some (15, 39, 512) from rfl)
    repeat' first
      | refine And.intro ?_ ?_
      | (intro tg1 ln1 I1 L1 R1 (e1 : tg1 = wc_nt tg2 n2 39) (e2 : ln1 = wc_nt ln2 n2 512) (e3 : I1 = wc_nz I2 n2 39) (e4 : L1 = wc_nz L2 n2 39) (e5 : R1 = wc_nn R2 n2 39); subst e1 e2 e3 e4 e5)
      | (intro R9 (e9 : R9 = wm_up (wc_nn R2 n2 39) 11 15 x (some n2)); subst e9)
      | refine Exists.intro _ (And.intro (show _ = _ from by assumption) ?_)
      | refine Exists.intro _ (And.intro rfl (And.intro (by assumption) ?_))
      | refine Exists.intro _ (And.intro rfl ?_)
      | (intro h; try omega)
      | omega
      | (refine Exists.intro _ (And.intro ?_ (Exists.intro _ (Exists.intro _ (Exists.intro _ (Exists.intro _ (Exists.intro _ (Exists.intro _ (And.intro rfl (And.intro rfl (And.intro rfl (And.intro rfl (And.intro rfl (And.intro rfl ?_))))))))))))) <;> first | decide | exact nx)
      | (simp only [wm_mr, wm_mc, wm_ms]; omega)
      | exact Nat.le_of_ble_eq_true rfl
      | assumption
  · obtain ⟨tg2, ln2, I2, L2, R2, n2, rfl, rfl, rfl, rfl, rfl, rfl, p1⟩ := hI
    have tx : tg2 x = 11 := (p1.2.1 x xn).1.trans b1
    have ty : wc_nt tg2 n2 40 x = 11 := (if_neg (by have := p1.1; simp only at this; omega)).trans tx
    have nx := wl_P_s p1 xn (by decide) (show md_as[10]? = some (17, 40, 8192) from rfl)
    repeat' first
      | refine And.intro ?_ ?_
      | (intro tg1 ln1 I1 L1 R1 (e1 : tg1 = wc_nt tg2 n2 40) (e2 : ln1 = wc_nt ln2 n2 8192) (e3 : I1 = wc_nz I2 n2 40) (e4 : L1 = wc_nz L2 n2 40) (e5 : R1 = wc_nn R2 n2 40); subst e1 e2 e3 e4 e5)
      | (intro R9 (e9 : R9 = wm_up (wc_nn R2 n2 40) 11 17 x (some n2)); subst e9)
      | refine Exists.intro _ (And.intro (show _ = _ from by assumption) ?_)
      | refine Exists.intro _ (And.intro rfl (And.intro (by assumption) ?_))
      | refine Exists.intro _ (And.intro rfl ?_)
      | (intro h; try omega)
      | omega
      | (refine Exists.intro _ (And.intro ?_ (Exists.intro _ (Exists.intro _ (Exists.intro _ (Exists.intro _ (Exists.intro _ (Exists.intro _ (And.intro rfl (And.intro rfl (And.intro rfl (And.intro rfl (And.intro rfl (And.intro rfl ?_))))))))))))) <;> first | decide | exact nx)
      | (simp only [wm_mr, wm_mc, wm_ms]; omega)
      | exact Nat.le_of_ble_eq_true rfl
      | assumption
  · obtain ⟨tg2, ln2, I2, L2, R2, n2, rfl, rfl, rfl, rfl, rfl, rfl, p1⟩ := hI
    have tx : tg2 x = 11 := (p1.2.1 x xn).1.trans b1
    have ty : wc_nt tg2 n2 41 x = 11 := (if_neg (by have := p1.1; simp only at this; omega)).trans tx
    have nx := wl_P_s p1 xn (by decide) (show md_as[11]? = some (18, 41, 8192) from rfl)
    repeat' first
      | refine And.intro ?_ ?_
      | (intro tg1 ln1 I1 L1 R1 (e1 : tg1 = wc_nt tg2 n2 41) (e2 : ln1 = wc_nt ln2 n2 8192) (e3 : I1 = wc_nz I2 n2 41) (e4 : L1 = wc_nz L2 n2 41) (e5 : R1 = wc_nn R2 n2 41); subst e1 e2 e3 e4 e5)
      | (intro R9 (e9 : R9 = wm_up (wc_nn R2 n2 41) 11 18 x (some n2)); subst e9)
      | refine Exists.intro _ (And.intro (show _ = _ from by assumption) ?_)
      | refine Exists.intro _ (And.intro rfl (And.intro (by assumption) ?_))
      | refine Exists.intro _ (And.intro rfl ?_)
      | (intro h; try omega)
      | omega
      | (refine Exists.intro _ (And.intro ?_ (Exists.intro _ (Exists.intro _ (Exists.intro _ (Exists.intro _ (Exists.intro _ (Exists.intro _ (And.intro rfl (And.intro rfl (And.intro rfl (And.intro rfl (And.intro rfl (And.intro rfl ?_))))))))))))) <;> first | decide | exact nx)
      | (simp only [wm_mr, wm_mc, wm_ms]; omega)
      | exact Nat.le_of_ble_eq_true rfl
      | assumption
  · obtain ⟨tg2, ln2, I2, L2, R2, n2, rfl, rfl, rfl, rfl, rfl, rfl, p1⟩ := hI
    have tx : tg2 x = 11 := (p1.2.1 x xn).1.trans b1
    have ty : wc_nt tg2 n2 42 x = 11 := (if_neg (by have := p1.1; simp only at this; omega)).trans tx
    have nx := wl_P_s p1 xn (by decide) (show md_as[12]? = some (19, 42, 8192) from rfl)
    repeat' first
      | refine And.intro ?_ ?_
      | (intro tg1 ln1 I1 L1 R1 (e1 : tg1 = wc_nt tg2 n2 42) (e2 : ln1 = wc_nt ln2 n2 8192) (e3 : I1 = wc_nz I2 n2 42) (e4 : L1 = wc_nz L2 n2 42) (e5 : R1 = wc_nn R2 n2 42); subst e1 e2 e3 e4 e5)
      | (intro R9 (e9 : R9 = wm_up (wc_nn R2 n2 42) 11 19 x (some n2)); subst e9)
      | refine Exists.intro _ (And.intro (show _ = _ from by assumption) ?_)
      | refine Exists.intro _ (And.intro rfl (And.intro (by assumption) ?_))
      | refine Exists.intro _ (And.intro rfl ?_)
      | (intro h; try omega)
      | omega
      | (refine Exists.intro _ (And.intro ?_ (Exists.intro _ (Exists.intro _ (Exists.intro _ (Exists.intro _ (Exists.intro _ (Exists.intro _ (And.intro rfl (And.intro rfl (And.intro rfl (And.intro rfl (And.intro rfl (And.intro rfl ?_))))))))))))) <;> first | decide | exact nx)
      | (simp only [wm_mr, wm_mc, wm_ms]; omega)
      | exact Nat.le_of_ble_eq_true rfl
      | assumption
  · obtain ⟨tg2, ln2, I2, L2, R2, n2, rfl, rfl, rfl, rfl, rfl, rfl, p1⟩ := hI
    have tx : tg2 x = 11 := (p1.2.1 x xn).1.trans b1
    have ty : wc_nt tg2 n2 43 x = 11 := (if_neg (by have := p1.1; simp only at this; omega)).trans tx
    have nx := wl_P_s p1 xn (by decide) (show md_as[13]? = some (20, 43, 8208) from rfl)
    repeat' first
      | refine And.intro ?_ ?_
      | (intro tg1 ln1 I1 L1 R1 (e1 : tg1 = wc_nt tg2 n2 43) (e2 : ln1 = wc_nt ln2 n2 8208) (e3 : I1 = wc_nz I2 n2 43) (e4 : L1 = wc_nz L2 n2 43) (e5 : R1 = wc_nn R2 n2 43); subst e1 e2 e3 e4 e5)
      | (intro R9 (e9 : R9 = wm_up (wc_nn R2 n2 43) 11 20 x (some n2)); subst e9)
      | refine Exists.intro _ (And.intro (show _ = _ from by assumption) ?_)
      | refine Exists.intro _ (And.intro rfl (And.intro (by assumption) ?_))
      | refine Exists.intro _ (And.intro rfl ?_)
      | (intro h; try omega)
      | omega
      | (refine Exists.intro _ (And.intro ?_ (Exists.intro _ (Exists.intro _ (Exists.intro _ (Exists.intro _ (Exists.intro _ (Exists.intro _ (And.intro rfl (And.intro rfl (And.intro rfl (And.intro rfl (And.intro rfl (And.intro rfl ?_))))))))))))) <;> first | decide | exact nx)
      | (simp only [wm_mr, wm_mc, wm_ms]; omega)
      | exact Nat.le_of_ble_eq_true rfl
      | assumption
  · obtain ⟨tg2, ln2, I2, L2, R2, n2, rfl, rfl, rfl, rfl, rfl, rfl, p1⟩ := hI
    have tx : tg2 x = 11 := (p1.2.1 x xn).1.trans b1
    have ty : wc_nt tg2 n2 44 x = 11 := (if_neg (by have := p1.1; simp only at this; omega)).trans tx
    have nx := wl_P_s p1 xn (by decide) (show md_as[14]? = some (21, 44, 8208) from rfl)
    repeat' first
      | refine And.intro ?_ ?_
      | (intro tg1 ln1 I1 L1 R1 (e1 : tg1 = wc_nt tg2 n2 44) (e2 : ln1 = wc_nt ln2 n2 8208) (e3 : I1 = wc_nz I2 n2 44) (e4 : L1 = wc_nz L2 n2 44) (e5 : R1 = wc_nn R2 n2 44); subst e1 e2 e3 e4 e5)
      | (intro R9 (e9 : R9 = wm_up (wc_nn R2 n2 44) 11 21 x (some n2)); subst e9)
      | refine Exists.intro _ (And.intro (show _ = _ from by assumption) ?_)
      | refine Exists.intro _ (And.intro rfl (And.intro (by assumption) ?_))
      | refine Exists.intro _ (And.intro rfl ?_)
      | (intro h; try omega)
      | omega
      | (refine Exists.intro _ (And.intro ?_ (Exists.intro _ (Exists.intro _ (Exists.intro _ (Exists.intro _ (Exists.intro _ (Exists.intro _ (And.intro rfl (And.intro rfl (And.intro rfl (And.intro rfl (And.intro rfl (And.intro rfl ?_))))))))))))) <;> first | decide | exact nx)
      | (simp only [wm_mr, wm_mc, wm_ms]; omega)
      | exact Nat.le_of_ble_eq_true rfl
      | assumption
  · obtain ⟨tg2, ln2, I2, L2, R2, n2, rfl, rfl, rfl, rfl, rfl, rfl, p1⟩ := hI
    have tx : tg2 x = 11 := (p1.2.1 x xn).1.trans b1
    have ty : wc_nt tg2 n2 45 x = 11 := (if_neg (by have := p1.1; simp only at this; omega)).trans tx
    have nx := wl_P_s p1 xn (by decide) (show md_as[15]? = some (22, 45, 8208) from rfl)
    repeat' first
      | refine And.intro ?_ ?_
      | (intro tg1 ln1 I1 L1 R1 (e1 : tg1 = wc_nt tg2 n2 45) (e2 : ln1 = wc_nt ln2 n2 8208) (e3 : I1 = wc_nz I2 n2 45) (e4 : L1 = wc_nz L2 n2 45) (e5 : R1 = wc_nn R2 n2 45); subst e1 e2 e3 e4 e5)
      | (intro R9 (e9 : R9 = wm_up (wc_nn R2 n2 45) 11 22 x (some n2)); subst e9)
      | refine Exists.intro _ (And.intro (show _ = _ from by assumption) ?_)
      | refine Exists.intro _ (And.intro rfl (And.intro (by assumption) ?_))
      | refine Exists.intro _ (And.intro rfl ?_)
      | (intro h; try omega)
      | omega
      | (refine Exists.intro _ (And.intro ?_ (Exists.intro _ (Exists.intro _ (Exists.intro _ (Exists.intro _ (Exists.intro _ (Exists.intro _ (And.intro rfl (And.intro rfl (And.intro rfl (And.intro rfl (And.intro rfl (And.intro rfl ?_))))))))))))) <;> first | decide | exact nx)
      | (simp only [wm_mr, wm_mc, wm_ms]; omega)
      | exact Nat.le_of_ble_eq_true rfl
      | assumption
  · obtain ⟨tg2, ln2, I2, L2, R2, n2, rfl, rfl, rfl, rfl, rfl, rfl, p1⟩ := hI
    have tx : tg2 x = 11 := (p1.2.1 x xn).1.trans b1
    have ty : wc_nt tg2 n2 46 x = 11 := (if_neg (by have := p1.1; simp only at this; omega)).trans tx
    have nx := wl_P_s p1 xn (by decide) (show md_as[16]? = some (24, 46, 64) from rfl)
    repeat' first
      | refine And.intro ?_ ?_
      | (intro tg1 ln1 I1 L1 R1 (e1 : tg1 = wc_nt tg2 n2 46) (e2 : ln1 = wc_nt ln2 n2 64) (e3 : I1 = wc_nz I2 n2 46) (e4 : L1 = wc_nz L2 n2 46) (e5 : R1 = wc_nn R2 n2 46); subst e1 e2 e3 e4 e5)
      | (intro R9 (e9 : R9 = wm_up (wc_nn R2 n2 46) 11 24 x (some n2)); subst e9)
      | refine Exists.intro _ (And.intro (show _ = _ from by assumption) ?_)
      | refine Exists.intro _ (And.intro rfl (And.intro (by assumption) ?_))
      | refine Exists.intro _ (And.intro rfl ?_)
      | (intro h; try omega)
      | omega
      | (refine Exists.intro _ (And.intro ?_ (Exists.intro _ (Exists.intro _ (Exists.intro _ (Exists.intro _ (Exists.intro _ (Exists.intro _ (And.intro rfl (And.intro rfl (And.intro rfl (And.intro rfl (And.intro rfl (And.intro rfl ?_))))))))))))) <;> first | decide | exact nx)
      | (simp only [wm_mr, wm_mc, wm_ms]; omega)
      | exact Nat.le_of_ble_eq_true rfl
      | assumption
  · obtain ⟨tg2, ln2, I2, L2, R2, n2, rfl, rfl, rfl, rfl, rfl, rfl, p1⟩ := hI
    have tx : tg2 x = 11 := (p1.2.1 x xn).1.trans b1
    have ty : wc_nt tg2 n2 47 x = 11 := (if_neg (by have := p1.1; simp only at this; omega)).trans tx
    have nx := wl_P_s p1 xn (by decide) (show md_as[17]? = some (25, 47, 64) from rfl)
    repeat' first
      | refine And.intro ?_ ?_
      | (intro tg1 ln1 I1 L1 R1 (e1 : tg1 = wc_nt tg2 n2 47) (e2 : ln1 = wc_nt ln2 n2 64) (e3 : I1 = wc_nz I2 n2 47) (e4 : L1 = wc_nz L2 n2 47) (e5 : R1 = wc_nn R2 n2 47); subst e1 e2 e3 e4 e5)
      | (intro R9 (e9 : R9 = wm_up (wc_nn R2 n2 47) 11 25 x (some n2)); subst e9)
      | refine Exists.intro _ (And.intro (show _ = _ from by assumption) ?_)
      | refine Exists.intro _ (And.intro rfl (And.intro (by assumption) ?_))
      | refine Exists.intro _ (And.intro rfl ?_)
      | (intro h; try omega)
      | omega
      | (refine Exists.intro _ (And.intro ?_ (Exists.intro _ (Exists.intro _ (Exists.intro _ (Exists.intro _ (Exists.intro _ (Exists.intro _ (And.intro rfl (And.intro rfl (And.intro rfl (And.intro rfl (And.intro rfl (And.intro rfl ?_))))))))))))) <;> first | decide | exact nx)
      | (simp only [wm_mr, wm_mc, wm_ms]; omega)
      | exact Nat.le_of_ble_eq_true rfl
      | assumption
  · obtain ⟨tg2, ln2, I2, L2, R2, n2, rfl, rfl, rfl, rfl, rfl, rfl, p1⟩ := hI
    have tx : tg2 x = 11 := (p1.2.1 x xn).1.trans b1
    have ty : wc_nt tg2 n2 48 x = 11 := (if_neg (by have := p1.1; simp only at this; omega)).trans tx
    have nx := wl_P_s p1 xn (by decide) (show md_as[18]? = some (26, 48, 64) from rfl)
    repeat' first
      | refine And.intro ?_ ?_
      | (intro tg1 ln1 I1 L1 R1 (e1 : tg1 = wc_nt tg2 n2 48) (e2 : ln1 = wc_nt ln2 n2 64) (e3 : I1 = wc_nz I2 n2 48) (e4 : L1 = wc_nz L2 n2 48) (e5 : R1 = wc_nn R2 n2 48); subst e1 e2 e3 e4 e5)
      | (intro R9 (e9 : R9 = wm_up (wc_nn R2 n2 48) 11 26 x (some n2)); subst e9)
      | refine Exists.intro _ (And.intro (show _ = _ from by assumption) ?_)
      | refine Exists.intro _ (And.intro rfl (And.intro (by assumption) ?_))
      | refine Exists.intro _ (And.intro rfl ?_)
      | (intro h; try omega)
      | omega
      | (refine Exists.intro _ (And.intro ?_ (Exists.intro _ (Exists.intro _ (Exists.intro _ (Exists.intro _ (Exists.intro _ (Exists.intro _ (And.intro rfl (And.intro rfl (And.intro rfl (And.intro rfl (And.intro rfl (And.intro rfl ?_))))))))))))) <;> first | decide | exact nx)
      | (simp only [wm_mr, wm_mc, wm_ms]; omega)
      | exact Nat.le_of_ble_eq_true rfl
      | assumption
  · obtain ⟨tg2, ln2, I2, L2, R2, n2, rfl, rfl, rfl, rfl, rfl, rfl, p1⟩ := hI
    have tx : tg2 x = 11 := (p1.2.1 x xn).1.trans b1
    have ty : wc_nt tg2 n2 49 x = 11 := (if_neg (by have := p1.1; simp only at this; omega)).trans tx
    have nx := wl_P_s p1 xn (by decide) (show md_as[19]? = some (27, 49, 12800) from rfl)
    repeat' first
      | refine And.intro ?_ ?_
      | (intro tg1 ln1 I1 L1 R1 (e1 : tg1 = wc_nt tg2 n2 49) (e2 : ln1 = wc_nt ln2 n2 12800) (e3 : I1 = wc_nz I2 n2 49) (e4 : L1 = wc_nz L2 n2 49) (e5 : R1 = wc_nn R2 n2 49); subst e1 e2 e3 e4 e5)
      | (intro R9 (e9 : R9 = wm_up (wc_nn R2 n2 49) 11 27 x (some n2)); subst e9)
      | refine Exists.intro _ (And.intro (show _ = _ from by assumption) ?_)
      | refine Exists.intro _ (And.intro rfl (And.intro (by assumption) ?_))
      | refine Exists.intro _ (And.intro rfl ?_)
      | (intro h; try omega)
      | omega
      | (refine Exists.intro _ (And.intro ?_ (Exists.intro _ (Exists.intro _ (Exists.intro _ (Exists.intro _ (Exists.intro _ (Exists.intro _ (And.intro rfl (And.intro rfl (And.intro rfl (And.intro rfl (And.intro rfl (And.intro rfl ?_))))))))))))) <;> first | decide | exact nx)
      | (simp only [wm_mr, wm_mc, wm_ms]; omega)
      | exact Nat.le_of_ble_eq_true rfl
      | assumption
  · obtain ⟨tg2, ln2, I2, L2, R2, n2, rfl, rfl, rfl, rfl, rfl, rfl, p1⟩ := hI
    have tx : tg2 x = 11 := (p1.2.1 x xn).1.trans b1
    have ty : wc_nt tg2 n2 50 x = 11 := (if_neg (by have := p1.1; simp only at this; omega)).trans tx
    have nx := wl_P_s p1 xn (by decide) (show md_as[20]? = some (28, 50, 200) from rfl)
    repeat' first
      | refine And.intro ?_ ?_
      | (intro tg1 ln1 I1 L1 R1 (e1 : tg1 = wc_nt tg2 n2 50) (e2 : ln1 = wc_nt ln2 n2 200) (e3 : I1 = wc_nz I2 n2 50) (e4 : L1 = wc_nz L2 n2 50) (e5 : R1 = wc_nn R2 n2 50); subst e1 e2 e3 e4 e5)
      | (intro R9 (e9 : R9 = wm_up (wc_nn R2 n2 50) 11 28 x (some n2)); subst e9)
      | refine Exists.intro _ (And.intro (show _ = _ from by assumption) ?_)
      | refine Exists.intro _ (And.intro rfl (And.intro (by assumption) ?_))
      | refine Exists.intro _ (And.intro rfl ?_)
      | (intro h; try omega)
      | omega
      | (refine Exists.intro _ (And.intro ?_ (Exists.intro _ (Exists.intro _ (Exists.intro _ (Exists.intro _ (Exists.intro _ (Exists.intro _ (And.intro rfl (And.intro rfl (And.intro rfl (And.intro rfl (And.intro rfl (And.intro rfl ?_))))))))))))) <;> first | decide | exact nx)
      | (simp only [wm_mr, wm_mc, wm_ms]; omega)
      | exact Nat.le_of_ble_eq_true rfl
      | assumption
  · obtain ⟨tg2, ln2, I2, L2, R2, n2, rfl, rfl, rfl, rfl, rfl, rfl, p1⟩ := hI
    have tx : tg2 x = 11 := (p1.2.1 x xn).1.trans b1
    have ty : wc_nt tg2 n2 51 x = 11 := (if_neg (by have := p1.1; simp only at this; omega)).trans tx
    have nx := wl_P_s p1 xn (by decide) (show md_as[21]? = some (29, 51, 1024) from rfl)
    repeat' first
      | refine And.intro ?_ ?_
      | (intro tg1 ln1 I1 L1 R1 (e1 : tg1 = wc_nt tg2 n2 51) (e2 : ln1 = wc_nt ln2 n2 1024) (e3 : I1 = wc_nz I2 n2 51) (e4 : L1 = wc_nz L2 n2 51) (e5 : R1 = wc_nn R2 n2 51); subst e1 e2 e3 e4 e5)
      | (intro R9 (e9 : R9 = wm_up (wc_nn R2 n2 51) 11 29 x (some n2)); subst e9)
      | refine Exists.intro _ (And.intro (show _ = _ from by assumption) ?_)
      | refine Exists.intro _ (And.intro rfl (And.intro (by assumption) ?_))
      | refine Exists.intro _ (And.intro rfl ?_)
      | (intro h; try omega)
      | omega
      | (refine Exists.intro _ (And.intro ?_ (Exists.intro _ (Exists.intro _ (Exists.intro _ (Exists.intro _ (Exists.intro _ (Exists.intro _ (And.intro rfl (And.intro rfl (And.intro rfl (And.intro rfl (And.intro rfl (And.intro rfl ?_))))))))))))) <;> first | decide | exact nx)
      | (simp only [wm_mr, wm_mc, wm_ms]; omega)
      | exact Nat.le_of_ble_eq_true rfl
      | assumption
  · obtain ⟨tg2, ln2, I2, L2, R2, n2, rfl, rfl, rfl, rfl, rfl, rfl, p1⟩ := hI
    have tx : tg2 x = 11 := (p1.2.1 x xn).1.trans b1
    have ty : wc_nt tg2 n2 52 x = 11 := (if_neg (by have := p1.1; simp only at this; omega)).trans tx
    have nx := wl_P_s p1 xn (by decide) (show md_as[22]? = some (30, 52, 16) from rfl)
    repeat' first
      | refine And.intro ?_ ?_
      | (intro tg1 ln1 I1 L1 R1 (e1 : tg1 = wc_nt tg2 n2 52) (e2 : ln1 = wc_nt ln2 n2 16) (e3 : I1 = wc_nz I2 n2 52) (e4 : L1 = wc_nz L2 n2 52) (e5 : R1 = wc_nn R2 n2 52); subst e1 e2 e3 e4 e5)
      | (intro R9 (e9 : R9 = wm_up (wc_nn R2 n2 52) 11 30 x (some n2)); subst e9)
      | refine Exists.intro _ (And.intro (show _ = _ from by assumption) ?_)
      | refine Exists.intro _ (And.intro rfl (And.intro (by assumption) ?_))
      | refine Exists.intro _ (And.intro rfl ?_)
      | (intro h; try omega)
      | omega
      | (refine Exists.intro _ (And.intro ?_ (Exists.intro _ (Exists.intro _ (Exists.intro _ (Exists.intro _ (Exists.intro _ (Exists.intro _ (And.intro rfl (And.intro rfl (And.intro rfl (And.intro rfl (And.intro rfl (And.intro rfl ?_))))))))))))) <;> first | decide | exact nx)
      | (simp only [wm_mr, wm_mc, wm_ms]; omega)
      | exact Nat.le_of_ble_eq_true rfl
      | assumption
  · obtain ⟨tg2, ln2, I2, L2, R2, n2, rfl, rfl, rfl, rfl, rfl, rfl, p1⟩ := hI
    have tx : tg2 x = 11 := (p1.2.1 x xn).1.trans b1
    have fin : ∀ v, v = (if 1 ≤ li ∧ li ≤ 100000 then li else 1000) → q none (tg2, ln2, wm_up I2 11 1 x v, L2, R2, n2) := fun v hv => h1 (tg2, ln2, I2, L2, R2, n2) v hv p1
    repeat' first
      | refine And.intro ?_ ?_
      | (intro I9 (e9 : I9 = wm_up I2 11 1 x li); subst e9)
      | (intro I9 (e9 : I9 = wm_up I2 11 1 x 1000); subst e9)
      | refine Exists.intro _ (And.intro (show _ = _ from by assumption) ?_)
      | refine Exists.intro _ (And.intro rfl (And.intro (by assumption) ?_))
      | refine Exists.intro _ (And.intro rfl ?_)
      | (intro h; try omega)
      | omega
      | exact fin _ (by rw [if_pos (by omega)])
      | exact fin _ (by rw [if_neg (by omega)])
      | (simp only [wm_mr, wm_mc, wm_ms]; omega)
      | exact Nat.le_of_ble_eq_true rfl
      | assumption
  · have p0 : wl_P (tg, ln, I, L, R, n) x 0 (tg, ln, I, L, R, n) := ⟨rfl, fun _ _ => ⟨rfl, rfl⟩, fun _ _ _ _ => ⟨rfl, rfl⟩, fun k hk => absurd hk (Nat.not_lt_zero _)⟩
    have ty : wc_nt tg n 30 x = 11 := (if_neg (by omega)).trans b1
    have nx := wl_P_s p0 xn (by decide) (show md_as[0]? = some (4, 30, 200) from rfl)
    repeat' first
      | refine And.intro ?_ ?_
      | (intro tg1 ln1 I1 L1 R1 (e1 : tg1 = wc_nt tg n 30) (e2 : ln1 = wc_nt ln n 200) (e3 : I1 = wc_nz I n 30) (e4 : L1 = wc_nz L n 30) (e5 : R1 = wc_nn R n 30); subst e1 e2 e3 e4 e5)
      | (intro R9 (e9 : R9 = wm_up (wc_nn R n 30) 11 4 x (some n)); subst e9)
      | refine Exists.intro _ (And.intro (show _ = _ from by assumption) ?_)
      | refine Exists.intro _ (And.intro rfl (And.intro (by assumption) ?_))
      | refine Exists.intro _ (And.intro rfl ?_)
      | (intro h; try omega)
      | omega
      | (refine Exists.intro _ (Exists.intro _ (Exists.intro _ (Exists.intro _ (Exists.intro _ (Exists.intro _ (Exists.intro _ (And.intro rfl (And.intro rfl (And.intro rfl (And.intro rfl (And.intro rfl (And.intro rfl ?_)))))))))))) <;> exact nx)
      | (simp only [wm_mr, wm_mc, wm_ms]; omega)
      | exact Nat.le_of_ble_eq_true rfl
      | assumption
