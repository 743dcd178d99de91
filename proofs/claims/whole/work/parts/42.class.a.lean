/-! THE CLASS, 1: sets of signals, processes -/
def wc_ok (a : Nat) : Bool := match a with
  | 0 => false
  | 1 => false
  | 11 => false
  | a => Nat.blt a 30
def wc_f (h : wc_H) (f : (Nat → Nat) → (Nat → Nat) → wm_F Int → wm_F Int → wm_F (Option Nat) → Nat → Prop) : Prop := match h with
  | (tg, ln, I, L, R, n) => f tg ln I L R n
/-- with a new cell n -/
def wc_nt (f : Nat → Nat) (n a : Nat) : Nat → Nat := fun q => if q = n then a else f q
def wc_nz (f : wm_F Int) (n a : Nat) : wm_F Int := fun t j q => if t = a ∧ q = n then 0 else f t j q
def wc_nn (f : wm_F (Option Nat)) (n a : Nat) : wm_F (Option Nat) := fun t j q => if t = a ∧ q = n then none else f t j q
def wc_sT (as : List wi_V) (f : Nat → Prop) : Prop := match as with
  | [.inr (.inr (.inl (some x0)))] => f x0
  | _ => False
theorem wc_sT_e {as : List wi_V} {f : Nat → Prop} (h : wc_sT as f) : ∃ x0, as = [.inr (.inr (.inl (some x0)))] ∧ f x0 := by
  unfold wc_sT at h
  split at h
  · exact ⟨_, rfl, h⟩
  · exact h.elim
def wc_sTI (as : List wi_V) (f : Nat → Int → Prop) : Prop := match as with
  | [.inr (.inr (.inl (some x0))), .inl x1] => f x0 x1
  | _ => False
theorem wc_sTI_e {as : List wi_V} {f : Nat → Int → Prop} (h : wc_sTI as f) : ∃ x0 x1, as = [.inr (.inr (.inl (some x0))), .inl x1] ∧ f x0 x1 := by
  unfold wc_sTI at h
  split at h
  · exact ⟨_, _, rfl, h⟩
  · exact h.elim
def wc_sTJ (as : List wi_V) (f : Nat → Int → Prop) : Prop := match as with
  | [.inr (.inr (.inl (some x0))), .inr (.inl x1)] => f x0 x1
  | _ => False
theorem wc_sTJ_e {as : List wi_V} {f : Nat → Int → Prop} (h : wc_sTJ as f) : ∃ x0 x1, as = [.inr (.inr (.inl (some x0))), .inr (.inl x1)] ∧ f x0 x1 := by
  unfold wc_sTJ at h
  split at h
  · exact ⟨_, _, rfl, h⟩
  · exact h.elim
def wc_sTT (as : List wi_V) (f : Nat → Nat → Prop) : Prop := match as with
  | [.inr (.inr (.inl (some x0))), .inr (.inr (.inl (some x1)))] => f x0 x1
  | _ => False
theorem wc_sTT_e {as : List wi_V} {f : Nat → Nat → Prop} (h : wc_sTT as f) : ∃ x0 x1, as = [.inr (.inr (.inl (some x0))), .inr (.inr (.inl (some x1)))] ∧ f x0 x1 := by
  unfold wc_sTT at h
  split at h
  · exact ⟨_, _, rfl, h⟩
  · exact h.elim
def wc_sTII (as : List wi_V) (f : Nat → Int → Int → Prop) : Prop := match as with
  | [.inr (.inr (.inl (some x0))), .inl x1, .inl x2] => f x0 x1 x2
  | _ => False
theorem wc_sTII_e {as : List wi_V} {f : Nat → Int → Int → Prop} (h : wc_sTII as f) : ∃ x0 x1 x2, as = [.inr (.inr (.inl (some x0))), .inl x1, .inl x2] ∧ f x0 x1 x2 := by
  unfold wc_sTII at h
  split at h
  · exact ⟨_, _, _, rfl, h⟩
  · exact h.elim
def wc_sTIJ (as : List wi_V) (f : Nat → Int → Int → Prop) : Prop := match as with
  | [.inr (.inr (.inl (some x0))), .inl x1, .inr (.inl x2)] => f x0 x1 x2
  | _ => False
theorem wc_sTIJ_e {as : List wi_V} {f : Nat → Int → Int → Prop} (h : wc_sTIJ as f) : ∃ x0 x1 x2, as = [.inr (.inr (.inl (some x0))), .inl x1, .inr (.inl x2)] ∧ f x0 x1 x2 := by
  unfold wc_sTIJ at h
  split at h
  · exact ⟨_, _, _, rfl, h⟩
  · exact h.elim
def wc_sTJI (as : List wi_V) (f : Nat → Int → Int → Prop) : Prop := match as with
  | [.inr (.inr (.inl (some x0))), .inr (.inl x1), .inl x2] => f x0 x1 x2
  | _ => False
theorem wc_sTJI_e {as : List wi_V} {f : Nat → Int → Int → Prop} (h : wc_sTJI as f) : ∃ x0 x1 x2, as = [.inr (.inr (.inl (some x0))), .inr (.inl x1), .inl x2] ∧ f x0 x1 x2 := by
  unfold wc_sTJI at h
  split at h
  · exact ⟨_, _, _, rfl, h⟩
  · exact h.elim
def wc_sTO (as : List wi_V) (f : Nat → Option Nat → Prop) : Prop := match as with
  | [.inr (.inr (.inl (some x0))), .inr (.inr (.inl x1))] => f x0 x1
  | _ => False
theorem wc_sTO_e {as : List wi_V} {f : Nat → Option Nat → Prop} (h : wc_sTO as f) : ∃ x0 x1, as = [.inr (.inr (.inl (some x0))), .inr (.inr (.inl x1))] ∧ f x0 x1 := by
  unfold wc_sTO at h
  split at h
  · exact ⟨_, _, rfl, h⟩
  · exact h.elim
def wc_sTOO (as : List wi_V) (f : Nat → Option Nat → Option Nat → Prop) : Prop := match as with
  | [.inr (.inr (.inl (some x0))), .inr (.inr (.inl x1)), .inr (.inr (.inl x2))] => f x0 x1 x2
  | _ => False
theorem wc_sTOO_e {as : List wi_V} {f : Nat → Option Nat → Option Nat → Prop} (h : wc_sTOO as f) : ∃ x0 x1 x2, as = [.inr (.inr (.inl (some x0))), .inr (.inr (.inl x1)), .inr (.inr (.inl x2))] ∧ f x0 x1 x2 := by
  unfold wc_sTOO at h
  split at h
  · exact ⟨_, _, _, rfl, h⟩
  · exact h.elim
def wc_sTJT (as : List wi_V) (f : Nat → Int → Nat → Prop) : Prop := match as with
  | [.inr (.inr (.inl (some x0))), .inr (.inl x1), .inr (.inr (.inl (some x2)))] => f x0 x1 x2
  | _ => False
theorem wc_sTJT_e {as : List wi_V} {f : Nat → Int → Nat → Prop} (h : wc_sTJT as f) : ∃ x0 x1 x2, as = [.inr (.inr (.inl (some x0))), .inr (.inl x1), .inr (.inr (.inl (some x2)))] ∧ f x0 x1 x2 := by
  unfold wc_sTJT at h
  split at h
  · exact ⟨_, _, _, rfl, h⟩
  · exact h.elim
def wc_sTTI (as : List wi_V) (f : Nat → Nat → Int → Prop) : Prop := match as with
  | [.inr (.inr (.inl (some x0))), .inr (.inr (.inl (some x1))), .inl x2] => f x0 x1 x2
  | _ => False
theorem wc_sTTI_e {as : List wi_V} {f : Nat → Nat → Int → Prop} (h : wc_sTTI as f) : ∃ x0 x1 x2, as = [.inr (.inr (.inl (some x0))), .inr (.inr (.inl (some x1))), .inl x2] ∧ f x0 x1 x2 := by
  unfold wc_sTTI at h
  split at h
  · exact ⟨_, _, _, rfl, h⟩
  · exact h.elim
def wc_sTOJI (as : List wi_V) (f : Nat → Option Nat → Int → Int → Prop) : Prop := match as with
  | [.inr (.inr (.inl (some x0))), .inr (.inr (.inl x1)), .inr (.inl x2), .inl x3] => f x0 x1 x2 x3
  | _ => False
theorem wc_sTOJI_e {as : List wi_V} {f : Nat → Option Nat → Int → Int → Prop} (h : wc_sTOJI as f) : ∃ x0 x1 x2 x3, as = [.inr (.inr (.inl (some x0))), .inr (.inr (.inl x1)), .inr (.inl x2), .inl x3] ∧ f x0 x1 x2 x3 := by
  unfold wc_sTOJI at h
  split at h
  · exact ⟨_, _, _, _, rfl, h⟩
  · exact h.elim
def wc_sTIIT (as : List wi_V) (f : Nat → Int → Int → Nat → Prop) : Prop := match as with
  | [.inr (.inr (.inl (some x0))), .inl x1, .inl x2, .inr (.inr (.inl (some x3)))] => f x0 x1 x2 x3
  | _ => False
theorem wc_sTIIT_e {as : List wi_V} {f : Nat → Int → Int → Nat → Prop} (h : wc_sTIIT as f) : ∃ x0 x1 x2 x3, as = [.inr (.inr (.inl (some x0))), .inl x1, .inl x2, .inr (.inr (.inl (some x3)))] ∧ f x0 x1 x2 x3 := by
  unfold wc_sTIIT at h
  split at h
  · exact ⟨_, _, _, _, rfl, h⟩
  · exact h.elim
def wc_sTIITO (as : List wi_V) (f : Nat → Int → Int → Nat → Option Nat → Prop) : Prop := match as with
  | [.inr (.inr (.inl (some x0))), .inl x1, .inl x2, .inr (.inr (.inl (some x3))), .inr (.inr (.inl x4))] => f x0 x1 x2 x3 x4
  | _ => False
theorem wc_sTIITO_e {as : List wi_V} {f : Nat → Int → Int → Nat → Option Nat → Prop} (h : wc_sTIITO as f) : ∃ x0 x1 x2 x3 x4, as = [.inr (.inr (.inl (some x0))), .inl x1, .inl x2, .inr (.inr (.inl (some x3))), .inr (.inr (.inl x4))] ∧ f x0 x1 x2 x3 x4 := by
  unfold wc_sTIITO at h
  split at h
  · exact ⟨_, _, _, _, _, rfl, h⟩
  · exact h.elim
def wc_sTIIII (as : List wi_V) (f : Nat → Int → Int → Int → Int → Prop) : Prop := match as with
  | [.inr (.inr (.inl (some x0))), .inl x1, .inl x2, .inl x3, .inl x4] => f x0 x1 x2 x3 x4
  | _ => False
theorem wc_sTIIII_e {as : List wi_V} {f : Nat → Int → Int → Int → Int → Prop} (h : wc_sTIIII as f) : ∃ x0 x1 x2 x3 x4, as = [.inr (.inr (.inl (some x0))), .inl x1, .inl x2, .inl x3, .inl x4] ∧ f x0 x1 x2 x3 x4 := by
  unfold wc_sTIIII at h
  split at h
  · exact ⟨_, _, _, _, _, rfl, h⟩
  · exact h.elim
def wc_sIIJ (as : List wi_V) (f : Int → Int → Int → Prop) : Prop := match as with
  | [.inl x0, .inl x1, .inr (.inl x2)] => f x0 x1 x2
  | _ => False
theorem wc_sIIJ_e {as : List wi_V} {f : Int → Int → Int → Prop} (h : wc_sIIJ as f) : ∃ x0 x1 x2, as = [.inl x0, .inl x1, .inr (.inl x2)] ∧ f x0 x1 x2 := by
  unfold wc_sIIJ at h
  split at h
  · exact ⟨_, _, _, rfl, h⟩
  · exact h.elim
def wc_sJJ (as : List wi_V) (f : Int → Int → Prop) : Prop := match as with
  | [.inr (.inl x0), .inr (.inl x1)] => f x0 x1
  | _ => False
theorem wc_sJJ_e {as : List wi_V} {f : Int → Int → Prop} (h : wc_sJJ as f) : ∃ x0 x1, as = [.inr (.inl x0), .inr (.inl x1)] ∧ f x0 x1 := by
  unfold wc_sJJ at h
  split at h
  · exact ⟨_, _, rfl, h⟩
  · exact h.elim
def wc_sTIII (as : List wi_V) (f : Nat → Int → Int → Int → Prop) : Prop := match as with
  | [.inr (.inr (.inl (some x0))), .inl x1, .inl x2, .inl x3] => f x0 x1 x2 x3
  | _ => False
theorem wc_sTIII_e {as : List wi_V} {f : Nat → Int → Int → Int → Prop} (h : wc_sTIII as f) : ∃ x0 x1 x2 x3, as = [.inr (.inr (.inl (some x0))), .inl x1, .inl x2, .inl x3] ∧ f x0 x1 x2 x3 := by
  unfold wc_sTIII at h
  split at h
  · exact ⟨_, _, _, _, rfl, h⟩
  · exact h.elim
def wc_sTIIIIIJ (as : List wi_V) (f : Nat → Int → Int → Int → Int → Int → Int → Prop) : Prop := match as with
  | [.inr (.inr (.inl (some x0))), .inl x1, .inl x2, .inl x3, .inl x4, .inl x5, .inr (.inl x6)] => f x0 x1 x2 x3 x4 x5 x6
  | _ => False
theorem wc_sTIIIIIJ_e {as : List wi_V} {f : Nat → Int → Int → Int → Int → Int → Int → Prop} (h : wc_sTIIIIIJ as f) : ∃ x0 x1 x2 x3 x4 x5 x6, as = [.inr (.inr (.inl (some x0))), .inl x1, .inl x2, .inl x3, .inl x4, .inl x5, .inr (.inl x6)] ∧ f x0 x1 x2 x3 x4 x5 x6 := by
  unfold wc_sTIIIIIJ at h
  split at h
  · exact ⟨_, _, _, _, _, _, _, rfl, h⟩
  · exact h.elim
def wc_sTIIIJ (as : List wi_V) (f : Nat → Int → Int → Int → Int → Prop) : Prop := match as with
  | [.inr (.inr (.inl (some x0))), .inl x1, .inl x2, .inl x3, .inr (.inl x4)] => f x0 x1 x2 x3 x4
  | _ => False
theorem wc_sTIIIJ_e {as : List wi_V} {f : Nat → Int → Int → Int → Int → Prop} (h : wc_sTIIIJ as f) : ∃ x0 x1 x2 x3 x4, as = [.inr (.inr (.inl (some x0))), .inl x1, .inl x2, .inl x3, .inr (.inl x4)] ∧ f x0 x1 x2 x3 x4 := by
  unfold wc_sTIIIJ at h
  split at h
  · exact ⟨_, _, _, _, _, rfl, h⟩
  · exact h.elim
def wc_sTIIJ (as : List wi_V) (f : Nat → Int → Int → Int → Prop) : Prop := match as with
  | [.inr (.inr (.inl (some x0))), .inl x1, .inl x2, .inr (.inl x3)] => f x0 x1 x2 x3
  | _ => False
theorem wc_sTIIJ_e {as : List wi_V} {f : Nat → Int → Int → Int → Prop} (h : wc_sTIIJ as f) : ∃ x0 x1 x2 x3, as = [.inr (.inr (.inl (some x0))), .inl x1, .inl x2, .inr (.inl x3)] ∧ f x0 x1 x2 x3 := by
  unfold wc_sTIIJ at h
  split at h
  · exact ⟨_, _, _, _, rfl, h⟩
  · exact h.elim
def wc_sTTIIJ (as : List wi_V) (f : Nat → Nat → Int → Int → Int → Prop) : Prop := match as with
  | [.inr (.inr (.inl (some x0))), .inr (.inr (.inl (some x1))), .inl x2, .inl x3, .inr (.inl x4)] => f x0 x1 x2 x3 x4
  | _ => False
theorem wc_sTTIIJ_e {as : List wi_V} {f : Nat → Nat → Int → Int → Int → Prop} (h : wc_sTTIIJ as f) : ∃ x0 x1 x2 x3 x4, as = [.inr (.inr (.inl (some x0))), .inr (.inr (.inl (some x1))), .inl x2, .inl x3, .inr (.inl x4)] ∧ f x0 x1 x2 x3 x4 := by
  unfold wc_sTTIIJ at h
  split at h
  · exact ⟨_, _, _, _, _, rfl, h⟩
  · exact h.elim
def sc_59 (as : List wi_V) (h : wc_H) (q : wi_Q1 wc_H) (qt : wi_Q2 wc_H) : Prop := wc_sTI as (fun x k => wc_f h fun tg ln I L R n => tg x = 6 ∧ ∃ w, R 6 0 x = some w ∧ tg w = 25 ∧ ln w = 4 ∧ 0 ≤ k ∧ k < 256 ∧ (wc_bi L w k.toNat = true → q (some (.inl 1)) (tg, ln, I, L, R, n)) ∧ (wc_bi L w k.toNat = false → q (some (.inl 0)) (tg, ln, I, L, R, n)))
theorem cm_59 {l : Launch} {D : va_G} {aC : wm_Y} {b0 : Nat} (hl0 : l.stackTraces = false) : wm_sp l D aC b0 59 (wi_lf (wc_Rl wc_ok) sc_59) := by
  refine wi_method (wc_lw wc_ok) 59 (cx := fun _ _ _ _ _ => False) (ids := ci_59) (tb := tb_59) (by decide +kernel) hl0 wm_cx0 (wm_tb_ok tk_59) (by decide +kernel) [] 250 (fun as h q qt hs => ?_)
  obtain ⟨x, k, rfl, hs1⟩ := wc_sTI_e hs
  clear hs
  obtain ⟨tg, ln, I, L, R, n⟩ := h
  have hs := id hs1
  clear hs1
  simp only [wc_f] at hs
  refine ⟨rfl, fun _ _ _ _ _ _ _ => False, mq_nc, ?_⟩
  obtain ⟨a1, w, a2, a3, a4, r1, r2, h1, h2⟩ := hs
  have hk : ((k.toNat : Nat) : Int) = k := by omega
  obtain ⟨e1, e2⟩ := wc_ix k.toNat (by omega)
  rw [hk] at e1 e2
  have key : (Int64.ofInt (Int64.ofInt (L 25 (Int32.ofInt k >>> (Int32.ofInt 6 &&& 31)).toInt.toNat w) >>> ((Int32.ofInt (Int32.ofInt k &&& Int32.ofInt 63).toInt).toInt64 &&& 63)).toInt &&& Int64.ofInt 1).toInt = 0 ↔ wc_bi L w k.toNat = false := by
    rw [e1, e2, Int.toNat_natCast]
    exact wc_has1 (by omega)
  repeat' first
    | refine And.intro ?_ ?_
    | refine Exists.intro _ (And.intro (show _ = _ from by assumption) ?_)
    | refine Exists.intro _ (And.intro rfl (And.intro (by assumption) ?_))
    | refine Exists.intro _ (And.intro rfl ?_)
    | (intro h; try omega)
    | omega
    | exact h1 (by rw [← Bool.not_eq_false, ← key]; assumption)
    | exact h2 (key.mp (by assumption))
    | exact Nat.le_of_ble_eq_true rfl
    | assumption
def sc_58 (as : List wi_V) (h : wc_H) (q : wi_Q1 wc_H) (qt : wi_Q2 wc_H) : Prop := wc_sTI as (fun x k => wc_f h fun tg ln I L R n => tg x = 6 ∧ ∃ w, R 6 0 x = some w ∧ tg w = 25 ∧ ln w = 4 ∧ 0 ≤ k ∧ k < 256 ∧ ∀ L1, (∀ t j y, t ≠ 25 ∨ y ≠ w → L1 t j y = L t j y) → (∀ s, s < 256 → wc_bi L1 w s = (wc_bi L w s || decide (s = k.toNat))) → q none (tg, ln, I, L1, R, n))
theorem cm_58 {l : Launch} {D : va_G} {aC : wm_Y} {b0 : Nat} (hl0 : l.stackTraces = false) : wm_sp l D aC b0 58 (wi_lf (wc_Rl wc_ok) sc_58) := by
  refine wi_method (wc_lw wc_ok) 58 (cx := fun _ _ _ _ _ => False) (ids := ci_58) (tb := tb_58) (by decide +kernel) hl0 wm_cx0 (wm_tb_ok tk_58) (by decide +kernel) [] 250 (fun as h q qt hs => ?_)
  obtain ⟨x, k, rfl, hs1⟩ := wc_sTI_e hs
  clear hs
  obtain ⟨tg, ln, I, L, R, n⟩ := h
  have hs := id hs1
  clear hs1
  simp only [wc_f] at hs
  refine ⟨rfl, fun _ _ _ _ _ _ _ => False, mq_nc, ?_⟩
  obtain ⟨a1, w, a2, a3, a4, r1, r2, h1⟩ := hs
  have hk : ((k.toNat : Nat) : Int) = k := by omega
  obtain ⟨e1, e2⟩ := wc_ix k.toNat (by omega)
  rw [hk] at e1 e2
  have key : ∀ L1, L1 = wm_up L 25 (Int32.ofInt k >>> (Int32.ofInt 6 &&& 31)).toInt.toNat w (Int64.ofInt (L 25 (Int32.ofInt k >>> (Int32.ofInt 6 &&& 31)).toInt.toNat w) ||| Int64.ofInt ((Int64.ofInt 1) <<< ((Int32.ofInt (Int32.ofInt k &&& Int32.ofInt 63).toInt).toInt64 &&& 63)).toInt).toInt → q none (tg, ln, I, L1, R, n) := by
    intro L1 e
    rw [e1, e2, Int.toNat_natCast] at e
    refine h1 L1 (fun t j y z => ?_) (fun s hs => ?_)
    · rw [e]
      rcases z with z | z
      · rw [wm_up_t z]
      · rw [wm_up_q z]
    · unfold wc_bi
      rw [e]
      by_cases z : s / 64 = k.toNat / 64
      · rw [z, wm_up_self, wc_add1 (by omega) (by omega)]
        congr 1
        have : (s % 64 = k.toNat % 64) ↔ (s = k.toNat) := by omega
        simp only [this]
      · rw [wm_up_k z]
        have : ¬ s = k.toNat := fun y => z (by rw [y])
        simp [this]
  repeat' first
    | refine And.intro ?_ ?_
    | refine Exists.intro _ (And.intro (show _ = _ from by assumption) ?_)
    | refine Exists.intro _ (And.intro rfl (And.intro (by assumption) ?_))
    | refine Exists.intro _ (And.intro rfl ?_)
    | (intro h; try omega)
    | omega
    | exact key _ rfl
    | (exact key _ (by assumption))
    | exact Nat.le_of_ble_eq_true rfl
    | assumption
def sc_60 (as : List wi_V) (h : wc_H) (q : wi_Q1 wc_H) (qt : wi_Q2 wc_H) : Prop := wc_sTT as (fun x y => wc_f h fun tg ln I L R n => tg x = 6 ∧ tg y = 6 ∧ ∃ w, R 6 0 x = some w ∧ tg w = 25 ∧ ln w = 4 ∧ ∃ v, R 6 0 y = some v ∧ tg v = 25 ∧ ln v = 4 ∧ ((∃ s : Nat, s < 256 ∧ wc_bi L w s = true ∧ wc_bi L v s = true) → q (some (.inl 1)) (tg, ln, I, L, R, n)) ∧ ((∀ s : Nat, s < 256 → ¬ (wc_bi L w s = true ∧ wc_bi L v s = true)) → q (some (.inl 0)) (tg, ln, I, L, R, n)))
theorem cm_60 {l : Launch} {D : va_G} {aC : wm_Y} {b0 : Nat} (hl0 : l.stackTraces = false) : wm_sp l D aC b0 60 (wi_lf (wc_Rl wc_ok) sc_60) := by
  refine wi_method (wc_lw wc_ok) 60 (cx := fun _ _ _ _ _ => False) (ids := ci_60) (tb := tb_60) (by decide +kernel) hl0 wm_cx0 (wm_tb_ok tk_60) (by decide +kernel) [2] 250 (fun as h q qt hs => ?_)
  obtain ⟨x, y, rfl, hs1⟩ := wc_sTT_e hs
  clear hs
  obtain ⟨tg, ln, I, L, R, n⟩ := h
  have hs := id hs1
  clear hs1
  simp only [wc_f] at hs
  obtain ⟨a1, b1, w, a2, a3, a4, v, b2, b3, b4, h1, h2⟩ := hs
  refine ⟨rfl, fun mz pc lv sk h cu su => ∃ i : Int, lv = [some (wi_rf (some x)), some (wi_rf (some y)), some (.inl (i))] ∧ sk = [] ∧ h = (tg, ln, I, L, R, n) ∧ cu = 0 ∧ su = 0 ∧ mz = (10 - i).toNat ∧ 0 ≤ i ∧ i ≤ 4 ∧ ∀ s : Nat, (s : Int) < 64 * i → ¬ (wc_bi L w s = true ∧ wc_bi L v s = true), mq_c1 (fun mz lv sk h cu su hI => ?_), ?_⟩
  · obtain ⟨i, rfl, rfl, rfl, rfl, rfl, rfl, p1, p2, p3⟩ := hI
    have k0 : (∀ j, j < 64 → ¬ (wc_bt (L 25 i.toNat w) j = true ∧ wc_bt (L 25 i.toNat v) j = true)) → ∀ s : Nat, (s : Int) < 64 * (i + 1) → ¬ (wc_bi L w s = true ∧ wc_bi L v s = true) := by
      intro z s hs
      by_cases e : (s : Int) < 64 * i
      · exact p3 s e
      · unfold wc_bi
        rw [show s / 64 = i.toNat by omega]
        exact z (s % 64) (by omega)
    have k1 : ¬ (∀ j, j < 64 → ¬ (wc_bt (L 25 i.toNat w) j = true ∧ wc_bt (L 25 i.toNat v) j = true)) → i < 4 → ∃ s : Nat, s < 256 ∧ wc_bi L w s = true ∧ wc_bi L v s = true := by
      intro z hi
      obtain ⟨j, z⟩ := Classical.not_forall.mp z
      obtain ⟨hj, z⟩ := Classical.not_imp.mp z
      have z := Classical.not_not.mp z
      refine ⟨64 * i.toNat + j, by omega, ?_⟩
      unfold wc_bi
      rw [show (64 * i.toNat + j) / 64 = i.toNat by omega, show (64 * i.toNat + j) % 64 = j by omega]
      exact z
    repeat' first
      | refine And.intro ?_ ?_
      | refine Exists.intro _ (And.intro (show _ = _ from by assumption) ?_)
      | refine Exists.intro _ (And.intro rfl (And.intro (by assumption) ?_))
      | refine Exists.intro _ (And.intro rfl ?_)
      | (intro h; try omega)
      | omega
      | exact h1 (k1 (fun z => absurd (wc_meet.mpr z) (by assumption)) (by omega))
      | exact h2 (fun s hs => p3 s (by omega))
      | (refine Exists.intro _ (And.intro ?_ (Exists.intro (i + 1) (And.intro rfl (And.intro rfl (And.intro rfl (And.intro rfl (And.intro rfl (And.intro rfl (?_))))))))) <;> first | omega | exact ⟨by omega, by omega, k0 (wc_meet.mp (by assumption))⟩)
      | exact Nat.le_of_ble_eq_true rfl
      | assumption
  · refine Exists.intro _ (Exists.intro (0) (And.intro rfl (And.intro rfl (And.intro rfl (And.intro rfl (And.intro rfl (And.intro rfl (⟨by omega, by omega, fun s hs => by omega⟩))))))))
def sc_61 (as : List wi_V) (h : wc_H) (q : wi_Q1 wc_H) (qt : wi_Q2 wc_H) : Prop := wc_sTT as (fun x y => wc_f h fun tg ln I L R n => tg x = 6 ∧ tg y = 6 ∧ ∃ w, R 6 0 x = some w ∧ tg w = 25 ∧ ln w = 4 ∧ ∃ v, R 6 0 y = some v ∧ tg v = 25 ∧ ln v = 4 ∧ w ≠ v ∧ ∀ L1, (∀ t j y, t ≠ 25 ∨ y ≠ w → L1 t j y = L t j y) → (∀ s, s < 256 → wc_bi L1 w s = wc_bi L v s) → q none (tg, ln, I, L1, R, n))
theorem cm_61 {l : Launch} {D : va_G} {aC : wm_Y} {b0 : Nat} (hl0 : l.stackTraces = false) : wm_sp l D aC b0 61 (wi_lf (wc_Rl wc_ok) sc_61) := by
  refine wi_method (wc_lw wc_ok) 61 (cx := fun _ _ _ _ _ => False) (ids := ci_61) (tb := tb_61) (by decide +kernel) hl0 wm_cx0 (wm_tb_ok tk_61) (by decide +kernel) [2] 250 (fun as h q qt hs => ?_)
  obtain ⟨x, y, rfl, hs1⟩ := wc_sTT_e hs
  clear hs
  obtain ⟨tg, ln, I, L, R, n⟩ := h
  have hs := id hs1
  clear hs1
  simp only [wc_f] at hs
  obtain ⟨a1, b1, w, a2, a3, a4, v, b2, b3, b4, hn, h1⟩ := hs
  refine ⟨rfl, fun mz pc lv sk h cu su => ∃ i : Int, ∃ L1 : wm_F Int, lv = [some (wi_rf (some x)), some (wi_rf (some y)), some (.inl (i))] ∧ sk = [] ∧ h = (tg, ln, I, L1, R, n) ∧ cu = 0 ∧ su = 0 ∧ mz = (10 - i).toNat ∧ 0 ≤ i ∧ i ≤ 4 ∧ ∀ t j y, L1 t j y = if t = 25 ∧ y = w ∧ (j : Int) < i then L 25 j v else L t j y, mq_c1 (fun mz lv sk h cu su hI => ?_), ?_⟩
  · obtain ⟨i, L1, rfl, rfl, rfl, rfl, rfl, rfl, p1, p2, p3⟩ := hI
    have k0 : ∀ L2, L2 = wm_up L1 25 i.toNat w (L1 25 i.toNat v) → ∀ t j y, L2 t j y = if t = 25 ∧ y = w ∧ (j : Int) < i + 1 then L 25 j v else L t j y := by
      intro L2 e t j y
      rw [e]
      simp only [wm_up]
      by_cases z : t = 25 ∧ j = i.toNat ∧ y = w
      · obtain ⟨rfl, rfl, rfl⟩ := z
        rw [if_pos ⟨rfl, rfl, rfl⟩, p3, if_neg (fun c => hn c.2.1.symm), if_pos ⟨rfl, rfl, by omega⟩]
      · rw [if_neg z, p3]
        by_cases c : t = 25 ∧ y = w ∧ (j : Int) < i
        · rw [if_pos c, if_pos ⟨c.1, c.2.1, by omega⟩]
        · rw [if_neg c, if_neg (fun d => c ⟨d.1, d.2.1, by have : j ≠ i.toNat := fun f => z ⟨d.1, f, d.2.1⟩; omega⟩)]
    repeat' first
      | refine And.intro ?_ ?_
      | refine Exists.intro _ (And.intro (show _ = _ from by assumption) ?_)
      | refine Exists.intro _ (And.intro rfl (And.intro (by assumption) ?_))
      | refine Exists.intro _ (And.intro rfl ?_)
      | (intro h; try omega)
      | omega
      | (have e9 : i = 4 := (by omega); subst e9; exact h1 L1 (fun t j y z => by rw [p3, if_neg (fun c => by rcases z with z | z; exact z c.1; exact z c.2.1)]) (fun s hs => by unfold wc_bi; rw [p3, if_pos ⟨rfl, rfl, by omega⟩]))
      | (refine Exists.intro _ (And.intro ?_ (Exists.intro (i + 1) (Exists.intro (_) (And.intro rfl (And.intro rfl (And.intro rfl (And.intro rfl (And.intro rfl (And.intro rfl (?_)))))))))) <;> first | omega | exact ⟨by omega, by omega, k0 _ (by assumption)⟩)
      | exact Nat.le_of_ble_eq_true rfl
      | assumption
  · refine Exists.intro _ (Exists.intro (0) (Exists.intro (_) (And.intro rfl (And.intro rfl (And.intro rfl (And.intro rfl (And.intro rfl (And.intro rfl (⟨by omega, by omega, fun t j y => by rw [if_neg (fun c => by omega)]⟩)))))))))
def sc_62 (as : List wi_V) (h : wc_H) (q : wi_Q1 wc_H) (qt : wi_Q2 wc_H) : Prop := wc_sT as (fun x => wc_f h fun tg ln I L R n => tg x = 6 ∧ ∃ w, R 6 0 x = some w ∧ tg w = 25 ∧ ln w = 4 ∧ ∀ L1, (∀ t j y, t ≠ 25 ∨ y ≠ w → L1 t j y = L t j y) → (∀ s, s < 256 → wc_bi L1 w s = false) → q none (tg, ln, I, L1, R, n))
theorem cm_62 {l : Launch} {D : va_G} {aC : wm_Y} {b0 : Nat} (hl0 : l.stackTraces = false) : wm_sp l D aC b0 62 (wi_lf (wc_Rl wc_ok) sc_62) := by
  refine wi_method (wc_lw wc_ok) 62 (cx := fun _ _ _ _ _ => False) (ids := ci_62) (tb := tb_62) (by decide +kernel) hl0 wm_cx0 (wm_tb_ok tk_62) (by decide +kernel) [2] 250 (fun as h q qt hs => ?_)
  obtain ⟨x, rfl, hs1⟩ := wc_sT_e hs
  clear hs
  obtain ⟨tg, ln, I, L, R, n⟩ := h
  have hs := id hs1
  clear hs1
  simp only [wc_f] at hs
  obtain ⟨a1, w, a2, a3, a4, h1⟩ := hs
  refine ⟨rfl, fun mz pc lv sk h cu su => ∃ i : Int, ∃ L1 : wm_F Int, lv = [some (wi_rf (some x)), some (.inl (i))] ∧ sk = [] ∧ h = (tg, ln, I, L1, R, n) ∧ cu = 0 ∧ su = 0 ∧ mz = (10 - i).toNat ∧ 0 ≤ i ∧ i ≤ 4 ∧ ∀ t j y, L1 t j y = if t = 25 ∧ y = w ∧ (j : Int) < i then 0 else L t j y, mq_c1 (fun mz lv sk h cu su hI => ?_), ?_⟩
  · obtain ⟨i, L1, rfl, rfl, rfl, rfl, rfl, rfl, p1, p2, p3⟩ := hI
    have k0 : ∀ L2, L2 = wm_up L1 25 i.toNat w 0 → ∀ t j y, L2 t j y = if t = 25 ∧ y = w ∧ (j : Int) < i + 1 then 0 else L t j y := by
      intro L2 e t j y
      rw [e]
      simp only [wm_up]
      by_cases z : t = 25 ∧ j = i.toNat ∧ y = w
      · obtain ⟨rfl, rfl, rfl⟩ := z
        rw [if_pos ⟨rfl, rfl, rfl⟩, if_pos ⟨rfl, rfl, by omega⟩]
      · rw [if_neg z, p3]
        by_cases c : t = 25 ∧ y = w ∧ (j : Int) < i
        · rw [if_pos c, if_pos ⟨c.1, c.2.1, by omega⟩]
        · rw [if_neg c, if_neg (fun d => c ⟨d.1, d.2.1, by have : j ≠ i.toNat := fun f => z ⟨d.1, f, d.2.1⟩; omega⟩)]
    repeat' first
      | refine And.intro ?_ ?_
      | refine Exists.intro _ (And.intro (show _ = _ from by assumption) ?_)
      | refine Exists.intro _ (And.intro rfl (And.intro (by assumption) ?_))
      | refine Exists.intro _ (And.intro rfl ?_)
      | (intro h; try omega)
      | omega
      | (have e9 : i = 4 := (by omega); subst e9; exact h1 L1 (fun t j y z => by rw [p3, if_neg (fun c => by rcases z with z | z; exact z c.1; exact z c.2.1)]) (fun s hs => by unfold wc_bi; rw [p3, if_pos ⟨rfl, rfl, by omega⟩]; exact wc_bt0 _))
      | (refine Exists.intro _ (And.intro ?_ (Exists.intro (i + 1) (Exists.intro (_) (And.intro rfl (And.intro rfl (And.intro rfl (And.intro rfl (And.intro rfl (And.intro rfl (?_)))))))))) <;> first | omega | exact ⟨by omega, by omega, k0 _ (by assumption)⟩)
      | exact Nat.le_of_ble_eq_true rfl
      | assumption
  · refine Exists.intro _ (Exists.intro (0) (Exists.intro (_) (And.intro rfl (And.intro rfl (And.intro rfl (And.intro rfl (And.intro rfl (And.intro rfl (⟨by omega, by omega, fun t j y => by rw [if_neg (fun c => by omega)]⟩)))))))))
def sc_67 (as : List wi_V) (h : wc_H) (q : wi_Q1 wc_H) (qt : wi_Q2 wc_H) : Prop := wc_sT as (fun x => wc_f h fun tg ln I L R n => tg x = 8 ∧ (I 8 1 x = 0 ∨ I 8 1 x = 2 → q (some (.inl 1)) (tg, ln, I, L, R, n)) ∧ (I 8 1 x ≠ 0 → I 8 1 x ≠ 2 → q (some (.inl 0)) (tg, ln, I, L, R, n)))
theorem cm_67 {l : Launch} {D : va_G} {aC : wm_Y} {b0 : Nat} (hl0 : l.stackTraces = false) : wm_sp l D aC b0 67 (wi_lf (wc_Rl wc_ok) sc_67) := by
  refine wi_method (wc_lw wc_ok) 67 (cx := fun _ _ _ _ _ => False) (ids := ci_67) (tb := tb_67) (by decide +kernel) hl0 wm_cx0 (wm_tb_ok tk_67) (by decide +kernel) [] 250 (fun as h q qt hs => ?_)
  obtain ⟨x, rfl, hs1⟩ := wc_sT_e hs
  clear hs
  obtain ⟨tg, ln, I, L, R, n⟩ := h
  have hs := id hs1
  clear hs1
  simp only [wc_f] at hs
  refine ⟨rfl, fun _ _ _ _ _ _ _ => False, mq_nc, ?_⟩
  obtain ⟨a1, h1, h2⟩ := hs
  repeat' first
    | refine And.intro ?_ ?_
    | refine Exists.intro _ (And.intro (show _ = _ from by assumption) ?_)
    | refine Exists.intro _ (And.intro rfl (And.intro (by assumption) ?_))
    | refine Exists.intro _ (And.intro rfl ?_)
    | (intro h; try omega)
    | omega
    | exact h1 (by omega)
    | exact h2 (by omega) (by omega)
    | exact Nat.le_of_ble_eq_true rfl
    | assumption
def sc_68 (as : List wi_V) (h : wc_H) (q : wi_Q1 wc_H) (qt : wi_Q2 wc_H) : Prop := wc_sT as (fun x => wc_f h fun tg ln I L R n => tg x = 8 ∧ (I 8 1 x = 1 ∨ I 8 1 x = 2 → q (some (.inr (.inl (L 8 3 x)))) (tg, ln, I, L, R, n)) ∧ (I 8 1 x ≠ 1 → I 8 1 x ≠ 2 → q (some (.inr (.inl (-1)))) (tg, ln, I, L, R, n)))
theorem cm_68 {l : Launch} {D : va_G} {aC : wm_Y} {b0 : Nat} (hl0 : l.stackTraces = false) : wm_sp l D aC b0 68 (wi_lf (wc_Rl wc_ok) sc_68) := by
  refine wi_method (wc_lw wc_ok) 68 (cx := fun _ _ _ _ _ => False) (ids := ci_68) (tb := tb_68) (by decide +kernel) hl0 wm_cx0 (wm_tb_ok tk_68) (by decide +kernel) [] 250 (fun as h q qt hs => ?_)
  obtain ⟨x, rfl, hs1⟩ := wc_sT_e hs
  clear hs
  obtain ⟨tg, ln, I, L, R, n⟩ := h
  have hs := id hs1
  clear hs1
  simp only [wc_f] at hs
  refine ⟨rfl, fun _ _ _ _ _ _ _ => False, mq_nc, ?_⟩
  obtain ⟨a1, h1, h2⟩ := hs
  repeat' first
    | refine And.intro ?_ ?_
    | refine Exists.intro _ (And.intro (show _ = _ from by assumption) ?_)
    | refine Exists.intro _ (And.intro rfl (And.intro (by assumption) ?_))
    | refine Exists.intro _ (And.intro rfl ?_)
    | (intro h; try omega)
    | omega
    | exact h1 (by omega)
    | exact h2 (by omega) (by omega)
    | exact Nat.le_of_ble_eq_true rfl
    | assumption
def sc_69 (as : List wi_V) (h : wc_H) (q : wi_Q1 wc_H) (qt : wi_Q2 wc_H) : Prop := wc_sTJT as (fun x t y => wc_f h fun tg ln I L R n => tg x = 8 ∧ tg y = 6 ∧ ∃ a, R 8 0 x = some a ∧ tg a = 6 ∧ ∃ w, R 6 0 a = some w ∧ tg w = 25 ∧ ln w = 4 ∧ ∃ v, R 6 0 y = some v ∧ tg v = 25 ∧ ln v = 4 ∧ (L 8 3 x = t → q none (tg, ln, wm_up I 8 1 x 0, L, R, n)) ∧ (L 8 3 x ≠ t → (∃ s : Nat, s < 256 ∧ wc_bi L w s = true ∧ wc_bi L v s = true) → (I 8 2 x ≠ 0 → q none (tg, ln, wm_up I 8 1 x 2, L, R, n)) ∧ (I 8 2 x = 0 → q none (tg, ln, wm_up I 8 1 x 0, L, R, n))) ∧ (L 8 3 x ≠ t → (∀ s : Nat, s < 256 → ¬ (wc_bi L w s = true ∧ wc_bi L v s = true)) → q none (tg, ln, I, L, R, n)))
theorem cm_69 {l : Launch} {D : va_G} {aC : wm_Y} {b0 : Nat} (hl0 : l.stackTraces = false) : wm_sp l D aC b0 69 (wi_lf (wc_Rl wc_ok) sc_69) := by
  refine wi_method (wc_lw wc_ok) 69 (cx := fun id => if id = 60 then sc_60 else fun _ _ _ _ => False) (ids := ci_69) (tb := tb_69) (by decide +kernel) hl0 (wm_cxc (cm_60 hl0) oi_69 (fun h => wm_cxn h)) (wm_tb_ok tk_69) (by decide +kernel) [] 250 (fun as h q qt hs => ?_)
  obtain ⟨x, t, y, rfl, hs1⟩ := wc_sTJT_e hs
  clear hs
  obtain ⟨tg, ln, I, L, R, n⟩ := h
  have hs := id hs1
  clear hs1
  simp only [wc_f] at hs
  refine ⟨rfl, fun _ _ _ _ _ _ _ => False, mq_nc, ?_⟩
  obtain ⟨a1, b1, a, c1, c2, w, a2, a3, a4, v, b2, b3, b4, h1, h2, h3⟩ := hs
  repeat' first
    | refine And.intro ?_ ?_
    | (intro hM1; have hM : (∃ s : Nat, s < 256 ∧ wc_bi L w s = true ∧ wc_bi L v s = true) := hM1)
    | (intro hM1; have hM : (∀ s : Nat, s < 256 → ¬ (wc_bi L w s = true ∧ wc_bi L v s = true)) := hM1)
    | refine Exists.intro _ (And.intro (show _ = _ from by assumption) ?_)
    | refine Exists.intro _ (And.intro rfl (And.intro (by assumption) ?_))
    | refine Exists.intro _ (And.intro rfl ?_)
    | (intro h; try omega)
    | omega
    | (subst_vars; exact h1 rfl)
    | exact h1 (by assumption)
    | (rename_i hI; rw [h]; exact h1 (by assumption))
    | (rw [h]; exact (h2 (by assumption) hM).1 (by assumption))
    | (rw [h]; exact (h2 (by assumption) hM).2 (by assumption))
    | exact h3 (by assumption) hM
    | exact Nat.le_of_ble_eq_true rfl
    | assumption
