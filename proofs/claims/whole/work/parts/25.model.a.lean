/-! THE REFERENCE, 1: methods without loops -/
def mq_s (as : List wi_V) (f : Prop) : Prop := match as with
  | [.inr (.inr (.inl (some t)))] => if t = 11 then f else False
  | _ => False
theorem mq_s_e {as : List wi_V} {f : Prop} (h : mq_s as f) : as = [wi_rf (some 11)] ∧ f := by
  unfold mq_s at h
  split at h
  · split at h
    · next e => subst e; exact ⟨rfl, h⟩
    · exact h.elim
  · exact h.elim
def mq_sI (as : List wi_V) (f : Int → Prop) : Prop := match as with
  | [.inr (.inr (.inl (some t))), .inl x0] => if t = 11 then f x0 else False
  | _ => False
theorem mq_sI_e {as : List wi_V} {f : Int → Prop} (h : mq_sI as f) : ∃ x0, as = [wi_rf (some 11), .inl x0] ∧ f x0 := by
  unfold mq_sI at h
  split at h
  · split at h
    · next e => subst e; exact ⟨_, rfl, h⟩
    · exact h.elim
  · exact h.elim
def mq_sII (as : List wi_V) (f : Int → Int → Prop) : Prop := match as with
  | [.inr (.inr (.inl (some t))), .inl x0, .inl x1] => if t = 11 then f x0 x1 else False
  | _ => False
theorem mq_sII_e {as : List wi_V} {f : Int → Int → Prop} (h : mq_sII as f) : ∃ x0 x1, as = [wi_rf (some 11), .inl x0, .inl x1] ∧ f x0 x1 := by
  unfold mq_sII at h
  split at h
  · split at h
    · next e => subst e; exact ⟨_, _, rfl, h⟩
    · exact h.elim
  · exact h.elim
def mq_sIII (as : List wi_V) (f : Int → Int → Int → Prop) : Prop := match as with
  | [.inr (.inr (.inl (some t))), .inl x0, .inl x1, .inl x2] => if t = 11 then f x0 x1 x2 else False
  | _ => False
theorem mq_sIII_e {as : List wi_V} {f : Int → Int → Int → Prop} (h : mq_sIII as f) : ∃ x0 x1 x2, as = [wi_rf (some 11), .inl x0, .inl x1, .inl x2] ∧ f x0 x1 x2 := by
  unfold mq_sIII at h
  split at h
  · split at h
    · next e => subst e; exact ⟨_, _, _, rfl, h⟩
    · exact h.elim
  · exact h.elim
def mq_sJ (as : List wi_V) (f : Int → Prop) : Prop := match as with
  | [.inr (.inr (.inl (some t))), .inr (.inl x0)] => if t = 11 then f x0 else False
  | _ => False
theorem mq_sJ_e {as : List wi_V} {f : Int → Prop} (h : mq_sJ as f) : ∃ x0, as = [wi_rf (some 11), .inr (.inl x0)] ∧ f x0 := by
  unfold mq_sJ at h
  split at h
  · split at h
    · next e => subst e; exact ⟨_, rfl, h⟩
    · exact h.elim
  · exact h.elim
def mq_sIIJ (as : List wi_V) (f : Int → Int → Int → Prop) : Prop := match as with
  | [.inr (.inr (.inl (some t))), .inl x0, .inl x1, .inr (.inl x2)] => if t = 11 then f x0 x1 x2 else False
  | _ => False
theorem mq_sIIJ_e {as : List wi_V} {f : Int → Int → Int → Prop} (h : mq_sIIJ as f) : ∃ x0 x1 x2, as = [wi_rf (some 11), .inl x0, .inl x1, .inr (.inl x2)] ∧ f x0 x1 x2 := by
  unfold mq_sIIJ at h
  split at h
  · split at h
    · next e => subst e; exact ⟨_, _, _, rfl, h⟩
    · exact h.elim
  · exact h.elim
def mq_sIIIJ (as : List wi_V) (f : Int → Int → Int → Int → Prop) : Prop := match as with
  | [.inr (.inr (.inl (some t))), .inl x0, .inl x1, .inl x2, .inr (.inl x3)] => if t = 11 then f x0 x1 x2 x3 else False
  | _ => False
theorem mq_sIIIJ_e {as : List wi_V} {f : Int → Int → Int → Int → Prop} (h : mq_sIIIJ as f) : ∃ x0 x1 x2 x3, as = [wi_rf (some 11), .inl x0, .inl x1, .inl x2, .inr (.inl x3)] ∧ f x0 x1 x2 x3 := by
  unfold mq_sIIIJ at h
  split at h
  · split at h
    · next e => subst e; exact ⟨_, _, _, _, rfl, h⟩
    · exact h.elim
  · exact h.elim
def mq_sIIIIIJ (as : List wi_V) (f : Int → Int → Int → Int → Int → Int → Prop) : Prop := match as with
  | [.inr (.inr (.inl (some t))), .inl x0, .inl x1, .inl x2, .inl x3, .inl x4, .inr (.inl x5)] => if t = 11 then f x0 x1 x2 x3 x4 x5 else False
  | _ => False
theorem mq_sIIIIIJ_e {as : List wi_V} {f : Int → Int → Int → Int → Int → Int → Prop} (h : mq_sIIIIIJ as f) : ∃ x0 x1 x2 x3 x4 x5, as = [wi_rf (some 11), .inl x0, .inl x1, .inl x2, .inl x3, .inl x4, .inr (.inl x5)] ∧ f x0 x1 x2 x3 x4 x5 := by
  unfold mq_sIIIIIJ at h
  split at h
  · split at h
    · next e => subst e; exact ⟨_, _, _, _, _, _, rfl, h⟩
    · exact h.elim
  · exact h.elim
def mq_tII (as : List wi_V) (f : Int → Int → Prop) : Prop := match as with
  | [.inl x0, .inl x1] => f x0 x1
  | _ => False
theorem mq_tII_e {as : List wi_V} {f : Int → Int → Prop} (h : mq_tII as f) : ∃ x0 x1, as = [.inl x0, .inl x1] ∧ f x0 x1 := by
  unfold mq_tII at h
  split at h
  · exact ⟨_, _, rfl, h⟩
  · exact h.elim
theorem mq_nc {P : Nat → Prop} : ∀ pc, ([] : List Nat).contains pc = true → P pc := fun pc h => by cases h
theorem mq_c1 {a : Nat} {P : Nat → Prop} (h1 : P a) : ∀ pc, [a].contains pc = true → P pc := fun pc h => by
  have e : pc = a := by simpa using h
  rw [e]; exact h1
theorem mq_c2 {a b : Nat} {P : Nat → Prop} (h1 : P a) (h2 : P b) : ∀ pc, [a, b].contains pc = true → P pc := fun pc h => by
  have e : pc = a ∨ pc = b := by simpa using h
  rcases e with e | e <;> rw [e] <;> assumption
theorem mq_c3 {a b c : Nat} {P : Nat → Prop} (h1 : P a) (h2 : P b) (h3 : P c) : ∀ pc, [a, b, c].contains pc = true → P pc := fun pc h => by
  have e : pc = a ∨ pc = b ∨ pc = c := by simpa using h
  rcases e with e | e | e <;> rw [e] <;> assumption
theorem mq_c4 {a b c d : Nat} {P : Nat → Prop} (h1 : P a) (h2 : P b) (h3 : P c) (h4 : P d) : ∀ pc, [a, b, c, d].contains pc = true → P pc := fun pc h => by
  have e : pc = a ∨ pc = b ∨ pc = c ∨ pc = d := by simpa using h
  rcases e with e | e | e | e <;> rw [e] <;> assumption
theorem mq_c5 {a b c d f : Nat} {P : Nat → Prop} (h1 : P a) (h2 : P b) (h3 : P c) (h4 : P d) (h5 : P f) : ∀ pc, [a, b, c, d, f].contains pc = true → P pc := fun pc h => by
  have e : pc = a ∨ pc = b ∨ pc = c ∨ pc = d ∨ pc = f := by simpa using h
  rcases e with e | e | e | e | e <;> rw [e] <;> assumption
def mq_f (M : mq_H) (f : Int → Int → Int → Int → Int → Int → Int → Int → Int → Int → Int → mq_A → mq_A → Prop) : Prop := match M with
  | ([cd, lm, st, sg, el, dr, sz, pr, wc, sp, nw], A, B) => f cd lm st sg el dr sz pr wc sp nw A B
  | _ => False
theorem mq_f_e {M : mq_H} {f : Int → Int → Int → Int → Int → Int → Int → Int → Int → Int → Int → mq_A → mq_A → Prop} (h : mq_f M f) : ∃ cd lm st sg el dr sz pr wc sp nw A B, M = ([cd, lm, st, sg, el, dr, sz, pr, wc, sp, nw], A, B) ∧ f cd lm st sg el dr sz pr wc sp nw A B := by
  unfold mq_f at h
  split at h
  · exact ⟨_, _, _, _, _, _, _, _, _, _, _, _, _, rfl, h⟩
  · exact h.elim
def sm_79 (as : List wi_V) (M : mq_H) (q : wi_Q1 mq_H) (_ : wi_Q2 mq_H) : Prop := mq_s as (mq_f M fun cd lm st sg el dr sz pr wc sp nw A B => q (some (.inl cd)) ([cd, lm, st, sg, el, dr, sz, pr, wc, sp, nw], A, B))
theorem mm_79 {l : Launch} {D : va_G} {aC : wm_Y} {b0 : Nat} (hl0 : l.stackTraces = false) : wm_sp l D aC b0 79 (wi_lf mq_Rl sm_79) := by
  refine wi_method mq_lw 79 (cx := fun _ _ _ _ _ => False) (ids := ci_79) (tb := tb_79) (by decide +kernel) hl0 wm_cx0 (wm_tb_ok tk_79) (by decide +kernel) [] 250 (fun as M q qt hs => ?_)
  obtain ⟨rfl, hs1⟩ := mq_s_e hs
  clear hs
  obtain ⟨cd, lm, st, sg, el, dr, sz, pr, wc, sp, nw, A, B, rfl, hs⟩ := mq_f_e hs1
  clear hs1
  refine ⟨rfl, fun _ _ _ _ _ _ _ => False, mq_nc, ?_⟩
  repeat' first
    | exact hs
    | refine And.intro ?_ ?_
    | (intro h; try omega)
    | omega
    | exact Nat.le_of_ble_eq_true rfl
def sm_80 (as : List wi_V) (M : mq_H) (q : wi_Q1 mq_H) (_ : wi_Q2 mq_H) : Prop := mq_sI as (fun p => mq_f M fun cd lm st sg el dr sz pr wc sp nw A B => (p < 0 ∨ pr ≤ p → q (some (.inl 1)) ([cd, lm, st, sg, el, dr, sz, pr, wc, sp, nw], A, B)) ∧ (0 ≤ p → p < pr → q (some (.inl 0)) ([cd, lm, st, sg, el, dr, sz, pr, wc, sp, nw], A, B)))
theorem mm_80 {l : Launch} {D : va_G} {aC : wm_Y} {b0 : Nat} (hl0 : l.stackTraces = false) : wm_sp l D aC b0 80 (wi_lf mq_Rl sm_80) := by
  refine wi_method mq_lw 80 (cx := fun _ _ _ _ _ => False) (ids := ci_80) (tb := tb_80) (by decide +kernel) hl0 wm_cx0 (wm_tb_ok tk_80) (by decide +kernel) [] 250 (fun as M q qt hs => ?_)
  obtain ⟨p, rfl, hs1⟩ := mq_sI_e hs
  clear hs
  obtain ⟨cd, lm, st, sg, el, dr, sz, pr, wc, sp, nw, A, B, rfl, hs⟩ := mq_f_e hs1
  clear hs1
  refine ⟨rfl, fun _ _ _ _ _ _ _ => False, mq_nc, ?_⟩
  repeat' first
    | exact hs.1 (by omega)
    | exact hs.2 (by omega) (by omega)
    | refine And.intro ?_ ?_
    | (intro h; try omega)
    | omega
    | exact Nat.le_of_ble_eq_true rfl
def sm_81 (as : List wi_V) (M : mq_H) (q : wi_Q1 mq_H) (_ : wi_Q2 mq_H) : Prop := mq_sI as (fun p => mq_f M fun cd lm st sg el dr sz pr wc sp nw A B => (p < 0 ∨ sg ≤ p → q (some (.inl 1)) ([cd, lm, st, sg, el, dr, sz, pr, wc, sp, nw], A, B)) ∧ (0 ≤ p → p < sg → q (some (.inl 0)) ([cd, lm, st, sg, el, dr, sz, pr, wc, sp, nw], A, B)))
theorem mm_81 {l : Launch} {D : va_G} {aC : wm_Y} {b0 : Nat} (hl0 : l.stackTraces = false) : wm_sp l D aC b0 81 (wi_lf mq_Rl sm_81) := by
  refine wi_method mq_lw 81 (cx := fun _ _ _ _ _ => False) (ids := ci_81) (tb := tb_81) (by decide +kernel) hl0 wm_cx0 (wm_tb_ok tk_81) (by decide +kernel) [] 250 (fun as M q qt hs => ?_)
  obtain ⟨p, rfl, hs1⟩ := mq_sI_e hs
  clear hs
  obtain ⟨cd, lm, st, sg, el, dr, sz, pr, wc, sp, nw, A, B, rfl, hs⟩ := mq_f_e hs1
  clear hs1
  refine ⟨rfl, fun _ _ _ _ _ _ _ => False, mq_nc, ?_⟩
  repeat' first
    | exact hs.1 (by omega)
    | exact hs.2 (by omega) (by omega)
    | refine And.intro ?_ ?_
    | (intro h; try omega)
    | omega
    | exact Nat.le_of_ble_eq_true rfl
def sm_82 (as : List wi_V) (M : mq_H) (q : wi_Q1 mq_H) (_ : wi_Q2 mq_H) : Prop := mq_sII as (fun s k => mq_f M fun cd lm st sg el dr sz pr wc sp nw A B => sg ≤ 200 ∧ (s < 0 ∨ sg ≤ s ∨ k < 0 ∨ A 31 s.toNat ≤ k → q (some (.inl 1)) ([cd, lm, st, sg, el, dr, sz, pr, wc, sp, nw], A, B)) ∧ (0 ≤ s → s < sg → 0 ≤ k → k < A 31 s.toNat → q (some (.inl 0)) ([cd, lm, st, sg, el, dr, sz, pr, wc, sp, nw], A, B)))
theorem mm_82 {l : Launch} {D : va_G} {aC : wm_Y} {b0 : Nat} (hl0 : l.stackTraces = false) : wm_sp l D aC b0 82 (wi_lf mq_Rl sm_82) := by
  refine wi_method mq_lw 82 (cx := fun id => if id = 81 then sm_81 else fun _ _ _ _ => False) (ids := ci_82) (tb := tb_82) (by decide +kernel) hl0 (wm_cxc (mm_81 hl0) oi_82 (fun h => wm_cxn h)) (wm_tb_ok tk_82) (by decide +kernel) [] 250 (fun as M q qt hs => ?_)
  obtain ⟨s, k, rfl, hs1⟩ := mq_sII_e hs
  clear hs
  obtain ⟨cd, lm, st, sg, el, dr, sz, pr, wc, sp, nw, A, B, rfl, hs⟩ := mq_f_e hs1
  clear hs1
  refine ⟨rfl, fun _ _ _ _ _ _ _ => False, mq_nc, ?_⟩
  obtain ⟨r1, hs⟩ := hs
  repeat' first
    | exact hs.1 (by omega)
    | exact hs.2 (by omega) (by omega) (by omega) (by omega)
    | refine And.intro ?_ ?_
    | (intro h; try omega)
    | omega
    | exact Nat.le_of_ble_eq_true rfl
def sm_88 (as : List wi_V) (M : mq_H) (q : wi_Q1 mq_H) (_ : wi_Q2 mq_H) : Prop := mq_sII as (fun s v => mq_f M fun cd lm st sg el dr sz pr wc sp nw A B => 0 ≤ s ∧ s < 200 ∧ (A 30 s.toNat ≠ 2 → v < 0 ∨ 8 < v → q (some (.inl 1)) ([cd, lm, st, sg, el, dr, sz, pr, wc, sp, nw], A, B)) ∧ (A 30 s.toNat = 2 ∨ (0 ≤ v ∧ v ≤ 8) → q (some (.inl 0)) ([cd, lm, st, sg, el, dr, sz, pr, wc, sp, nw], A, B)))
theorem mm_88 {l : Launch} {D : va_G} {aC : wm_Y} {b0 : Nat} (hl0 : l.stackTraces = false) : wm_sp l D aC b0 88 (wi_lf mq_Rl sm_88) := by
  refine wi_method mq_lw 88 (cx := fun _ _ _ _ _ => False) (ids := ci_88) (tb := tb_88) (by decide +kernel) hl0 wm_cx0 (wm_tb_ok tk_88) (by decide +kernel) [] 250 (fun as M q qt hs => ?_)
  obtain ⟨s, v, rfl, hs1⟩ := mq_sII_e hs
  clear hs
  obtain ⟨cd, lm, st, sg, el, dr, sz, pr, wc, sp, nw, A, B, rfl, hs⟩ := mq_f_e hs1
  clear hs1
  refine ⟨rfl, fun _ _ _ _ _ _ _ => False, mq_nc, ?_⟩
  obtain ⟨r1, r2, hs⟩ := hs
  repeat' first
    | exact hs.1 (by omega) (by omega)
    | exact hs.2 (by omega)
    | refine And.intro ?_ ?_
    | (intro h; try omega)
    | omega
    | exact Nat.le_of_ble_eq_true rfl
def mq_both (x y : Int) : Int := if x = 0 ∨ y = 0 then 0 else if x = 1 ∨ y = 1 ∨ x = 8 ∨ y = 8 ∨ (x = 2 ∧ y = 3) ∨ (x = 3 ∧ y = 2) then 1 else if x = 4 then y else if y = 4 then x else if x = 2 ∨ x = 3 then x else if y = 2 ∨ y = 3 then y else if x = y then x else 5
def sm_91 (as : List wi_V) (M : mq_H) (q : wi_Q1 mq_H) (_ : wi_Q2 mq_H) : Prop := mq_tII as (fun x y => mq_f M fun cd lm st sg el dr sz pr wc sp nw A B => q (some (.inl (mq_both x y))) ([cd, lm, st, sg, el, dr, sz, pr, wc, sp, nw], A, B))
theorem mm_91 {l : Launch} {D : va_G} {aC : wm_Y} {b0 : Nat} (hl0 : l.stackTraces = false) : wm_sp l D aC b0 91 (wi_lf mq_Rl sm_91) := by
  refine wi_method mq_lw 91 (cx := fun _ _ _ _ _ => False) (ids := ci_91) (tb := tb_91) (by decide +kernel) hl0 wm_cx0 (wm_tb_ok tk_91) (by decide +kernel) [] 250 (fun as M q qt hs => ?_)
  obtain ⟨x, y, rfl, hs1⟩ := mq_tII_e hs
  clear hs
  obtain ⟨cd, lm, st, sg, el, dr, sz, pr, wc, sp, nw, A, B, rfl, hs⟩ := mq_f_e hs1
  clear hs1
  refine ⟨rfl, fun _ _ _ _ _ _ _ => False, mq_nc, ?_⟩
  have key : ∀ z, z = mq_both x y → q (some (.inl z)) ([cd, lm, st, sg, el, dr, sz, pr, wc, sp, nw], A, B) := fun z e => by rw [e]; exact hs
  clear hs
  repeat' first
    | (refine key _ ?_; unfold mq_both; repeat (first | rw [if_pos (by omega)] | rw [if_neg (by omega)]))
    | refine And.intro ?_ ?_
    | (intro h; try omega)
    | omega
    | exact Nat.le_of_ble_eq_true rfl
def sm_83 (as : List wi_V) (M : mq_H) (q : wi_Q1 mq_H) (_ : wi_Q2 mq_H) : Prop := mq_sII as (fun c n => mq_f M fun cd lm st sg el dr sz pr wc sp nw A B => 0 ≤ sg ∧ sg ≤ 200 ∧ 0 ≤ el ∧ el ≤ 512 ∧ (c < 0 ∨ 2 < c ∨ n < 1 ∨ (c = 1 ∧ 64 < n) ∨ (c ≠ 1 ∧ 1 < n) → q (some (.inl 0)) ([1, lm, st, sg, el, dr, sz, pr, wc, sp, nw], A, B)) ∧
  (0 ≤ c → c ≤ 2 → 1 ≤ n → (c = 1 → n ≤ 64) → (c ≠ 1 → n ≤ 1) → st ≠ 0 ∨ sg = 200 ∨ 512 < el + n → q (some (.inl 0)) ([2, lm, st, sg, el, dr, sz, pr, wc, sp, nw], A, B)) ∧
  (0 ≤ c → c ≤ 2 → 1 ≤ n → (c = 1 → n ≤ 64) → (c ≠ 1 → n ≤ 1) → st = 0 → sg < 200 → el + n ≤ 512 → q (some (.inl (sg + 1 - 1))) ([0, lm, st, sg + 1, el + n, dr, sz, pr, wc, sp, nw], md_u (md_u (md_u A 30 sg.toNat c) 31 sg.toNat n) 32 sg.toNat el, B)))
theorem mm_83 {l : Launch} {D : va_G} {aC : wm_Y} {b0 : Nat} (hl0 : l.stackTraces = false) : wm_sp l D aC b0 83 (wi_lf mq_Rl sm_83) := by
  refine wi_method mq_lw 83 (cx := fun _ _ _ _ _ => False) (ids := ci_83) (tb := tb_83) (by decide +kernel) hl0 wm_cx0 (wm_tb_ok tk_83) (by decide +kernel) [] 250 (fun as M q qt hs => ?_)
  obtain ⟨c, n, rfl, hs1⟩ := mq_sII_e hs
  clear hs
  obtain ⟨cd, lm, st, sg, el, dr, sz, pr, wc, sp, nw, A, B, rfl, hs⟩ := mq_f_e hs1
  clear hs1
  refine ⟨rfl, fun _ _ _ _ _ _ _ => False, mq_nc, ?_⟩
  obtain ⟨r1, r2, r3, r4, h1, h2, h3⟩ := hs
  repeat' first
    | exact h1 (by omega)
    | exact h2 (by omega) (by omega) (by omega) (by omega) (by omega) (by omega)
    | (refine h3 ?_ ?_ ?_ ?_ ?_ ?_ ?_ ?_ <;> omega)
    | (subst_vars; refine h3 ?_ ?_ ?_ ?_ ?_ ?_ ?_ ?_ <;> omega)
    | refine And.intro ?_ ?_
    | (intro h; try omega)
    | omega
    | exact Nat.le_of_ble_eq_true rfl
def sm_84 (as : List wi_V) (M : mq_H) (q : wi_Q1 mq_H) (_ : wi_Q2 mq_H) : Prop := mq_s as (mq_f M fun cd lm st sg el dr sz pr wc sp nw A B => 0 ≤ pr ∧ pr ≤ 64 ∧ (st ≠ 0 ∨ pr = 64 → q (some (.inl 0)) ([1, lm, st, sg, el, dr, sz, pr, wc, sp, nw], A, B)) ∧ (st = 0 → pr < 64 → q (some (.inl (pr + 1 - 1))) ([0, lm, st, sg, el, dr, sz, pr + 1, wc, sp, nw], md_u A 46 pr.toNat 1, md_u B 48 pr.toNat (-1))))
theorem mm_84 {l : Launch} {D : va_G} {aC : wm_Y} {b0 : Nat} (hl0 : l.stackTraces = false) : wm_sp l D aC b0 84 (wi_lf mq_Rl sm_84) := by
  refine wi_method mq_lw 84 (cx := fun _ _ _ _ _ => False) (ids := ci_84) (tb := tb_84) (by decide +kernel) hl0 wm_cx0 (wm_tb_ok tk_84) (by decide +kernel) [] 250 (fun as M q qt hs => ?_)
  obtain ⟨rfl, hs1⟩ := mq_s_e hs
  clear hs
  obtain ⟨cd, lm, st, sg, el, dr, sz, pr, wc, sp, nw, A, B, rfl, hs⟩ := mq_f_e hs1
  clear hs1
  refine ⟨rfl, fun _ _ _ _ _ _ _ => False, mq_nc, ?_⟩
  obtain ⟨r1, r2, h1, h2⟩ := hs
  repeat' first
    | exact h1 (by omega)
    | (subst_vars; refine h2 ?_ ?_ <;> omega)
    | refine And.intro ?_ ?_
    | (intro h; try omega)
    | omega
    | exact Nat.le_of_ble_eq_true rfl
def sm_89 (as : List wi_V) (M : mq_H) (q : wi_Q1 mq_H) (_ : wi_Q2 mq_H) : Prop := mq_sIII as (fun s k v => mq_f M fun cd lm st sg el dr sz pr wc sp nw A B => sg ≤ 200 ∧ (∀ s : Nat, (s : Int) < sg → 0 ≤ A 32 s ∧ A 32 s + A 31 s ≤ 512) ∧ (s < 0 ∨ sg ≤ s ∨ k < 0 ∨ A 31 s.toNat ≤ k → q none ([1, lm, st, sg, el, dr, sz, pr, wc, sp, nw], A, B)) ∧
  (0 ≤ s → s < sg → 0 ≤ k → k < A 31 s.toNat → A 30 s.toNat ≠ 2 → v < 0 ∨ 8 < v → q none ([2, lm, st, sg, el, dr, sz, pr, wc, sp, nw], A, B)) ∧
  (0 ≤ s → s < sg → 0 ≤ k → k < A 31 s.toNat → A 30 s.toNat = 2 ∨ (0 ≤ v ∧ v ≤ 8) → st ≠ 0 → q none ([3, lm, st, sg, el, dr, sz, pr, wc, sp, nw], A, B)) ∧
  (0 ≤ s → s < sg → 0 ≤ k → k < A 31 s.toNat → A 30 s.toNat = 2 ∨ (0 ≤ v ∧ v ≤ 8) → st = 0 → q none ([0, lm, st, sg, el, dr, sz, pr, wc, sp, nw], md_u A 35 (A 32 s.toNat + k).toNat v, B)))
theorem mm_89 {l : Launch} {D : va_G} {aC : wm_Y} {b0 : Nat} (hl0 : l.stackTraces = false) : wm_sp l D aC b0 89 (wi_lf mq_Rl sm_89) := by
  refine wi_method mq_lw 89 (cx := fun id => if id = 82 then sm_82 else if id = 88 then sm_88 else fun _ _ _ _ => False) (ids := ci_89) (tb := tb_89) (by decide +kernel) hl0 (wm_cxc (mm_82 hl0) oi_89 (fun h => wm_cxc (mm_88 hl0) h (fun h => wm_cxn h))) (wm_tb_ok tk_89) (by decide +kernel) [] 250 (fun as M q qt hs => ?_)
  obtain ⟨s, k, v, rfl, hs1⟩ := mq_sIII_e hs
  clear hs
  obtain ⟨cd, lm, st, sg, el, dr, sz, pr, wc, sp, nw, A, B, rfl, hs⟩ := mq_f_e hs1
  clear hs1
  refine ⟨rfl, fun _ _ _ _ _ _ _ => False, mq_nc, ?_⟩
  obtain ⟨r1, r2, h1, h2, h3, h4⟩ := hs
  have r3 := r2 s.toNat
  clear r2
  repeat' first
    | exact h1 (by omega)
    | exact h2 (by omega) (by omega) (by omega) (by omega) (by omega) (by omega)
    | exact h3 (by omega) (by omega) (by omega) (by omega) (by omega) (by omega)
    | (subst_vars; refine h4 ?_ ?_ ?_ ?_ ?_ ?_ <;> omega)
    | refine And.intro ?_ ?_
    | (intro h; try omega)
    | omega
    | exact Nat.le_of_ble_eq_true rfl
def sm_94 (as : List wi_V) (M : mq_H) (q : wi_Q1 mq_H) (_ : wi_Q2 mq_H) : Prop := mq_sII as (fun k v => mq_f M fun cd lm st sg el dr sz pr wc sp nw A B => 0 ≤ wc ∧ wc ≤ 16 ∧ (k < 0 ∨ 63 < k → q none ([1, lm, st, sg, el, dr, sz, pr, wc, sp, nw], A, B)) ∧ (0 ≤ k → k ≤ 63 → wc = 0 → q none ([2, lm, st, sg, el, dr, sz, pr, wc, sp, nw], A, B)) ∧ (0 ≤ k → k ≤ 63 → wc ≠ 0 → q none ([0, lm, st, sg, el, dr, sz, pr, wc, sp, nw], md_u A 51 (64 * wc - 64 + k).toNat v, B)))
theorem mm_94 {l : Launch} {D : va_G} {aC : wm_Y} {b0 : Nat} (hl0 : l.stackTraces = false) : wm_sp l D aC b0 94 (wi_lf mq_Rl sm_94) := by
  refine wi_method mq_lw 94 (cx := fun _ _ _ _ _ => False) (ids := ci_94) (tb := tb_94) (by decide +kernel) hl0 wm_cx0 (wm_tb_ok tk_94) (by decide +kernel) [] 250 (fun as M q qt hs => ?_)
  obtain ⟨k, v, rfl, hs1⟩ := mq_sII_e hs
  clear hs
  obtain ⟨cd, lm, st, sg, el, dr, sz, pr, wc, sp, nw, A, B, rfl, hs⟩ := mq_f_e hs1
  clear hs1
  refine ⟨rfl, fun _ _ _ _ _ _ _ => False, mq_nc, ?_⟩
  obtain ⟨r1, r2, h1, h2, h3⟩ := hs
  repeat' first
    | exact h1 (by omega)
    | exact h2 (by omega) (by omega) (by omega)
    | (subst_vars; refine h3 ?_ ?_ ?_ <;> omega)
    | refine And.intro ?_ ?_
    | (intro h; try omega)
    | omega
    | exact Nat.le_of_ble_eq_true rfl
def sm_99 (as : List wi_V) (M : mq_H) (q : wi_Q1 mq_H) (_ : wi_Q2 mq_H) : Prop := mq_sII as (fun i j => mq_f M fun cd lm st sg el dr sz pr wc sp nw A B => 0 ≤ i ∧ i < 8192 ∧ 0 ≤ j ∧ j < 8192 ∧ q none ([cd, lm, st, sg, el, dr, sz, pr, wc, sp, nw], md_u (md_u A 40 j.toNat (A 40 i.toNat)) 42 j.toNat (A 42 i.toNat), md_u B 41 j.toNat (B 41 i.toNat)))
theorem mm_99 {l : Launch} {D : va_G} {aC : wm_Y} {b0 : Nat} (hl0 : l.stackTraces = false) : wm_sp l D aC b0 99 (wi_lf mq_Rl sm_99) := by
  refine wi_method mq_lw 99 (cx := fun _ _ _ _ _ => False) (ids := ci_99) (tb := tb_99) (by decide +kernel) hl0 wm_cx0 (wm_tb_ok tk_99) (by decide +kernel) [] 250 (fun as M q qt hs => ?_)
  obtain ⟨i, j, rfl, hs1⟩ := mq_sII_e hs
  clear hs
  obtain ⟨cd, lm, st, sg, el, dr, sz, pr, wc, sp, nw, A, B, rfl, hs⟩ := mq_f_e hs1
  clear hs1
  refine ⟨rfl, fun _ _ _ _ _ _ _ => False, mq_nc, ?_⟩
  obtain ⟨r1, r2, r3, r4, h1⟩ := hs
  repeat' first
    | (subst_vars; simp only [md_u_t (show (42 : Nat) ≠ 40 by decide)]; exact h1)
    | refine And.intro ?_ ?_
    | (intro h; try omega)
    | omega
    | exact Nat.le_of_ble_eq_true rfl
def sm_100 (as : List wi_V) (M : mq_H) (q : wi_Q1 mq_H) (_ : wi_Q2 mq_H) : Prop := mq_sI as (fun s => mq_f M fun cd lm st sg el dr sz pr wc sp nw A B => sg ≤ 200 ∧ (s < 0 ∨ sg ≤ s → q none ([1, lm, st, sg, el, dr, sz, pr, wc, sp, nw], A, B)) ∧ (0 ≤ s → s < sg → q none ([0, lm, st, sg, el, dr, sz, pr, wc, sp, nw], md_u A 50 s.toNat 1, B)))
theorem mm_100 {l : Launch} {D : va_G} {aC : wm_Y} {b0 : Nat} (hl0 : l.stackTraces = false) : wm_sp l D aC b0 100 (wi_lf mq_Rl sm_100) := by
  refine wi_method mq_lw 100 (cx := fun id => if id = 81 then sm_81 else fun _ _ _ _ => False) (ids := ci_100) (tb := tb_100) (by decide +kernel) hl0 (wm_cxc (mm_81 hl0) oi_100 (fun h => wm_cxn h)) (wm_tb_ok tk_100) (by decide +kernel) [] 250 (fun as M q qt hs => ?_)
  obtain ⟨s, rfl, hs1⟩ := mq_sI_e hs
  clear hs
  obtain ⟨cd, lm, st, sg, el, dr, sz, pr, wc, sp, nw, A, B, rfl, hs⟩ := mq_f_e hs1
  clear hs1
  refine ⟨rfl, fun _ _ _ _ _ _ _ => False, mq_nc, ?_⟩
  obtain ⟨r1, h1, h2⟩ := hs
  repeat' first
    | exact h1 (by omega)
    | (subst_vars; refine h2 ?_ ?_ <;> omega)
    | refine And.intro ?_ ?_
    | (intro h; try omega)
    | omega
    | exact Nat.le_of_ble_eq_true rfl
def sm_102 (as : List wi_V) (M : mq_H) (q : wi_Q1 mq_H) (_ : wi_Q2 mq_H) : Prop := mq_sI as (fun p => mq_f M fun cd lm st sg el dr sz pr wc sp nw A B => pr ≤ 64 ∧ (p < 0 ∨ pr ≤ p → q none ([1, lm, st, sg, el, dr, sz, pr, wc, sp, nw], A, B)) ∧ (0 ≤ p → p < pr → A 46 p.toNat ≠ 0 → A 46 p.toNat ≠ 2 → q none ([2, lm, st, sg, el, dr, sz, pr, wc, sp, nw], A, B)) ∧ (0 ≤ p → p < pr → A 46 p.toNat = 0 ∨ A 46 p.toNat = 2 → q none ([0, lm, st, sg, el, dr, sz, pr, wc, sp, nw], md_u A 46 p.toNat 3, B)))
theorem mm_102 {l : Launch} {D : va_G} {aC : wm_Y} {b0 : Nat} (hl0 : l.stackTraces = false) : wm_sp l D aC b0 102 (wi_lf mq_Rl sm_102) := by
  refine wi_method mq_lw 102 (cx := fun id => if id = 80 then sm_80 else fun _ _ _ _ => False) (ids := ci_102) (tb := tb_102) (by decide +kernel) hl0 (wm_cxc (mm_80 hl0) oi_102 (fun h => wm_cxn h)) (wm_tb_ok tk_102) (by decide +kernel) [] 250 (fun as M q qt hs => ?_)
  obtain ⟨p, rfl, hs1⟩ := mq_sI_e hs
  clear hs
  obtain ⟨cd, lm, st, sg, el, dr, sz, pr, wc, sp, nw, A, B, rfl, hs⟩ := mq_f_e hs1
  clear hs1
  refine ⟨rfl, fun _ _ _ _ _ _ _ => False, mq_nc, ?_⟩
  obtain ⟨r1, h1, h2, h3⟩ := hs
  repeat' first
    | exact h1 (by omega)
    | exact h2 (by omega) (by omega) (by omega) (by omega)
    | (subst_vars; refine h3 ?_ ?_ ?_ <;> omega)
    | refine And.intro ?_ ?_
    | (intro h; try omega)
    | omega
    | exact Nat.le_of_ble_eq_true rfl
def sm_103 (as : List wi_V) (M : mq_H) (q : wi_Q1 mq_H) (_ : wi_Q2 mq_H) : Prop := mq_sII as (fun p y => mq_f M fun cd lm st sg el dr sz pr wc sp nw A B => pr ≤ 64 ∧ (p < 0 ∨ pr ≤ p → q none ([1, lm, st, sg, el, dr, sz, pr, wc, sp, nw], A, B)) ∧ (0 ≤ p → p < pr → A 46 p.toNat ≠ 2 → q none ([2, lm, st, sg, el, dr, sz, pr, wc, sp, nw], A, B)) ∧ (0 ≤ p → p < pr → A 46 p.toNat = 2 → (y ≠ 0 → q none ([0, lm, st, sg, el, dr, sz, pr, wc, sp, nw], md_u A 46 p.toNat 0, B)) ∧ (y = 0 → q none ([0, lm, st, sg, el, dr, sz, pr, wc, sp, nw], md_u A 46 p.toNat 1, B))))
theorem mm_103 {l : Launch} {D : va_G} {aC : wm_Y} {b0 : Nat} (hl0 : l.stackTraces = false) : wm_sp l D aC b0 103 (wi_lf mq_Rl sm_103) := by
  refine wi_method mq_lw 103 (cx := fun id => if id = 80 then sm_80 else fun _ _ _ _ => False) (ids := ci_103) (tb := tb_103) (by decide +kernel) hl0 (wm_cxc (mm_80 hl0) oi_103 (fun h => wm_cxn h)) (wm_tb_ok tk_103) (by decide +kernel) [] 250 (fun as M q qt hs => ?_)
  obtain ⟨p, y, rfl, hs1⟩ := mq_sII_e hs
  clear hs
  obtain ⟨cd, lm, st, sg, el, dr, sz, pr, wc, sp, nw, A, B, rfl, hs⟩ := mq_f_e hs1
  clear hs1
  refine ⟨rfl, fun _ _ _ _ _ _ _ => False, mq_nc, ?_⟩
  obtain ⟨r1, h1, h2, h3⟩ := hs
  repeat' first
    | exact h1 (by omega)
    | exact h2 (by omega) (by omega) (by omega)
    | (subst_vars; exact (h3 (by omega) (by omega) (by omega)).1 (by omega))
    | (subst_vars; exact (h3 (by omega) (by omega) (by omega)).2 (by omega))
    | refine And.intro ?_ ?_
    | (intro h; try omega)
    | omega
    | exact Nat.le_of_ble_eq_true rfl
def sm_110 (as : List wi_V) (M : mq_H) (q : wi_Q1 mq_H) (_ : wi_Q2 mq_H) : Prop := mq_sI as (fun p => mq_f M fun cd lm st sg el dr sz pr wc sp nw A B => pr ≤ 64 ∧ (p < 0 ∨ pr ≤ p → q (some (.inl 0)) ([1, lm, st, sg, el, dr, sz, pr, wc, sp, nw], A, B)) ∧ (0 ≤ p → p < pr → q (some (.inl (A 46 p.toNat))) ([0, lm, st, sg, el, dr, sz, pr, wc, sp, nw], A, B)))
theorem mm_110 {l : Launch} {D : va_G} {aC : wm_Y} {b0 : Nat} (hl0 : l.stackTraces = false) : wm_sp l D aC b0 110 (wi_lf mq_Rl sm_110) := by
  refine wi_method mq_lw 110 (cx := fun id => if id = 80 then sm_80 else fun _ _ _ _ => False) (ids := ci_110) (tb := tb_110) (by decide +kernel) hl0 (wm_cxc (mm_80 hl0) oi_110 (fun h => wm_cxn h)) (wm_tb_ok tk_110) (by decide +kernel) [] 250 (fun as M q qt hs => ?_)
  obtain ⟨p, rfl, hs1⟩ := mq_sI_e hs
  clear hs
  obtain ⟨cd, lm, st, sg, el, dr, sz, pr, wc, sp, nw, A, B, rfl, hs⟩ := mq_f_e hs1
  clear hs1
  refine ⟨rfl, fun _ _ _ _ _ _ _ => False, mq_nc, ?_⟩
  obtain ⟨r1, h1, h2⟩ := hs
  repeat' first
    | exact h1 (by omega)
    | exact h2 (by omega) (by omega)
    | refine And.intro ?_ ?_
    | (intro h; try omega)
    | omega
    | exact Nat.le_of_ble_eq_true rfl
def sm_112 (as : List wi_V) (M : mq_H) (q : wi_Q1 mq_H) (_ : wi_Q2 mq_H) : Prop := mq_sIII as (fun s k y => mq_f M fun cd lm st sg el dr sz pr wc sp nw A B => sg ≤ 200 ∧ (∀ s : Nat, (s : Int) < sg → 0 ≤ A 32 s ∧ A 32 s + A 31 s ≤ 512) ∧ (s < 0 ∨ sg ≤ s ∨ k < 0 ∨ A 31 s.toNat ≤ k → q (some (.inl 0)) ([1, lm, st, sg, el, dr, sz, pr, wc, sp, nw], A, B)) ∧
  (0 ≤ s → s < sg → 0 ≤ k → k < A 31 s.toNat → (y ≠ 0 → q (some (.inl (A 36 (A 32 s.toNat + k).toNat))) ([0, lm, st, sg, el, dr, sz, pr, wc, sp, nw], A, B)) ∧ (y = 0 → q (some (.inl (A 35 (A 32 s.toNat + k).toNat))) ([0, lm, st, sg, el, dr, sz, pr, wc, sp, nw], A, B))))
theorem mm_112 {l : Launch} {D : va_G} {aC : wm_Y} {b0 : Nat} (hl0 : l.stackTraces = false) : wm_sp l D aC b0 112 (wi_lf mq_Rl sm_112) := by
  refine wi_method mq_lw 112 (cx := fun id => if id = 82 then sm_82 else fun _ _ _ _ => False) (ids := ci_112) (tb := tb_112) (by decide +kernel) hl0 (wm_cxc (mm_82 hl0) oi_112 (fun h => wm_cxn h)) (wm_tb_ok tk_112) (by decide +kernel) [] 250 (fun as M q qt hs => ?_)
  obtain ⟨s, k, y, rfl, hs1⟩ := mq_sIII_e hs
  clear hs
  obtain ⟨cd, lm, st, sg, el, dr, sz, pr, wc, sp, nw, A, B, rfl, hs⟩ := mq_f_e hs1
  clear hs1
  refine ⟨rfl, fun _ _ _ _ _ _ _ => False, mq_nc, ?_⟩
  obtain ⟨r1, r2, h1, h2⟩ := hs
  have r3 := r2 s.toNat
  clear r2
  repeat' first
    | exact h1 (by omega)
    | exact (h2 (by omega) (by omega) (by omega) (by omega)).1 (by omega)
    | exact (h2 (by omega) (by omega) (by omega) (by omega)).2 (by omega)
    | refine And.intro ?_ ?_
    | (intro h; try omega)
    | omega
    | exact Nat.le_of_ble_eq_true rfl
def sm_113 (as : List wi_V) (M : mq_H) (q : wi_Q1 mq_H) (_ : wi_Q2 mq_H) : Prop := mq_sI as (fun s => mq_f M fun cd lm st sg el dr sz pr wc sp nw A B => sg ≤ 200 ∧ (s < 0 ∨ sg ≤ s → q (some (.inl 0)) ([1, lm, st, sg, el, dr, sz, pr, wc, sp, nw], A, B)) ∧ (0 ≤ s → s < sg → (A 34 s.toNat ≠ 0 → q (some (.inl 3)) ([0, lm, st, sg, el, dr, sz, pr, wc, sp, nw], A, B)) ∧ (A 34 s.toNat = 0 → A 33 s.toNat ≠ 0 → q (some (.inl 1)) ([0, lm, st, sg, el, dr, sz, pr, wc, sp, nw], A, B)) ∧ (A 34 s.toNat = 0 → A 33 s.toNat = 0 → q (some (.inl 0)) ([0, lm, st, sg, el, dr, sz, pr, wc, sp, nw], A, B))))
theorem mm_113 {l : Launch} {D : va_G} {aC : wm_Y} {b0 : Nat} (hl0 : l.stackTraces = false) : wm_sp l D aC b0 113 (wi_lf mq_Rl sm_113) := by
  refine wi_method mq_lw 113 (cx := fun id => if id = 81 then sm_81 else fun _ _ _ _ => False) (ids := ci_113) (tb := tb_113) (by decide +kernel) hl0 (wm_cxc (mm_81 hl0) oi_113 (fun h => wm_cxn h)) (wm_tb_ok tk_113) (by decide +kernel) [] 250 (fun as M q qt hs => ?_)
  obtain ⟨s, rfl, hs1⟩ := mq_sI_e hs
  clear hs
  obtain ⟨cd, lm, st, sg, el, dr, sz, pr, wc, sp, nw, A, B, rfl, hs⟩ := mq_f_e hs1
  clear hs1
  refine ⟨rfl, fun _ _ _ _ _ _ _ => False, mq_nc, ?_⟩
  obtain ⟨r1, h1, h2⟩ := hs
  repeat' first
    | exact h1 (by omega)
    | exact (h2 (by omega) (by omega)).1 (by omega)
    | exact (h2 (by omega) (by omega)).2.1 (by omega) (by omega)
    | exact (h2 (by omega) (by omega)).2.2 (by omega) (by omega)
    | refine And.intro ?_ ?_
    | (intro h; try omega)
    | omega
    | exact Nat.le_of_ble_eq_true rfl
def sm_115 (as : List wi_V) (M : mq_H) (q : wi_Q1 mq_H) (_ : wi_Q2 mq_H) : Prop := mq_s as (mq_f M fun cd lm st sg el dr sz pr wc sp nw A B => q (some (.inr (.inl nw))) ([0, lm, st, sg, el, dr, sz, pr, wc, sp, nw], A, B))
theorem mm_115 {l : Launch} {D : va_G} {aC : wm_Y} {b0 : Nat} (hl0 : l.stackTraces = false) : wm_sp l D aC b0 115 (wi_lf mq_Rl sm_115) := by
  refine wi_method mq_lw 115 (cx := fun _ _ _ _ _ => False) (ids := ci_115) (tb := tb_115) (by decide +kernel) hl0 wm_cx0 (wm_tb_ok tk_115) (by decide +kernel) [] 250 (fun as M q qt hs => ?_)
  obtain ⟨rfl, hs1⟩ := mq_s_e hs
  clear hs
  obtain ⟨cd, lm, st, sg, el, dr, sz, pr, wc, sp, nw, A, B, rfl, hs⟩ := mq_f_e hs1
  clear hs1
  refine ⟨rfl, fun _ _ _ _ _ _ _ => False, mq_nc, ?_⟩
  repeat' first
    | exact hs
    | refine And.intro ?_ ?_
    | (intro h; try omega)
    | omega
    | exact Nat.le_of_ble_eq_true rfl
def sm_116 (as : List wi_V) (M : mq_H) (q : wi_Q1 mq_H) (_ : wi_Q2 mq_H) : Prop := mq_s as (mq_f M fun cd lm st sg el dr sz pr wc sp nw A B => q (some (.inl sp)) ([0, lm, st, sg, el, dr, sz, pr, wc, sp, nw], A, B))
theorem mm_116 {l : Launch} {D : va_G} {aC : wm_Y} {b0 : Nat} (hl0 : l.stackTraces = false) : wm_sp l D aC b0 116 (wi_lf mq_Rl sm_116) := by
  refine wi_method mq_lw 116 (cx := fun _ _ _ _ _ => False) (ids := ci_116) (tb := tb_116) (by decide +kernel) hl0 wm_cx0 (wm_tb_ok tk_116) (by decide +kernel) [] 250 (fun as M q qt hs => ?_)
  obtain ⟨rfl, hs1⟩ := mq_s_e hs
  clear hs
  obtain ⟨cd, lm, st, sg, el, dr, sz, pr, wc, sp, nw, A, B, rfl, hs⟩ := mq_f_e hs1
  clear hs1
  refine ⟨rfl, fun _ _ _ _ _ _ _ => False, mq_nc, ?_⟩
  repeat' first
    | exact hs
    | refine And.intro ?_ ?_
    | (intro h; try omega)
    | omega
    | exact Nat.le_of_ble_eq_true rfl
