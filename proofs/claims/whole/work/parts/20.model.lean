/-! THE REFERENCE's STATE: what its one object and its arrays hold, by tag and place -/
abbrev md_M : Type := (Nat → Nat → Int32) × (Nat → Nat → Int64)
def md_u {α : Type} (f : Nat → Nat → α) (t k : Nat) (v : α) : Nat → Nat → α := fun t' k' => if t' = t ∧ k' = k then v else f t' k'
theorem md_u_s {α : Type} {f : Nat → Nat → α} {t k : Nat} {v : α} : md_u f t k v t k = v := by simp [md_u]
theorem md_u_t {α : Type} {f : Nat → Nat → α} {t t' k : Nat} {v : α} (h : t' ≠ t) : md_u f t k v t' = f t' := by funext k'; simp [md_u, h]
theorem md_u_k {α : Type} {f : Nat → Nat → α} {t t' k k' : Nat} {v : α} (h : k' ≠ k) : md_u f t k v t' k' = f t' k' := by simp [md_u, h]
/-- its arrays: the field's place, the tag, the length -/
def md_as : List (Nat × Nat × Nat) := [(4, 30, 200), (5, 31, 200), (6, 32, 200), (7, 33, 200), (8, 34, 200), (10, 35, 512), (11, 36, 512), (13, 37, 512), (14, 38, 512), (15, 39, 512), (17, 40, 8192), (18, 41, 8192), (19, 42, 8192), (20, 43, 8208), (21, 44, 8208), (22, 45, 8208), (24, 46, 64), (25, 47, 64), (26, 48, 64), (27, 49, 12800), (28, 50, 200), (29, 51, 1024), (30, 52, 16)]
def md_R (h : wm_H) (m : Nat) (ad : Nat → Nat) (M : md_M) : Prop :=
  h.1 m = 11 ∧ (∀ k, h.2.2.1 11 k m = M.1 11 k) ∧ (∀ k, h.2.2.2.1 11 k m = M.2 11 k) ∧ ∀ x ∈ md_as, h.2.2.2.2.1 11 x.1 m = some (ad x.2.1) ∧ h.1 (ad x.2.1) = x.2.1 ∧ h.2.1 (ad x.2.1) = x.2.2 ∧ (∀ k, h.2.2.1 x.2.1 k (ad x.2.1) = M.1 x.2.1 k) ∧ ∀ k, h.2.2.2.1 x.2.1 k (ad x.2.1) = M.2 x.2.1 k
/-- nothing else has changed -/
def md_F (h0 h : wm_H) : Prop := h.1 = h0.1 ∧ h.2.1 = h0.2.1 ∧ (∀ t, t < 30 → t ≠ 11 → h.2.2.1 t = h0.2.2.1 t ∧ h.2.2.2.1 t = h0.2.2.2.1 t) ∧ h.2.2.2.2.1 = h0.2.2.2.2.1 ∧ h.2.2.2.2.2 = h0.2.2.2.2.2
def md_S (h0 h : wm_H) (m : Nat) (ad : Nat → Nat) (M : md_M) : Prop := md_R h m ad M ∧ md_F h0 h
theorem md_S_rf {h : wm_H} {m : Nat} {ad : Nat → Nat} {M : md_M} (H : md_R h m ad M) : md_S h h m ad M := ⟨H, rfl, rfl, fun _ _ _ => ⟨rfl, rfl⟩, rfl, rfl⟩
theorem md_F_tr {h0 h1 h2 : wm_H} (a : md_F h0 h1) (b : md_F h1 h2) : md_F h0 h2 :=
  ⟨b.1.trans a.1, b.2.1.trans a.2.1, fun t h h' => ⟨(b.2.2.1 t h h').1.trans (a.2.2.1 t h h').1, (b.2.2.1 t h h').2.trans (a.2.2.1 t h h').2⟩, b.2.2.2.1.trans a.2.2.2.1, b.2.2.2.2.trans a.2.2.2.2⟩
theorem md_as_t : ∀ x ∈ md_as, 30 ≤ x.2.1 := by decide
theorem md_as_i : ∀ x ∈ md_as, ∀ y ∈ md_as, x.2.1 = y.2.1 → x = y := by decide
theorem md_arr {h0 h : wm_H} {m : Nat} {ad : Nat → Nat} {M : md_M} (H : md_S h0 h m ad M) (x : Nat × Nat × Nat) (hx : x ∈ md_as) : h.2.2.2.2.1 11 x.1 m = some (ad x.2.1) ∧ h.1 (ad x.2.1) = x.2.1 ∧ h.2.1 (ad x.2.1) = x.2.2 ∧ (∀ k, h.2.2.1 x.2.1 k (ad x.2.1) = M.1 x.2.1 k) ∧ ∀ k, h.2.2.2.1 x.2.1 k (ad x.2.1) = M.2 x.2.1 k := H.1.2.2.2 x hx
theorem md_fi {h0 h : wm_H} {m : Nat} {ad : Nat → Nat} {M : md_M} (H : md_S h0 h m ad M) (k : Nat) (v : Int32) : md_S h0 (wm_wr h 11 k m (.inl v)) m ad (md_u M.1 11 k v, M.2) := by
  obtain ⟨⟨r1, r2, r3, r4⟩, f1, f2, f3, f4, f5⟩ := H
  refine ⟨⟨r1, fun j => ?_, r3, fun x hx => ?_⟩, f1, f2, fun t h1 h2 => ⟨?_, (f3 t h1 h2).2⟩, f4, f5⟩
  · show wm_up h.2.2.1 11 k m v 11 j m = md_u M.1 11 k v 11 j
    by_cases e : j = k
    · subst e; rw [wm_up_self, md_u_s]
    · rw [wm_up_k e, md_u_k e]; exact r2 j
  · obtain ⟨a1, a2, a3, a4, a5⟩ := r4 x hx
    have ht := md_as_t x hx
    refine ⟨a1, a2, a3, fun j => ?_, a5⟩
    show wm_up h.2.2.1 11 k m v x.2.1 j (ad x.2.1) = md_u M.1 11 k v x.2.1 j
    rw [wm_up_t (by omega), md_u_t (by omega)]
    exact a4 j
  · show wm_up h.2.2.1 11 k m v t = h0.2.2.1 t
    rw [wm_up_t h2]
    exact (f3 t h1 h2).1
theorem md_fl {h0 h : wm_H} {m : Nat} {ad : Nat → Nat} {M : md_M} (H : md_S h0 h m ad M) (k : Nat) (v : Int64) : md_S h0 (wm_wr h 11 k m (.inr (.inl v))) m ad (M.1, md_u M.2 11 k v) := by
  obtain ⟨⟨r1, r2, r3, r4⟩, f1, f2, f3, f4, f5⟩ := H
  refine ⟨⟨r1, r2, fun j => ?_, fun x hx => ?_⟩, f1, f2, fun t h1 h2 => ⟨(f3 t h1 h2).1, ?_⟩, f4, f5⟩
  · show wm_up h.2.2.2.1 11 k m v 11 j m = md_u M.2 11 k v 11 j
    by_cases e : j = k
    · subst e; rw [wm_up_self, md_u_s]
    · rw [wm_up_k e, md_u_k e]; exact r3 j
  · obtain ⟨a1, a2, a3, a4, a5⟩ := r4 x hx
    have ht := md_as_t x hx
    refine ⟨a1, a2, a3, a4, fun j => ?_⟩
    show wm_up h.2.2.2.1 11 k m v x.2.1 j (ad x.2.1) = md_u M.2 11 k v x.2.1 j
    rw [wm_up_t (by omega), md_u_t (by omega)]
    exact a5 j
  · show wm_up h.2.2.2.1 11 k m v t = h0.2.2.2.1 t
    rw [wm_up_t h2]
    exact (f3 t h1 h2).2
theorem md_ai {h0 h : wm_H} {m : Nat} {ad : Nat → Nat} {M : md_M} (H : md_S h0 h m ad M) (y : Nat × Nat × Nat) (hy : y ∈ md_as) (k : Nat) (v : Int32) : md_S h0 (wm_wr h y.2.1 k (ad y.2.1) (.inl v)) m ad (md_u M.1 y.2.1 k v, M.2) := by
  obtain ⟨⟨r1, r2, r3, r4⟩, f1, f2, f3, f4, f5⟩ := H
  have ht := md_as_t y hy
  refine ⟨⟨r1, fun j => ?_, r3, fun x hx => ?_⟩, f1, f2, fun t h1 h2 => ⟨?_, (f3 t h1 h2).2⟩, f4, f5⟩
  · show wm_up h.2.2.1 y.2.1 k (ad y.2.1) v 11 j m = md_u M.1 y.2.1 k v 11 j
    rw [wm_up_t (by omega), md_u_t (by omega)]
    exact r2 j
  · obtain ⟨a1, a2, a3, a4, a5⟩ := r4 x hx
    refine ⟨a1, a2, a3, fun j => ?_, a5⟩
    show wm_up h.2.2.1 y.2.1 k (ad y.2.1) v x.2.1 j (ad x.2.1) = md_u M.1 y.2.1 k v x.2.1 j
    by_cases e : x.2.1 = y.2.1
    · rw [e] at a4 ⊢
      by_cases e2 : j = k
      · subst e2; rw [wm_up_self, md_u_s]
      · rw [wm_up_k e2, md_u_k e2]; exact a4 j
    · rw [wm_up_t e, md_u_t e]
      exact a4 j
  · show wm_up h.2.2.1 y.2.1 k (ad y.2.1) v t = h0.2.2.1 t
    rw [wm_up_t (by omega)]
    exact (f3 t h1 h2).1
theorem md_al {h0 h : wm_H} {m : Nat} {ad : Nat → Nat} {M : md_M} (H : md_S h0 h m ad M) (y : Nat × Nat × Nat) (hy : y ∈ md_as) (k : Nat) (v : Int64) : md_S h0 (wm_wr h y.2.1 k (ad y.2.1) (.inr (.inl v))) m ad (M.1, md_u M.2 y.2.1 k v) := by
  obtain ⟨⟨r1, r2, r3, r4⟩, f1, f2, f3, f4, f5⟩ := H
  have ht := md_as_t y hy
  refine ⟨⟨r1, r2, fun j => ?_, fun x hx => ?_⟩, f1, f2, fun t h1 h2 => ⟨(f3 t h1 h2).1, ?_⟩, f4, f5⟩
  · show wm_up h.2.2.2.1 y.2.1 k (ad y.2.1) v 11 j m = md_u M.2 y.2.1 k v 11 j
    rw [wm_up_t (by omega), md_u_t (by omega)]
    exact r3 j
  · obtain ⟨a1, a2, a3, a4, a5⟩ := r4 x hx
    refine ⟨a1, a2, a3, a4, fun j => ?_⟩
    show wm_up h.2.2.2.1 y.2.1 k (ad y.2.1) v x.2.1 j (ad x.2.1) = md_u M.2 y.2.1 k v x.2.1 j
    by_cases e : x.2.1 = y.2.1
    · rw [e] at a5 ⊢
      by_cases e2 : j = k
      · subst e2; rw [wm_up_self, md_u_s]
      · rw [wm_up_k e2, md_u_k e2]; exact a5 j
    · rw [wm_up_t e, md_u_t e]
      exact a5 j
  · show wm_up h.2.2.2.1 y.2.1 k (ad y.2.1) v t = h0.2.2.2.1 t
    rw [wm_up_t (by omega)]
    exact (f3 t h1 h2).2
/-- a method's contract, said by what it asks -/
def wm_sp (l : Launch) (D : va_G) (aC : wm_Y) (b0 id : Nat) (sp : List wm_V → wm_H → wm_Q1 → wm_Q2 → Prop) : Prop := ∀ as h q1 q2, sp as h q1 q2 → wm_Met l (wm_my id) (wm_cw id :: wm_WG) (wm_mr id) (wm_Pc D aC b0 as h) (wm_Qc D aC b0 q1 q2) (wm_mc id) (wm_ms id) (fun q => b0 ≤ q)
theorem wm_cx0 {l : Launch} {R : Room} {D : va_G} {aC : wm_Y} {b0 : Nat} {cx : wm_X} : wm_cxok l R D aC b0 cx [] := fun _ h => absurd h List.not_mem_nil
theorem wm_cxc {l : Launch} {R : Room} {D : va_G} {aC : wm_Y} {b0 : Nat} {cx : wm_X} {id : Nat} {ids : List Nat} (h1 : wm_sp l D aC b0 id (cx id)) (h2 : (id :: ids).all (wm_oib R) = true) (h3 : ids.all (wm_oib R) = true → wm_cxok l R D aC b0 cx ids) : wm_cxok l R D aC b0 cx (id :: ids) := by
  rw [List.all_cons, Bool.and_eq_true] at h2
  intro i hi
  rcases List.mem_cons.mp hi with rfl | hi
  · exact ⟨wm_oib_ok h2.1, h1⟩
  · exact h3 h2.2 i hi
theorem wm_cxn {l : Launch} {R : Room} {D : va_G} {aC : wm_Y} {b0 : Nat} {cx : wm_X} : ([] : List Nat).all (wm_oib R) = true → wm_cxok l R D aC b0 cx [] := fun _ => wm_cx0
