/-! THE ABSTRACT MACHINE, 1: values, heaps by tag, place and address; what a heap of the machine is to such a one -/
abbrev wm_V : Type := Int32 ⊕ (Int64 ⊕ Option Nat)
def wm_tv (v : wm_V) : Value := match v with
  | .inl x => .int x
  | .inr (.inl x) => .long x
  | .inr (.inr r) => va_rf r
def wm_cat (v : wm_V) : Nat := match v with
  | .inr (.inl _) => 2
  | _ => 1
/-- 0: an int; 1: a long; 2: a reference -/
def wm_vk (v : wm_V) : Nat := match v with
  | .inl _ => 0
  | .inr (.inl _) => 1
  | .inr (.inr _) => 2
theorem wm_cat_tv (v : wm_V) : (wm_tv v).category = wm_cat v := by
  rcases v with x | x | (_ | r) <;> rfl
theorem wm_cats (st : List wm_V) : ((st.map wm_tv).map fun v => v.category).sum = (st.map wm_cat).sum := by
  rw [List.map_map]
  congr 1
  exact List.map_congr_left fun v _ => wm_cat_tv v
abbrev wm_F (α : Type) : Type := Nat → Nat → Nat → α
def wm_up {α : Type} (f : wm_F α) (t k q : Nat) (v : α) : wm_F α := fun t' k' q' => if t' = t ∧ k' = k ∧ q' = q then v else f t' k' q'
theorem wm_up_self {α : Type} {f : wm_F α} {t k q : Nat} {v : α} : wm_up f t k q v t k q = v := by simp [wm_up]
theorem wm_up_t {α : Type} {f : wm_F α} {t t' k q : Nat} {v : α} (h : t' ≠ t) : wm_up f t k q v t' = f t' := by
  funext k' q'; simp [wm_up, h]
theorem wm_up_k {α : Type} {f : wm_F α} {t t' k k' q : Nat} {v : α} (h : k' ≠ k) : wm_up f t k q v t' k' = f t' k' := by
  funext q'; simp [wm_up, h]
theorem wm_up_q {α : Type} {f : wm_F α} {t t' k k' q q' : Nat} {v : α} (h : q' ≠ q) : wm_up f t k q v t' k' q' = f t' k' q' := by
  simp [wm_up, h]
/-- tags, lengths, ints, longs, references, how many cells -/
abbrev wm_H : Type := (Nat → Nat) × (Nat → Nat) × wm_F Int32 × wm_F Int64 × wm_F (Option Nat) × Nat
def wm_ck (t : FieldType) : Nat := match t with
  | .long => 1
  | .object _ => 2
  | .array _ => 2
  | .float => 3
  | .double => 3
  | _ => 0
/-- the word of the kind c -/
def wm_wv (h : wm_H) (c t k q : Nat) : wm_V := match c with
  | 1 => .inr (.inl (h.2.2.2.1 t k q))
  | 2 => .inr (.inr (h.2.2.2.2.1 t k q))
  | _ => .inl (h.2.2.1 t k q)
def wm_rd (h : wm_H) (ty : FieldType) (t k q : Nat) : wm_V := wm_wv h (wm_ck ty) t k q
def wm_wr (h : wm_H) (t k q : Nat) (v : wm_V) : wm_H := match v with
  | .inl x => (h.1, h.2.1, wm_up h.2.2.1 t k q x, h.2.2.2.1, h.2.2.2.2.1, h.2.2.2.2.2)
  | .inr (.inl x) => (h.1, h.2.1, h.2.2.1, wm_up h.2.2.2.1 t k q x, h.2.2.2.2.1, h.2.2.2.2.2)
  | .inr (.inr x) => (h.1, h.2.1, h.2.2.1, h.2.2.2.1, wm_up h.2.2.2.2.1 t k q x, h.2.2.2.2.2)
theorem wm_wr_1 (h : wm_H) (t k q : Nat) (v : wm_V) : (wm_wr h t k q v).1 = h.1 := by
  rcases v with x | x | x <;> rfl
theorem wm_wr_2 (h : wm_H) (t k q : Nat) (v : wm_V) : (wm_wr h t k q v).2.1 = h.2.1 := by
  rcases v with x | x | x <;> rfl
theorem wm_wr_n (h : wm_H) (t k q : Nat) (v : wm_V) : (wm_wr h t k q v).2.2.2.2.2 = h.2.2.2.2.2 := by
  rcases v with x | x | x <;> rfl
theorem wm_rd_q {h : wm_H} {t k q : Nat} {v : wm_V} {ty : FieldType} {t' k' q' : Nat} (n : q' ≠ q) : wm_rd (wm_wr h t k q v) ty t' k' q' = wm_rd h ty t' k' q' := by
  unfold wm_rd wm_wv
  rcases v with x | x | x <;> split <;> simp [wm_wr, wm_up_q n]
theorem wm_rd_k {h : wm_H} {t k q : Nat} {v : wm_V} {ty : FieldType} {t' k' q' : Nat} (n : k' ≠ k) : wm_rd (wm_wr h t k q v) ty t' k' q' = wm_rd h ty t' k' q' := by
  unfold wm_rd wm_wv
  rcases v with x | x | x <;> split <;> simp [wm_wr, wm_up_k n]
theorem wm_rd_self {h : wm_H} {t k q : Nat} {v : wm_V} {ty : FieldType} (e : wm_vk v = wm_ck ty) : wm_rd (wm_wr h t k q v) ty t k q = v := by
  unfold wm_rd wm_wv
  rcases v with x | x | x <;> rw [← e] <;> simp [wm_vk, wm_wr, wm_up_self]
/-- arrays' classes; the script: its cell, its length, its ints -/
abbrev wm_Y : Type := (FieldType → ClassId) × Nat × Nat × (Nat → Int32)
/-- the cell q, as its tag says -/
def wm_at (D : va_G) (aC : wm_Y) (h : wm_H) (H : Heap) (q : Nat) : Prop := h.1 q ≠ 1 → match wm_tags (h.1 q) with
  | none => True
  | some (.inl ci) => ∃ r : vw_C, wm_cls[ci]? = some r ∧ t_OB q (D.1 ci) r.2.2 (D.2 ci) H (fun k => wm_tv (wm_rd h (wm_ty ci k) (h.1 q) k q))
  | some (.inr ty) => H[q]? = some (arrV (aC.1 ty) (h.2.1 q) (fun k => wm_tv (wm_rd h ty (h.1 q) k q)))
def wm_ok (D : va_G) (aC : wm_Y) (b0 : Nat) (h : wm_H) (H : Heap) : Prop :=
  H.size = h.2.2.2.2.2 ∧ b0 ≤ H.size ∧ (∀ q, h.1 q ≠ 0 → (h.1 q ≠ 1 → b0 ≤ q) ∧ q < H.size) ∧ (∀ q, wm_at D aC h H q) ∧ ∀ q, h.1 q = 1 → q = aC.2.1 ∧ h.2.1 q = aC.2.2.1 ∧ ∀ k, h.2.2.1 1 k q = aC.2.2.2 k
theorem wm_at_o {D : va_G} {aC : wm_Y} {h : wm_H} {H : Heap} {q ci : Nat} {r : vw_C} (a : wm_at D aC h H q) (ht : wm_tags (h.1 q) = some (.inl ci)) (hc : wm_cls[ci]? = some r) : t_OB q (D.1 ci) r.2.2 (D.2 ci) H (fun k => wm_tv (wm_rd h (wm_ty ci k) (h.1 q) k q)) := by
  have h1 : h.1 q ≠ 1 := fun z => by rw [z] at ht; cases ht
  have a := a h1
  rw [ht] at a
  obtain ⟨r', h1, h2⟩ := a
  cases Option.some.inj (h1.symm.trans hc)
  exact h2
theorem wm_at_a {D : va_G} {aC : wm_Y} {h : wm_H} {H : Heap} {q : Nat} {ty : FieldType} (a : wm_at D aC h H q) (h1 : h.1 q ≠ 1) (ht : wm_tags (h.1 q) = some (.inr ty)) : H[q]? = some (arrV (aC.1 ty) (h.2.1 q) (fun k => wm_tv (wm_rd h ty (h.1 q) k q))) := by
  have a := a h1
  rw [ht] at a
  exact a
theorem wm_at_kept {D : va_G} {aC : wm_Y} {h h' : wm_H} {H H' : Heap} {q : Nat} (a : wm_at D aC h H q) (hq : H'[q]? = H[q]?) (h1 : h'.1 q = h.1 q) (h2 : h'.2.1 q = h.2.1 q) (h3 : ∀ ty t k, wm_rd h' ty t k q = wm_rd h ty t k q) : wm_at D aC h' H' q := by
  unfold wm_at at a ⊢
  rw [h1]
  intro h9
  have a := a h9
  split at a
  · trivial
  · obtain ⟨r, e1, e2⟩ := a
    refine ⟨r, e1, (e2.kept hq).to fun k _ => ?_⟩
    rw [h3]
  · rw [hq, a, h2]
    congr 2
    funext k
    rw [h3]
theorem wm_up_1 {f : wm_F Int32} {t k q : Nat} {v : Int32} (h : t ≠ 1) : wm_up f t k q v 1 = f 1 := wm_up_t (Ne.symm h)
theorem wm_wr_s {h : wm_H} {t k q : Nat} {v : wm_V} (n : t ≠ 1) : (wm_wr h t k q v).2.2.1 1 = h.2.2.1 1 := by
  rcases v with x | x | x
  · exact wm_up_1 n
  · rfl
  · rfl
/-- behind a write of a field -/
theorem wm_ok_put {D : va_G} {aC : wm_Y} {b0 : Nat} {h : wm_H} {H H' : Heap} {q t ci k : Nat} {r : vw_C} {v : wm_V} {cell : Cell} (O : wm_ok D aC b0 h H) (ht : h.1 q = t) (hg : wm_tags t = some (.inl ci)) (hc : wm_cls[ci]? = some r) (hk : k < r.2.2)
    (hap : ∀ a b, a < r.2.2 → b < r.2.2 → a ≠ b → D.2 ci a ≠ D.2 ci b) (hv : wm_vk v = wm_ck (wm_ty ci k)) (hcell : H[q]? = some cell) (e1 : H'[q]? = some (cell.setSlot (D.2 ci k) (wm_tv v))) (z : H'.size = H.size) (oq : ∀ a, a ≠ q → H'[a]? = H[a]?) : wm_ok D aC b0 (wm_wr h t k q v) H' := by
  obtain ⟨o1, o2, o3, o4, o5⟩ := O
  have n1 : t ≠ 1 := fun z => by rw [z] at hg; cases hg
  refine ⟨by rw [z, wm_wr_n]; exact o1, by rw [z]; exact o2, fun a ha => by rw [wm_wr_1] at ha ⊢; rw [z]; exact o3 a ha, fun a => ?_, fun a ha => ?_⟩
  · by_cases ha : a = q
    · subst ha
      subst ht
      have ob := wm_at_o (o4 a) hg hc
      obtain ⟨cell', c1, c2, c3, c4⟩ := ob
      cases Option.some.inj (hcell.symm.trans c1)
      unfold wm_at
      rw [wm_wr_1, hg]
      intro _
      refine ⟨r, hc, _, e1, c2, c3, fun j hj => ?_⟩
      rw [t_set c4 hap hk (wm_tv v) j hj]
      by_cases e : j = k
      · subst e
        simp [updV, wm_rd_self hv]
      · simp [updV, e, wm_rd_k e]
    · exact wm_at_kept (o4 a) (oq a ha) (by rw [wm_wr_1]) (by rw [wm_wr_2]) fun ty t k => wm_rd_q ha
  · rw [wm_wr_1] at ha
    rw [wm_wr_2, wm_wr_s n1]
    exact o5 a ha
/-- behind a write of an array's element -/
theorem wm_ok_ast {D : va_G} {aC : wm_Y} {b0 : Nat} {h : wm_H} {H H' : Heap} {q t k : Nat} {ty : FieldType} {v : wm_V} (O : wm_ok D aC b0 h H) (ht : h.1 q = t) (n1 : t ≠ 1) (hg : wm_tags t = some (.inr ty)) (hv : wm_vk v = wm_ck ty)
    (e1 : H'[q]? = some ((arrV (aC.1 ty) (h.2.1 q) (fun k => wm_tv (wm_rd h ty (h.1 q) k q))).setSlot k (wm_tv v))) (z : H'.size = H.size) (oq : ∀ a, a ≠ q → H'[a]? = H[a]?) : wm_ok D aC b0 (wm_wr h t k q v) H' := by
  obtain ⟨o1, o2, o3, o4, o5⟩ := O
  refine ⟨by rw [z, wm_wr_n]; exact o1, by rw [z]; exact o2, fun a ha => by rw [wm_wr_1] at ha ⊢; rw [z]; exact o3 a ha, fun a => ?_, fun a ha => ?_⟩
  · by_cases ha : a = q
    · subst ha
      subst ht
      unfold wm_at
      rw [wm_wr_1, hg]
      intro _
      show H'[a]? = _
      rw [e1, arrV_store, wm_wr_2]
      congr 2
      funext j
      by_cases e : j = k
      · subst e
        simp [updV, wm_rd_self hv]
      · simp [updV, e, wm_rd_k e]
    · exact wm_at_kept (o4 a) (oq a ha) (by rw [wm_wr_1]) (by rw [wm_wr_2]) fun ty t k => wm_rd_q ha
  · rw [wm_wr_1] at ha
    rw [wm_wr_2, wm_wr_s n1]
    exact o5 a ha
/-- a new cell at the heap's end: its tag, its length, all 0 or null -/
def wm_nw (h : wm_H) (t n : Nat) : wm_H := (fun q => if q = h.2.2.2.2.2 then t else h.1 q, fun q => if q = h.2.2.2.2.2 then n else h.2.1 q,
  fun t' k' q' => if t' = t ∧ q' = h.2.2.2.2.2 then 0 else h.2.2.1 t' k' q', fun t' k' q' => if t' = t ∧ q' = h.2.2.2.2.2 then 0 else h.2.2.2.1 t' k' q', fun t' k' q' => if t' = t ∧ q' = h.2.2.2.2.2 then none else h.2.2.2.2.1 t' k' q', h.2.2.2.2.2 + 1)
theorem wm_nw_rd {h : wm_H} {t n q : Nat} {ty : FieldType} {t' k' : Nat} (e : q ≠ h.2.2.2.2.2) : wm_rd (wm_nw h t n) ty t' k' q = wm_rd h ty t' k' q := by
  unfold wm_rd wm_wv
  split <;> simp [wm_nw, e]
/-- what a field or an array of the type takes -/
theorem wm_fits {ty : FieldType} {v : wm_V} (h1 : wm_vk v = wm_ck ty) (h2 : ty ≠ .byte ∧ ty ≠ .char ∧ ty ≠ .short) (h3 : wm_ck ty ≠ 3) (h4 : ty = .boolean → v = .inl 0 ∨ v = .inl 1) : fits ty (wm_tv v) = true ∧ narrow ty (wm_tv v) = wm_tv v := by
  cases ty with
  | byte => exact absurd rfl h2.1
  | char => exact absurd rfl h2.2.1
  | short => exact absurd rfl h2.2.2
  | float => exact absurd rfl h3
  | double => exact absurd rfl h3
  | boolean => rcases h4 rfl with rfl | rfl <;> exact ⟨rfl, rfl⟩
  | int => rcases v with x | x | x <;> first | exact ⟨rfl, rfl⟩ | exact absurd h1 (by simp [wm_vk, wm_ck])
  | long => rcases v with x | x | x <;> first | exact ⟨rfl, rfl⟩ | exact absurd h1 (by simp [wm_vk, wm_ck])
  | object C => rcases v with x | x | (_ | x) <;> first | exact ⟨rfl, rfl⟩ | exact absurd h1 (by simp [wm_vk, wm_ck])
  | array C => rcases v with x | x | (_ | x) <;> first | exact ⟨rfl, rfl⟩ | exact absurd h1 (by simp [wm_vk, wm_ck])
def wm_df (ty : FieldType) : wm_V := match wm_ck ty with
  | 1 => .inr (.inl 0)
  | 2 => .inr (.inr none)
  | _ => .inl 0
theorem wm_nw_df {h : wm_H} {t n : Nat} {ty : FieldType} {k' : Nat} : wm_rd (wm_nw h t n) ty t k' h.2.2.2.2.2 = wm_df ty := by
  unfold wm_rd wm_wv wm_df
  split <;> simp [wm_nw]
theorem wm_df_tv {ty : FieldType} (h : wm_ck ty ≠ 3) : wm_tv (wm_df ty) = defaultValue ty := by
  cases ty <;> first | rfl | exact absurd rfl h
theorem wm_ok_new {D : va_G} {aC : wm_Y} {b0 : Nat} {h : wm_H} {H H' : Heap} {t n : Nat} (O : wm_ok D aC b0 h H) (n1 : t ≠ 1) (z : H'.size = H.size + 1) (oq : ∀ a, a < H.size → H'[a]? = H[a]?)
    (hn : wm_at D aC (wm_nw h t n) H' h.2.2.2.2.2) : wm_ok D aC b0 (wm_nw h t n) H' := by
  obtain ⟨o1, o2, o3, o4, o5⟩ := O
  refine ⟨by rw [z, o1]; rfl, by omega, fun a ha => ?_, fun a => ?_, fun a ha => ?_⟩
  · by_cases e : a = h.2.2.2.2.2
    · exact ⟨fun _ => by omega, by omega⟩
    · have h1 : (wm_nw h t n).1 a = h.1 a := by simp [wm_nw, e]
      rw [h1] at ha ⊢
      have := o3 a ha
      exact ⟨this.1, by omega⟩
  · by_cases e : a = h.2.2.2.2.2
    · rw [e]; exact hn
    · by_cases l : a < H.size
      · exact wm_at_kept (o4 a) (oq a l) (by simp [wm_nw, e]) (by simp [wm_nw, e]) fun ty t k => wm_nw_rd e
      · have h0 : h.1 a = 0 := by
          rcases Nat.eq_zero_or_pos (h.1 a) with q | q
          · exact q
          · exact absurd (o3 a (by omega)).2 l
        have h1 : (wm_nw h t n).1 a = 0 := by simp [wm_nw, e, h0]
        unfold wm_at
        rw [h1, wm_tags_0]
        intro _
        trivial
  · have e : a ≠ h.2.2.2.2.2 := by
      intro e
      have : (wm_nw h t n).1 a = t := by simp [wm_nw, e]
      exact n1 (this.symm.trans ha)
    have h1 : (wm_nw h t n).1 a = h.1 a := by simp [wm_nw, e]
    rw [h1] at ha
    have := o5 a ha
    refine ⟨this.1, by simpa [wm_nw, e] using this.2.1, fun k => ?_⟩
    rw [← this.2.2 k]
    simp [wm_nw, e]
/-- more cells that nobody knows -/
def wm_sz (h : wm_H) (n : Nat) : wm_H := (h.1, h.2.1, h.2.2.1, h.2.2.2.1, h.2.2.2.2.1, n)
theorem wm_ok_sz {D : va_G} {aC : wm_Y} {b0 : Nat} {h : wm_H} {H H' : Heap} (O : wm_ok D aC b0 h H) (z : H.size ≤ H'.size) (oq : ∀ a, a < H.size → H'[a]? = H[a]?) : wm_ok D aC b0 (wm_sz h H'.size) H' := by
  obtain ⟨o1, o2, o3, o4, o5⟩ := O
  refine ⟨rfl, by omega, fun a ha => ⟨(o3 a ha).1, by have := (o3 a ha).2; omega⟩, fun a => ?_, o5⟩
  by_cases l : a < H.size
  · exact wm_at_kept (o4 a) (oq a l) rfl rfl fun ty t k => rfl
  · have h0 : h.1 a = 0 := by
      rcases Nat.eq_zero_or_pos (h.1 a) with q | q
      · exact q
      · exact absurd (o3 a (by omega)).2 l
    have h1 : (wm_sz h H'.size).1 a = 0 := h0
    unfold wm_at
    rw [h1, wm_tags_0]
    intro _
    trivial
