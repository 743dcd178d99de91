/-! THE REFERENCE, 10: what assignOne does, in lists -/
/-- what is laid down for an element, as transactions -/
def mq_ns (A B : mq_A) (nw k : Int) : Nat → List (Int × Int)
  | 0 => []
  | w + 1 => mq_ns A B nw k w ++ [(nw + B 52 w, A 51 (64 * (w : Int) + k).toNat)]
/-- the earlier ones, with the marks that they have at first -/
def mq_om (bg li mo : Int) (R : List (Int × Int)) : List (Int × Int × Bool) := (R.filter (fun x => decide (x.1 < bg))).map (fun x => (x.1, x.2, decide (mo = 1 ∨ x.1 < bg - li)))
/-- which of them stay: a mark goes from one to the one before it -/
def mq_kp (c : Int) : List (Int × Int × Bool) → List (Int × Int) × Bool × Int
  | [] => ([], true, c)
  | x :: r => if x.2.2 = true ∨ ((mq_kp c r).2.1 = true ∧ x.2.1 = (mq_kp c r).2.2) then ((x.1, x.2.1) :: (mq_kp c r).1, true, x.2.1) else ((mq_kp c r).1, false, x.2.1)
/-- the marked ones of the first n -/
def mq_cl (A B : mq_A) : Nat → List (Int × Int)
  | 0 => []
  | n + 1 => if A 45 n ≠ 0 then mq_cl A B n ++ [(B 43 n, A 44 n)] else mq_cl A B n
def mq_cf (A B : mq_A) : Nat → Nat → List (Int × Int)
  | _, 0 => []
  | o, n + 1 => if A 45 o ≠ 0 then (B 43 o, A 44 o) :: mq_cf A B (o + 1) n else mq_cf A B (o + 1) n
theorem mq_cf_s {A B : mq_A} : ∀ (n o : Nat), mq_cf A B o (n + 1) = if A 45 (o + n) ≠ 0 then mq_cf A B o n ++ [(B 43 (o + n), A 44 (o + n))] else mq_cf A B o n
  | 0, o => by simp [mq_cf]
  | n + 1, o => by
    rw [mq_cf, mq_cf_s n (o + 1), mq_cf, show o + 1 + n = o + (n + 1) by omega]
    by_cases h1 : A 45 o ≠ 0 <;> by_cases h2 : A 45 (o + (n + 1)) ≠ 0 <;> simp [h1, h2]
theorem mq_cl_f {A B : mq_A} : ∀ n : Nat, mq_cl A B n = mq_cf A B 0 n
  | 0 => rfl
  | n + 1 => by rw [mq_cf_s, mq_cl, mq_cl_f n, Nat.zero_add]
theorem mq_cl_b {A B : mq_A} : ∀ n : Nat, (mq_cl A B n).length ≤ n
  | 0 => Nat.le_refl 0
  | n + 1 => by
    have := mq_cl_b (A := A) (B := B) n
    simp only [mq_cl]
    split
    · rw [List.length_append]; simp only [List.length_cons, List.length_nil]; omega
    · omega
theorem mq_cl_s {A B : mq_A} {i : Int} (h : 0 ≤ i) : mq_cl A B (i + 1).toNat = if A 45 i.toNat ≠ 0 then mq_cl A B i.toNat ++ [(B 43 i.toNat, A 44 i.toNat)] else mq_cl A B i.toNat := by
  rw [show (i + 1).toNat = i.toNat + 1 by omega]
  rfl
theorem mq_kp_f {A B : mq_A} {c : Int} : ∀ (X : List (Int × Int × Bool)) (o : Nat), (∀ j x, X[j]? = some x → B 43 (o + j) = x.1 ∧ A 44 (o + j) = x.2.1 ∧ (A 45 (o + j) ≠ 0 ↔ x.2.2 = true ∨ (A 45 (o + j + 1) ≠ 0 ∧ x.2.1 = A 44 (o + j + 1)))) → A 45 (o + X.length) ≠ 0 → A 44 (o + X.length) = c →
    (mq_kp c X).1 = mq_cf A B o X.length ∧ ((mq_kp c X).2.1 = true ↔ A 45 o ≠ 0) ∧ (mq_kp c X).2.2 = A 44 o
  | [], o, _, h1, h2 => by
    simp only [List.length_nil, Nat.add_zero] at h1 h2
    exact ⟨rfl, ⟨fun _ => h1, fun _ => rfl⟩, h2.symm⟩
  | x :: r, o, h, h1, h2 => by
    obtain ⟨i1, i2, i3⟩ := mq_kp_f (c := c) r (o + 1) (fun j y hy => by
      have := h (j + 1) y (by simpa using hy)
      rw [show o + 1 + j = o + (j + 1) by omega]
      exact this) (by rw [show o + 1 + r.length = o + (x :: r).length by rw [List.length_cons]; omega]; exact h1) (by rw [show o + 1 + r.length = o + (x :: r).length by rw [List.length_cons]; omega]; exact h2)
    obtain ⟨g1, g2, g3⟩ := h 0 x (by simp)
    rw [Nat.add_zero] at g1 g2 g3
    have e : (x.2.2 = true ∨ ((mq_kp c r).2.1 = true ∧ x.2.1 = (mq_kp c r).2.2)) ↔ A 45 o ≠ 0 := by rw [g3, i2, i3]
    by_cases hm : A 45 o ≠ 0
    · simp only [mq_kp, List.length_cons, mq_cf]
      rw [if_pos (e.mpr hm), if_pos hm, i1, g1, g2]
      exact ⟨rfl, ⟨fun _ => hm, fun _ => rfl⟩, rfl⟩
    · simp only [mq_kp, List.length_cons, mq_cf]
      rw [if_neg (fun z => hm (e.mp z)), if_neg hm, i1, g2]
      exact ⟨rfl, ⟨fun z => (by cases z), fun z => absurd z hm⟩, rfl⟩
/-- the scratch arrays hold X -/
def mq_s1 (A B A1 B1 : mq_A) (X : List (Int × Int × Bool)) (n : Int) : Prop :=
  (∀ t, t ≠ 44 → t ≠ 45 → A1 t = A t) ∧ (∀ t, t ≠ 43 → B1 t = B t) ∧ n = X.length ∧ ∀ (j : Nat) x, X[j]? = some x → B1 43 j = x.1 ∧ A1 44 j = x.2.1 ∧ A1 45 j = (if x.2.2 = true then 1 else 0)
theorem mq_s1_a {A B A1 B1 : mq_A} {X : List (Int × Int × Bool)} {n t v m : Int} {b : Bool} (h : mq_s1 A B A1 B1 X n) (hm : m = if b = true then 1 else 0) : mq_s1 A B (md_u (md_u A1 44 n.toNat v) 45 n.toNat m) (md_u B1 43 n.toNat t) (X ++ [(t, v, b)]) (n + 1) := by
  obtain ⟨h1, h2, h3, h4⟩ := h
  refine ⟨fun t a b => by rw [md_u_t b, md_u_t a]; exact h1 t a b, fun t a => by rw [md_u_t a]; exact h2 t a, by rw [List.length_append]; simp only [List.length_cons, List.length_nil]; omega, fun j x hx => ?_⟩
  by_cases e : j < X.length
  · rw [List.getElem?_append_left e] at hx
    rw [md_u_k (by omega), md_u_t (by decide), md_u_k (by omega), md_u_k (by omega), md_u_t (by decide)]
    exact h4 j x hx
  · rw [List.getElem?_append_right (by omega)] at hx
    have hj : j = n.toNat := by
      rcases Nat.lt_or_ge (j - X.length) 1 with g | g
      · omega
      · rw [List.getElem?_eq_none (by simpa using g)] at hx
        cases hx
    subst hj
    rw [show n.toNat - X.length = 0 by omega] at hx
    cases hx
    rw [md_u_s, md_u_t (by decide), md_u_s, md_u_s]
    exact ⟨rfl, rfl, hm⟩
def mq_s3 (A B A1 B1 : mq_A) (X : List (Int × Int × Bool)) (ol i : Int) : Prop :=
  (∀ t, t ≠ 44 → t ≠ 45 → A1 t = A t) ∧ (∀ t, t ≠ 43 → B1 t = B t) ∧ ∀ (j : Nat) x, X[j]? = some x → B1 43 j = x.1 ∧ A1 44 j = x.2.1 ∧ (((j : Int) ≤ i ∨ ol ≤ j) → A1 45 j = (if x.2.2 = true then 1 else 0)) ∧ (i < j → (j : Int) < ol → (A1 45 j = 0 ∨ A1 45 j = 1) ∧ (A1 45 j ≠ 0 ↔ x.2.2 = true ∨ (A1 45 (j + 1) ≠ 0 ∧ x.2.1 = A1 44 (j + 1))))
theorem mq_s3_0 {A B A1 B1 : mq_A} {X : List (Int × Int × Bool)} {n ol : Int} (h : mq_s1 A B A1 B1 X n) : mq_s3 A B A1 B1 X ol (ol - 1) := by
  obtain ⟨h1, h2, h3, h4⟩ := h
  refine ⟨h1, h2, fun j x hx => ?_⟩
  obtain ⟨a, b, c⟩ := h4 j x hx
  exact ⟨a, b, fun _ => c, fun z1 z2 => by omega⟩
theorem mq_s3_s {A B A1 B1 : mq_A} {X : List (Int × Int × Bool)} {ol i m : Int} (h : mq_s3 A B A1 B1 X ol i) (h0 : 0 ≤ i) (h9 : i < ol) (hm : (m = 1 ∧ (A1 45 i.toNat ≠ 0 ∨ (A1 45 (i + 1).toNat ≠ 0 ∧ A1 44 i.toNat = A1 44 (i + 1).toNat))) ∨ (m = 0 ∧ ¬ (A1 45 i.toNat ≠ 0 ∨ (A1 45 (i + 1).toNat ≠ 0 ∧ A1 44 i.toNat = A1 44 (i + 1).toNat)))) :
    mq_s3 A B (md_u A1 45 i.toNat m) B1 X ol (i - 1) := by
  obtain ⟨h1, h2, h4⟩ := h
  refine ⟨fun t a b => by rw [md_u_t b]; exact h1 t a b, h2, fun j x hx => ?_⟩
  obtain ⟨a, b, c, d⟩ := h4 j x hx
  rw [md_u_t (by decide)]
  refine ⟨a, b, fun z => ?_, fun z1 z2 => ?_⟩
  · rw [md_u_k (by omega)]
    exact c (by omega)
  · rcases (show i < j ∨ j = i.toNat by omega) with z3 | rfl
    · rw [md_u_k (by omega), md_u_k (by omega)]
      exact d z3 z2
    · rw [md_u_s, md_u_k (by omega)]
      have c1 := c (Or.inl (by omega))
      rw [show (i + 1).toNat = i.toNat + 1 by omega, c1, b] at hm
      refine ⟨by omega, ?_⟩
      rcases hm with ⟨rfl, z⟩ | ⟨rfl, z⟩
      · refine ⟨fun _ => ?_, fun _ => by decide⟩
        rcases z with z | z
        · left
          by_cases e : x.2.2 = true
          · exact e
          · rw [if_neg e] at z; exact absurd rfl z
        · exact Or.inr z
      · refine ⟨fun z9 => absurd rfl z9, fun z9 => absurd ?_ z⟩
        rcases z9 with z9 | z9
        · left; rw [if_pos z9]; decide
        · exact Or.inr z9
theorem mq_s3_e {A B A1 B1 : mq_A} {nw k c : Int} {X : List (Int × Int × Bool)} {N : List (Int × Int)} {ol : Int} (h : mq_s3 A B A1 B1 (X ++ N.map (fun x => (x.1, x.2, true))) ol (-1)) (ho : ol = X.length) (hc : (N[0]?).map (fun x => x.2) = some c) :
    mq_cl A1 B1 X.length = (mq_kp c X).1 ∧ ∀ w : Nat, w ≤ N.length → mq_cl A1 B1 (X.length + w) = (mq_kp c X).1 ++ N.take w := by
  obtain ⟨h1, h2, h4⟩ := h
  have e0 : mq_cl A1 B1 X.length = (mq_kp c X).1 := by
    cases hN : N[0]? with
    | none => rw [hN] at hc; cases hc
    | some y =>
      rw [hN] at hc
      have hc2 : y.2 = c := by simpa using hc
      have hy : (X ++ N.map (fun x => (x.1, x.2, true)))[X.length]? = some (y.1, y.2, true) := by
        rw [List.getElem?_append_right (Nat.le_refl _), Nat.sub_self, List.getElem?_map, hN]
        rfl
      obtain ⟨a, b, d, -⟩ := h4 X.length _ hy
      have d1 := d (Or.inr (by omega))
      rw [mq_cl_f]
      refine (mq_kp_f X 0 (fun j x hx => ?_) ?_ ?_).1.symm
      · have hl : j < X.length := by
          rcases Nat.lt_or_ge j X.length with g | g
          · exact g
          · rw [List.getElem?_eq_none g] at hx; cases hx
        obtain ⟨a1, b1, -, d2⟩ := h4 j x (by rw [List.getElem?_append_left hl]; exact hx)
        rw [Nat.zero_add]
        exact ⟨a1, b1, (d2 (by omega) (by omega)).2⟩
      · rw [Nat.zero_add, d1]; exact Int.one_ne_zero
      · rw [Nat.zero_add, b]; exact hc2
  refine ⟨e0, fun w => ?_⟩
  induction w with
  | zero => intro _; rw [Nat.add_zero, List.take_zero, List.append_nil]; exact e0
  | succ w ih =>
    intro hw
    have hy : (X ++ N.map (fun x => (x.1, x.2, true)))[X.length + w]? = some ((N[w]'(by omega)).1, (N[w]'(by omega)).2, true) := by
      rw [List.getElem?_append_right (by omega), show X.length + w - X.length = w by omega, List.getElem?_map, List.getElem?_eq_getElem (by omega)]
      rfl
    obtain ⟨a, b, d, -⟩ := h4 _ _ hy
    have d1 := d (Or.inr (by omega))
    rw [← Nat.add_assoc, mq_cl, if_pos (by rw [d1]; exact Int.one_ne_zero), ih (by omega), a, b, List.append_assoc, List.take_add_one, List.getElem?_eq_getElem (by omega)]
    rfl
