/-! THE ABSTRACT MACHINE, 2: locals by their places -/
abbrev wm_L : Type := List (Option wm_V)
def wm_lk : wm_L → Nat → Option wm_V
  | [], _ => none
  | x :: _, 0 => x
  | _ :: r, k + 1 => wm_lk r k
def wm_nl (x : Option wm_V) : Option wm_V := match x with
  | some (.inr (.inl _)) => none
  | y => y
def wm_s1 : wm_L → Nat → wm_V → wm_L
  | [], _, _ => []
  | _ :: r, 0, v => some v :: r
  | x :: r, 1, v => wm_nl x :: wm_s1 r 0 v
  | x :: r, k + 2, v => x :: wm_s1 r (k + 1) v
def wm_s2 : wm_L → Nat → wm_V → wm_L
  | [], _, _ => []
  | _ :: [], 0, _ => [none]
  | _ :: _ :: r, 0, v => some v :: none :: r
  | x :: r, 1, v => wm_nl x :: wm_s2 r 0 v
  | x :: r, k + 2, v => x :: wm_s2 r (k + 1) v
def wm_lo (ls : Array Slot) (nL : Nat) (lv : wm_L) : Prop := lv.length = nL ∧ ls.size = nL ∧ lv_wf ls ∧ ∀ k v, wm_lk lv k = some v → ls[k]? = some (.val (wm_tv v))
theorem wm_lk_lt : ∀ (lv : wm_L) (k : Nat) (v : wm_V), wm_lk lv k = some v → k < lv.length
  | [], k, v, h => by simp [wm_lk] at h
  | x :: r, 0, v, h => by simp
  | x :: r, k + 1, v, h => by
    have := wm_lk_lt r k v h
    simp only [List.length_cons]
    omega
theorem wm_nl_e {x : Option wm_V} {v : wm_V} (h : wm_nl x = some v) : x = some v ∧ wm_cat v = 1 := by
  rcases x with _ | (x | x | x) <;> simp [wm_nl] at h <;> subst h <;> simp [wm_cat]
theorem wm_s1_len : ∀ (lv : wm_L) (i : Nat) (v : wm_V), (wm_s1 lv i v).length = lv.length
  | [], i, v => by simp [wm_s1]
  | x :: r, 0, v => by simp [wm_s1]
  | x :: r, 1, v => by simp [wm_s1, wm_s1_len r 0 v]
  | x :: r, k + 2, v => by simp [wm_s1, wm_s1_len r (k + 1) v]
theorem wm_s2_len : ∀ (lv : wm_L) (i : Nat) (v : wm_V), (wm_s2 lv i v).length = lv.length
  | [], i, v => by simp [wm_s2]
  | _ :: [], 0, v => by simp [wm_s2]
  | _ :: _ :: r, 0, v => by simp [wm_s2]
  | x :: r, 1, v => by simp [wm_s2, wm_s2_len r 0 v]
  | x :: r, k + 2, v => by simp [wm_s2, wm_s2_len r (k + 1) v]
theorem wm_s1_get : ∀ (lv : wm_L) (i : Nat) (v : wm_V) (k : Nat) (w : wm_V), wm_lk (wm_s1 lv i v) k = some w → (k = i ∧ w = v) ∨ (k ≠ i ∧ wm_lk lv k = some w ∧ ¬ (k + 1 = i ∧ wm_cat w = 2))
  | [], i, v, k, w, h => by simp [wm_s1, wm_lk] at h
  | x :: r, 0, v, 0, w, h => by simp [wm_s1, wm_lk] at h; exact Or.inl ⟨rfl, h.symm⟩
  | x :: r, 0, v, k + 1, w, h => by simp only [wm_s1, wm_lk] at h; exact Or.inr ⟨by omega, h, by omega⟩
  | x :: r, 1, v, 0, w, h => by
    simp only [wm_s1, wm_lk] at h
    obtain ⟨h1, h2⟩ := wm_nl_e h
    exact Or.inr ⟨by omega, h1, by omega⟩
  | x :: r, 1, v, k + 1, w, h => by
    simp only [wm_s1, wm_lk] at h
    rcases wm_s1_get r 0 v k w h with ⟨h1, h2⟩ | ⟨h1, h2, h3⟩
    · exact Or.inl ⟨by omega, h2⟩
    · exact Or.inr ⟨by omega, h2, by omega⟩
  | x :: r, i + 2, v, 0, w, h => by
    simp only [wm_s1, wm_lk] at h
    exact Or.inr ⟨by omega, h, by omega⟩
  | x :: r, i + 2, v, k + 1, w, h => by
    simp only [wm_s1, wm_lk] at h
    rcases wm_s1_get r (i + 1) v k w h with ⟨h1, h2⟩ | ⟨h1, h2, h3⟩
    · exact Or.inl ⟨by omega, h2⟩
    · exact Or.inr ⟨by omega, h2, by omega⟩
theorem wm_s2_get : ∀ (lv : wm_L) (i : Nat) (v : wm_V) (k : Nat) (w : wm_V), wm_lk (wm_s2 lv i v) k = some w → (k = i ∧ w = v) ∨ (k ≠ i ∧ k ≠ i + 1 ∧ wm_lk lv k = some w ∧ ¬ (k + 1 = i ∧ wm_cat w = 2))
  | [], i, v, k, w, h => by simp [wm_s2, wm_lk] at h
  | x :: [], 0, v, 0, w, h => by simp [wm_s2, wm_lk] at h
  | x :: [], 0, v, k + 1, w, h => by simp [wm_s2, wm_lk] at h
  | x :: y :: r, 0, v, 0, w, h => by simp [wm_s2, wm_lk] at h; exact Or.inl ⟨rfl, h.symm⟩
  | x :: y :: r, 0, v, 1, w, h => by simp [wm_s2, wm_lk] at h
  | x :: y :: r, 0, v, k + 2, w, h => by simp only [wm_s2, wm_lk] at h; exact Or.inr ⟨by omega, by omega, h, by omega⟩
  | x :: r, 1, v, 0, w, h => by
    simp only [wm_s2, wm_lk] at h
    obtain ⟨h1, h2⟩ := wm_nl_e h
    exact Or.inr ⟨by omega, by omega, h1, by omega⟩
  | x :: r, 1, v, k + 1, w, h => by
    simp only [wm_s2, wm_lk] at h
    rcases wm_s2_get r 0 v k w h with ⟨h1, h2⟩ | ⟨h1, h1', h2, h3⟩
    · exact Or.inl ⟨by omega, h2⟩
    · exact Or.inr ⟨by omega, by omega, h2, by omega⟩
  | x :: r, i + 2, v, 0, w, h => by
    simp only [wm_s2, wm_lk] at h
    exact Or.inr ⟨by omega, by omega, h, by omega⟩
  | x :: r, i + 2, v, k + 1, w, h => by
    simp only [wm_s2, wm_lk] at h
    rcases wm_s2_get r (i + 1) v k w h with ⟨h1, h2⟩ | ⟨h1, h1', h2, h3⟩
    · exact Or.inl ⟨by omega, h2⟩
    · exact Or.inr ⟨by omega, by omega, h2, by omega⟩
/-- the held places, as a list -/
def wm_pl (lv : wm_L) : List (Nat × Value) := (List.range lv.length).filterMap fun k => (wm_lk lv k).map fun v => (k, wm_tv v)
theorem wm_pl_in {lv : wm_L} {k : Nat} {v : wm_V} (h : wm_lk lv k = some v) : (k, wm_tv v) ∈ wm_pl lv := by
  refine List.mem_filterMap.mpr ⟨k, List.mem_range.mpr (wm_lk_lt lv k v h), ?_⟩
  rw [h]; rfl
theorem wm_pl_of {lv : wm_L} {q : Nat × Value} (h : q ∈ wm_pl lv) : ∃ v, wm_lk lv q.1 = some v ∧ q.2 = wm_tv v := by
  obtain ⟨k, -, h2⟩ := List.mem_filterMap.mp h
  cases e : wm_lk lv k with
  | none => rw [e] at h2; cases h2
  | some v =>
    rw [e] at h2
    cases h2
    exact ⟨v, e, rfl⟩
theorem wm_lo_has {ls : Array Slot} {nL : Nat} {lv : wm_L} (h : wm_lo ls nL lv) : lv_has ls nL (wm_pl lv) := by
  refine ⟨h.2.1, h.2.2.1, fun q hq => ?_⟩
  obtain ⟨v, h1, h2⟩ := wm_pl_of hq
  rw [h2]
  exact h.2.2.2 _ _ h1
theorem wm_lo_s1 {ls ls' : Array Slot} {nL i : Nat} {lv : wm_L} {v : wm_V} (h : wm_lo ls nL lv) (h' : lv_has ls' nL ((i, wm_tv v) :: (wm_pl lv).filter (fun q => !(q.1 == i) && !(q.1 + 1 == i && q.2.category == 2)))) : wm_lo ls' nL (wm_s1 lv i v) := by
  refine ⟨by rw [wm_s1_len]; exact h.1, h'.1, h'.2.1, fun k w hk => ?_⟩
  rcases wm_s1_get lv i v k w hk with ⟨e1, e2⟩ | ⟨e1, e2, e3⟩
  · subst e1; subst e2
    exact h'.2.2 (k, wm_tv w) List.mem_cons_self
  · refine h'.2.2 (k, wm_tv w) (List.mem_cons_of_mem _ (List.mem_filter.mpr ⟨wm_pl_in e2, ?_⟩))
    simp only [wm_cat_tv]
    simp only [Bool.and_eq_true, Bool.not_eq_true', beq_eq_false_iff_ne, Bool.and_eq_false_iff]
    refine ⟨e1, ?_⟩
    by_cases a : k + 1 = i
    · exact Or.inr fun z => e3 ⟨a, z⟩
    · exact Or.inl a
theorem wm_lo_s2 {ls ls' : Array Slot} {nL i : Nat} {lv : wm_L} {v : wm_V} (h : wm_lo ls nL lv) (h' : lv_has ls' nL ((i, wm_tv v) :: (wm_pl lv).filter (fun q => !(q.1 == i) && (!(q.1 == i + 1) && !(q.1 + 1 == i && q.2.category == 2))))) : wm_lo ls' nL (wm_s2 lv i v) := by
  refine ⟨by rw [wm_s2_len]; exact h.1, h'.1, h'.2.1, fun k w hk => ?_⟩
  rcases wm_s2_get lv i v k w hk with ⟨e1, e2⟩ | ⟨e1, e1', e2, e3⟩
  · subst e1; subst e2
    exact h'.2.2 (k, wm_tv w) List.mem_cons_self
  · refine h'.2.2 (k, wm_tv w) (List.mem_cons_of_mem _ (List.mem_filter.mpr ⟨wm_pl_in e2, ?_⟩))
    simp only [wm_cat_tv]
    simp only [Bool.and_eq_true, Bool.not_eq_true', beq_eq_false_iff_ne, Bool.and_eq_false_iff]
    refine ⟨e1, e1', ?_⟩
    by_cases a : k + 1 = i
    · exact Or.inr fun z => e3 ⟨a, z⟩
    · exact Or.inl a
/-- the locals with which a method begins -/
def wm_en : List wm_V → Nat → wm_L
  | [], n => List.replicate n none
  | v :: r, n => if wm_cat v = 2 then some v :: none :: wm_en r (n - 2) else some v :: wm_en r (n - 1)
def wm_ws (vs : List wm_V) : Nat := (vs.map wm_cat).sum
theorem wm_lk_rep (n k : Nat) : wm_lk (List.replicate n none) k = none := by
  induction n generalizing k with
  | zero => simp [wm_lk]
  | succ n ih => cases k with
    | zero => simp [List.replicate_succ, wm_lk]
    | succ k => simp [List.replicate_succ, wm_lk, ih]
theorem wm_en_len : ∀ (vs : List wm_V) (n : Nat), wm_ws vs ≤ n → (wm_en vs n).length = n
  | [], n, h => by simp [wm_en]
  | v :: r, n, h => by
    have hs : wm_ws (v :: r) = wm_cat v + wm_ws r := by simp [wm_ws]
    by_cases c : wm_cat v = 2
    · have := wm_en_len r (n - 2) (by omega)
      simp [wm_en, c, this]
      omega
    · have c1 : wm_cat v = 1 := by rcases v with x | x | x <;> simp [wm_cat] at c ⊢
      have := wm_en_len r (n - 1) (by omega)
      simp [wm_en, c, this]
      omega
theorem wm_en_in : ∀ (vs : List wm_V) (n i k : Nat) (v : wm_V), wm_lk (wm_en vs n) k = some v → (i + k, wm_tv v) ∈ lv_args i (vs.map wm_tv)
  | [], n, i, k, v, h => by simp [wm_en, wm_lk_rep] at h
  | w :: r, n, i, k, v, h => by
    simp only [List.map_cons, lv_args, wm_cat_tv]
    by_cases c : wm_cat w = 2
    · simp only [wm_en, c, if_true] at h ⊢
      match k, h with
      | 0, h => simp only [wm_lk, Option.some.injEq] at h; subst h; exact List.mem_cons_self
      | 1, h => simp [wm_lk] at h
      | k + 2, h =>
        simp only [wm_lk] at h
        have := wm_en_in r (n - 2) (i + 2) k v h
        rw [show i + (k + 2) = i + 2 + k by omega]
        exact List.mem_cons_of_mem _ this
    · simp only [wm_en, c, if_false] at h ⊢
      match k, h with
      | 0, h => simp only [wm_lk, Option.some.injEq] at h; subst h; exact List.mem_cons_self
      | k + 1, h =>
        simp only [wm_lk] at h
        have := wm_en_in r (n - 1) (i + 1) k v h
        rw [show i + (k + 1) = i + 1 + k by omega]
        exact List.mem_cons_of_mem _ this
theorem wm_sl_len (vs : List wm_V) : (lg_sl (vs.map wm_tv)).length = wm_ws vs := by
  induction vs with
  | nil => rfl
  | cons v r ih =>
    have hs : wm_ws (v :: r) = wm_cat v + wm_ws r := by simp [wm_ws]
    simp only [List.map_cons, lg_sl, List.flatMap_cons, List.length_append] at ih ⊢
    rw [ih, hs, wm_cat_tv]
    rcases v with x | x | x <;> simp [wm_cat]
theorem wm_lo_en {vs : List wm_V} {n : Nat} (h : wm_ws vs ≤ n) : wm_lo ((lg_sl (vs.map wm_tv) ++ List.replicate (n - (lg_sl (vs.map wm_tv)).length) Slot.unset).toArray) n (wm_en vs n) := by
  have hl := lv_entry (vs.map wm_tv) (n := n) (by rw [wm_sl_len]; exact h)
  refine ⟨wm_en_len vs n h, hl.1, hl.2.1, fun k v hk => ?_⟩
  have := wm_en_in vs n 0 k v hk
  rw [Nat.zero_add] at this
  exact hl.2.2 _ this
