/-! THE CLASS's WORLD: heaps by tag, place and address, with whole numbers -/
abbrev wc_H : Type := (Nat → Nat) × (Nat → Nat) × wm_F Int × wm_F Int × wm_F (Option Nat) × Nat
/-- which fields are booleans -/
def wc_bl (a b : Nat) : Bool := match a with
  | 2 => b == 11
  | 5 => Nat.ble 5 b
  | 8 => b == 2
  | 11 => b == 2
  | _ => false
def wc_tb (b : Nat) (f : Nat → Prop) : Prop := match b with
  | 0 => f 2
  | 1 => f 3
  | 2 => f 4
  | 3 => f 5
  | 4 => f 6
  | 5 => f 7
  | 6 => f 8
  | 7 => f 9
  | 8 => f 10
  | 9 => f 11
  | _ => False
def wc_gf (c a b : Nat) (o : Option Nat) (tg ln : Nat → Nat) (I L : wm_F Int) (R : wm_F (Option Nat)) (n : Nat) (k : wi_Q1 wc_H) : Prop := match c with
  | 0 => ∃ q, o = some q ∧ tg q = a ∧ k (some (.inl (I a b q))) (tg, ln, I, L, R, n)
  | 1 => ∃ q, o = some q ∧ tg q = a ∧ k (some (.inr (.inl (L a b q)))) (tg, ln, I, L, R, n)
  | 2 => ∃ q, o = some q ∧ tg q = a ∧ ∃ v, R a b q = v ∧ k (some (wi_rf v)) (tg, ln, I, L, R, n)
  | _ => False
def wc_la (c a : Nat) (o : Option Nat) (j : Int) (tg ln : Nat → Nat) (I L : wm_F Int) (R : wm_F (Option Nat)) (n : Nat) (k : wi_Q1 wc_H) : Prop := match c with
  | 0 => ∃ q, o = some q ∧ tg q = a ∧ 0 ≤ j ∧ j < ln q ∧ k (some (.inl (I a j.toNat q))) (tg, ln, I, L, R, n)
  | 1 => ∃ q, o = some q ∧ tg q = a ∧ 0 ≤ j ∧ j < ln q ∧ k (some (.inr (.inl (L a j.toNat q)))) (tg, ln, I, L, R, n)
  | 2 => ∃ q, o = some q ∧ tg q = a ∧ 0 ≤ j ∧ j < ln q ∧ ∃ v, R a j.toNat q = v ∧ k (some (wi_rf v)) (tg, ln, I, L, R, n)
  | _ => False
def wc_h (ok : Nat → Bool) (code a b c : Nat) (as : List wi_V) (tg ln : Nat → Nat) (I L : wm_F Int) (R : wm_F (Option Nat)) (n : Nat) (k : wi_Q1 wc_H) : Prop := match code with
  | 0 => match as with
    | [.inr (.inr (.inl o))] => wc_gf c a b o tg ln I L R n k
    | _ => False
  | 1 => match as with
    | [.inr (.inr (.inl o)), .inl x] => if ok a = true ∧ c = 0 then (if wc_bl a b = true then ∃ q, o = some q ∧ tg q = a ∧ (x = 0 ∨ x = 1) ∧ ∀ I', I' = wm_up I a b q x → k none (tg, ln, I', L, R, n) else ∃ q, o = some q ∧ tg q = a ∧ ∀ I', I' = wm_up I a b q x → k none (tg, ln, I', L, R, n)) else False
    | [.inr (.inr (.inl o)), .inr (.inl x)] => if ok a = true ∧ c = 1 ∧ wc_bl a b = false then ∃ q, o = some q ∧ tg q = a ∧ ∀ L', L' = wm_up L a b q x → k none (tg, ln, I, L', R, n) else False
    | [.inr (.inr (.inl o)), .inr (.inr (.inl x))] => if ok a = true ∧ c = 2 ∧ wc_bl a b = false then ∃ q, o = some q ∧ tg q = a ∧ ∀ R', R' = wm_up R a b q x → k none (tg, ln, I, L, R', n) else False
    | _ => False
  | 2 => match as with
    | [.inr (.inr (.inl o))] => ∃ q, o = some q ∧ tg q = a ∧ ln q < 2147483648 ∧ k (some (.inl (ln q : Int))) (tg, ln, I, L, R, n)
    | _ => False
  | 3 => match as with
    | [.inr (.inr (.inl o)), .inl j] => wc_la c a o j tg ln I L R n k
    | _ => False
  | 4 => match as with
    | [.inr (.inr (.inl o)), .inl j, .inl x] => if ok a = true ∧ c = 0 then ∃ q, o = some q ∧ tg q = a ∧ 0 ≤ j ∧ j < ln q ∧ ∀ I', I' = wm_up I a j.toNat q x → k none (tg, ln, I', L, R, n) else False
    | [.inr (.inr (.inl o)), .inl j, .inr (.inl x)] => if ok a = true ∧ c = 1 then ∃ q, o = some q ∧ tg q = a ∧ 0 ≤ j ∧ j < ln q ∧ ∀ L', L' = wm_up L a j.toNat q x → k none (tg, ln, I, L', R, n) else False
    | [.inr (.inr (.inl o)), .inl j, .inr (.inr (.inl x))] => if ok a = true ∧ c = 2 then wc_tb b (fun t => ∃ q, o = some q ∧ tg q = a ∧ 0 ≤ j ∧ j < ln q ∧ (∀ v, x = some v → tg v = t) ∧ ∀ R', R' = wm_up R a j.toNat q x → k none (tg, ln, I, L, R', n)) else False
    | _ => False
  | 5 => match as with
    | [.inl m] => if ok a = true then ∀ tg' ln' I' L' R', tg' = (fun q => if q = n then a else tg q) → ln' = (fun q => if q = n then m.toNat else ln q) → I' = (fun t j q => if t = a ∧ q = n then 0 else I t j q) → L' = (fun t j q => if t = a ∧ q = n then 0 else L t j q) → R' = (fun t j q => if t = a ∧ q = n then none else R t j q) → k (some (wi_rf (some n))) (tg', ln', I', L', R', n + 1) else False
    | _ => False
  | 7 => match as with
    | [.inr (.inr (.inl x)), .inr (.inr (.inl y))] => (x = y → k (some (.inl 1)) (tg, ln, I, L, R, n)) ∧ (x ≠ y → k none (tg, ln, I, L, R, n))
    | _ => False
  | 8 => match as with
    | [.inr (.inr (.inl o))] => wc_tb b (fun t => ∃ q, o = some q ∧ tg q = t ∧ k none (tg, ln, I, L, R, n))
    | _ => False
  | 9 => match as with
    | [] => ∀ n', n ≤ n' → k none (tg, ln, I, L, R, n')
    | _ => False
  | _ => False
def wc_hp (ok : Nat → Bool) : wi_P wc_H := fun code a b c as h k => match h with
  | (tg, ln, I, L, R, n) => wc_h ok code a b c as tg ln I L R n k
/-- what a heap of whole numbers is to a heap; what stays since h0 -/
def wc_E (h : wc_H) (g : wm_H) : Prop := g.1 = h.1 ∧ g.2.1 = h.2.1 ∧ (∀ t k q, (g.2.2.1 t k q).toInt = h.2.2.1 t k q) ∧ (∀ t k q, (g.2.2.2.1 t k q).toInt = h.2.2.2.1 t k q) ∧ g.2.2.2.2.1 = h.2.2.2.2.1 ∧ g.2.2.2.2.2 = h.2.2.2.2.2
def wc_F (ok : Nat → Bool) (g0 g : wm_H) : Prop := (∀ q, g.1 q ≠ 0 → q < g.2.2.2.2.2) ∧ g0.2.2.2.2.2 ≤ g.2.2.2.2.2 ∧ (∀ q, q < g0.2.2.2.2.2 → g.1 q = g0.1 q ∧ g.2.1 q = g0.2.1 q) ∧ ∀ t, ok t = false → g.2.2.1 t = g0.2.2.1 t ∧ g.2.2.2.1 t = g0.2.2.2.1 t ∧ g.2.2.2.2.1 t = g0.2.2.2.2.1 t
def wc_Rl (ok : Nat → Bool) : wi_RL wc_H := fun ρ g0 h g => (∀ x, ρ x = x) ∧ wc_E h g ∧ wc_F ok g0 g
theorem wc_map {ρ : Nat → Nat} (h : ∀ x, ρ x = x) (o : Option Nat) : o.map ρ = o := by cases o <;> simp [h]
theorem wc_tb_e {b : Nat} {f : Nat → Prop} (h : wc_tb b f) : ∃ t, wm_tags t = some (.inl b) ∧ f t := by
  unfold wc_tb at h
  split at h <;> first
    | exact h.elim
    | exact ⟨_, rfl, h⟩
theorem wc_nb {a b ci : Nat} (h : wc_bl a b = false) (h1 : wm_tags a = some (.inl ci)) : wm_ty ci b ≠ .boolean := by
  unfold wm_tags at h1
  split at h1 <;> cases h1
  · show wd_t0 b ≠ .boolean
    unfold wd_t0
    split <;> first | (intro z; cases z; done) | cases h
  · show wd_t1 b ≠ .boolean
    unfold wd_t1
    split <;> (intro z; cases z)
  · show wd_t2 b ≠ .boolean
    unfold wd_t2
    split <;> (intro z; cases z)
  · show wd_t3 b ≠ .boolean
    unfold wd_t3
    split <;> first | (intro z; cases z; done) | (exfalso; have h9 : b < 5 := Nat.lt_of_not_le (fun y => by rw [show wc_bl 5 b = Nat.ble 5 b from rfl, Nat.ble_eq_true_of_le y] at h; cases h); rename_i a0 a1 a2 a3 a4; have b0 : b ≠ 0 := a0; have b1 : b ≠ 1 := a1; have b2 : b ≠ 2 := a2; have b3 : b ≠ 3 := a3; have b4 : b ≠ 4 := a4; omega)
  · show wd_t4 b ≠ .boolean
    unfold wd_t4
    split <;> (intro z; cases z)
  · show wd_t5 b ≠ .boolean
    unfold wd_t5
    split <;> (intro z; cases z)
  · show wd_t6 b ≠ .boolean
    unfold wd_t6
    split <;> first | (intro z; cases z; done) | cases h
  · show wd_t7 b ≠ .boolean
    unfold wd_t7
    split <;> (intro z; cases z)
  · show wd_t8 b ≠ .boolean
    unfold wd_t8
    split <;> (intro z; cases z)
  · show wd_t9 b ≠ .boolean
    unfold wd_t9
    split <;> first | (intro z; cases z; done) | cases h
theorem wc_wr_F {ok : Nat → Bool} {g0 g : wm_H} {a b q : Nat} {x : wm_V} (h : wc_F ok g0 g) (ha : ok a = true) : wc_F ok g0 (wm_wr g a b q x) := by
  obtain ⟨h1, h2, h3, h4⟩ := h
  have hne : ∀ t, ok t = false → t ≠ a := fun t z y => by rw [y, ha] at z; cases z
  rcases x with x | x | x
  · exact ⟨h1, h2, h3, fun t z => ⟨(wm_up_t (hne t z)).trans (h4 t z).1, (h4 t z).2⟩⟩
  · exact ⟨h1, h2, h3, fun t z => ⟨(h4 t z).1, (wm_up_t (hne t z)).trans (h4 t z).2.1, (h4 t z).2.2⟩⟩
  · exact ⟨h1, h2, h3, fun t z => ⟨(h4 t z).1, (h4 t z).2.1, (wm_up_t (hne t z)).trans (h4 t z).2.2⟩⟩
theorem wc_up_e {f : wm_F Int} {g : wm_F Int32} (h : ∀ t k q, (g t k q).toInt = f t k q) {a b p : Nat} {x : Int32} {y : Int} (e : x.toInt = y) : ∀ t k q, ((wm_up g a b p x) t k q).toInt = wm_up f a b p y t k q := by
  intro t k q
  simp only [wm_up]
  split
  · exact e
  · exact h t k q
theorem wc_up_l {f : wm_F Int} {g : wm_F Int64} (h : ∀ t k q, (g t k q).toInt = f t k q) {a b p : Nat} {x : Int64} {y : Int} (e : x.toInt = y) : ∀ t k q, ((wm_up g a b p x) t k q).toInt = wm_up f a b p y t k q := by
  intro t k q
  simp only [wm_up]
  split
  · exact e
  · exact h t k q
theorem wc_hk (ok : Nat → Bool) (ρ : Nat → Nat) (g0 : wm_H) : wi_hk ρ (wc_Rl ok ρ g0) (wc_hp ok) := by
  refine ⟨?_, ?_, ?_, ?_, ?_, ?_, ?_, ?_, ?_⟩
  · intro a b c o h k g d r
    obtain ⟨tg, ln, I, L, R, n⟩ := h
    obtain ⟨hρ, ⟨rfl, rfl, e3, e4, e5, e6⟩, F⟩ := r
    rw [wc_map hρ]
    replace d : wc_gf c a b o g.1 g.2.1 I L R n k := d
    unfold wc_gf at d
    split at d
    · obtain ⟨q, d1, d2, d3⟩ := d
      exact ⟨q, d1, d2, .inl _, ⟨_, rfl, e3 _ _ _⟩, d3⟩
    · obtain ⟨q, d1, d2, d3⟩ := d
      exact ⟨q, d1, d2, .inr (.inl _), ⟨_, rfl, e4 _ _ _⟩, d3⟩
    · obtain ⟨q, d1, d2, v, rfl, d3⟩ := d
      refine ⟨q, d1, d2, _, ?_, d3⟩
      show wm_wv g 2 a b q = _
      show (.inr (.inr (g.2.2.2.2.1 a _ q)) : wm_V) = _
      rw [wc_map hρ, e5]
    · exact d.elim
  · intro a b c o v x h k g d r hv
    obtain ⟨tg, ln, I, L, R, n⟩ := h
    obtain ⟨hρ, ⟨rfl, rfl, e3, e4, e5, e6⟩, F⟩ := r
    rw [wc_map hρ]
    rcases v with v | v | v | v
    · replace d : (if ok a = true ∧ c = 0 then (if wc_bl a b = true then ∃ q, o = some q ∧ g.1 q = a ∧ (v = 0 ∨ v = 1) ∧ ∀ I', I' = wm_up I a b q v → k none (g.1, g.2.1, I', L, R, n) else ∃ q, o = some q ∧ g.1 q = a ∧ ∀ I', I' = wm_up I a b q v → k none (g.1, g.2.1, I', L, R, n)) else False) := d
      obtain ⟨z, rfl, hz⟩ := hv
      split at d
      · next e =>
        obtain ⟨hok, rfl⟩ := e
        split at d
        · obtain ⟨q, d1, d2, d3, d4⟩ := d
          refine ⟨q, d1, d2, rfl, fun ci h1 h2 => ?_, (g.1, g.2.1, wm_up I a b q v, L, R, n), ⟨hρ, ⟨rfl, rfl, wc_up_e e3 hz, e4, e5, e6⟩, wc_wr_F F hok⟩, d4 _ rfl⟩
          rcases d3 with d3 | d3
          · left; congr 1; rw [← Int32.toInt_inj, hz, d3]; rfl
          · right; congr 1; rw [← Int32.toInt_inj, hz, d3]; rfl
        · next hb =>
          obtain ⟨q, d1, d2, d4⟩ := d
          exact ⟨q, d1, d2, rfl, fun ci h1 h2 => absurd h2 (wc_nb (by simpa using hb) h1), (g.1, g.2.1, wm_up I a b q v, L, R, n), ⟨hρ, ⟨rfl, rfl, wc_up_e e3 hz, e4, e5, e6⟩, wc_wr_F F hok⟩, d4 _ rfl⟩
      · exact d.elim
    · replace d : (if ok a = true ∧ c = 1 ∧ wc_bl a b = false then ∃ q, o = some q ∧ g.1 q = a ∧ ∀ L', L' = wm_up L a b q v → k none (g.1, g.2.1, I, L', R, n) else False) := d
      obtain ⟨z, rfl, hz⟩ := hv
      split at d
      · next e =>
        obtain ⟨hok, rfl, hb⟩ := e
        obtain ⟨q, d1, d2, d4⟩ := d
        exact ⟨q, d1, d2, rfl, fun ci h1 h2 => absurd h2 (wc_nb hb h1), (g.1, g.2.1, I, wm_up L a b q v, R, n), ⟨hρ, ⟨rfl, rfl, e3, wc_up_l e4 hz, e5, e6⟩, wc_wr_F F hok⟩, d4 _ rfl⟩
      · exact d.elim
    · replace d : (if ok a = true ∧ c = 2 ∧ wc_bl a b = false then ∃ q, o = some q ∧ g.1 q = a ∧ ∀ R', R' = wm_up R a b q v → k none (g.1, g.2.1, I, L, R', n) else False) := d
      cases (show x = .inr (.inr (v.map ρ)) from hv)
      rw [wc_map hρ]
      split at d
      · next e =>
        obtain ⟨hok, rfl, hb⟩ := e
        obtain ⟨q, d1, d2, d4⟩ := d
        refine ⟨q, d1, d2, rfl, fun ci h1 h2 => absurd h2 (wc_nb hb h1), (g.1, g.2.1, I, L, wm_up R a b q v, n), ⟨hρ, ⟨rfl, rfl, e3, e4, ?_, e6⟩, wc_wr_F F hok⟩, d4 _ rfl⟩
        show wm_up g.2.2.2.2.1 a b q v = wm_up R a b q v
        rw [e5]
      · exact d.elim
    · exact (show False from d).elim
  · intro a o h k g d r
    obtain ⟨tg, ln, I, L, R, n⟩ := h
    obtain ⟨hρ, ⟨rfl, rfl, e3, e4, e5, e6⟩, F⟩ := r
    rw [wc_map hρ]
    obtain ⟨q, d1, d2, d3, d4⟩ := d
    refine ⟨q, d1, d2, .inl _, ⟨_, rfl, ?_⟩, d4⟩
    unfold nI
    rw [Int32.toInt_ofNat']
    exact wi_b32 (by omega) (by omega)
  · intro a c o j h k g d r
    obtain ⟨tg, ln, I, L, R, n⟩ := h
    obtain ⟨hρ, ⟨rfl, rfl, e3, e4, e5, e6⟩, F⟩ := r
    rw [wc_map hρ]
    replace d : wc_la c a o j g.1 g.2.1 I L R n k := d
    unfold wc_la at d
    split at d
    · obtain ⟨q, d1, d2, d3, d4, d5⟩ := d
      exact ⟨q, d1, d2, d3, d4, .inl _, ⟨_, rfl, e3 _ _ _⟩, d5⟩
    · obtain ⟨q, d1, d2, d3, d4, d5⟩ := d
      exact ⟨q, d1, d2, d3, d4, .inr (.inl _), ⟨_, rfl, e4 _ _ _⟩, d5⟩
    · obtain ⟨q, d1, d2, d3, d4, v, rfl, d5⟩ := d
      refine ⟨q, d1, d2, d3, d4, _, ?_, d5⟩
      show wm_wv g 2 a _ q = _
      show (.inr (.inr (g.2.2.2.2.1 a _ q)) : wm_V) = _
      rw [wc_map hρ, e5]
    · exact d.elim
  · intro a b c o j v x h k g d r hv
    obtain ⟨tg, ln, I, L, R, n⟩ := h
    obtain ⟨hρ, ⟨rfl, rfl, e3, e4, e5, e6⟩, F⟩ := r
    rw [wc_map hρ]
    rcases v with v | v | v | v
    · replace d : (if ok a = true ∧ c = 0 then ∃ q, o = some q ∧ g.1 q = a ∧ 0 ≤ j ∧ j < g.2.1 q ∧ ∀ I', I' = wm_up I a j.toNat q v → k none (g.1, g.2.1, I', L, R, n) else False) := d
      obtain ⟨z, rfl, hz⟩ := hv
      split at d
      · next e =>
        obtain ⟨hok, rfl⟩ := e
        obtain ⟨q, d1, d2, d3, d4, d5⟩ := d
        exact ⟨q, d1, d2, d3, d4, (fun e => by cases e), (g.1, g.2.1, wm_up I a j.toNat q v, L, R, n), ⟨hρ, ⟨rfl, rfl, wc_up_e e3 hz, e4, e5, e6⟩, wc_wr_F F hok⟩, d5 _ rfl⟩
      · exact d.elim
    · replace d : (if ok a = true ∧ c = 1 then ∃ q, o = some q ∧ g.1 q = a ∧ 0 ≤ j ∧ j < g.2.1 q ∧ ∀ L', L' = wm_up L a j.toNat q v → k none (g.1, g.2.1, I, L', R, n) else False) := d
      obtain ⟨z, rfl, hz⟩ := hv
      split at d
      · next e =>
        obtain ⟨hok, rfl⟩ := e
        obtain ⟨q, d1, d2, d3, d4, d5⟩ := d
        exact ⟨q, d1, d2, d3, d4, (fun e => by cases e), (g.1, g.2.1, I, wm_up L a j.toNat q v, R, n), ⟨hρ, ⟨rfl, rfl, e3, wc_up_l e4 hz, e5, e6⟩, wc_wr_F F hok⟩, d5 _ rfl⟩
      · exact d.elim
    · replace d : (if ok a = true ∧ c = 2 then wc_tb b (fun t => ∃ q, o = some q ∧ g.1 q = a ∧ 0 ≤ j ∧ j < g.2.1 q ∧ (∀ u, v = some u → g.1 u = t) ∧ ∀ R', R' = wm_up R a j.toNat q v → k none (g.1, g.2.1, I, L, R', n)) else False) := d
      cases (show x = .inr (.inr (v.map ρ)) from hv)
      rw [wc_map hρ]
      split at d
      · next e =>
        obtain ⟨hok, rfl⟩ := e
        obtain ⟨t, ht, q, d1, d2, d3, d4, d5, d6⟩ := wc_tb_e d
        refine ⟨q, d1, d2, d3, d4, fun _ z hz => ?_, (g.1, g.2.1, I, L, wm_up R a j.toNat q v, n), ⟨hρ, ⟨rfl, rfl, e3, e4, ?_, e6⟩, wc_wr_F F hok⟩, d6 _ rfl⟩
        · rw [d5 z (by simpa using hz)]
          exact ht
        · show wm_up g.2.2.2.2.1 a j.toNat q v = wm_up R a j.toNat q v
          rw [e5]
      · exact d.elim
    · exact (show False from d).elim
  · intro a m h k g d r h0 h1
    obtain ⟨tg, ln, I, L, R, n⟩ := h
    obtain ⟨hρ, ⟨rfl, rfl, e3, e4, e5, e6⟩, F⟩ := r
    have e6 : g.2.2.2.2.2 = n := e6
    have e5 : g.2.2.2.2.1 = R := e5
    subst e6 e5
    replace d : (if ok a = true then ∀ tg' ln' I' L' R', tg' = (fun q => if q = g.2.2.2.2.2 then a else g.1 q) → ln' = (fun q => if q = g.2.2.2.2.2 then m.toNat else g.2.1 q) → I' = (fun t j q => if t = a ∧ q = g.2.2.2.2.2 then 0 else I t j q) → L' = (fun t j q => if t = a ∧ q = g.2.2.2.2.2 then 0 else L t j q) → R' = (fun t j q => if t = a ∧ q = g.2.2.2.2.2 then none else g.2.2.2.2.1 t j q) → k (some (wi_rf (some g.2.2.2.2.2))) (tg', ln', I', L', R', g.2.2.2.2.2 + 1) else False) := d
    split at d
    · next hok =>
      obtain ⟨f1, f2, f3, f4⟩ := F
      have hne : ∀ t, ok t = false → t ≠ a := fun t z y => by rw [y, hok] at z; cases z
      refine ⟨_, (_, _, (fun t j q => if t = a ∧ q = g.2.2.2.2.2 then 0 else I t j q), (fun t j q => if t = a ∧ q = g.2.2.2.2.2 then 0 else L t j q), _, _), ?_, ⟨hρ, ⟨rfl, rfl, fun t k q => ?_, fun t k q => ?_, rfl, rfl⟩, ⟨fun q hq => ?_, ?_, fun q hq => ?_, fun t ht => ?_⟩⟩, d _ _ _ _ _ rfl rfl rfl rfl rfl⟩
      · show _ = _
        rw [wc_map hρ]
      · show (if _ then _ else _ : Int32).toInt = if _ then _ else _
        split
        · rfl
        · exact e3 t k q
      · show (if _ then _ else _ : Int64).toInt = if _ then _ else _
        split
        · rfl
        · exact e4 t k q
      · by_cases e : q = g.2.2.2.2.2
        · rw [e]; exact Nat.lt_succ_self _
        · have : (wm_nw g a m.toNat).1 q = g.1 q := by simp [wm_nw, e]
          rw [this] at hq
          exact Nat.lt_succ_of_lt (f1 q hq)
      · exact Nat.le_succ_of_le f2
      · have e : q ≠ g.2.2.2.2.2 := by omega
        have e1 : (wm_nw g a m.toNat).1 q = g.1 q := by simp [wm_nw, e]
        have e2 : (wm_nw g a m.toNat).2.1 q = g.2.1 q := by simp [wm_nw, e]
        rw [e1, e2]
        exact f3 q hq
      · have hn := hne t ht
        refine ⟨Eq.trans ?_ (f4 t ht).1, Eq.trans ?_ (f4 t ht).2.1, Eq.trans ?_ (f4 t ht).2.2⟩ <;> funext j q <;> simp [wm_nw, hn]
    · exact d.elim
  · intro x y h k g d r
    obtain ⟨tg, ln, I, L, R, n⟩ := h
    obtain ⟨hρ, ⟨rfl, rfl, e3, e4, e5, e6⟩, F⟩ := r
    rw [wc_map hρ, wc_map hρ]
    exact d
  · intro b o h k g d r
    obtain ⟨tg, ln, I, L, R, n⟩ := h
    obtain ⟨hρ, ⟨rfl, rfl, e3, e4, e5, e6⟩, F⟩ := r
    rw [wc_map hρ]
    replace d : wc_tb b (fun t => ∃ q, o = some q ∧ g.1 q = t ∧ k none (g.1, g.2.1, I, L, R, n)) := d
    obtain ⟨t, ht, q, d1, d2, d3⟩ := wc_tb_e d
    exact ⟨q, d1, by rw [d2]; exact ht, d3⟩
  · intro h k g d r m hm
    obtain ⟨tg, ln, I, L, R, n⟩ := h
    obtain ⟨hρ, ⟨rfl, rfl, e3, e4, e5, e6⟩, f1, f2, f3, f4⟩ := r
    have e6 : g.2.2.2.2.2 = n := e6
    refine ⟨(g.1, g.2.1, I, L, R, m), ⟨hρ, ⟨rfl, rfl, e3, e4, e5, rfl⟩, ⟨fun q hq => Nat.lt_of_lt_of_le (f1 q hq) hm, Nat.le_trans f2 hm, f3, f4⟩⟩, d m (by rw [← e6]; exact hm)⟩
theorem wc_lw (ok : Nat → Bool) : wi_Lw (wc_Rl ok) (wc_hp ok) := by
  refine ⟨fun ρ g0 h g z => ?_, fun ρ g0 h g h2 g2 z1 z2 => ?_, wc_hk ok⟩
  · obtain ⟨hρ, E, f1, f2, f3, f4⟩ := z
    exact ⟨hρ, E, f1, Nat.le_refl _, fun _ _ => ⟨rfl, rfl⟩, fun _ _ => ⟨rfl, rfl, rfl⟩⟩
  · obtain ⟨hρ, E, f1, f2, f3, f4⟩ := z1
    obtain ⟨hρ2, E2, g1, g2', g3, g4⟩ := z2
    exact ⟨hρ2, E2, g1, Nat.le_trans f2 g2', fun q hq => ⟨(g3 q (by omega)).1.trans (f3 q hq).1, (g3 q (by omega)).2.trans (f3 q hq).2⟩, fun t ht => ⟨(g4 t ht).1.trans (f4 t ht).1, (g4 t ht).2.1.trans (f4 t ht).2.1, (g4 t ht).2.2.trans (f4 t ht).2.2⟩⟩
