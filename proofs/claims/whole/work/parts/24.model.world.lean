/-! THE REFERENCE's WORLD: its state as whole numbers; its references are their tags -/
abbrev mq_H : Type := (Nat → Nat → Int) × (Nat → Nat → Int)
def mq_sl (b : Nat) (f : Nat → Prop) : Prop := match b with
  | 4 => f 30
  | 5 => f 31
  | 6 => f 32
  | 7 => f 33
  | 8 => f 34
  | 10 => f 35
  | 11 => f 36
  | 13 => f 37
  | 14 => f 38
  | 15 => f 39
  | 17 => f 40
  | 18 => f 41
  | 19 => f 42
  | 20 => f 43
  | 21 => f 44
  | 22 => f 45
  | 24 => f 46
  | 25 => f 47
  | 26 => f 48
  | 27 => f 49
  | 28 => f 50
  | 29 => f 51
  | 30 => f 52
  | _ => False
def mq_ln (a : Nat) (f : Int → Prop) : Prop := match a with
  | 30 => f 200
  | 31 => f 200
  | 32 => f 200
  | 33 => f 200
  | 34 => f 200
  | 35 => f 512
  | 36 => f 512
  | 37 => f 512
  | 38 => f 512
  | 39 => f 512
  | 40 => f 8192
  | 41 => f 8192
  | 42 => f 8192
  | 43 => f 8208
  | 44 => f 8208
  | 45 => f 8208
  | 46 => f 64
  | 47 => f 64
  | 48 => f 64
  | 49 => f 12800
  | 50 => f 200
  | 51 => f 1024
  | 52 => f 16
  | _ => False
theorem mq_sl_e {b : Nat} {f : Nat → Prop} (h : mq_sl b f) : ∃ t n, (b, t, n) ∈ md_as ∧ f t := by
  unfold mq_sl at h
  split at h
  · exact ⟨30, 200, by decide, h⟩
  · exact ⟨31, 200, by decide, h⟩
  · exact ⟨32, 200, by decide, h⟩
  · exact ⟨33, 200, by decide, h⟩
  · exact ⟨34, 200, by decide, h⟩
  · exact ⟨35, 512, by decide, h⟩
  · exact ⟨36, 512, by decide, h⟩
  · exact ⟨37, 512, by decide, h⟩
  · exact ⟨38, 512, by decide, h⟩
  · exact ⟨39, 512, by decide, h⟩
  · exact ⟨40, 8192, by decide, h⟩
  · exact ⟨41, 8192, by decide, h⟩
  · exact ⟨42, 8192, by decide, h⟩
  · exact ⟨43, 8208, by decide, h⟩
  · exact ⟨44, 8208, by decide, h⟩
  · exact ⟨45, 8208, by decide, h⟩
  · exact ⟨46, 64, by decide, h⟩
  · exact ⟨47, 64, by decide, h⟩
  · exact ⟨48, 64, by decide, h⟩
  · exact ⟨49, 12800, by decide, h⟩
  · exact ⟨50, 200, by decide, h⟩
  · exact ⟨51, 1024, by decide, h⟩
  · exact ⟨52, 16, by decide, h⟩
  · exact h.elim
theorem mq_ln_e {a : Nat} {f : Int → Prop} (h : mq_ln a f) : ∃ s n : Nat, (s, a, n) ∈ md_as ∧ f n := by
  unfold mq_ln at h
  split at h
  · exact ⟨4, 200, by decide, h⟩
  · exact ⟨5, 200, by decide, h⟩
  · exact ⟨6, 200, by decide, h⟩
  · exact ⟨7, 200, by decide, h⟩
  · exact ⟨8, 200, by decide, h⟩
  · exact ⟨10, 512, by decide, h⟩
  · exact ⟨11, 512, by decide, h⟩
  · exact ⟨13, 512, by decide, h⟩
  · exact ⟨14, 512, by decide, h⟩
  · exact ⟨15, 512, by decide, h⟩
  · exact ⟨17, 8192, by decide, h⟩
  · exact ⟨18, 8192, by decide, h⟩
  · exact ⟨19, 8192, by decide, h⟩
  · exact ⟨20, 8208, by decide, h⟩
  · exact ⟨21, 8208, by decide, h⟩
  · exact ⟨22, 8208, by decide, h⟩
  · exact ⟨24, 64, by decide, h⟩
  · exact ⟨25, 64, by decide, h⟩
  · exact ⟨26, 64, by decide, h⟩
  · exact ⟨27, 12800, by decide, h⟩
  · exact ⟨28, 200, by decide, h⟩
  · exact ⟨29, 1024, by decide, h⟩
  · exact ⟨30, 16, by decide, h⟩
  · exact h.elim
def mq_ix (j n : Int) (A : Prop) : Prop := 0 ≤ j ∧ j < n ∧ A
def mq_gf (c b : Nat) (M : mq_H) (k : wi_Q1 mq_H) : Prop := match c with
  | 0 => k (some (.inl (M.1 11 b))) M
  | 1 => k (some (.inr (.inl (M.2 11 b)))) M
  | 2 => mq_sl b fun t => k (some (wi_rf (some t))) M
  | _ => False
def mq_la (c a j : Nat) (M : mq_H) (k : wi_Q1 mq_H) : Prop := match c with
  | 0 => k (some (.inl (M.1 a j))) M
  | 1 => k (some (.inr (.inl (M.2 a j)))) M
  | _ => False
def mq_hp : wi_P mq_H := fun code a b c as M k => match code with
  | 0 => match as with
    | [.inr (.inr (.inl (some t)))] => if t = 11 ∧ a = 11 then mq_gf c b M k else False
    | _ => False
  | 1 => match as with
    | [.inr (.inr (.inl (some t))), .inl x] => if t = 11 ∧ a = 11 ∧ c = 0 then (if b = 2 then (x = 0 ∨ x = 1) ∧ k none (md_u M.1 11 b x, M.2) else k none (md_u M.1 11 b x, M.2)) else False
    | [.inr (.inr (.inl (some t))), .inr (.inl x)] => if t = 11 ∧ a = 11 ∧ c = 1 ∧ b ≠ 2 then k none (M.1, md_u M.2 11 b x) else False
    | _ => False
  | 3 => match as with
    | [.inr (.inr (.inl (some t))), .inl j] => if t = a then mq_ln a (fun n => mq_ix j n (mq_la c a j.toNat M k)) else False
    | _ => False
  | 4 => match as with
    | [.inr (.inr (.inl (some t))), .inl j, .inl x] => if t = a ∧ c = 0 then mq_ln a (fun n => mq_ix j n (k none (md_u M.1 a j.toNat x, M.2))) else False
    | [.inr (.inr (.inl (some t))), .inl j, .inr (.inl x)] => if t = a ∧ c = 1 then mq_ln a (fun n => mq_ix j n (k none (M.1, md_u M.2 a j.toNat x))) else False
    | _ => False
  | 8 => match as with
    | [.inr (.inr (.inl (some t)))] => if t = 11 ∧ b = 9 then k none M else False
    | _ => False
  | _ => False
def mq_E (M : mq_H) (N : md_M) : Prop := (∀ t k, (N.1 t k).toInt = M.1 t k) ∧ ∀ t k, (N.2 t k).toInt = M.2 t k
def mq_Rl : wi_RL mq_H := fun ρ h0 M h => ∃ N : md_M, md_S h0 h (ρ 11) ρ N ∧ mq_E M N
theorem mq_E_1 {M : mq_H} {N : md_M} (e : mq_E M N) {t k : Nat} {x : Int32} {y : Int} (h : x.toInt = y) : mq_E (md_u M.1 t k y, M.2) (md_u N.1 t k x, N.2) := by
  refine ⟨fun t' k' => ?_, e.2⟩
  simp only [md_u]
  split
  · exact h
  · exact e.1 t' k'
theorem mq_E_2 {M : mq_H} {N : md_M} (e : mq_E M N) {t k : Nat} {x : Int64} {y : Int} (h : x.toInt = y) : mq_E (M.1, md_u M.2 t k y) (N.1, md_u N.2 t k x) := by
  refine ⟨e.1, fun t' k' => ?_⟩
  simp only [md_u]
  split
  · exact h
  · exact e.2 t' k'
theorem mq_nb {b : Nat} (h : b ≠ 2) : wm_ty 9 b ≠ .boolean := by
  show wd_t9 b ≠ .boolean
  unfold wd_t9
  split <;> first
    | exact absurd rfl h
    | intro z; cases z
theorem mq_hk (ρ : Nat → Nat) (h0 : wm_H) : wi_hk ρ (mq_Rl ρ h0) mq_hp := by
  refine ⟨?_, ?_, ?_, ?_, ?_, ?_, ?_, ?_, ?_⟩
  · intro a b c o M k h' d r
    obtain ⟨N, S, E⟩ := r
    cases o with
    | none => exact (show False from d).elim
    | some t =>
      replace d : (if t = 11 ∧ a = 11 then mq_gf c b M k else False) := d
      split at d
      · next e =>
        obtain ⟨rfl, rfl⟩ := e
        refine ⟨ρ 11, rfl, S.1.1, ?_⟩
        unfold mq_gf at d
        split at d
        · exact ⟨.inl _, ⟨_, rfl, by rw [S.1.2.1]; exact E.1 _ _⟩, d⟩
        · exact ⟨.inr (.inl _), ⟨_, rfl, by rw [S.1.2.2.1]; exact E.2 _ _⟩, d⟩
        · obtain ⟨t, n, hx, d2⟩ := mq_sl_e d
          refine ⟨_, ?_, d2⟩
          show wm_wv h' 2 11 b (ρ 11) = _
          unfold wm_wv
          rw [(S.1.2.2.2 _ hx).1]
          rfl
        · exact d.elim
      · exact d.elim
  · intro a b c o v x M k h' d r hv
    obtain ⟨N, S, E⟩ := r
    cases o with
    | none => rcases v with v | v | v | v <;> exact (show False from d).elim
    | some t =>
      rcases v with v | v | v | v
      · replace d : (if t = 11 ∧ a = 11 ∧ c = 0 then (if b = 2 then (v = 0 ∨ v = 1) ∧ k none (md_u M.1 11 b v, M.2) else k none (md_u M.1 11 b v, M.2)) else False) := d
        obtain ⟨z, rfl, hz⟩ := hv
        split at d
        · next e =>
          obtain ⟨rfl, rfl, rfl⟩ := e
          refine ⟨ρ 11, rfl, S.1.1, rfl, fun ci h1 h2 => ?_, _, ⟨_, md_fi S b z, mq_E_1 E hz⟩, ?_⟩
          · cases h1
            by_cases hb : b = 2
            · rw [if_pos hb] at d
              rcases d.1 with e | e
              · left; congr 1; rw [← Int32.toInt_inj, hz, e]; rfl
              · right; congr 1; rw [← Int32.toInt_inj, hz, e]; rfl
            · exact absurd h2 (mq_nb hb)
          · split at d
            · exact d.2
            · exact d
        · exact d.elim
      · replace d : (if t = 11 ∧ a = 11 ∧ c = 1 ∧ b ≠ 2 then k none (M.1, md_u M.2 11 b v) else False) := d
        obtain ⟨z, rfl, hz⟩ := hv
        split at d
        · next e =>
          obtain ⟨rfl, rfl, rfl, hb⟩ := e
          refine ⟨ρ 11, rfl, S.1.1, rfl, fun ci h1 h2 => ?_, _, ⟨_, md_fl S b z, mq_E_2 E hz⟩, d⟩
          cases h1
          exact absurd h2 (mq_nb hb)
        · exact d.elim
      · exact (show False from d).elim
      · exact (show False from d).elim
  · intro a o M k h' d r
    exact (show False from d).elim
  · intro a c o j M k h' d r
    obtain ⟨N, S, E⟩ := r
    cases o with
    | none => exact (show False from d).elim
    | some t =>
      replace d : (if t = a then mq_ln a (fun n => mq_ix j n (mq_la c a j.toNat M k)) else False) := d
      split at d
      · next e =>
        subst e
        obtain ⟨s, n, hx, d1, d2, d3⟩ := mq_ln_e d
        obtain ⟨a1, a2, a3, a4, a5⟩ := S.1.2.2.2 _ hx
        refine ⟨ρ t, rfl, a2, d1, by rw [a3]; exact d2, ?_⟩
        unfold mq_la at d3
        split at d3
        · exact ⟨.inl _, ⟨_, rfl, by rw [a4]; exact E.1 _ _⟩, d3⟩
        · exact ⟨.inr (.inl _), ⟨_, rfl, by rw [a5]; exact E.2 _ _⟩, d3⟩
        · exact d3.elim
      · exact d.elim
  · intro a b c o j v x M k h' d r hv
    obtain ⟨N, S, E⟩ := r
    cases o with
    | none => rcases v with v | v | v | v <;> exact (show False from d).elim
    | some t =>
      rcases v with v | v | v | v
      · replace d : (if t = a ∧ c = 0 then mq_ln a (fun n => mq_ix j n (k none (md_u M.1 a j.toNat v, M.2))) else False) := d
        obtain ⟨z, rfl, hz⟩ := hv
        split at d
        · next e =>
          obtain ⟨rfl, rfl⟩ := e
          obtain ⟨s, n, hx, d1, d2, d3⟩ := mq_ln_e d
          obtain ⟨a1, a2, a3, a4, a5⟩ := S.1.2.2.2 _ hx
          exact ⟨ρ t, rfl, a2, d1, by rw [a3]; exact d2, (fun e => by cases e), _, ⟨_, md_ai S _ hx j.toNat z, mq_E_1 E hz⟩, d3⟩
        · exact d.elim
      · replace d : (if t = a ∧ c = 1 then mq_ln a (fun n => mq_ix j n (k none (M.1, md_u M.2 a j.toNat v))) else False) := d
        obtain ⟨z, rfl, hz⟩ := hv
        split at d
        · next e =>
          obtain ⟨rfl, rfl⟩ := e
          obtain ⟨s, n, hx, d1, d2, d3⟩ := mq_ln_e d
          obtain ⟨a1, a2, a3, a4, a5⟩ := S.1.2.2.2 _ hx
          exact ⟨ρ t, rfl, a2, d1, by rw [a3]; exact d2, (fun e => by cases e), _, ⟨_, md_al S _ hx j.toNat z, mq_E_2 E hz⟩, d3⟩
        · exact d.elim
      · exact (show False from d).elim
      · exact (show False from d).elim
  · intro a n M k h' d
    exact (show False from d).elim
  · intro x y M k h' d
    exact (show False from d).elim
  · intro b o M k h' d r
    obtain ⟨N, S, E⟩ := r
    cases o with
    | none => exact (show False from d).elim
    | some t =>
      replace d : (if t = 11 ∧ b = 9 then k none M else False) := d
      split at d
      · next e =>
        obtain ⟨rfl, rfl⟩ := e
        exact ⟨ρ 11, rfl, by rw [S.1.1]; rfl, d⟩
      · exact d.elim
  · intro M k h' d
    exact (show False from d).elim
theorem mq_lw : wi_Lw mq_Rl mq_hp := by
  refine ⟨fun ρ h0 h h' z => ?_, fun ρ h0 h h' h2 h2' z1 z2 => ?_, mq_hk⟩
  · obtain ⟨N, S, E⟩ := z
    exact ⟨N, md_S_rf S.1, E⟩
  · obtain ⟨N, S, E⟩ := z1
    obtain ⟨N2, S2, E2⟩ := z2
    exact ⟨N2, ⟨S2.1, md_F_tr S.2 S2.2⟩, E2⟩
