/-! THE REFERENCE's WORLD: its state as whole numbers; its references are their tags -/
/-- its numbers: code limit started signals elements drivers size processes waveCount step now; its arrays of ints; of longs -/
abbrev mq_H : Type := List Int × (Nat → Nat → Int) × (Nat → Nat → Int)
abbrev mq_A : Type := Nat → Nat → Int
def mq_sl (b : Nat) (f : Nat → Prop) : Prop := match b with
  | 4 => f 30
  | 5 => f 31
  | 6 => f 32
  | 7 => f 33
  | 8 => f 34
  | 10 => f 35
  | 11 => f 36
  | 13 => f 37
  | 14 => f 38
  | 15 => f 39
  | 17 => f 40
  | 18 => f 41
  | 19 => f 42
  | 20 => f 43
  | 21 => f 44
  | 22 => f 45
  | 24 => f 46
  | 25 => f 47
  | 26 => f 48
  | 27 => f 49
  | 28 => f 50
  | 29 => f 51
  | 30 => f 52
  | _ => False
def mq_ln (a : Nat) (f : Int → Prop) : Prop := match a with
  | 30 => f 200
  | 31 => f 200
  | 32 => f 200
  | 33 => f 200
  | 34 => f 200
  | 35 => f 512
  | 36 => f 512
  | 37 => f 512
  | 38 => f 512
  | 39 => f 512
  | 40 => f 8192
  | 41 => f 8192
  | 42 => f 8192
  | 43 => f 8208
  | 44 => f 8208
  | 45 => f 8208
  | 46 => f 64
  | 47 => f 64
  | 48 => f 64
  | 49 => f 12800
  | 50 => f 200
  | 51 => f 1024
  | 52 => f 16
  | _ => False
theorem mq_sl_e {b : Nat} {f : Nat → Prop} (h : mq_sl b f) : ∃ t n, (b, t, n) ∈ md_as ∧ f t := by
  unfold mq_sl at h
  split at h
  · exact ⟨30, 200, by decide, h⟩
  · exact ⟨31, 200, by decide, h⟩
  · exact ⟨32, 200, by decide, h⟩
  · exact ⟨33, 200, by decide, h⟩
  · exact ⟨34, 200, by decide, h⟩
  · exact ⟨35, 512, by decide, h⟩
  · exact ⟨36, 512, by decide, h⟩
  · exact ⟨37, 512, by decide, h⟩
  · exact ⟨38, 512, by decide, h⟩
  · exact ⟨39, 512, by decide, h⟩
  · exact ⟨40, 8192, by decide, h⟩
  · exact ⟨41, 8192, by decide, h⟩
  · exact ⟨42, 8192, by decide, h⟩
  · exact ⟨43, 8208, by decide, h⟩
  · exact ⟨44, 8208, by decide, h⟩
  · exact ⟨45, 8208, by decide, h⟩
  · exact ⟨46, 64, by decide, h⟩
  · exact ⟨47, 64, by decide, h⟩
  · exact ⟨48, 64, by decide, h⟩
  · exact ⟨49, 12800, by decide, h⟩
  · exact ⟨50, 200, by decide, h⟩
  · exact ⟨51, 1024, by decide, h⟩
  · exact ⟨52, 16, by decide, h⟩
  · exact h.elim
theorem mq_ln_e {a : Nat} {f : Int → Prop} (h : mq_ln a f) : ∃ s n : Nat, (s, a, n) ∈ md_as ∧ f n := by
  unfold mq_ln at h
  split at h
  · exact ⟨4, 200, by decide, h⟩
  · exact ⟨5, 200, by decide, h⟩
  · exact ⟨6, 200, by decide, h⟩
  · exact ⟨7, 200, by decide, h⟩
  · exact ⟨8, 200, by decide, h⟩
  · exact ⟨10, 512, by decide, h⟩
  · exact ⟨11, 512, by decide, h⟩
  · exact ⟨13, 512, by decide, h⟩
  · exact ⟨14, 512, by decide, h⟩
  · exact ⟨15, 512, by decide, h⟩
  · exact ⟨17, 8192, by decide, h⟩
  · exact ⟨18, 8192, by decide, h⟩
  · exact ⟨19, 8192, by decide, h⟩
  · exact ⟨20, 8208, by decide, h⟩
  · exact ⟨21, 8208, by decide, h⟩
  · exact ⟨22, 8208, by decide, h⟩
  · exact ⟨24, 64, by decide, h⟩
  · exact ⟨25, 64, by decide, h⟩
  · exact ⟨26, 64, by decide, h⟩
  · exact ⟨27, 12800, by decide, h⟩
  · exact ⟨28, 200, by decide, h⟩
  · exact ⟨29, 1024, by decide, h⟩
  · exact ⟨30, 16, by decide, h⟩
  · exact h.elim
def mq_ix (j n : Int) (A : Prop) : Prop := 0 ≤ j ∧ j < n ∧ A
def mq_nt : List Int → Nat → (Int → Prop) → Prop
  | [], _, _ => False
  | x :: _, 0, k => k x
  | _ :: r, n + 1, k => mq_nt r n k
def mq_st : List Int → Nat → Int → List Int
  | [], _, _ => []
  | _ :: r, 0, v => v :: r
  | x :: r, n + 1, v => x :: mq_st r n v
def mq_fi (b : Nat) (f : Nat → Prop) : Prop := match b with
  | 0 => f 0
  | 1 => f 1
  | 2 => f 2
  | 3 => f 3
  | 9 => f 4
  | 12 => f 5
  | 16 => f 6
  | 23 => f 7
  | 31 => f 8
  | 33 => f 9
  | _ => False
def mq_gf (c b : Nat) (F : List Int) (A B : mq_A) (k : wi_Q1 mq_H) : Prop := match c with
  | 0 => mq_fi b fun n => mq_nt F n fun x => k (some (.inl x)) (F, A, B)
  | 1 => if b = 32 then mq_nt F 10 fun x => k (some (.inr (.inl x))) (F, A, B) else False
  | 2 => mq_sl b fun t => k (some (wi_rf (some t))) (F, A, B)
  | _ => False
def mq_la (c a j : Nat) (F : List Int) (A B : mq_A) (k : wi_Q1 mq_H) : Prop := match c with
  | 0 => k (some (.inl (A a j))) (F, A, B)
  | 1 => k (some (.inr (.inl (B a j)))) (F, A, B)
  | _ => False
def mq_h (code a b c : Nat) (as : List wi_V) (F : List Int) (A B : mq_A) (k : wi_Q1 mq_H) : Prop := match code with
  | 0 => match as with
    | [.inr (.inr (.inl (some t)))] => if t = 11 ∧ a = 11 then mq_gf c b F A B k else False
    | _ => False
  | 1 => match as with
    | [.inr (.inr (.inl (some t))), .inl x] => if t = 11 ∧ a = 11 ∧ c = 0 then (if b = 2 then (x = 0 ∨ x = 1) ∧ k none (mq_st F 2 x, A, B) else mq_fi b fun n => k none (mq_st F n x, A, B)) else False
    | [.inr (.inr (.inl (some t))), .inr (.inl x)] => if t = 11 ∧ a = 11 ∧ c = 1 ∧ b = 32 then k none (mq_st F 10 x, A, B) else False
    | _ => False
  | 3 => match as with
    | [.inr (.inr (.inl (some t))), .inl j] => if t = a then mq_ln a (fun n => mq_ix j n (mq_la c a j.toNat F A B k)) else False
    | _ => False
  | 4 => match as with
    | [.inr (.inr (.inl (some t))), .inl j, .inl x] => if t = a ∧ c = 0 then mq_ln a (fun n => mq_ix j n (∀ A', A' = md_u A a j.toNat x → k none (F, A', B))) else False
    | [.inr (.inr (.inl (some t))), .inl j, .inr (.inl x)] => if t = a ∧ c = 1 then mq_ln a (fun n => mq_ix j n (∀ B', B' = md_u B a j.toNat x → k none (F, A, B'))) else False
    | _ => False
  | 8 => match as with
    | [.inr (.inr (.inl (some t)))] => if t = 11 ∧ b = 9 then k none (F, A, B) else False
    | _ => False
  | _ => False
def mq_hp : wi_P mq_H := fun code a b c as M k => match M with
  | (F, A, B) => mq_h code a b c as F A B k
def mq_F (N : md_M) : List Int := [(N.1 11 0).toInt, (N.1 11 1).toInt, (N.1 11 2).toInt, (N.1 11 3).toInt, (N.1 11 9).toInt, (N.1 11 12).toInt, (N.1 11 16).toInt, (N.1 11 23).toInt, (N.1 11 31).toInt, (N.1 11 33).toInt, (N.2 11 32).toInt]
def mq_E (M : mq_H) (N : md_M) : Prop := M.1 = mq_F N ∧ (∀ t k, 11 < t → (N.1 t k).toInt = M.2.1 t k) ∧ ∀ t k, 11 < t → (N.2 t k).toInt = M.2.2 t k
def mq_Rl : wi_RL mq_H := fun ρ h0 M h => ∃ N : md_M, md_S h0 h (ρ 11) ρ N ∧ mq_E M N
theorem mq_nt_e {N : md_M} {b : Nat} {f : Int → Prop} (h : mq_fi b fun n => mq_nt (mq_F N) n f) : f (N.1 11 b).toInt := by
  unfold mq_fi at h
  split at h <;> first
    | exact h.elim
    | exact h
theorem mq_st_e {N : md_M} {b : Nat} {x : Int32} {y : Int} (hx : x.toInt = y) {f : List Int → Prop} (h : mq_fi b fun n => f (mq_st (mq_F N) n y)) : f (mq_F (md_u N.1 11 b x, N.2)) := by
  subst hx
  unfold mq_fi at h
  split at h
  · exact h
  · exact h
  · exact h
  · exact h
  · exact h
  · exact h
  · exact h
  · exact h
  · exact h
  · exact h
  · exact h.elim
theorem mq_E_1 {M : mq_H} {N : md_M} (e : mq_E M N) {t k : Nat} (ht : 11 < t) {x : Int32} {y : Int} (h : x.toInt = y) : mq_E (M.1, md_u M.2.1 t k y, M.2.2) (md_u N.1 t k x, N.2) := by
  refine ⟨?_, fun t' k' ht' => ?_, e.2.2⟩
  · rw [e.1]
    unfold mq_F
    simp only [md_u_t (Nat.ne_of_lt ht)]
  · simp only [md_u]
    split
    · exact h
    · exact e.2.1 t' k' ht'
theorem mq_E_2 {M : mq_H} {N : md_M} (e : mq_E M N) {t k : Nat} (ht : 11 < t) {x : Int64} {y : Int} (h : x.toInt = y) : mq_E (M.1, M.2.1, md_u M.2.2 t k y) (N.1, md_u N.2 t k x) := by
  refine ⟨?_, e.2.1, fun t' k' ht' => ?_⟩
  · rw [e.1]
    unfold mq_F
    simp only [md_u_t (Nat.ne_of_lt ht)]
  · simp only [md_u]
    split
    · exact h
    · exact e.2.2 t' k' ht'
theorem mq_nb {b : Nat} (h : b ≠ 2) : wm_ty 9 b ≠ .boolean := by
  show wd_t9 b ≠ .boolean
  unfold wd_t9
  split <;> first
    | exact absurd rfl h
    | intro z; cases z
theorem mq_hk (ρ : Nat → Nat) (h0 : wm_H) : wi_hk ρ (mq_Rl ρ h0) mq_hp := by
  refine ⟨?_, ?_, ?_, ?_, ?_, ?_, ?_, ?_, ?_⟩
  · intro a b c o M k h' d r
    obtain ⟨F, A, B⟩ := M
    obtain ⟨N, S, E⟩ := r
    cases o with
    | none => exact (show False from d).elim
    | some t =>
      replace d : (if t = 11 ∧ a = 11 then mq_gf c b F A B k else False) := d
      split at d
      · next e =>
        obtain ⟨rfl, rfl⟩ := e
        refine ⟨ρ 11, rfl, S.1.1, ?_⟩
        unfold mq_gf at d
        split at d
        · cases E.1
          exact ⟨.inl _, ⟨_, rfl, by rw [S.1.2.1]⟩, mq_nt_e d⟩
        · cases E.1
          split at d
          · next e => subst e; exact ⟨.inr (.inl _), ⟨_, rfl, by rw [S.1.2.2.1]⟩, d⟩
          · exact d.elim
        · obtain ⟨t, n, hx, d2⟩ := mq_sl_e d
          refine ⟨_, ?_, d2⟩
          show wm_wv h' 2 11 b (ρ 11) = _
          unfold wm_wv
          rw [(S.1.2.2.2 _ hx).1]
          rfl
        · exact d.elim
      · exact d.elim
  · intro a b c o v x M k h' d r hv
    obtain ⟨F, A, B⟩ := M
    obtain ⟨N, S, E⟩ := r
    cases o with
    | none => rcases v with v | v | v | v <;> exact (show False from d).elim
    | some t =>
      rcases v with v | v | v | v
      · replace d : (if t = 11 ∧ a = 11 ∧ c = 0 then (if b = 2 then (v = 0 ∨ v = 1) ∧ k none (mq_st F 2 v, A, B) else mq_fi b fun n => k none (mq_st F n v, A, B)) else False) := d
        obtain ⟨z, rfl, hz⟩ := hv
        cases E.1
        split at d
        · next e =>
          obtain ⟨rfl, rfl, rfl⟩ := e
          refine ⟨ρ 11, rfl, S.1.1, rfl, fun ci h1 h2 => ?_, (mq_F (md_u N.1 11 b z, N.2), A, B), ⟨_, md_fi S b z, rfl, fun t k ht => ?_, E.2.2⟩, ?_⟩
          · cases h1
            by_cases hb : b = 2
            · rw [if_pos hb] at d
              rcases d.1 with e | e
              · left; congr 1; rw [← Int32.toInt_inj, hz, e]; rfl
              · right; congr 1; rw [← Int32.toInt_inj, hz, e]; rfl
            · exact absurd h2 (mq_nb hb)
          · show ((md_u N.1 11 b z) t k).toInt = A t k
            rw [md_u_t (Nat.ne_of_gt ht)]
            exact E.2.1 t k ht
          · split at d
            · next e => subst e; subst hz; exact d.2
            · exact mq_st_e (f := fun F => k none (F, A, B)) hz d
        · exact d.elim
      · replace d : (if t = 11 ∧ a = 11 ∧ c = 1 ∧ b = 32 then k none (mq_st F 10 v, A, B) else False) := d
        obtain ⟨z, rfl, hz⟩ := hv
        cases E.1
        split at d
        · next e =>
          obtain ⟨rfl, rfl, rfl, rfl⟩ := e
          subst hz
          refine ⟨ρ 11, rfl, S.1.1, rfl, fun ci h1 h2 => ?_, (mq_F (N.1, md_u N.2 11 32 z), A, B), ⟨_, md_fl S 32 z, rfl, E.2.1, fun t k ht => ?_⟩, d⟩
          · cases h1
            exact absurd h2 (mq_nb (by decide))
          · show ((md_u N.2 11 32 z) t k).toInt = B t k
            rw [md_u_t (Nat.ne_of_gt ht)]
            exact E.2.2 t k ht
        · exact d.elim
      · exact (show False from d).elim
      · exact (show False from d).elim
  · intro a o M k h' d r
    exact (show False from d).elim
  · intro a c o j M k h' d r
    obtain ⟨F, A, B⟩ := M
    obtain ⟨N, S, E⟩ := r
    cases o with
    | none => exact (show False from d).elim
    | some t =>
      replace d : (if t = a then mq_ln a (fun n => mq_ix j n (mq_la c a j.toNat F A B k)) else False) := d
      split at d
      · next e =>
        subst e
        obtain ⟨s, n, hx, d1, d2, d3⟩ := mq_ln_e d
        obtain ⟨a1, a2, a3, a4, a5⟩ := S.1.2.2.2 _ hx
        have h30 : 30 ≤ t := md_as_t _ hx
        refine ⟨ρ t, rfl, a2, d1, by rw [a3]; exact d2, ?_⟩
        unfold mq_la at d3
        split at d3
        · exact ⟨.inl _, ⟨_, rfl, by rw [a4]; exact E.2.1 _ _ (by show 11 < t; omega)⟩, d3⟩
        · exact ⟨.inr (.inl _), ⟨_, rfl, by rw [a5]; exact E.2.2 _ _ (by show 11 < t; omega)⟩, d3⟩
        · exact d3.elim
      · exact d.elim
  · intro a b c o j v x M k h' d r hv
    obtain ⟨F, A, B⟩ := M
    obtain ⟨N, S, E⟩ := r
    cases o with
    | none => rcases v with v | v | v | v <;> exact (show False from d).elim
    | some t =>
      rcases v with v | v | v | v
      · replace d : (if t = a ∧ c = 0 then mq_ln a (fun n => mq_ix j n (∀ A', A' = md_u A a j.toNat v → k none (F, A', B))) else False) := d
        obtain ⟨z, rfl, hz⟩ := hv
        split at d
        · next e =>
          obtain ⟨rfl, rfl⟩ := e
          obtain ⟨s, n, hx, d1, d2, d3⟩ := mq_ln_e d
          obtain ⟨a1, a2, a3, a4, a5⟩ := S.1.2.2.2 _ hx
          have h30 : 30 ≤ t := md_as_t _ hx
          exact ⟨ρ t, rfl, a2, d1, by rw [a3]; exact d2, (fun e => by cases e), _, ⟨_, md_ai S _ hx j.toNat z, mq_E_1 (M := (F, A, B)) E (by show 11 < t; omega) hz⟩, d3 _ rfl⟩
        · exact d.elim
      · replace d : (if t = a ∧ c = 1 then mq_ln a (fun n => mq_ix j n (∀ B', B' = md_u B a j.toNat v → k none (F, A, B'))) else False) := d
        obtain ⟨z, rfl, hz⟩ := hv
        split at d
        · next e =>
          obtain ⟨rfl, rfl⟩ := e
          obtain ⟨s, n, hx, d1, d2, d3⟩ := mq_ln_e d
          obtain ⟨a1, a2, a3, a4, a5⟩ := S.1.2.2.2 _ hx
          have h30 : 30 ≤ t := md_as_t _ hx
          exact ⟨ρ t, rfl, a2, d1, by rw [a3]; exact d2, (fun e => by cases e), _, ⟨_, md_al S _ hx j.toNat z, mq_E_2 (M := (F, A, B)) E (by show 11 < t; omega) hz⟩, d3 _ rfl⟩
        · exact d.elim
      · exact (show False from d).elim
      · exact (show False from d).elim
  · intro a n M k h' d
    exact (show False from d).elim
  · intro x y M k h' d
    exact (show False from d).elim
  · intro b o M k h' d r
    obtain ⟨F, A, B⟩ := M
    obtain ⟨N, S, E⟩ := r
    cases o with
    | none => exact (show False from d).elim
    | some t =>
      replace d : (if t = 11 ∧ b = 9 then k none (F, A, B) else False) := d
      split at d
      · next e =>
        obtain ⟨rfl, rfl⟩ := e
        exact ⟨ρ 11, rfl, by rw [S.1.1]; rfl, d⟩
      · exact d.elim
  · intro M k h' d
    exact (show False from d).elim
theorem mq_lw : wi_Lw mq_Rl mq_hp := by
  refine ⟨fun ρ h0 h h' z => ?_, fun ρ h0 h h' h2 h2' z1 z2 => ?_, mq_hk⟩
  · obtain ⟨N, S, E⟩ := z
    exact ⟨N, md_S_rf S.1, E⟩
  · obtain ⟨N, S, E⟩ := z1
    obtain ⟨N2, S2, E2⟩ := z2
    exact ⟨N2, ⟨S2.1, md_F_tr S.2 S2.2⟩, E2⟩
