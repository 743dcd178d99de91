/-! THE MACHINE OF WHOLE NUMBERS, 1: ints and longs as Int, references by names; what an instruction asks -/
abbrev wi_V : Type := Int ⊕ (Int ⊕ (Option Nat ⊕ (Int × Int)))
abbrev wi_L : Type := List (Option wi_V)
abbrev wi_N (H : Type) : Type := wi_L → List wi_V → H → Nat → Nat → Prop
abbrev wi_Q1 (H : Type) : Type := Option wi_V → H → Prop
abbrev wi_Q2 (H : Type) : Type := Nat → H → Prop
abbrev wi_X (H : Type) : Type := Nat → List wi_V → H → wi_Q1 H → wi_Q2 H → Prop
abbrev wi_P (H : Type) : Type := Nat → Nat → Nat → Nat → List wi_V → H → wi_Q1 H → Prop
def wi_cat (v : wi_V) : Nat := match v with
  | .inr (.inl _) => 2
  | _ => 1
def wi_r (ρ : Nat → Nat) (v : wi_V) (x : wm_V) : Prop := match v with
  | .inl y => ∃ z, x = .inl z ∧ z.toInt = y
  | .inr (.inl y) => ∃ z, x = .inr (.inl z) ∧ z.toInt = y
  | .inr (.inr (.inl o)) => x = .inr (.inr (o.map ρ))
  | .inr (.inr (.inr p)) => ∃ z z', x = .inl (lg_cmp z z') ∧ z.toInt = p.1 ∧ z'.toInt = p.2
def wi_rs (ρ : Nat → Nat) : List wi_V → List wm_V → Prop
  | [], [] => True
  | v :: r, x :: s => wi_r ρ v x ∧ wi_rs ρ r s
  | _, _ => False
def wi_rl (ρ : Nat → Nat) : wi_L → wm_L → Prop
  | [], [] => True
  | v :: r, x :: s => (∀ w, v = some w → ∃ y, x = some y ∧ wi_r ρ w y) ∧ wi_rl ρ r s
  | _, _ => False
def wi_lk : wi_L → Nat → Option wi_V
  | [], _ => none
  | x :: _, 0 => x
  | _ :: r, k + 1 => wi_lk r k
def wi_nl (x : Option wi_V) : Option wi_V := match x with
  | some (.inr (.inl _)) => none
  | y => y
def wi_s1 : wi_L → Nat → wi_V → wi_L
  | [], _, _ => []
  | _ :: r, 0, v => some v :: r
  | x :: r, 1, v => wi_nl x :: wi_s1 r 0 v
  | x :: r, k + 2, v => x :: wi_s1 r (k + 1) v
def wi_s2 : wi_L → Nat → wi_V → wi_L
  | [], _, _ => []
  | _ :: [], 0, _ => [none]
  | _ :: _ :: r, 0, v => some v :: none :: r
  | x :: r, 1, v => wi_nl x :: wi_s2 r 0 v
  | x :: r, k + 2, v => x :: wi_s2 r (k + 1) v
def wi_en : List wi_V → Nat → wi_L
  | [], n => List.replicate n none
  | v :: r, n => if wi_cat v = 2 then some v :: none :: wi_en r (n - 2) else some v :: wi_en r (n - 1)
def wi_pi (st : List wi_V) (f : Int → List wi_V → Prop) : Prop := match st with
  | .inl x :: r => f x r
  | _ => False
def wi_pj (st : List wi_V) (f : Int → List wi_V → Prop) : Prop := match st with
  | .inr (.inl x) :: r => f x r
  | _ => False
def wi_pr (st : List wi_V) (f : Option Nat → List wi_V → Prop) : Prop := match st with
  | .inr (.inr (.inl x)) :: r => f x r
  | _ => False
def wi_pc (st : List wi_V) (f : Int → Int → List wi_V → Prop) : Prop := match st with
  | .inl x :: r => f x 0 r
  | .inr (.inr (.inr (x, y))) :: r => f x y r
  | _ => False
/-- a value of one word -/
def wi_p1 (st : List wi_V) (f : wi_V → List wi_V → Prop) : Prop := match st with
  | .inl x :: r => f (.inl x) r
  | .inr (.inr (.inl x)) :: r => f (.inr (.inr (.inl x))) r
  | _ => False
def wi_gi (o : Option wi_V) (f : Int → Prop) : Prop := match o with
  | some (.inl x) => f x
  | _ => False
def wi_gj (o : Option wi_V) (f : Int → Prop) : Prop := match o with
  | some (.inr (.inl x)) => f x
  | _ => False
def wi_gr (o : Option wi_V) (f : Option Nat → Prop) : Prop := match o with
  | some (.inr (.inr (.inl x))) => f x
  | _ => False
def wi_br (k : ClassFile.Cond) (x y : Int) (A B : Prop) : Prop := match k with
  | .eq => (x = y → A) ∧ (x ≠ y → B)
  | .ne => (x ≠ y → A) ∧ (x = y → B)
  | .lt => (x < y → A) ∧ (y ≤ x → B)
  | .ge => (y ≤ x → A) ∧ (x < y → B)
  | .gt => (y < x → A) ∧ (x ≤ y → B)
  | .le => (x ≤ y → A) ∧ (y < x → B)
def wi_32 (x : Int) (A : Prop) : Prop := -2147483648 ≤ x ∧ x ≤ 2147483647 ∧ A
def wi_64 (x : Int) (A : Prop) : Prop := -9223372036854775808 ≤ x ∧ x ≤ 9223372036854775807 ∧ A
def wi_pp (n : Nat) (st : List wi_V) (f : List wi_V → List wi_V → Prop) : Prop := if n ≤ st.length then f (st.take n).reverse (st.drop n) else False
abbrev wi_rf (o : Option Nat) : wi_V := .inr (.inr (.inl o))
/-- one instruction; a, b, c: what the table says of it -/
def wi_1 {H : Type} (hp : wi_P H) (RC RS mc ms : Nat) (cx : wi_X H) (qr : wi_Q1 H) (qt : wi_Q2 H) (nx : wi_N H) (jp : Nat → wi_N H) (i : Instr) (a b c : Nat) (lv : wi_L) (st : List wi_V) (h : H) (cu su : Nat) : Prop := match i with
  | .iconst n => nx lv (.inl n :: st) h cu su
  | .bipush n => nx lv (.inl n :: st) h cu su
  | .sipush n => nx lv (.inl n :: st) h cu su
  | .ldc _ => nx lv (.inl (a : Int) :: st) h cu su
  | .lconst n => if (n : Nat) = 0 then nx lv (.inr (.inl 0) :: st) h cu su else nx lv (.inr (.inl 1) :: st) h cu su
  | .ldc2_w _ => if a < 9223372036854775808 then nx lv (.inr (.inl (a : Int)) :: st) h cu su else nx lv (.inr (.inl ((a : Int) - 18446744073709551616)) :: st) h cu su
  | .aconst_null => nx lv (wi_rf none :: st) h cu su
  | .iload k => wi_gi (wi_lk lv k) fun x => nx lv (.inl x :: st) h cu su
  | .iload_n k => wi_gi (wi_lk lv k) fun x => nx lv (.inl x :: st) h cu su
  | .lload k => wi_gj (wi_lk lv k) fun x => nx lv (.inr (.inl x) :: st) h cu su
  | .lload_n k => wi_gj (wi_lk lv k) fun x => nx lv (.inr (.inl x) :: st) h cu su
  | .aload k => wi_gr (wi_lk lv k) fun x => nx lv (wi_rf x :: st) h cu su
  | .aload_n k => wi_gr (wi_lk lv k) fun x => nx lv (wi_rf x :: st) h cu su
  | .istore k => wi_pi st fun x r => if k < lv.length then nx (wi_s1 lv k (.inl x)) r h cu su else False
  | .istore_n k => wi_pi st fun x r => if (k : Nat) < lv.length then nx (wi_s1 lv k (.inl x)) r h cu su else False
  | .lstore k => wi_pj st fun x r => if k + 1 < lv.length then nx (wi_s2 lv k (.inr (.inl x))) r h cu su else False
  | .lstore_n k => wi_pj st fun x r => if (k : Nat) + 1 < lv.length then nx (wi_s2 lv k (.inr (.inl x))) r h cu su else False
  | .astore k => wi_pr st fun x r => if k < lv.length then nx (wi_s1 lv k (wi_rf x)) r h cu su else False
  | .astore_n k => wi_pr st fun x r => if (k : Nat) < lv.length then nx (wi_s1 lv k (wi_rf x)) r h cu su else False
  | .iinc k n => wi_gi (wi_lk lv k) fun x => wi_32 (x + n) (nx (wi_s1 lv k (.inl (x + n))) st h cu su)
  | .iadd => wi_pi st fun y r => wi_pi r fun x r => wi_32 (x + y) (nx lv (.inl (x + y) :: r) h cu su)
  | .isub => wi_pi st fun y r => wi_pi r fun x r => wi_32 (x - y) (nx lv (.inl (x - y) :: r) h cu su)
  | .imul => wi_pi st fun y r => wi_pi r fun x r => wi_32 (x * y) (nx lv (.inl (x * y) :: r) h cu su)
  | .iand => wi_pi st fun y r => wi_pi r fun x r => nx lv (.inl (Int32.ofInt x &&& Int32.ofInt y).toInt :: r) h cu su
  | .ishr => wi_pi st fun y r => wi_pi r fun x r => nx lv (.inl (Int32.ofInt x >>> (Int32.ofInt y &&& 31)).toInt :: r) h cu su
  | .ladd => wi_pj st fun y r => wi_pj r fun x r => wi_64 (x + y) (nx lv (.inr (.inl (x + y)) :: r) h cu su)
  | .lsub => wi_pj st fun y r => wi_pj r fun x r => wi_64 (x - y) (nx lv (.inr (.inl (x - y)) :: r) h cu su)
  | .land => wi_pj st fun y r => wi_pj r fun x r => nx lv (.inr (.inl (Int64.ofInt x &&& Int64.ofInt y).toInt) :: r) h cu su
  | .lor => wi_pj st fun y r => wi_pj r fun x r => nx lv (.inr (.inl (Int64.ofInt x ||| Int64.ofInt y).toInt) :: r) h cu su
  | .lshl => wi_pi st fun y r => wi_pj r fun x r => nx lv (.inr (.inl (Int64.ofInt x <<< ((Int32.ofInt y).toInt64 &&& 63)).toInt) :: r) h cu su
  | .lshr => wi_pi st fun y r => wi_pj r fun x r => nx lv (.inr (.inl (Int64.ofInt x >>> ((Int32.ofInt y).toInt64 &&& 63)).toInt) :: r) h cu su
  | .i2l => wi_pi st fun x r => nx lv (.inr (.inl x) :: r) h cu su
  | .lcmp => wi_pj st fun y r => wi_pj r fun x r => nx lv (.inr (.inr (.inr (x, y))) :: r) h cu su
  | .dup => wi_p1 st fun v r => nx lv (v :: v :: r) h cu su
  | .pop => wi_p1 st fun _ r => nx lv r h cu su
  | .dup_x1 => wi_p1 st fun v r => wi_p1 r fun w r => nx lv (v :: w :: v :: r) h cu su
  | .dup2 => if a = 2 then wi_pj st fun x r => nx lv (.inr (.inl x) :: .inr (.inl x) :: r) h cu su else wi_p1 st fun v r => wi_p1 r fun w r => nx lv (v :: w :: v :: w :: r) h cu su
  | .ifCond k _ => wi_pc st fun x y r => wi_br k x y (jp a lv r h cu su) (nx lv r h cu su)
  | .if_icmp k _ => wi_pi st fun y r => wi_pi r fun x r => wi_br k x y (jp a lv r h cu su) (nx lv r h cu su)
  | .if_acmp .eq _ => wi_pr st fun y r => wi_pr r fun x r => hp 7 0 0 0 [wi_rf x, wi_rf y] h fun v _ => match v with
    | some _ => jp a lv r h cu su
    | none => nx lv r h cu su
  | .if_acmp .ne _ => wi_pr st fun y r => wi_pr r fun x r => hp 7 0 0 0 [wi_rf x, wi_rf y] h fun v _ => match v with
    | some _ => nx lv r h cu su
    | none => jp a lv r h cu su
  | .ifnull _ => wi_pr st fun x r => (x = none → jp a lv r h cu su) ∧ (∀ q, x = some q → nx lv r h cu su)
  | .ifnonnull _ => wi_pr st fun x r => (x = none → nx lv r h cu su) ∧ (∀ q, x = some q → jp a lv r h cu su)
  | .goto _ => jp a lv st h cu su
  | .getfield _ => wi_pr st fun o r => hp 0 a b c [wi_rf o] h fun v _ => nx lv (v.toList ++ r) h cu su
  | .putfield _ => match st with
    | v :: r => wi_pr r fun o r => hp 1 a b c [wi_rf o, v] h fun _ h' => nx lv r h' cu su
    | _ => False
  | .arraylength => wi_pr st fun o r => hp 2 a 0 0 [wi_rf o] h fun v _ => nx lv (v.toList ++ r) h cu su
  | .iaload => wi_pi st fun j r => wi_pr r fun o r => hp 3 a 0 0 [wi_rf o, .inl j] h fun v _ => nx lv (v.toList ++ r) h cu su
  | .baload => wi_pi st fun j r => wi_pr r fun o r => hp 3 a 0 0 [wi_rf o, .inl j] h fun v _ => nx lv (v.toList ++ r) h cu su
  | .laload => wi_pi st fun j r => wi_pr r fun o r => hp 3 a 0 1 [wi_rf o, .inl j] h fun v _ => nx lv (v.toList ++ r) h cu su
  | .aaload => wi_pi st fun j r => wi_pr r fun o r => hp 3 a 0 2 [wi_rf o, .inl j] h fun v _ => nx lv (v.toList ++ r) h cu su
  | .iastore => wi_pi st fun x r => wi_pi r fun j r => wi_pr r fun o r => hp 4 a 0 0 [wi_rf o, .inl j, .inl x] h fun _ h' => nx lv r h' cu su
  | .bastore => wi_pi st fun x r => wi_pi r fun j r => wi_pr r fun o r => (x = 0 ∨ x = 1) ∧ hp 4 a 0 0 [wi_rf o, .inl j, .inl x] h fun _ h' => nx lv r h' cu su
  | .lastore => wi_pj st fun x r => wi_pi r fun j r => wi_pr r fun o r => hp 4 a 0 1 [wi_rf o, .inl j, .inr (.inl x)] h fun _ h' => nx lv r h' cu su
  | .aastore => wi_pr st fun x r => wi_pi r fun j r => wi_pr r fun o r => hp 4 a b 2 [wi_rf o, .inl j, wi_rf x] h fun _ h' => nx lv r h' cu su
  | .newarray _ => wi_pi st fun x r => 0 ≤ x ∧ x < 1048576 ∧ cu + 1 ≤ RC ∧ su + x.toNat ≤ RS ∧ hp 5 a 0 0 [.inl x] h fun v h' => nx lv (v.toList ++ r) h' (cu + 1) (su + x.toNat)
  | .anewarray _ => wi_pi st fun x r => 0 ≤ x ∧ x < 1048576 ∧ cu + 1 ≤ RC ∧ su + x.toNat ≤ RS ∧ hp 5 a 0 0 [.inl x] h fun v h' => nx lv (v.toList ++ r) h' (cu + 1) (su + x.toNat)
  | .new _ => cu + 1 ≤ RC ∧ su + b ≤ RS ∧ (if c = 9 then cu + 1 ≤ mc ∧ su + b ≤ ms ∧ (if (st.map wi_cat).sum ≤ 8 then hp 9 0 0 0 [] h fun _ h' => qt a h' else False) else hp 5 a 0 0 [.inl 0] h fun v h' => nx lv (v.toList ++ st) h' (cu + 1) (su + b))
  | .invokespecial _ => if c = 9 then wi_pr st fun o r => match o with
        | some _ => if (r.map wi_cat).sum ≤ 8 then nx lv r h cu su else False
        | none => False
      else cu + wm_mc a ≤ RC ∧ su + wm_ms a ≤ RS ∧ wi_pp (wm_mn a) st fun as r => match as with
        | .inr (.inr (.inl (some _))) :: _ => if (r.map wi_cat).sum ≤ 8 then cx a as h (fun v h' => nx lv (v.toList ++ r) h' (cu + wm_mc a) (su + wm_ms a)) (fun t h' => cu + wm_mc a ≤ mc ∧ su + wm_ms a ≤ ms ∧ qt t h') else False
        | _ => False
  | .invokevirtual _ => cu + wm_mc a ≤ RC ∧ su + wm_ms a ≤ RS ∧ wi_pp (wm_mn a) st fun as r => match as with
        | .inr (.inr (.inl o)) :: _ => if (r.map wi_cat).sum ≤ 8 then hp 8 0 b 0 [wi_rf o] h (fun _ _ => cx a as h (fun v h' => nx lv (v.toList ++ r) h' (cu + wm_mc a) (su + wm_ms a)) (fun t h' => cu + wm_mc a ≤ mc ∧ su + wm_ms a ≤ ms ∧ qt t h')) else False
        | _ => False
  | .invokestatic _ => cu + wm_mc a ≤ RC ∧ su + wm_ms a ≤ RS ∧ wi_pp (wm_mn a) st fun as r => if (r.map wi_cat).sum ≤ 8 then cx a as h (fun v h' => nx lv (v.toList ++ r) h' (cu + wm_mc a) (su + wm_ms a)) (fun t h' => cu + wm_mc a ≤ mc ∧ su + wm_ms a ≤ ms ∧ qt t h') else False
  | .ireturn => wi_pi st fun x r => match r with
    | [] => cu ≤ mc ∧ su ≤ ms ∧ (if a = 1 then (x = 0 ∨ x = 1) ∧ qr (some (.inl x)) h else qr (some (.inl x)) h)
    | _ => False
  | .lreturn => wi_pj st fun x r => match r with
    | [] => cu ≤ mc ∧ su ≤ ms ∧ qr (some (.inr (.inl x))) h
    | _ => False
  | .areturn => wi_pr st fun x r => match r with
    | [] => cu ≤ mc ∧ su ≤ ms ∧ qr (some (wi_rf x)) h
    | _ => False
  | .return_ => match st with
    | [] => cu ≤ mc ∧ su ≤ ms ∧ qr none h
    | _ => False
  | _ => False
/-- what a table must say for it: its numbers are in their ranges -/
def wi_ck (i : Instr) (a : Nat) : Bool := match i with
  | .iconst n => decide (-2147483648 ≤ n ∧ n ≤ 2147483647)
  | .bipush n => decide (-128 ≤ n ∧ n < 128)
  | .sipush n => decide (-32768 ≤ n ∧ n < 32768)
  | .ldc _ => decide (a < 2147483648)
  | .ldc2_w _ => decide (a < 18446744073709551616)
  | .iinc _ n => decide (-2147483648 ≤ n ∧ n ≤ 2147483647)
  | _ => true
/-- what the heap's instructions must be -/
def wi_hk {H : Type} (ρ : Nat → Nat) (Rr : H → wm_H → Prop) (hp : wi_P H) : Prop :=
  (∀ a b c o h k h', hp 0 a b c [wi_rf o] h k → Rr h h' → ∃ q, o.map ρ = some q ∧ h'.1 q = a ∧ ∃ v, wi_r ρ v (wm_wv h' c a b q) ∧ k (some v) h) ∧
  (∀ a b c o v x h k h', hp 1 a b c [wi_rf o, v] h k → Rr h h' → wi_r ρ v x → ∃ q, o.map ρ = some q ∧ h'.1 q = a ∧ wm_vk x = c ∧ (∀ ci, wm_tags a = some (.inl ci) → wm_ty ci b = .boolean → x = .inl 0 ∨ x = .inl 1) ∧ ∃ h2, Rr h2 (wm_wr h' a b q x) ∧ k none h2) ∧
  (∀ a o h k h', hp 2 a 0 0 [wi_rf o] h k → Rr h h' → ∃ q, o.map ρ = some q ∧ h'.1 q = a ∧ ∃ v, wi_r ρ v (.inl (nI (h'.2.1 q))) ∧ k (some v) h) ∧
  (∀ a c o j h k h', hp 3 a 0 c [wi_rf o, .inl j] h k → Rr h h' → ∃ q, o.map ρ = some q ∧ h'.1 q = a ∧ 0 ≤ j ∧ j < h'.2.1 q ∧ ∃ v, wi_r ρ v (wm_wv h' c a j.toNat q) ∧ k (some v) h) ∧
  (∀ a b c o j v x h k h', hp 4 a b c [wi_rf o, .inl j, v] h k → Rr h h' → wi_r ρ v x → ∃ q, o.map ρ = some q ∧ h'.1 q = a ∧ 0 ≤ j ∧ j < h'.2.1 q ∧ (c = 2 → ∀ z, x = .inr (.inr (some z)) → wm_tags (h'.1 z) = some (.inl b)) ∧ ∃ h2, Rr h2 (wm_wr h' a j.toNat q x) ∧ k none h2) ∧
  (∀ a n h k h', hp 5 a 0 0 [.inl n] h k → Rr h h' → 0 ≤ n → n < 1048576 → ∃ v h2, wi_r ρ v (.inr (.inr (some h'.2.2.2.2.2))) ∧ Rr h2 (wm_nw h' a n.toNat) ∧ k (some v) h2) ∧
  (∀ x y h k h', hp 7 0 0 0 [wi_rf x, wi_rf y] h k → Rr h h' → (x.map ρ = y.map ρ → k (some (.inl 1)) h) ∧ (¬ x.map ρ = y.map ρ → k none h)) ∧
  (∀ b o h k h', hp 8 0 b 0 [wi_rf o] h k → Rr h h' → ∃ q, o.map ρ = some q ∧ wm_tags (h'.1 q) = some (.inl b) ∧ k none h) ∧
  (∀ h k h', hp 9 0 0 0 [] h k → Rr h h' → ∀ n, h'.2.2.2.2.2 ≤ n → ∃ h2, Rr h2 (wm_sz h' n) ∧ k none h2)
/-- lists and locals -/
theorem wi_pi_e {st : List wi_V} {f : Int → List wi_V → Prop} (h : wi_pi st f) : ∃ x r, st = .inl x :: r ∧ f x r := by
  unfold wi_pi at h
  split at h
  · exact ⟨_, _, rfl, h⟩
  · exact h.elim
theorem wi_pj_e {st : List wi_V} {f : Int → List wi_V → Prop} (h : wi_pj st f) : ∃ x r, st = .inr (.inl x) :: r ∧ f x r := by
  unfold wi_pj at h
  split at h
  · exact ⟨_, _, rfl, h⟩
  · exact h.elim
theorem wi_pr_e {st : List wi_V} {f : Option Nat → List wi_V → Prop} (h : wi_pr st f) : ∃ x r, st = wi_rf x :: r ∧ f x r := by
  unfold wi_pr at h
  split at h
  · exact ⟨_, _, rfl, h⟩
  · exact h.elim
theorem wi_p1_e {st : List wi_V} {f : wi_V → List wi_V → Prop} (h : wi_p1 st f) : ∃ v r, st = v :: r ∧ ((∃ x, v = .inl x) ∨ ∃ x, v = wi_rf x) ∧ f v r := by
  unfold wi_p1 at h
  split at h
  · exact ⟨_, _, rfl, Or.inl ⟨_, rfl⟩, h⟩
  · exact ⟨_, _, rfl, Or.inr ⟨_, rfl⟩, h⟩
  · exact h.elim
theorem wi_gi_e {o : Option wi_V} {f : Int → Prop} (h : wi_gi o f) : ∃ x, o = some (.inl x) ∧ f x := by
  unfold wi_gi at h
  split at h
  · exact ⟨_, rfl, h⟩
  · exact h.elim
theorem wi_gj_e {o : Option wi_V} {f : Int → Prop} (h : wi_gj o f) : ∃ x, o = some (.inr (.inl x)) ∧ f x := by
  unfold wi_gj at h
  split at h
  · exact ⟨_, rfl, h⟩
  · exact h.elim
theorem wi_gr_e {o : Option wi_V} {f : Option Nat → Prop} (h : wi_gr o f) : ∃ x, o = some (wi_rf x) ∧ f x := by
  unfold wi_gr at h
  split at h
  · exact ⟨_, rfl, h⟩
  · exact h.elim
theorem wi_rs_c {ρ : Nat → Nat} {v : wi_V} {r : List wi_V} {s : List wm_V} (h : wi_rs ρ (v :: r) s) : ∃ x t, s = x :: t ∧ wi_r ρ v x ∧ wi_rs ρ r t := by
  cases s with
  | nil => exact h.elim
  | cons x t => exact ⟨x, t, rfl, h.1, h.2⟩
theorem wi_rs_i {ρ : Nat → Nat} {y : Int} {r : List wi_V} {s : List wm_V} (h : wi_rs ρ (.inl y :: r) s) : ∃ z t, s = .inl z :: t ∧ z.toInt = y ∧ wi_rs ρ r t := by
  obtain ⟨x, t, rfl, ⟨z, rfl, hz⟩, h2⟩ := wi_rs_c h
  exact ⟨z, t, rfl, hz, h2⟩
theorem wi_rs_j {ρ : Nat → Nat} {y : Int} {r : List wi_V} {s : List wm_V} (h : wi_rs ρ (.inr (.inl y) :: r) s) : ∃ z t, s = .inr (.inl z) :: t ∧ z.toInt = y ∧ wi_rs ρ r t := by
  obtain ⟨x, t, rfl, ⟨z, rfl, hz⟩, h2⟩ := wi_rs_c h
  exact ⟨z, t, rfl, hz, h2⟩
theorem wi_rs_r {ρ : Nat → Nat} {o : Option Nat} {r : List wi_V} {s : List wm_V} (h : wi_rs ρ (wi_rf o :: r) s) : ∃ t, s = .inr (.inr (o.map ρ)) :: t ∧ wi_rs ρ r t := by
  obtain ⟨x, t, rfl, h1, h2⟩ := wi_rs_c h
  cases (show x = .inr (.inr (o.map ρ)) from h1)
  exact ⟨t, rfl, h2⟩
theorem wi_rs_n {ρ : Nat → Nat} {s : List wm_V} (h : wi_rs ρ [] s) : s = [] := by
  cases s with
  | nil => rfl
  | cons x t => exact h.elim
theorem wi_rs_len {ρ : Nat → Nat} : ∀ {r : List wi_V} {s : List wm_V}, wi_rs ρ r s → s.length = r.length
  | [], [], _ => rfl
  | [], _ :: _, h => h.elim
  | _ :: _, [], h => h.elim
  | _ :: r, _ :: s, h => by rw [List.length_cons, List.length_cons, wi_rs_len h.2]
theorem wi_r_cat {ρ : Nat → Nat} {v : wi_V} {x : wm_V} (h : wi_r ρ v x) : wm_cat x = wi_cat v := by
  rcases v with y | y | o | p
  · obtain ⟨z, rfl, -⟩ := h; rfl
  · obtain ⟨z, rfl, -⟩ := h; rfl
  · cases (show x = .inr (.inr (o.map ρ)) from h); rfl
  · obtain ⟨z, z', rfl, -⟩ := h; rfl
theorem wi_rs_cat {ρ : Nat → Nat} : ∀ {r : List wi_V} {s : List wm_V}, wi_rs ρ r s → s.map wm_cat = r.map wi_cat
  | [], [], _ => rfl
  | [], _ :: _, h => h.elim
  | _ :: _, [], h => h.elim
  | _ :: r, _ :: s, h => by rw [List.map_cons, List.map_cons, wi_rs_cat h.2, wi_r_cat h.1]
theorem wi_rs_app {ρ : Nat → Nat} : ∀ {a : List wi_V} {x : List wm_V} {b : List wi_V} {y : List wm_V}, wi_rs ρ a x → wi_rs ρ b y → wi_rs ρ (a ++ b) (x ++ y)
  | [], [], _, _, _, h => h
  | [], _ :: _, _, _, h, _ => h.elim
  | _ :: _, [], _, _, h, _ => h.elim
  | _ :: r, _ :: s, _, _, h, g => ⟨h.1, wi_rs_app h.2 g⟩
theorem wi_rs_rev {ρ : Nat → Nat} : ∀ {a : List wi_V} {x : List wm_V}, wi_rs ρ a x → wi_rs ρ a.reverse x.reverse
  | [], [], h => h
  | [], _ :: _, h => h.elim
  | _ :: _, [], h => h.elim
  | v :: r, y :: s, h => by rw [List.reverse_cons, List.reverse_cons]; exact wi_rs_app (wi_rs_rev h.2) ⟨h.1, trivial⟩
theorem wi_rs_td {ρ : Nat → Nat} : ∀ (n : Nat) {a : List wi_V} {x : List wm_V}, wi_rs ρ a x → wi_rs ρ (a.take n) (x.take n) ∧ wi_rs ρ (a.drop n) (x.drop n)
  | 0, _, _, h => ⟨trivial, h⟩
  | n + 1, [], [], h => ⟨h, h⟩
  | n + 1, [], _ :: _, h => h.elim
  | n + 1, _ :: _, [], h => h.elim
  | n + 1, _ :: _, _ :: _, h => ⟨⟨h.1, (wi_rs_td n h.2).1⟩, (wi_rs_td n h.2).2⟩
theorem wi_rl_len {ρ : Nat → Nat} : ∀ {r : wi_L} {s : wm_L}, wi_rl ρ r s → s.length = r.length
  | [], [], _ => rfl
  | [], _ :: _, h => h.elim
  | _ :: _, [], h => h.elim
  | _ :: r, _ :: s, h => by rw [List.length_cons, List.length_cons, wi_rl_len h.2]
theorem wi_rl_lk {ρ : Nat → Nat} : ∀ {r : wi_L} {s : wm_L} {k : Nat} {w : wi_V}, wi_rl ρ r s → wi_lk r k = some w → ∃ y, wm_lk s k = some y ∧ wi_r ρ w y
  | [], _, k, w, _, h => by cases k <;> cases h
  | _ :: _, [], _, _, h, _ => h.elim
  | v :: r, x :: s, 0, w, h, g => h.1 w g
  | v :: r, x :: s, k + 1, w, h, g => wi_rl_lk (r := r) (s := s) (k := k) h.2 g
theorem wi_nl_r {ρ : Nat → Nat} {v : Option wi_V} {x : Option wm_V} (h : ∀ w, v = some w → ∃ y, x = some y ∧ wi_r ρ w y) : ∀ w, wi_nl v = some w → ∃ y, wm_nl x = some y ∧ wi_r ρ w y := by
  intro w hw
  rcases v with _ | (z | z | o | p)
  · cases hw
  · obtain ⟨y, rfl, hy⟩ := h _ rfl
    cases hw
    obtain ⟨u, rfl, -⟩ := id hy
    exact ⟨_, rfl, hy⟩
  · cases hw
  · obtain ⟨y, rfl, hy⟩ := h _ rfl
    cases hw
    cases (show y = .inr (.inr (o.map ρ)) from hy)
    exact ⟨_, rfl, hy⟩
  · obtain ⟨y, rfl, hy⟩ := h _ rfl
    cases hw
    obtain ⟨u, u', rfl, -⟩ := id hy
    exact ⟨_, rfl, hy⟩
theorem wi_nn {ρ : Nat → Nat} {x : Option wm_V} : ∀ w, (none : Option wi_V) = some w → ∃ y, x = some y ∧ wi_r ρ w y := fun w hw => by cases hw
theorem wi_sm {ρ : Nat → Nat} {v : wi_V} {y : wm_V} (hv : wi_r ρ v y) : ∀ w, some v = some w → ∃ z, some y = some z ∧ wi_r ρ w z := fun w hw => by cases hw; exact ⟨y, rfl, hv⟩
theorem wi_rl_s1 {ρ : Nat → Nat} {v : wi_V} {y : wm_V} (hv : wi_r ρ v y) : ∀ {r : wi_L} {s : wm_L} {k : Nat}, wi_rl ρ r s → wi_rl ρ (wi_s1 r k v) (wm_s1 s k y)
  | [], [], k, h => by simp only [wi_s1, wm_s1]; exact h
  | [], _ :: _, _, h => h.elim
  | _ :: _, [], _, h => h.elim
  | x :: r, z :: s, 0, h => And.intro (wi_sm hv) h.2
  | x :: r, z :: s, 1, h => And.intro (wi_nl_r h.1) (wi_rl_s1 hv (k := 0) h.2)
  | x :: r, z :: s, k + 2, h => And.intro h.1 (wi_rl_s1 hv (k := k + 1) h.2)
theorem wi_rl_s2 {ρ : Nat → Nat} {v : wi_V} {y : wm_V} (hv : wi_r ρ v y) : ∀ {r : wi_L} {s : wm_L} {k : Nat}, wi_rl ρ r s → wi_rl ρ (wi_s2 r k v) (wm_s2 s k y)
  | [], [], k, h => by simp only [wi_s2, wm_s2]; exact h
  | [], _ :: _, _, h => h.elim
  | _ :: _, [], _, h => h.elim
  | [x], [z], 0, h => And.intro wi_nn trivial
  | [x], z :: z' :: s, 0, h => h.2.elim
  | x :: x' :: r, [z], 0, h => h.2.elim
  | x :: x' :: r, z :: z' :: s, 0, h => And.intro (wi_sm hv) (And.intro wi_nn h.2.2)
  | x :: r, z :: s, 1, h => by
    have e1 : wi_s2 (x :: r) 1 v = wi_nl x :: wi_s2 r 0 v := by cases r <;> rfl
    have e2 : wm_s2 (z :: s) 1 y = wm_nl z :: wm_s2 s 0 y := by cases s <;> rfl
    rw [e1, e2]
    exact And.intro (wi_nl_r h.1) (wi_rl_s2 hv (k := 0) h.2)
  | x :: r, z :: s, k + 2, h => by
    have e1 : wi_s2 (x :: r) (k + 2) v = x :: wi_s2 r (k + 1) v := by cases r <;> rfl
    have e2 : wm_s2 (z :: s) (k + 2) y = z :: wm_s2 s (k + 1) y := by cases s <;> rfl
    rw [e1, e2]
    exact And.intro h.1 (wi_rl_s2 hv (k := k + 1) h.2)
theorem wi_rl_rep {ρ : Nat → Nat} : ∀ n : Nat, wi_rl ρ (List.replicate n none) (List.replicate n none)
  | 0 => trivial
  | n + 1 => And.intro wi_nn (wi_rl_rep n)
theorem wi_rl_en {ρ : Nat → Nat} : ∀ {r : List wi_V} {s : List wm_V} (n : Nat), wi_rs ρ r s → wi_rl ρ (wi_en r n) (wm_en s n)
  | [], [], n, _ => wi_rl_rep n
  | [], _ :: _, _, h => h.elim
  | _ :: _, [], _, h => h.elim
  | v :: r, x :: s, n, h => by
    unfold wi_en wm_en
    rw [wi_r_cat h.1]
    split
    · exact And.intro (wi_sm h.1) (And.intro wi_nn (wi_rl_en (n - 2) h.2))
    · exact And.intro (wi_sm h.1) (wi_rl_en (n - 1) h.2)
/-- numbers -/
theorem wi_b32 {z : Int} (h1 : -2147483648 ≤ z) (h2 : z ≤ 2147483647) : z.bmod (2 ^ 32) = z := by
  unfold Int.bmod
  simp only [Int.reducePow, Nat.reducePow]
  split <;> omega
theorem wi_b64 {z : Int} (h1 : -9223372036854775808 ≤ z) (h2 : z ≤ 9223372036854775807) : z.bmod (2 ^ 64) = z := by
  unfold Int.bmod
  simp only [Int.reducePow, Nat.reducePow]
  split <;> omega
theorem wi_o32 {z : Int} (h1 : -2147483648 ≤ z) (h2 : z ≤ 2147483647) : (Int32.ofInt z).toInt = z := by
  rw [Int32.toInt_ofInt]; exact wi_b32 h1 h2
theorem wi_o64 {z : Int} (h1 : -9223372036854775808 ≤ z) (h2 : z ≤ 9223372036854775807) : (Int64.ofInt z).toInt = z := by
  rw [Int64.toInt_ofInt]; exact wi_b64 h1 h2
theorem wi_t32 (x : Int32) : -2147483648 ≤ x.toInt ∧ x.toInt ≤ 2147483647 := ⟨Int32.le_toInt x, by have := Int32.toInt_lt x; omega⟩
theorem wi_t64 (x : Int64) : -9223372036854775808 ≤ x.toInt ∧ x.toInt ≤ 9223372036854775807 := ⟨Int64.le_toInt x, by have := Int64.toInt_lt x; omega⟩
theorem wi_add {x y : Int32} {u v : Int} (hx : x.toInt = u) (hy : y.toInt = v) (h1 : -2147483648 ≤ u + v) (h2 : u + v ≤ 2147483647) : (x + y).toInt = u + v := by
  rw [Int32.toInt_add, hx, hy, wi_b32 h1 h2]
theorem wi_sub {x y : Int32} {u v : Int} (hx : x.toInt = u) (hy : y.toInt = v) (h1 : -2147483648 ≤ u - v) (h2 : u - v ≤ 2147483647) : (x - y).toInt = u - v := by
  rw [Int32.toInt_sub, hx, hy, wi_b32 h1 h2]
theorem wi_mul {x y : Int32} {u v : Int} (hx : x.toInt = u) (hy : y.toInt = v) (h1 : -2147483648 ≤ u * v) (h2 : u * v ≤ 2147483647) : (x * y).toInt = u * v := by
  rw [Int32.toInt_mul, hx, hy, wi_b32 h1 h2]
theorem wi_ladd {x y : Int64} {u v : Int} (hx : x.toInt = u) (hy : y.toInt = v) (h1 : -9223372036854775808 ≤ u + v) (h2 : u + v ≤ 9223372036854775807) : (x + y).toInt = u + v := by
  rw [Int64.toInt_add, hx, hy, wi_b64 h1 h2]
theorem wi_lsub {x y : Int64} {u v : Int} (hx : x.toInt = u) (hy : y.toInt = v) (h1 : -9223372036854775808 ≤ u - v) (h2 : u - v ≤ 9223372036854775807) : (x - y).toInt = u - v := by
  rw [Int64.toInt_sub, hx, hy, wi_b64 h1 h2]
theorem wi_nat {x : Int32} {u : Int} (hx : x.toInt = u) : x.toNatClampNeg = u.toNat := by rw [← hx]; rfl
theorem wi_e32 {x : Int32} {u : Int} (hx : x.toInt = u) : x = Int32.ofInt u := by rw [← hx, Int32.ofInt_toInt]
theorem wi_e64 {x : Int64} {u : Int} (hx : x.toInt = u) : x = Int64.ofInt u := by rw [← hx, Int64.ofInt_toInt]
/-- a condition of ints -/
theorem wi_ic32 {k : ClassFile.Cond} {x y : Int32} {u v : Int} (hx : x.toInt = u) (hy : y.toInt = v) {A B A' B' : Prop} (hA : A → A') (hB : B → B') (h : wi_br k u v A B) : wm_br (wm_ic k x y) A' B' := by
  subst hx hy
  unfold wm_br wm_ic
  unfold wi_br at h
  cases k <;> simp only [Int32.lt_iff_toInt_lt, Int32.le_iff_toInt_le, ← Int32.toInt_inj] at * <;> refine ⟨fun z => hA (h.1 (by omega)), fun z => hB (h.2 (by omega))⟩
theorem wi_cmp {x y : Int64} : (lg_cmp x y).toInt = if y.toInt < x.toInt then 1 else if x.toInt = y.toInt then 0 else -1 := by
  unfold lg_cmp
  simp only [gt_iff_lt, Int64.lt_iff_toInt_lt, ← Int64.toInt_inj]
  split
  · decide
  · split <;> decide
theorem wi_ic64 {k : ClassFile.Cond} {x y : Int64} {u v : Int} (hx : x.toInt = u) (hy : y.toInt = v) {A B A' B' : Prop} (hA : A → A') (hB : B → B') (h : wi_br k u v A B) : wm_br (wm_ic k (lg_cmp x y) 0) A' B' := by
  have e := wi_cmp (x := x) (y := y)
  rw [hx, hy] at e
  refine wi_ic32 (u := (lg_cmp x y).toInt) (v := 0) rfl (by decide) hA hB ?_
  have e2 : ((lg_cmp x y).toInt = 1 ∧ v < u) ∨ ((lg_cmp x y).toInt = 0 ∧ u = v) ∨ ((lg_cmp x y).toInt = -1 ∧ u < v) := by
    rw [e]
    split
    · exact Or.inl ⟨rfl, by omega⟩
    · split
      · exact Or.inr (Or.inl ⟨rfl, by omega⟩)
      · exact Or.inr (Or.inr ⟨rfl, by omega⟩)
  rcases e2 with ⟨e2, e3⟩ | ⟨e2, e3⟩ | ⟨e2, e3⟩ <;> rw [e2] <;> cases k <;> exact And.intro (fun z => h.1 (by omega)) (fun z => h.2 (by omega))
