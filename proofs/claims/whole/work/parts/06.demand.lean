/-! THE ABSTRACT MACHINE, 4: what an instruction asks, backwards -/
abbrev wm_S : Type := wm_L × List wm_V × wm_H × Nat × Nat
abbrev wm_N : Type := wm_L → List wm_V → wm_H → Nat → Nat → Prop
abbrev wm_Q1 : Type := Option wm_V → wm_H → Prop
abbrev wm_Q2 : Type := Nat → wm_H → Prop
abbrev wm_X : Type := Nat → List wm_V → wm_H → wm_Q1 → wm_Q2 → Prop
def wm_pi (st : List wm_V) (f : Int32 → List wm_V → Prop) : Prop := match st with
  | .inl x :: r => f x r
  | _ => False
def wm_pj (st : List wm_V) (f : Int64 → List wm_V → Prop) : Prop := match st with
  | .inr (.inl x) :: r => f x r
  | _ => False
def wm_pr (st : List wm_V) (f : Option Nat → List wm_V → Prop) : Prop := match st with
  | .inr (.inr x) :: r => f x r
  | _ => False
/-- a value of one word -/
def wm_p1 (st : List wm_V) (f : wm_V → List wm_V → Prop) : Prop := match st with
  | .inl x :: r => f (.inl x) r
  | .inr (.inr x) :: r => f (.inr (.inr x)) r
  | _ => False
theorem wm_pi_e {st : List wm_V} {f : Int32 → List wm_V → Prop} (h : wm_pi st f) : ∃ x r, st = .inl x :: r ∧ f x r := by
  unfold wm_pi at h
  split at h
  · exact ⟨_, _, rfl, h⟩
  · exact h.elim
theorem wm_pj_e {st : List wm_V} {f : Int64 → List wm_V → Prop} (h : wm_pj st f) : ∃ x r, st = .inr (.inl x) :: r ∧ f x r := by
  unfold wm_pj at h
  split at h
  · exact ⟨_, _, rfl, h⟩
  · exact h.elim
theorem wm_pr_e {st : List wm_V} {f : Option Nat → List wm_V → Prop} (h : wm_pr st f) : ∃ x r, st = .inr (.inr x) :: r ∧ f x r := by
  unfold wm_pr at h
  split at h
  · exact ⟨_, _, rfl, h⟩
  · exact h.elim
theorem wm_p1_e {st : List wm_V} {f : wm_V → List wm_V → Prop} (h : wm_p1 st f) : ∃ v r, st = v :: r ∧ (wm_tv v).category = 1 ∧ f v r := by
  unfold wm_p1 at h
  split at h
  · exact ⟨_, _, rfl, rfl, h⟩
  · exact ⟨_, _, rfl, wm_cat_tv _, h⟩
  · exact h.elim
def wm_gi (o : Option wm_V) (f : Int32 → Prop) : Prop := match o with
  | some (.inl x) => f x
  | _ => False
def wm_gj (o : Option wm_V) (f : Int64 → Prop) : Prop := match o with
  | some (.inr (.inl x)) => f x
  | _ => False
def wm_gr (o : Option wm_V) (f : Option Nat → Prop) : Prop := match o with
  | some (.inr (.inr x)) => f x
  | _ => False
theorem wm_gi_e {o : Option wm_V} {f : Int32 → Prop} (h : wm_gi o f) : ∃ x, o = some (.inl x) ∧ f x := by
  unfold wm_gi at h
  split at h
  · exact ⟨_, rfl, h⟩
  · exact h.elim
theorem wm_gj_e {o : Option wm_V} {f : Int64 → Prop} (h : wm_gj o f) : ∃ x, o = some (.inr (.inl x)) ∧ f x := by
  unfold wm_gj at h
  split at h
  · exact ⟨_, rfl, h⟩
  · exact h.elim
theorem wm_gr_e {o : Option wm_V} {f : Option Nat → Prop} (h : wm_gr o f) : ∃ x, o = some (.inr (.inr x)) ∧ f x := by
  unfold wm_gr at h
  split at h
  · exact ⟨_, rfl, h⟩
  · exact h.elim
def wm_br (P A B : Prop) : Prop := (P → A) ∧ (¬ P → B)
def wm_ic (c : ClassFile.Cond) (x y : Int32) : Prop := match c with
  | .eq => x = y
  | .ne => ¬ x = y
  | .lt => x < y
  | .ge => y ≤ x
  | .gt => y < x
  | .le => x ≤ y
/-- the arguments, in their order, and what lies below them -/
def wm_pp (n : Nat) (st : List wm_V) (f : List wm_V → List wm_V → Prop) : Prop := n ≤ st.length ∧ f (st.take n).reverse (st.drop n)
def wm_ix (j : Int32) (n : Nat) (f : Nat → Prop) : Prop := 0 ≤ j.toInt ∧ j.toInt < n ∧ f j.toNatClampNeg
/-- one instruction; a, b, c: what the table says of it -/
def wm_1 (RC RS mc ms : Nat) (cx : wm_X) (qr : wm_Q1) (qt : wm_Q2) (nx : wm_N) (jp : Nat → wm_N) (i : Instr) (a b c : Nat) (lv : wm_L) (st : List wm_V) (h : wm_H) (cu su : Nat) : Prop := match i with
  | .iconst n => nx lv (.inl (Int32.ofInt n) :: st) h cu su
  | .bipush n => nx lv (.inl ((Int8.ofInt n).toInt32) :: st) h cu su
  | .sipush n => nx lv (.inl ((Int16.ofInt n).toInt32) :: st) h cu su
  | .ldc _ => nx lv (.inl (nI a) :: st) h cu su
  | .lconst n => nx lv (.inr (.inl (Int64.ofNat (n : Nat))) :: st) h cu su
  | .ldc2_w _ => nx lv (.inr (.inl (lN a)) :: st) h cu su
  | .aconst_null => nx lv (.inr (.inr none) :: st) h cu su
  | .iload k => wm_gi (wm_lk lv k) fun x => nx lv (.inl x :: st) h cu su
  | .iload_n k => wm_gi (wm_lk lv k) fun x => nx lv (.inl x :: st) h cu su
  | .lload k => wm_gj (wm_lk lv k) fun x => nx lv (.inr (.inl x) :: st) h cu su
  | .lload_n k => wm_gj (wm_lk lv k) fun x => nx lv (.inr (.inl x) :: st) h cu su
  | .aload k => wm_gr (wm_lk lv k) fun x => nx lv (.inr (.inr x) :: st) h cu su
  | .aload_n k => wm_gr (wm_lk lv k) fun x => nx lv (.inr (.inr x) :: st) h cu su
  | .istore k => wm_pi st fun x r => k < lv.length ∧ nx (wm_s1 lv k (.inl x)) r h cu su
  | .istore_n k => wm_pi st fun x r => (k : Nat) < lv.length ∧ nx (wm_s1 lv k (.inl x)) r h cu su
  | .lstore k => wm_pj st fun x r => k + 1 < lv.length ∧ nx (wm_s2 lv k (.inr (.inl x))) r h cu su
  | .lstore_n k => wm_pj st fun x r => (k : Nat) + 1 < lv.length ∧ nx (wm_s2 lv k (.inr (.inl x))) r h cu su
  | .astore k => wm_pr st fun x r => k < lv.length ∧ nx (wm_s1 lv k (.inr (.inr x))) r h cu su
  | .astore_n k => wm_pr st fun x r => (k : Nat) < lv.length ∧ nx (wm_s1 lv k (.inr (.inr x))) r h cu su
  | .iinc k n => wm_gi (wm_lk lv k) fun x => nx (wm_s1 lv k (.inl (x + Int32.ofInt n))) st h cu su
  | .iadd => wm_pi st fun y r => wm_pi r fun x r => nx lv (.inl (x + y) :: r) h cu su
  | .isub => wm_pi st fun y r => wm_pi r fun x r => nx lv (.inl (x - y) :: r) h cu su
  | .imul => wm_pi st fun y r => wm_pi r fun x r => nx lv (.inl (x * y) :: r) h cu su
  | .idiv => wm_pi st fun y r => wm_pi r fun x r => ¬ y = 0 ∧ nx lv (.inl (x / y) :: r) h cu su
  | .irem => wm_pi st fun y r => wm_pi r fun x r => ¬ y = 0 ∧ nx lv (.inl (x - x / y * y) :: r) h cu su
  | .iand => wm_pi st fun y r => wm_pi r fun x r => nx lv (.inl (x &&& y) :: r) h cu su
  | .ior => wm_pi st fun y r => wm_pi r fun x r => nx lv (.inl (x ||| y) :: r) h cu su
  | .ixor => wm_pi st fun y r => wm_pi r fun x r => nx lv (.inl (x ^^^ y) :: r) h cu su
  | .ishl => wm_pi st fun y r => wm_pi r fun x r => nx lv (.inl (x <<< (y &&& 31)) :: r) h cu su
  | .ishr => wm_pi st fun y r => wm_pi r fun x r => nx lv (.inl (x >>> (y &&& 31)) :: r) h cu su
  | .iushr => wm_pi st fun y r => wm_pi r fun x r => nx lv (.inl ((x.toUInt32 >>> (y.toUInt32 &&& Int32.toUInt32 31)).toInt32) :: r) h cu su
  | .ineg => wm_pi st fun x r => nx lv (.inl (-x) :: r) h cu su
  | .ladd => wm_pj st fun y r => wm_pj r fun x r => nx lv (.inr (.inl (x + y)) :: r) h cu su
  | .lsub => wm_pj st fun y r => wm_pj r fun x r => nx lv (.inr (.inl (x - y)) :: r) h cu su
  | .lmul => wm_pj st fun y r => wm_pj r fun x r => nx lv (.inr (.inl (x * y)) :: r) h cu su
  | .ldiv => wm_pj st fun y r => wm_pj r fun x r => ¬ y = 0 ∧ nx lv (.inr (.inl (x / y)) :: r) h cu su
  | .lrem => wm_pj st fun y r => wm_pj r fun x r => ¬ y = 0 ∧ nx lv (.inr (.inl (x - x / y * y)) :: r) h cu su
  | .land => wm_pj st fun y r => wm_pj r fun x r => nx lv (.inr (.inl (x &&& y)) :: r) h cu su
  | .lor => wm_pj st fun y r => wm_pj r fun x r => nx lv (.inr (.inl (x ||| y)) :: r) h cu su
  | .lxor => wm_pj st fun y r => wm_pj r fun x r => nx lv (.inr (.inl (x ^^^ y)) :: r) h cu su
  | .lshl => wm_pi st fun y r => wm_pj r fun x r => nx lv (.inr (.inl (x <<< (y.toInt64 &&& 63))) :: r) h cu su
  | .lshr => wm_pi st fun y r => wm_pj r fun x r => nx lv (.inr (.inl (x >>> (y.toInt64 &&& 63))) :: r) h cu su
  | .lushr => wm_pi st fun y r => wm_pj r fun x r => nx lv (.inr (.inl ((x.toUInt64 >>> (y.toInt64.toUInt64 &&& Int64.toUInt64 63)).toInt64)) :: r) h cu su
  | .lneg => wm_pj st fun x r => nx lv (.inr (.inl (-x)) :: r) h cu su
  | .i2l => wm_pi st fun x r => nx lv (.inr (.inl x.toInt64) :: r) h cu su
  | .l2i => wm_pj st fun x r => nx lv (.inl x.toInt32 :: r) h cu su
  | .lcmp => wm_pj st fun y r => wm_pj r fun x r => nx lv (.inl (lg_cmp x y) :: r) h cu su
  | .dup => wm_p1 st fun v r => nx lv (v :: v :: r) h cu su
  | .pop => wm_p1 st fun _ r => nx lv r h cu su
  | .dup_x1 => wm_p1 st fun v r => wm_p1 r fun w r => nx lv (v :: w :: v :: r) h cu su
  | .dup_x2 => wm_p1 st fun v r => wm_p1 r fun w r => wm_p1 r fun u r => nx lv (v :: w :: u :: v :: r) h cu su
  | .dup2 => if a = 2 then wm_pj st fun x r => nx lv (.inr (.inl x) :: .inr (.inl x) :: r) h cu su else wm_p1 st fun v r => wm_p1 r fun w r => nx lv (v :: w :: v :: w :: r) h cu su
  | .pop2 => wm_pj st fun _ r => nx lv r h cu su
  | .dup2_x1 => wm_pj st fun x r => wm_p1 r fun w r => nx lv (.inr (.inl x) :: w :: .inr (.inl x) :: r) h cu su
  | .dup2_x2 => wm_pj st fun x r => wm_p1 r fun w r => wm_p1 r fun u r => nx lv (.inr (.inl x) :: w :: u :: .inr (.inl x) :: r) h cu su
  | .ifCond k _ => wm_pi st fun x r => wm_br (wm_ic k x 0) (jp a lv r h cu su) (nx lv r h cu su)
  | .if_icmp k _ => wm_pi st fun y r => wm_pi r fun x r => wm_br (wm_ic k x y) (jp a lv r h cu su) (nx lv r h cu su)
  | .if_acmp .eq _ => wm_pr st fun y r => wm_pr r fun x r => wm_br (x = y) (jp a lv r h cu su) (nx lv r h cu su)
  | .if_acmp .ne _ => wm_pr st fun y r => wm_pr r fun x r => wm_br (x = y) (nx lv r h cu su) (jp a lv r h cu su)
  | .ifnull _ => wm_pr st fun x r => wm_br (x = none) (jp a lv r h cu su) (nx lv r h cu su)
  | .ifnonnull _ => wm_pr st fun x r => wm_br (x = none) (nx lv r h cu su) (jp a lv r h cu su)
  | .goto _ => jp a lv st h cu su
  | .getfield _ => wm_pr st fun o r => ∃ q, o = some q ∧ h.1 q = a ∧ nx lv (wm_wv h c a b q :: r) h cu su
  | .putfield _ => match st with
    | v :: .inr (.inr o) :: r => ∃ q, o = some q ∧ h.1 q = a ∧ wm_vk v = c ∧ (∀ ci, wm_tags a = some (.inl ci) → wm_ty ci b = .boolean → v = .inl 0 ∨ v = .inl 1) ∧ nx lv r (wm_wr h a b q v) cu su
    | _ => False
  | .arraylength => wm_pr st fun o r => ∃ q, o = some q ∧ h.1 q = a ∧ nx lv (.inl (nI (h.2.1 q)) :: r) h cu su
  | .iaload => wm_pi st fun j r => wm_pr r fun o r => ∃ q, o = some q ∧ h.1 q = a ∧ wm_ix j (h.2.1 q) fun k => nx lv (.inl (h.2.2.1 a k q) :: r) h cu su
  | .baload => wm_pi st fun j r => wm_pr r fun o r => ∃ q, o = some q ∧ h.1 q = a ∧ wm_ix j (h.2.1 q) fun k => nx lv (.inl (h.2.2.1 a k q) :: r) h cu su
  | .laload => wm_pi st fun j r => wm_pr r fun o r => ∃ q, o = some q ∧ h.1 q = a ∧ wm_ix j (h.2.1 q) fun k => nx lv (.inr (.inl (h.2.2.2.1 a k q)) :: r) h cu su
  | .aaload => wm_pi st fun j r => wm_pr r fun o r => ∃ q, o = some q ∧ h.1 q = a ∧ wm_ix j (h.2.1 q) fun k => nx lv (.inr (.inr (h.2.2.2.2.1 a k q)) :: r) h cu su
  | .iastore => wm_pi st fun x r => wm_pi r fun j r => wm_pr r fun o r => ∃ q, o = some q ∧ h.1 q = a ∧ wm_ix j (h.2.1 q) fun k => nx lv r (wm_wr h a k q (.inl x)) cu su
  | .bastore => wm_pi st fun x r => wm_pi r fun j r => wm_pr r fun o r => ∃ q, o = some q ∧ h.1 q = a ∧ (x = 0 ∨ x = 1) ∧ wm_ix j (h.2.1 q) fun k => nx lv r (wm_wr h a k q (.inl x)) cu su
  | .lastore => wm_pj st fun x r => wm_pi r fun j r => wm_pr r fun o r => ∃ q, o = some q ∧ h.1 q = a ∧ wm_ix j (h.2.1 q) fun k => nx lv r (wm_wr h a k q (.inr (.inl x))) cu su
  | .aastore => wm_pr st fun x r => wm_pi r fun j r => wm_pr r fun o r => ∃ q, o = some q ∧ h.1 q = a ∧ (∀ v, x = some v → wm_tags (h.1 v) = some (.inl b)) ∧ wm_ix j (h.2.1 q) fun k => nx lv r (wm_wr h a k q (.inr (.inr x))) cu su
  | .newarray _ => wm_pi st fun x r => 0 ≤ x.toInt ∧ x.toInt < 1048576 ∧ cu + 1 ≤ RC ∧ su + x.toNatClampNeg ≤ RS ∧ nx lv (.inr (.inr (some h.2.2.2.2.2)) :: r) (wm_nw h a x.toNatClampNeg) (cu + 1) (su + x.toNatClampNeg)
  | .anewarray _ => wm_pi st fun x r => 0 ≤ x.toInt ∧ x.toInt < 1048576 ∧ cu + 1 ≤ RC ∧ su + x.toNatClampNeg ≤ RS ∧ nx lv (.inr (.inr (some h.2.2.2.2.2)) :: r) (wm_nw h a x.toNatClampNeg) (cu + 1) (su + x.toNatClampNeg)
  | .new _ => cu + 1 ≤ RC ∧ su + b ≤ RS ∧ (if c = 9 then cu + 1 ≤ mc ∧ su + b ≤ ms ∧ (st.map wm_cat).sum ≤ 8 ∧ ∀ n, h.2.2.2.2.2 ≤ n → qt a (wm_sz h n) else nx lv (.inr (.inr (some h.2.2.2.2.2)) :: st) (wm_nw h a 0) (cu + 1) (su + b))
  | .invokespecial _ => if c = 9 then wm_pr st fun o r => (∃ q, o = some q) ∧ (r.map wm_cat).sum ≤ 8 ∧ nx lv r h cu su else
      cu + wm_mc a ≤ RC ∧ su + wm_ms a ≤ RS ∧ wm_pp (wm_mn a) st fun as r => (r.map wm_cat).sum ≤ 8 ∧ (∃ q z, as = .inr (.inr (some q)) :: z) ∧ cx a as h (fun v h' => nx lv (v.toList ++ r) h' (cu + wm_mc a) (su + wm_ms a)) (fun t h' => cu + wm_mc a ≤ mc ∧ su + wm_ms a ≤ ms ∧ qt t h')
  | .invokevirtual _ => cu + wm_mc a ≤ RC ∧ su + wm_ms a ≤ RS ∧ wm_pp (wm_mn a) st fun as r => (r.map wm_cat).sum ≤ 8 ∧ (∃ q z, as = .inr (.inr (some q)) :: z ∧ wm_tags (h.1 q) = some (.inl b)) ∧ cx a as h (fun v h' => nx lv (v.toList ++ r) h' (cu + wm_mc a) (su + wm_ms a)) (fun t h' => cu + wm_mc a ≤ mc ∧ su + wm_ms a ≤ ms ∧ qt t h')
  | .invokestatic _ => cu + wm_mc a ≤ RC ∧ su + wm_ms a ≤ RS ∧ wm_pp (wm_mn a) st fun as r => (r.map wm_cat).sum ≤ 8 ∧ cx a as h (fun v h' => nx lv (v.toList ++ r) h' (cu + wm_mc a) (su + wm_ms a)) (fun t h' => cu + wm_mc a ≤ mc ∧ su + wm_ms a ≤ ms ∧ qt t h')
  | .ireturn => wm_pi st fun x r => r = [] ∧ cu ≤ mc ∧ su ≤ ms ∧ (a = 1 → x = 0 ∨ x = 1) ∧ qr (some (.inl x)) h
  | .lreturn => wm_pj st fun x r => r = [] ∧ cu ≤ mc ∧ su ≤ ms ∧ qr (some (.inr (.inl x))) h
  | .areturn => wm_pr st fun x r => r = [] ∧ cu ≤ mc ∧ su ≤ ms ∧ qr (some (.inr (.inr x))) h
  | .return_ => st = [] ∧ cu ≤ mc ∧ su ≤ ms ∧ qr none h
  | _ => False
