/-! THE LAW, 9: its loop and its beginning -/
set_option maxHeartbeats 4000000 in
set_option maxRecDepth 20000 in
theorem wl_g1517 {b Lw : Nat} (hL : Lw ≤ 4097) : wl_g b Lw 1517 := by
  intro n lv st h cu su hI
  obtain ⟨x, m, out, ad, M, i, a5, a6, j, rfl, rfl, ⟨hJ, hQ⟩, hi, hB⟩ := hI
  obtain ⟨n1, n2, n3, n4⟩ := hB.2.2 rfl
  refine And.intro (show -2147483648 ≤ i + 8 by omega) (And.intro (show i + 8 ≤ 2147483647 by omega) ?_)
  refine Exists.intro (n - 1) (And.intro (by omega) ?_)
  exact ⟨x, m, out, ad, M, i + 8, _, _, j + 1, rfl, rfl, ⟨hJ, hQ⟩, by omega, fun _ => ⟨by omega, n2, n3, by omega⟩, fun e => absurd rfl e, fun e => absurd e (by omega)⟩
theorem wl_go_c {b Lw n j cu su pc : Nat} {x m out : Nat} {ad : Nat → Nat} {M : mq_H} {i : Int} {a5 a6 : Option wi_V} {h : wc_H} (hJ : wk_J h x M) (hQ : wl_Q b Lw m out ad M h) (hi : i = 1 + 8 * (j : Int)) (hL : Lw ≤ 4097) (h1 : n = 3 * (600 - j)) (h2 : cu ≤ 36 + 1028 * j) (h3 : su ≤ 68360 + 3096 * j) (h4 : 9 + 8 * j ≤ Lw) (hp : pc ≠ 33) :
    ∃ n', n' < n ∧ wl_I b Lw n' pc [some (wi_rf (some b)), some (wi_rf (some x)), some (wi_rf (some m)), some (wi_rf (some out)), some (.inl i), a5, a6] [] h cu su := by
  by_cases e : pc = 1517
  · exact ⟨n - 2, by omega, x, m, out, ad, M, i, a5, a6, j, rfl, rfl, ⟨hJ, hQ⟩, hi, fun z => absurd z hp, fun _ z => absurd e z, fun _ => ⟨by omega, by omega, by omega, h4⟩⟩
  · exact ⟨n - 1, by omega, x, m, out, ad, M, i, a5, a6, j, rfl, rfl, ⟨hJ, hQ⟩, hi, fun z => absurd z hp, fun _ _ => ⟨by omega, h2, h3, h4⟩, fun z => absurd z e⟩
set_option maxHeartbeats 4000000 in
set_option maxRecDepth 20000 in
theorem wl_g33 {b Lw : Nat} (hL : Lw ≤ 4097) : wl_g b Lw 33 := by
  intro n lv st h cu su hI
  obtain ⟨x, m, out, ad, M, i, a5, a6, j, rfl, rfl, ⟨hJ, hQ⟩, hi, hB⟩ := hI
  obtain ⟨n1, n2, n3, n4⟩ := hB.1 rfl
  obtain ⟨tg, ln, I, L, R, nn⟩ := h
  have hb1 : tg b = 1 := hQ.2.2.1
  have hb2 : ln b = Lw := hQ.2.2.2
  refine Exists.intro b (And.intro rfl (And.intro hb1 (And.intro (show ln b < 2147483648 by omega) ?_)))
  refine And.intro (show -2147483648 ≤ ((ln b : Nat) : Int) - 8 by omega) (And.intro (show ((ln b : Nat) : Int) - 8 ≤ 2147483647 by omega) ?_)
  refine And.intro (fun e => ?_) (fun e => ?_)
  · exact And.intro (show cu ≤ 601024 by omega) (And.intro (show su ≤ 7293000 by omega) (And.intro (Or.inr rfl) rfl))
  · have e4 : 9 + 8 * j ≤ Lw := by omega
    have key : ∀ pc, pc ≠ 33 → ∃ n', n' < n ∧ wl_I b Lw n' pc [some (wi_rf (some b)), some (wi_rf (some x)), some (wi_rf (some m)), some (wi_rf (some out)), some (.inl i), a5, a6] [] (tg, ln, I, L, R, nn) cu su := fun pc hp => wl_go_c hJ hQ hi hL n1 n2 n3 e4 hp
    refine Exists.intro b (And.intro rfl (And.intro hb1 (And.intro (show 0 ≤ i by omega) (And.intro (show i < ((ln b : Nat) : Int) by omega) ?_))))
    refine And.intro (fun _ => ?_) (fun j9 off ho _ => ?_)
    · exact key 1517 (by omega)
    · match j9, ho with
      | 0, ho =>
        obtain rfl : off = 110 := (Option.some.inj ho).symm
        exact key 160 (by omega)
      | 1, ho =>
        obtain rfl : off = 178 := (Option.some.inj ho).symm
        exact key 228 (by omega)
      | 2, ho =>
        obtain rfl : off = 222 := (Option.some.inj ho).symm
        exact key 272 (by omega)
      | 3, ho =>
        obtain rfl : off = 270 := (Option.some.inj ho).symm
        exact key 320 (by omega)
      | 4, ho =>
        obtain rfl : off = 330 := (Option.some.inj ho).symm
        exact key 380 (by omega)
      | 5, ho =>
        obtain rfl : off = 354 := (Option.some.inj ho).symm
        exact key 404 (by omega)
      | 6, ho =>
        obtain rfl : off = 422 := (Option.some.inj ho).symm
        exact key 472 (by omega)
      | 7, ho =>
        obtain rfl : off = 470 := (Option.some.inj ho).symm
        exact key 520 (by omega)
      | 8, ho =>
        obtain rfl : off = 481 := (Option.some.inj ho).symm
        exact key 531 (by omega)
      | 9, ho =>
        obtain rfl : off = 633 := (Option.some.inj ho).symm
        exact key 683 (by omega)
      | 10, ho =>
        obtain rfl : off = 669 := (Option.some.inj ho).symm
        exact key 719 (by omega)
      | 11, ho =>
        obtain rfl : off = 777 := (Option.some.inj ho).symm
        exact key 827 (by omega)
      | 12, ho =>
        obtain rfl : off = 813 := (Option.some.inj ho).symm
        exact key 863 (by omega)
      | 13, ho =>
        obtain rfl : off = 877 := (Option.some.inj ho).symm
        exact key 927 (by omega)
      | 14, ho =>
        obtain rfl : off = 921 := (Option.some.inj ho).symm
        exact key 971 (by omega)
      | 15, ho =>
        obtain rfl : off = 977 := (Option.some.inj ho).symm
        exact key 1027 (by omega)
      | 16, ho =>
        obtain rfl : off = 1045 := (Option.some.inj ho).symm
        exact key 1095 (by omega)
      | 17, ho =>
        obtain rfl : off = 1141 := (Option.some.inj ho).symm
        exact key 1191 (by omega)
      | 18, ho =>
        obtain rfl : off = 1197 := (Option.some.inj ho).symm
        exact key 1247 (by omega)
      | 19, ho =>
        obtain rfl : off = 1222 := (Option.some.inj ho).symm
        exact key 1272 (by omega)
      | 20, ho =>
        obtain rfl : off = 1236 := (Option.some.inj ho).symm
        exact key 1286 (by omega)
      | 21, ho =>
        obtain rfl : off = 1249 := (Option.some.inj ho).symm
        exact key 1299 (by omega)
      | 22, ho =>
        obtain rfl : off = 1263 := (Option.some.inj ho).symm
        exact key 1313 (by omega)
      | 23, ho =>
        obtain rfl : off = 1343 := (Option.some.inj ho).symm
        exact key 1393 (by omega)
      | k + 24, ho => simp at ho
theorem wk_J_new {tg ln : Nat → Nat} {I L : wm_F Int} {R : wm_F (Option Nat)} {n x a k : Nat} {M : mq_H} (ha : a = 11 ∨ 28 ≤ a) (j : wk_J (tg, ln, I, L, R, n) x M) : wk_J (fun q => if q = n then a else tg q, fun q => if q = n then k else ln q, fun t j q => if t = a ∧ q = n then 0 else I t j q, fun t j q => if t = a ∧ q = n then 0 else L t j q, fun t j q => if t = a ∧ q = n then none else R t j q, n + 1) x M := by
  have hn : ∀ q, tg q ≠ 0 → q < n := (wk_J_x j).2
  refine wk_J_g (fun q hq => ?_) (Nat.le_succ n) (fun q hq => ?_) (fun t t1 t2 => ?_) j
  · by_cases e : q = n
    · omega
    · simp only [if_neg e] at hq
      have := hn q hq
      omega
  · have := hn q hq
    exact ⟨if_neg (by omega), if_neg (by omega)⟩
  · have e : t ≠ a := by omega
    refine ⟨?_, ?_, ?_⟩ <;> funext j q <;> exact if_neg (fun z => e z.1)
theorem wc_G_new {ok : Nat → Bool} {tg ln : Nat → Nat} {I L : wm_F Int} {R : wm_F (Option Nat)} {n a k : Nat} (hn : ∀ q, tg q ≠ 0 → q < n) (ha : ok a = true) : wc_G ok (tg, ln, I, L, R, n) (fun q => if q = n then a else tg q, fun q => if q = n then k else ln q, fun t j q => if t = a ∧ q = n then 0 else I t j q, fun t j q => if t = a ∧ q = n then 0 else L t j q, fun t j q => if t = a ∧ q = n then none else R t j q, n + 1) := by
  refine ⟨fun q hq => ?_, Nat.le_succ n, fun q hq => ?_, fun t ht => ?_⟩
  · by_cases e : q = n
    · subst e; exact Nat.lt_succ_self _
    · simp only [if_neg e] at hq
      exact Nat.lt_succ_of_lt (hn q hq)
  · have hq : q < n := hq
    exact ⟨if_neg (by omega), if_neg (by omega)⟩
  · have e : t ≠ a := fun z => by rw [z, ha] at ht; cases ht
    refine ⟨?_, ?_, ?_⟩ <;> funext j q <;> exact if_neg (fun z => e z.1)
theorem wl_mdk : ∀ k : Fin 23, (md_as[k.val]?).map (·.2.1) = some (30 + k.val) := by decide
/-- the model's first state -/
theorem wl_R_0 {h2 h3 : wc_H} {m : Nat} {v : Int} (hm : h2.1 m = 11 ∧ m < h2.2.2.2.2.2) (hz : ∀ j, h2.2.2.1 11 j m = 0 ∧ h2.2.2.2.1 11 j m = 0) (P : wl_P h2 m 23 h3) : wl_R (h3.1, h3.2.1, wm_up h3.2.2.1 11 1 m v, h3.2.2.2.1, h3.2.2.2.2.1, h3.2.2.2.2.2) m (fun t => h2.2.2.2.2.2 + (t - 30)) ([0, v, 0, 0, 0, 0, 0, 0, 0, 0, 0], fun _ _ => 0, fun _ _ => 0) := by
  obtain ⟨p1, p2, p3, p4⟩ := P
  have z : ∀ j, h3.2.2.1 11 j m = 0 ∧ h3.2.2.2.1 11 j m = 0 := fun j => ⟨(p3 11 j m hm.2).1.trans (hz j).1, (p3 11 j m hm.2).2.trans (hz j).2⟩
  have u : ∀ j, j ≠ 1 → wm_up h3.2.2.1 11 1 m v 11 j m = 0 := fun j hj => by rw [wm_up_k hj]; exact (z j).1
  refine ⟨(p2 m hm.2).1.trans hm.1, ?_, fun y hy => ?_, fun t k _ => ⟨⟨0, rfl⟩, ⟨0, rfl⟩⟩⟩
  · simp only
    rw [u 0 (by decide), wm_up_self, u 2 (by decide), u 3 (by decide), u 9 (by decide), u 12 (by decide), u 16 (by decide), u 23 (by decide), u 31 (by decide), u 33 (by decide), (z 32).2]
  · obtain ⟨k, hk⟩ := List.getElem?_of_mem hy
    have k23 : k < 23 := (List.getElem?_eq_some_iff.mp hk).1
    obtain ⟨q1, q2, q3, q4⟩ := p4 k k23 y hk
    have e := wl_mdk ⟨k, k23⟩
    simp only [hk, Option.map_some, Option.some.injEq] at e
    have e2 : h2.2.2.2.2.2 + (y.2.1 - 30) = h2.2.2.2.2.2 + k := by omega
    simp only [e2]
    refine ⟨q1, q2, q3, fun j => ?_, fun j => (q4 j).2⟩
    rw [wm_up_t (by omega)]
    exact (q4 j).1
set_option maxHeartbeats 4000000 in
set_option maxRecDepth 20000 in
theorem wl_g0 {b Lw : Nat} (hL : Lw ≤ 4097) {h : wc_H} (hn : wc_hn h) (hb1 : h.1 b = 1) (hb2 : h.2.1 b = Lw) : wj_w (wc_hp wc_ok3) 601024 7293000 601024 7293000 wl_cx (fun v _ => v = some (.inl 1)) (fun _ _ => False) tbL wl_hs (fun pc' lv st h cu su => ∃ n', wl_I b Lw n' pc' lv st h cu su) 200 (wm_dp tbL 0) (wi_en [wi_rf (some b)] 7) [] h 0 0 := by
  obtain ⟨tg, ln, I, L, R, n⟩ := h
  simp only at hb1 hb2
  have hbn : b < n := hn b (by simp only; omega)
  refine And.intro (Nat.le_of_ble_eq_true rfl) (And.intro (Nat.le_of_ble_eq_true rfl) ?_)
  intro tg1 ln1 I1 L1 R1 e1 e2 e3 e4 e5
  have G1 := wc_G_new (ok := wc_ok) (ln := ln) (I := I) (L := L) (R := R) (n := n) (a := 2) (k := 0) hn rfl
  have t1 : tg1 n = 2 := by rw [e1]; exact if_pos rfl
  have t2 : tg1 b = 1 := by rw [e1]; exact (if_neg (by omega)).trans hb1
  have t3 : ln1 b = Lw := by rw [e2]; exact (if_neg (by omega)).trans hb2
  have t4 : ∀ j, I1 2 j n = 0 ∧ L1 2 j n = 0 := fun j => by rw [e3, e4]; exact ⟨if_pos ⟨rfl, rfl⟩, if_pos ⟨rfl, rfl⟩⟩
  have hn1 : wc_hn (tg1, ln1, I1, L1, R1, n + 1) := by
    rw [e1]
    exact G1.1
  refine And.intro (Nat.le_of_ble_eq_true rfl) (And.intro (Nat.le_of_ble_eq_true rfl) ?_)
  refine Exists.intro b (Exists.intro 0 (And.intro rfl (And.intro t2 (And.intro (show ln1 b < 2147483648 by omega) (And.intro (Int.le_refl 0) ?_)))))
  generalize hv : (if (0 : Int) < ((tg1, ln1, I1, L1, R1, n + 1) : wc_H).2.1 b then ((tg1, ln1, I1, L1, R1, n + 1) : wc_H).2.2.1 1 (0 : Int).toNat b else 0) = v0
  refine And.intro (Nat.le_of_ble_eq_true rfl) (And.intro (Nat.le_of_ble_eq_true rfl) (fun _ => ?_))
  refine And.intro t1 (And.intro (Nat.lt_succ_self n) (And.intro hn1 (And.intro t4 (fun h' J1 g1 => ?_))))
  obtain ⟨tg2, ln2, I2, L2, R2, n2⟩ := h'
  have s1 := g1.2.2.1 b (show b < n + 1 by omega)
  have s2 : tg2 b = 1 := s1.1.trans t2
  have s3 : ln2 b = Lw := s1.2.trans t3
  have s4 : I2 1 = I1 1 := (g1.2.2.2 1 rfl).1
  have hn2 : wc_hn (tg2, ln2, I2, L2, R2, n2) := g1.1
  have hbn2 : b < n2 := hn2 b (by simp only; omega)
  refine And.intro (Nat.le_of_ble_eq_true rfl) (And.intro (Nat.le_of_ble_eq_true rfl) ?_)
  intro tg3 ln3 I3 L3 R3 f1 f2 f3 f4 f5
  have J2 := wk_J_new (a := 11) (k := 0) (Or.inl rfl) J1
  have G2 := wc_G_new (ok := wc_ok3) (ln := ln2) (I := I2) (L := L2) (R := R2) (n := n2) (a := 11) (k := 0) hn2 rfl
  have J3 : wk_J (tg3, ln3, I3, L3, R3, n2 + 1) n ([0, if 1 ≤ v0 ∧ v0 ≤ 100000 then v0 else 1000, 0, 0, 0, 0, 0, 0, 0, 0, 0], fun _ _ => 0, fun _ _ => 0) := by
    rw [f1, f2, f3, f4, f5]
    exact J2
  have u1 : tg3 n2 = 11 := by rw [f1]; exact if_pos rfl
  have u2 : tg3 b = 1 := by rw [f1]; exact (if_neg (by omega)).trans s2
  have u3 : ln3 b = Lw := by rw [f2]; exact (if_neg (by omega)).trans s3
  have u4 : ∀ j, I3 11 j n2 = 0 ∧ L3 11 j n2 = 0 := fun j => by rw [f3, f4]; exact ⟨if_pos ⟨rfl, rfl⟩, if_pos ⟨rfl, rfl⟩⟩
  have u5 : I3 1 = I2 1 := by rw [f3]; funext j q; exact if_neg (fun z => absurd z.1 (by decide))
  have hn3 : wc_hn (tg3, ln3, I3, L3, R3, n2 + 1) := by
    rw [f1]
    exact G2.1
  refine And.intro (Nat.le_of_ble_eq_true rfl) (And.intro (Nat.le_of_ble_eq_true rfl) ?_)
  refine Exists.intro b (Exists.intro 0 (And.intro rfl (And.intro u2 (And.intro (show ln3 b < 2147483648 by omega) (And.intro (Int.le_refl 0) ?_)))))
  have hv2 : (if (0 : Int) < ((tg3, ln3, I3, L3, R3, n2 + 1) : wc_H).2.1 b then ((tg3, ln3, I3, L3, R3, n2 + 1) : wc_H).2.2.1 1 (0 : Int).toNat b else 0) = v0 := by
    rw [← hv]
    simp only
    rw [u3, t3, u5, s4]
  rw [hv2]
  refine And.intro (Nat.le_of_ble_eq_true rfl) (And.intro (Nat.le_of_ble_eq_true rfl) (fun _ => ?_))
  refine And.intro u1 (And.intro (Nat.lt_succ_self n2) (fun h'' v hv3 P g2 => ?_))
  have R0 := wl_R_0 (v := v) ⟨u1, Nat.lt_succ_self n2⟩ u4 P
  obtain ⟨tg4, ln4, I4, L4, R4, n4⟩ := h''
  have J4 := wk_J_g g2.1 g2.2.1 (fun q hq => g2.2.2.1 q (hn3 q hq)) (fun t t1 t2 => g2.2.2.2 t (by
    unfold wc_ok2
    split
    · exact absurd rfl t2
    · exact Bool.eq_false_iff.mpr (fun z => by have := Nat.le_of_ble_eq_true z; omega))) J3
  have w1 := g2.2.2.1 b (show b < n2 + 1 by omega)
  have w2 : tg4 b = 1 := w1.1.trans u2
  have w3 : ln4 b = Lw := w1.2.trans u3
  have hn4 : ∀ q, tg4 q ≠ 0 → q < n4 := g2.1
  have hbn4 : b < n4 := hn4 b (by omega)
  refine And.intro (by decide) (And.intro (by decide) (And.intro (Nat.le_of_ble_eq_true rfl) (And.intro (Nat.le_of_ble_eq_true rfl) ?_)))
  intro tg5 ln5 I5 L5 R5 k1 k2 k3 k4 k5
  have J5 := wk_J_new (a := 28) (k := 1) (Or.inr (Nat.le_refl 28)) J4
  have G5 := wc_G_new (ok := wc_ok) (ln := ln4) (I := wm_up I4 11 1 n2 v) (L := L4) (R := R4) (n := n4) (a := 28) (k := 1) hn4 rfl
  have R5' := wl_R_c R0 (show wc_hn (tg4, ln4, wm_up I4 11 1 n2 v, L4, R4, n4) from hn4) G5
  subst k1 k2 k3 k4 k5 hv3
  refine Exists.intro (3 * (600 - 0)) ?_
  exact ⟨n, n2, n4, _, _, 1, _, _, 0, rfl, rfl, ⟨J5, R5', ⟨if_pos rfl, if_pos rfl⟩, (if_neg (Nat.ne_of_lt hbn4)).trans w2, (if_neg (Nat.ne_of_lt hbn4)).trans w3⟩, rfl, fun _ => ⟨rfl, Nat.le_of_ble_eq_true rfl, Nat.le_of_ble_eq_true rfl, Nat.zero_le _⟩, fun e => absurd rfl e, fun e => absurd e (show (33 : Nat) ≠ 1517 by omega)⟩
