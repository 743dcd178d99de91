/-! THE KERNEL, 15: the methods signal and process -/
theorem wk_hs1 {tg ln : Nat → Nat} {I L : wm_F Int} {R : wm_F (Option Nat)} {n x z : Nat} {c m el sg : Int} (xn : x < n) (zn : z < n) (tx : tg x = 2) (tz : tg z = 20) (lz : ln z = 200) (i9 : I 2 9 x = el) (i7 : I 2 7 x = sg) : (wc_nt (wc_nt (wc_nt tg n 5) (n + 1) 26) (n + 1 + 1) 27) x = 2 ∧ (wc_nt (wc_nt (wc_nt tg n 5) (n + 1) 26) (n + 1 + 1) 27) z = 20 ∧ (wc_nt (wc_nt (wc_nt ln n 0) (n + 1) m.toNat) (n + 1 + 1) m.toNat) z = 200 ∧ (wc_nt (wc_nt (wc_nt tg n 5) (n + 1) 26) (n + 1 + 1) 27) n = 5 ∧ (wc_nz (wc_nz (wm_up (wm_up (wc_nz I n 5) 5 0 n c) 5 1 n m) (n + 1) 26) (n + 1 + 1) 27) 2 9 x = el ∧ (wm_up (wc_nz (wc_nz (wm_up (wm_up (wc_nz I n 5) 5 0 n c) 5 1 n m) (n + 1) 26) (n + 1 + 1) 27) 2 9 x (el + m)) 2 7 x = sg := by
  refine ⟨?_, ?_, ?_, ?_, ?_, ?_⟩ <;> (simp only [wm_up, wc_nz, wc_nn, wc_nt]; grind (splits := 20))
theorem wk_hs2 {tg ln : Nat → Nat} {I L : wm_F Int} {R : wm_F (Option Nat)} {n x z : Nat} {m : Int} (hn : ∀ q, tg q ≠ 0 → q < n) : (∀ q, q < n → (wc_nt (wc_nt (wc_nt tg n 5) (n + 1) 26) (n + 1 + 1) 27) q = tg q ∧ (wc_nt (wc_nt (wc_nt ln n 0) (n + 1) m.toNat) (n + 1 + 1) m.toNat) q = ln q) ∧ (∀ t j q, q < n → (wc_nz (wc_nz (wc_nz L n 5) (n + 1) 26) (n + 1 + 1) 27) t j q = L t j q) ∧ (∀ q, (wc_nt (wc_nt (wc_nt tg n 5) (n + 1) 26) (n + 1 + 1) 27) q ≠ 0 → q < n + 3) := by
  refine ⟨fun q hq => ⟨?_, ?_⟩, fun t j q hq => ?_, fun q => ?_⟩
  · (simp only [wm_up, wc_nz, wc_nn, wc_nt]; grind (splits := 20))
  · (simp only [wm_up, wc_nz, wc_nn, wc_nt]; grind (splits := 20))
  · (simp only [wm_up, wc_nz, wc_nn, wc_nt]; grind (splits := 20))
  · have := hn q
    (simp only [wm_up, wc_nz, wc_nn, wc_nt]; grind (splits := 20))
theorem wk_hs3 {tg ln : Nat → Nat} {I L : wm_F Int} {R : wm_F (Option Nat)} {n x z : Nat} {c m el sg : Int} (xn : x < n) (zn : z < n) : (∀ t j q, q < n → ¬ (t = 2 ∧ q = x ∧ (j = 7 ∨ j = 9)) → (wm_up (wm_up (wc_nz (wc_nz (wm_up (wm_up (wc_nz I n 5) 5 0 n c) 5 1 n m) (n + 1) 26) (n + 1 + 1) 27) 2 9 x (el + m)) 2 7 x (sg + 1)) t j q = I t j q) ∧ (∀ t j q, q < n → ¬ (t = 20 ∧ j = sg.toNat ∧ q = z) → (wm_up (wm_up (wc_nn (wm_up (wc_nn (wc_nn R n 5) (n + 1) 26) 5 2 n (some (n + 1))) (n + 1 + 1) 27) 5 3 n (some (n + 1 + 1))) 20 sg.toNat (z) (some n)) t j q = R t j q) := by
  refine ⟨fun t j q hq hz => ?_, fun t j q hq hz => ?_⟩ <;> (simp only [wm_up, wc_nz, wc_nn, wc_nt]; grind (splits := 20))
theorem wk_hs4 {tg ln : Nat → Nat} {I L : wm_F Int} {R : wm_F (Option Nat)} {n x z : Nat} {c m el sg : Int} (xn : x < n) (zn : z < n) : ((wm_up (wm_up (wc_nz (wc_nz (wm_up (wm_up (wc_nz I n 5) 5 0 n c) 5 1 n m) (n + 1) 26) (n + 1 + 1) 27) 2 9 x (el + m)) 2 7 x (sg + 1)) 2 7 x = sg + 1 ∧ (wm_up (wm_up (wc_nz (wc_nz (wm_up (wm_up (wc_nz I n 5) 5 0 n c) 5 1 n m) (n + 1) 26) (n + 1 + 1) 27) 2 9 x (el + m)) 2 7 x (sg + 1)) 2 9 x = el + m ∧ (wm_up (wm_up (wc_nn (wm_up (wc_nn (wc_nn R n 5) (n + 1) 26) 5 2 n (some (n + 1))) (n + 1 + 1) 27) 5 3 n (some (n + 1 + 1))) 20 sg.toNat (z) (some n)) 20 sg.toNat z = some n) ∧ ((wc_nt (wc_nt (wc_nt tg n 5) (n + 1) 26) (n + 1 + 1) 27) n = 5 ∧ (wm_up (wm_up (wc_nz (wc_nz (wm_up (wm_up (wc_nz I n 5) 5 0 n c) 5 1 n m) (n + 1) 26) (n + 1 + 1) 27) 2 9 x (el + m)) 2 7 x (sg + 1)) 5 0 n = c ∧ (wm_up (wm_up (wc_nz (wc_nz (wm_up (wm_up (wc_nz I n 5) 5 0 n c) 5 1 n m) (n + 1) 26) (n + 1 + 1) 27) 2 9 x (el + m)) 2 7 x (sg + 1)) 5 1 n = m ∧ (wm_up (wm_up (wc_nz (wc_nz (wm_up (wm_up (wc_nz I n 5) 5 0 n c) 5 1 n m) (n + 1) 26) (n + 1 + 1) 27) 2 9 x (el + m)) 2 7 x (sg + 1)) 5 5 n = 0 ∧ (wm_up (wm_up (wc_nn (wm_up (wc_nn (wc_nn R n 5) (n + 1) 26) 5 2 n (some (n + 1))) (n + 1 + 1) 27) 5 3 n (some (n + 1 + 1))) 20 sg.toNat (z) (some n)) 5 2 n = some (n + 1) ∧ (wm_up (wm_up (wc_nn (wm_up (wc_nn (wc_nn R n 5) (n + 1) 26) 5 2 n (some (n + 1))) (n + 1 + 1) 27) 5 3 n (some (n + 1 + 1))) 20 sg.toNat (z) (some n)) 5 3 n = some (n + 2) ∧ (wm_up (wm_up (wc_nn (wm_up (wc_nn (wc_nn R n 5) (n + 1) 26) 5 2 n (some (n + 1))) (n + 1 + 1) 27) 5 3 n (some (n + 1 + 1))) 20 sg.toNat (z) (some n)) 5 4 n = none) := by
  refine ⟨⟨?_, ?_, ?_⟩, ?_, ?_, ?_, ?_, ?_, ?_, ?_⟩ <;> (simp only [wm_up, wc_nz, wc_nn, wc_nt]; grind (splits := 20))
theorem wk_hs5 {tg ln : Nat → Nat} {I L : wm_F Int} {R : wm_F (Option Nat)} {n x z : Nat} {c m el sg : Int} (xn : x < n) : (wc_nt (wc_nt (wc_nt tg n 5) (n + 1) 26) (n + 1 + 1) 27) (n + 1) = 26 ∧ (wc_nt (wc_nt (wc_nt ln n 0) (n + 1) m.toNat) (n + 1 + 1) m.toNat) (n + 1) = m.toNat ∧ (wc_nt (wc_nt (wc_nt tg n 5) (n + 1) 26) (n + 1 + 1) 27) (n + 2) = 27 ∧ (wc_nt (wc_nt (wc_nt ln n 0) (n + 1) m.toNat) (n + 1 + 1) m.toNat) (n + 2) = m.toNat ∧ (∀ j, (wm_up (wm_up (wc_nz (wc_nz (wm_up (wm_up (wc_nz I n 5) 5 0 n c) 5 1 n m) (n + 1) 26) (n + 1 + 1) 27) 2 9 x (el + m)) 2 7 x (sg + 1)) 26 j (n + 1) = 0 ∧ (wm_up (wm_up (wc_nz (wc_nz (wm_up (wm_up (wc_nz I n 5) 5 0 n c) 5 1 n m) (n + 1) 26) (n + 1 + 1) 27) 2 9 x (el + m)) 2 7 x (sg + 1)) 27 j (n + 2) = 0) := by
  refine ⟨?_, ?_, ?_, ?_, fun j => ⟨?_, ?_⟩⟩ <;> (simp only [wm_up, wc_nz, wc_nn, wc_nt]; grind (splits := 20))
def sc_1 (as : List wi_V) (h : wc_H) (q : wi_Q1 wc_H) (qt : wi_Q2 wc_H) : Prop := wc_sTII as (fun x c m => wc_f h fun tg ln I L R n => ∃ M, wk_J (tg, ln, I, L, R, n) x M ∧ (∀ (r : Int) h', wk_Z sm_83 [wi_rf (some 11), .inl c, .inl m] M h' x 0 (fun b => b = some (.inl r)) → q (some (.inl r)) h') ∧ (∀ h', wk_Z sm_83 [wi_rf (some 11), .inl c, .inl m] M h' x 1 (fun b => ∃ v, b = some (.inl v)) → qt 1 h') ∧ (∀ h', wk_Z sm_83 [wi_rf (some 11), .inl c, .inl m] M h' x 2 (fun b => ∃ v, b = some (.inl v)) → qt 2 h'))
theorem cm_1 {l : Launch} {D : va_G} {aC : wm_Y} {b0 : Nat} (hl0 : l.stackTraces = false) : wm_sp l D aC b0 1 (wi_lf (wc_Rl wc_ok) sc_1) := by
  refine wi_method (wc_lw wc_ok) 1 (cx := fun id => if id = 48 then sc_48 else fun _ _ _ _ => False) (ids := ci_1) (tb := tb_1) (by decide +kernel) hl0 (wm_cxc (cm_48 hl0) oi_1 (fun h => wm_cxn h)) (wm_tb_ok tk_1) (by decide +kernel) [] 300 (fun as h q qt hs => ?_)
  obtain ⟨x, c, m, rfl, hs1⟩ := wc_sTII_e hs
  clear hs
  obtain ⟨tg, ln, I, L, R, n⟩ := h
  have hs := id hs1
  clear hs1
  simp only [wc_f] at hs
  refine ⟨rfl, fun _ _ _ _ _ _ _ => False, mq_nc, ?_⟩
  obtain ⟨M, hJ, f0, f1, f2⟩ := hs
  obtain ⟨cd, lm, st, sg, el, dr, sz, pr, wc, sp, nw, A, B, rfl, g, gd, ct, hK, hM⟩ := mq_f_e hJ
  clear hJ
  obtain ⟨nR, nS, nD, nC, nV, nT, nW, nO, nQ, nZ⟩ := id hM
  obtain ⟨⟨u1, u2, u3⟩, ⟨u4, u5, u6, u7, u8, u9, u10, u11⟩, ⟨u12, u13, u14, u15, u16, u17, u18, u19⟩⟩ := id nR
  obtain ⟨hn, kN, kB, kS, kA, kV, kD, kR, kT, kU, kX1, kX2, kX3, kW⟩ := id hK
  obtain ⟨k0, k7, k8, k9, k10, k11, k12, k13⟩ := id kN
  obtain ⟨⟨b1, b2, b3, b4, b5, b6, b7, b8, b9⟩, ⟨c1, c2, c3, c4, c5, c6, c7, c8⟩, ⟨d1, d2, d3, d4, d5, d6, d7, d8, d9, d10, d11⟩⟩ := id kB
  obtain ⟨w1, w2, w3⟩ := id kW
  have eX : (c < 0 ∨ 2 < c ∨ m < 1 ∨ (c = 1 ∧ 64 < m) ∨ (c ≠ 1 ∧ 1 < m)) → ∀ n', n ≤ n' → qt 1 (tg, ln, I, L, R, n') := by
    intro z0 n9 hn9
    refine f1 _ (fun Q T hQ => ?_)
    repeat' first
      | refine And.intro ?_ ?_
      | (intro h; try omega)
      | omega
      | exact hQ _ _ _ _ ⟨_, rfl⟩ ⟨g, gd, ct, wk_K_n hK hn9, hM⟩
      | assumption
  have eY : (0 ≤ c ∧ c ≤ 2 ∧ 1 ≤ m ∧ (c = 1 → m ≤ 64) ∧ (c ≠ 1 → m ≤ 1) ∧ (st ≠ 0 ∨ sg = 200 ∨ 512 < el + m)) → ∀ n', n ≤ n' → qt 2 (tg, ln, I, L, R, n') := by
    intro z0 n9 hn9
    refine f2 _ (fun Q T hQ => ?_)
    repeat' first
      | refine And.intro ?_ ?_
      | (intro h; try omega)
      | omega
      | exact hQ _ _ _ _ ⟨_, rfl⟩ ⟨g, gd, ct, wk_K_n hK hn9, hM⟩
      | assumption
  have xn : x < n := hn x (by rw [b1]; decide)
  have zn : g 0 0 < n := hn _ (by rw [b3]; decide)
  obtain ⟨tx, t20, l20, t5, i29, i27⟩ := wk_hs1 (tg := tg) (ln := ln) (I := I) (L := L) (R := R) (n := n) (x := x) (z := g 0 0) (c := c) (m := m) xn zn b1 b3 b4 k9 k7
  have t5a : wc_nt tg n 5 n = 5 := if_pos rfl
  have e0 : 0 ≤ c → c ≤ 2 → 1 ≤ m → (c = 1 → m ≤ 64) → (c ≠ 1 → m ≤ 1) → st = 0 → sg < 200 → el + m ≤ 512 → q (some (.inl sg)) (wc_nt (wc_nt (wc_nt tg n 5) (n + 1) 26) (n + 1 + 1) 27, wc_nt (wc_nt (wc_nt ln n 0) (n + 1) m.toNat) (n + 1 + 1) m.toNat, wm_up (wm_up (wc_nz (wc_nz (wm_up (wm_up (wc_nz I n 5) 5 0 n c) 5 1 n m) (n + 1) 26) (n + 1 + 1) 27) 2 9 x (el + m)) 2 7 x (sg + 1), wc_nz (wc_nz (wc_nz L n 5) (n + 1) 26) (n + 1 + 1) 27, wm_up (wm_up (wc_nn (wm_up (wc_nn (wc_nn R n 5) (n + 1) 26) 5 2 n (some (n + 1))) (n + 1 + 1) 27) 5 3 n (some (n + 1 + 1))) 20 sg.toNat (g 0 0) (some n), n + 1 + 1 + 1) := by
    intro z1 z2 z3 z4 z5 z6 z7 z8
    subst z6
    refine f0 _ _ (fun Q T hQ => ?_)
    obtain ⟨o1, o2, o3⟩ := wk_hs2 (tg := tg) (ln := ln) (I := I) (L := L) (R := R) (n := n) (x := x) (z := g 0 0) (m := m) hn
    obtain ⟨o4, o5⟩ := wk_hs3 (tg := tg) (ln := ln) (I := I) (L := L) (R := R) (n := n) (x := x) (z := g 0 0) (c := c) (m := m) (el := el) (sg := sg) xn zn
    obtain ⟨o6, o7⟩ := wk_hs4 (tg := tg) (ln := ln) (I := I) (L := L) (R := R) (n := n) (x := x) (z := g 0 0) (c := c) (m := m) (el := el) (sg := sg) xn zn
    have hJ := wk_sg (c := c) (m := m) hK hM z7 z8 ⟨z1, z2⟩ ⟨z3, by omega⟩ o1 o4 o2 o5 o6 o7 (wk_hs5 (tg := tg) (ln := ln) (I := I) (L := L) (R := R) (n := n) (x := x) (z := g 0 0) xn) o3
    repeat' first
      | refine And.intro ?_ ?_
      | (intro h; try omega)
      | omega
      | exact hQ _ _ _ _ (by rw [show sg + 1 - 1 = sg from by omega]) hJ
      | assumption
  repeat' first
    | refine And.intro ?_ ?_
    | (intro n9 (h9 : n ≤ n9))
    | (intro tg1 ln1 I1 L1 R1 (e1 : tg1 = wc_nt tg n 5) (e2 : ln1 = wc_nt ln n 0) (e3 : I1 = wc_nz I n 5) (e4 : L1 = wc_nz L n 5) (e5 : R1 = wc_nn R n 5); subst e1 e2 e3 e4 e5)
    | (intro R9 (e9 : R9 = wm_up (wm_up (wc_nn (wm_up (wc_nn (wc_nn R n 5) (n + 1) 26) 5 2 n (some (n + 1))) (n + 1 + 1) 27) 5 3 n (some (n + 1 + 1))) 20 (I 2 7 x).toNat (g 0 0) (some n)); rw [k7] at e9; subst e9)
    | (intro I9 (e9 : I9 = wm_up (wc_nz (wc_nz (wm_up (wm_up (wc_nz I n 5) 5 0 n c) 5 1 n m) (n + 1) 26) (n + 1 + 1) 27) 2 9 x ((wc_nz (wc_nz (wm_up (wm_up (wc_nz I n 5) 5 0 n c) 5 1 n m) (n + 1) 26) (n + 1 + 1) 27) 2 9 x + m)); rw [i29] at e9; subst e9)
    | (intro I9 (e9 : I9 = wm_up (wm_up (wc_nz (wc_nz (wm_up (wm_up (wc_nz I n 5) 5 0 n c) 5 1 n m) (n + 1) 26) (n + 1 + 1) 27) 2 9 x (el + m)) 2 7 x ((wm_up (wc_nz (wc_nz (wm_up (wm_up (wc_nz I n 5) 5 0 n c) 5 1 n m) (n + 1) 26) (n + 1 + 1) 27) 2 9 x (el + m)) 2 7 x + 1)); rw [i27] at e9; subst e9)
    | (intro q9 (e9 : (some _ : Option Nat) = some q9); cases e9; exact t5)
    | refine Exists.intro _ (And.intro (show _ = _ from by assumption) ?_)
    | refine Exists.intro _ (And.intro rfl (And.intro (by assumption) ?_))
    | refine Exists.intro _ (And.intro rfl ?_)
    | (intro h; try omega)
    | omega
    | exact eX (by omega) _ (by assumption)
    | exact eY ⟨by omega, by omega, by omega, by omega, by omega, by omega⟩ _ (by assumption)
    | (rw [i27]; exact e0 (by omega) (by omega) (by omega) (by omega) (by omega) (by omega) (by omega) (by omega))
    | (simp only [wm_mr, wm_mc, wm_ms]; omega)
    | exact Nat.le_of_ble_eq_true rfl
    | assumption
theorem wk_hp1 {tg ln : Nat → Nat} {I L : wm_F Int} {R : wm_F (Option Nat)} {n x z : Nat} {pr : Int} (xn : x < n) (zn : z < n) (tx : tg x = 2) (tz : tg z = 21) (lz : ln z = 64) (i8 : I 2 8 x = pr) : (wc_nt (wc_nt (wc_nt tg n 8) (n + 1) 6) (n + 1 + 1) 25) x = 2 ∧ (wc_nt (wc_nt (wc_nt tg n 8) (n + 1) 6) (n + 1 + 1) 25) z = 21 ∧ (wc_nt (wc_nt (wc_nt ln n 0) (n + 1) 0) (n + 1 + 1) 4) z = 64 ∧ (wc_nt (wc_nt (wc_nt tg n 8) (n + 1) 6) (n + 1 + 1) 25) n = 8 ∧ (wm_up (wc_nz (wc_nz (wc_nz I n 8) (n + 1) 6) (n + 1 + 1) 25) 8 1 n 1) 2 8 x = pr := by
  refine ⟨?_, ?_, ?_, ?_, ?_⟩ <;> (simp only [wm_up, wc_nz, wc_nn, wc_nt]; grind (splits := 20))
theorem wk_hp2 {tg ln : Nat → Nat} {I L : wm_F Int} {R : wm_F (Option Nat)} {n x z : Nat} (hn : ∀ q, tg q ≠ 0 → q < n) : (∀ q, q < n → (wc_nt (wc_nt (wc_nt tg n 8) (n + 1) 6) (n + 1 + 1) 25) q = tg q ∧ (wc_nt (wc_nt (wc_nt ln n 0) (n + 1) 0) (n + 1 + 1) 4) q = ln q) ∧ (∀ t j q, q < n → (wm_up (wc_nz (wc_nz (wc_nz L n 8) (n + 1) 6) (n + 1 + 1) 25) 8 3 n (-1)) t j q = L t j q) ∧ (∀ q, (wc_nt (wc_nt (wc_nt tg n 8) (n + 1) 6) (n + 1 + 1) 25) q ≠ 0 → q < n + 3) := by
  refine ⟨fun q hq => ⟨?_, ?_⟩, fun t j q hq => ?_, fun q => ?_⟩
  · (simp only [wm_up, wc_nz, wc_nn, wc_nt]; grind (splits := 20))
  · (simp only [wm_up, wc_nz, wc_nn, wc_nt]; grind (splits := 20))
  · (simp only [wm_up, wc_nz, wc_nn, wc_nt]; grind (splits := 20))
  · have := hn q
    (simp only [wm_up, wc_nz, wc_nn, wc_nt]; grind (splits := 20))
theorem wk_hp3 {tg ln : Nat → Nat} {I L : wm_F Int} {R : wm_F (Option Nat)} {n x z : Nat} {pr : Int} (xn : x < n) (zn : z < n) : (∀ t j q, q < n → ¬ (t = 2 ∧ q = x ∧ j = 8) → (wm_up (wm_up (wc_nz (wc_nz (wc_nz I n 8) (n + 1) 6) (n + 1 + 1) 25) 8 1 n 1) 2 8 x (pr + 1)) t j q = I t j q) ∧ (∀ t j q, q < n → ¬ (t = 21 ∧ j = pr.toNat ∧ q = z) → (wm_up (wm_up (wm_up (wc_nn (wc_nn (wc_nn R n 8) (n + 1) 6) (n + 1 + 1) 25) 6 0 (n + 1) (some (n + 1 + 1))) 8 0 n (some (n + 1))) 21 pr.toNat (z) (some n)) t j q = R t j q) := by
  refine ⟨fun t j q hq hz => ?_, fun t j q hq hz => ?_⟩ <;> (simp only [wm_up, wc_nz, wc_nn, wc_nt]; grind (splits := 20))
theorem wk_hp4 {tg ln : Nat → Nat} {I L : wm_F Int} {R : wm_F (Option Nat)} {n x z : Nat} {pr : Int} (xn : x < n) (zn : z < n) : ((wm_up (wm_up (wc_nz (wc_nz (wc_nz I n 8) (n + 1) 6) (n + 1 + 1) 25) 8 1 n 1) 2 8 x (pr + 1)) 2 8 x = pr + 1 ∧ (wm_up (wm_up (wm_up (wc_nn (wc_nn (wc_nn R n 8) (n + 1) 6) (n + 1 + 1) 25) 6 0 (n + 1) (some (n + 1 + 1))) 8 0 n (some (n + 1))) 21 pr.toNat (z) (some n)) 21 pr.toNat z = some n) ∧ ((wc_nt (wc_nt (wc_nt tg n 8) (n + 1) 6) (n + 1 + 1) 25) n = 8 ∧ (wm_up (wm_up (wc_nz (wc_nz (wc_nz I n 8) (n + 1) 6) (n + 1 + 1) 25) 8 1 n 1) 2 8 x (pr + 1)) 8 1 n = 1 ∧ (wm_up (wm_up (wc_nz (wc_nz (wc_nz I n 8) (n + 1) 6) (n + 1 + 1) 25) 8 1 n 1) 2 8 x (pr + 1)) 8 2 n = 0 ∧ (wm_up (wc_nz (wc_nz (wc_nz L n 8) (n + 1) 6) (n + 1 + 1) 25) 8 3 n (-1)) 8 3 n = -1 ∧ (wm_up (wm_up (wm_up (wc_nn (wc_nn (wc_nn R n 8) (n + 1) 6) (n + 1 + 1) 25) 6 0 (n + 1) (some (n + 1 + 1))) 8 0 n (some (n + 1))) 21 pr.toNat (z) (some n)) 8 0 n = some (n + 1)) := by
  refine ⟨⟨?_, ?_⟩, ?_, ?_, ?_, ?_, ?_⟩ <;> (simp only [wm_up, wc_nz, wc_nn, wc_nt]; grind (splits := 20))
theorem wk_hp5 {tg ln : Nat → Nat} {I L : wm_F Int} {R : wm_F (Option Nat)} {n x z : Nat} {pr : Int} (zn : z < n) : (wc_nt (wc_nt (wc_nt tg n 8) (n + 1) 6) (n + 1 + 1) 25) (n + 1) = 6 ∧ (wm_up (wm_up (wm_up (wc_nn (wc_nn (wc_nn R n 8) (n + 1) 6) (n + 1 + 1) 25) 6 0 (n + 1) (some (n + 1 + 1))) 8 0 n (some (n + 1))) 21 pr.toNat (z) (some n)) 6 0 (n + 1) = some (n + 2) ∧ (wc_nt (wc_nt (wc_nt tg n 8) (n + 1) 6) (n + 1 + 1) 25) (n + 2) = 25 ∧ (wc_nt (wc_nt (wc_nt ln n 0) (n + 1) 0) (n + 1 + 1) 4) (n + 2) = 4 ∧ (∀ j, (wm_up (wc_nz (wc_nz (wc_nz L n 8) (n + 1) 6) (n + 1 + 1) 25) 8 3 n (-1)) 25 j (n + 2) = 0) := by
  refine ⟨?_, ?_, ?_, ?_, fun j => ?_⟩ <;> (simp only [wm_up, wc_nz, wc_nn, wc_nt]; grind (splits := 20))
def sc_2 (as : List wi_V) (h : wc_H) (q : wi_Q1 wc_H) (qt : wi_Q2 wc_H) : Prop := wc_sT as (fun x => wc_f h fun tg ln I L R n => ∃ M, wk_J (tg, ln, I, L, R, n) x M ∧ (∀ (r : Int) h', wk_Z sm_84 [wi_rf (some 11)] M h' x 0 (fun b => b = some (.inl r)) → q (some (.inl r)) h') ∧ (∀ h', wk_Z sm_84 [wi_rf (some 11)] M h' x 1 (fun b => ∃ v, b = some (.inl v)) → qt 2 h'))
theorem cm_2 {l : Launch} {D : va_G} {aC : wm_Y} {b0 : Nat} (hl0 : l.stackTraces = false) : wm_sp l D aC b0 2 (wi_lf (wc_Rl wc_ok) sc_2) := by
  refine wi_method (wc_lw wc_ok) 2 (cx := fun id => if id = 66 then sc_66 else fun _ _ _ _ => False) (ids := ci_2) (tb := tb_2) (by decide +kernel) hl0 (wm_cxc (cm_66 hl0) oi_2 (fun h => wm_cxn h)) (wm_tb_ok tk_2) (by decide +kernel) [] 300 (fun as h q qt hs => ?_)
  obtain ⟨x, rfl, hs1⟩ := wc_sT_e hs
  clear hs
  obtain ⟨tg, ln, I, L, R, n⟩ := h
  have hs := id hs1
  clear hs1
  simp only [wc_f] at hs
  refine ⟨rfl, fun _ _ _ _ _ _ _ => False, mq_nc, ?_⟩
  obtain ⟨M, hJ, f0, f1⟩ := hs
  obtain ⟨cd, lm, st, sg, el, dr, sz, pr, wc, sp, nw, A, B, rfl, g, gd, ct, hK, hM⟩ := mq_f_e hJ
  clear hJ
  obtain ⟨nR, nS, nD, nC, nV, nT, nW, nO, nQ, nZ⟩ := id hM
  obtain ⟨⟨u1, u2, u3⟩, ⟨u4, u5, u6, u7, u8, u9, u10, u11⟩, ⟨u12, u13, u14, u15, u16, u17, u18, u19⟩⟩ := id nR
  obtain ⟨hn, kN, kB, kS, kA, kV, kD, kR, kT, kU, kX1, kX2, kX3, kW⟩ := id hK
  obtain ⟨k0, k7, k8, k9, k10, k11, k12, k13⟩ := id kN
  obtain ⟨⟨b1, b2, b3, b4, b5, b6, b7, b8, b9⟩, ⟨c1, c2, c3, c4, c5, c6, c7, c8⟩, ⟨d1, d2, d3, d4, d5, d6, d7, d8, d9, d10, d11⟩⟩ := id kB
  obtain ⟨w1, w2, w3⟩ := id kW
  have eY : (st ≠ 0 ∨ pr = 64) → ∀ n', n ≤ n' → qt 2 (tg, ln, I, L, R, n') := by
    intro z0 n9 hn9
    refine f1 _ (fun Q T hQ => ?_)
    repeat' first
      | refine And.intro ?_ ?_
      | (intro h; try omega)
      | omega
      | exact hQ _ _ _ _ ⟨_, rfl⟩ ⟨g, gd, ct, wk_K_n hK hn9, hM⟩
      | assumption
  have xn : x < n := hn x (by rw [b1]; decide)
  have zn : g 0 1 < n := hn _ (by rw [b6]; decide)
  obtain ⟨tx, t20, l20, t5, i28⟩ := wk_hp1 (tg := tg) (ln := ln) (I := I) (L := L) (R := R) (n := n) (x := x) (z := g 0 1) xn zn b1 b6 b7 k8
  have t5a : wc_nt tg n 8 n = 8 := if_pos rfl
  have e0 : st = 0 → pr < 64 → q (some (.inl pr)) (wc_nt (wc_nt (wc_nt tg n 8) (n + 1) 6) (n + 1 + 1) 25, wc_nt (wc_nt (wc_nt ln n 0) (n + 1) 0) (n + 1 + 1) 4, wm_up (wm_up (wc_nz (wc_nz (wc_nz I n 8) (n + 1) 6) (n + 1 + 1) 25) 8 1 n 1) 2 8 x (pr + 1), wm_up (wc_nz (wc_nz (wc_nz L n 8) (n + 1) 6) (n + 1 + 1) 25) 8 3 n (-1), wm_up (wm_up (wm_up (wc_nn (wc_nn (wc_nn R n 8) (n + 1) 6) (n + 1 + 1) 25) 6 0 (n + 1) (some (n + 1 + 1))) 8 0 n (some (n + 1))) 21 pr.toNat (g 0 1) (some n), n + 1 + 1 + 1) := by
    intro z6 z7
    subst z6
    refine f0 _ _ (fun Q T hQ => ?_)
    obtain ⟨o1, o2, o3⟩ := wk_hp2 (tg := tg) (ln := ln) (I := I) (L := L) (R := R) (n := n) (x := x) (z := g 0 1) hn
    obtain ⟨o4, o5⟩ := wk_hp3 (tg := tg) (ln := ln) (I := I) (L := L) (R := R) (n := n) (x := x) (z := g 0 1) (pr := pr) xn zn
    obtain ⟨o6, o7⟩ := wk_hp4 (tg := tg) (ln := ln) (I := I) (L := L) (R := R) (n := n) (x := x) (z := g 0 1) (pr := pr) xn zn
    have hJ := wk_pr hK hM z7 o1 o4 o2 o5 o6 o7 (wk_hp5 (tg := tg) (ln := ln) (I := I) (L := L) (R := R) (n := n) (x := x) (z := g 0 1) (pr := pr) zn) o3
    repeat' first
      | refine And.intro ?_ ?_
      | (intro h; try omega)
      | omega
      | exact hQ _ _ _ _ (by rw [show pr + 1 - 1 = pr from by omega]) hJ
      | assumption
  repeat' first
    | refine And.intro ?_ ?_
    | (intro n9 (h9 : n ≤ n9))
    | (intro tg1 ln1 I1 L1 R1 (e1 : tg1 = wc_nt tg n 8) (e2 : ln1 = wc_nt ln n 0) (e3 : I1 = wc_nz I n 8) (e4 : L1 = wc_nz L n 8) (e5 : R1 = wc_nn R n 8); subst e1 e2 e3 e4 e5)
    | (intro R9 (e9 : R9 = wm_up (wm_up (wm_up (wc_nn (wc_nn (wc_nn R n 8) (n + 1) 6) (n + 1 + 1) 25) 6 0 (n + 1) (some (n + 1 + 1))) 8 0 n (some (n + 1))) 21 (I 2 8 x).toNat (g 0 1) (some n)); rw [k8] at e9; subst e9)
    | (intro I9 (e9 : I9 = wm_up (wm_up (wc_nz (wc_nz (wc_nz I n 8) (n + 1) 6) (n + 1 + 1) 25) 8 1 n 1) 2 8 x ((wm_up (wc_nz (wc_nz (wc_nz I n 8) (n + 1) 6) (n + 1 + 1) 25) 8 1 n 1) 2 8 x + 1)); rw [i28] at e9; subst e9)
    | (intro q9 (e9 : (some _ : Option Nat) = some q9); cases e9; exact t5)
    | refine Exists.intro _ (And.intro (show _ = _ from by assumption) ?_)
    | refine Exists.intro _ (And.intro rfl (And.intro (by assumption) ?_))
    | refine Exists.intro _ (And.intro rfl ?_)
    | (intro h; try omega)
    | omega
    | exact eY (by omega) _ (by assumption)
    | (rw [i28]; exact e0 (by omega) (by omega))
    | (simp only [wm_mr, wm_mc, wm_ms]; omega)
    | exact Nat.le_of_ble_eq_true rfl
    | assumption
