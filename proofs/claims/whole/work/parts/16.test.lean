theorem tt_has {l : Launch} {D : va_G} {aC : wm_Y} {b0 : Nat} (hl0 : l.stackTraces = false) {q w k : Nat} {h : wm_H} {qr : wm_Q1} {qt : wm_Q2} (h1 : h.1 q = 6) (h2 : h.2.2.2.2.1 6 0 q = some w) (h3 : h.1 w = 25) (h4 : h.2.1 w = 4) (hk : k < 200) (hq : ∀ x, qr (some (.inl x)) h) :
    wm_Met l (wm_my 59) (wm_cw 59 :: wm_WG) (wm_mr 59) (wm_Pc D aC b0 [.inr (.inr (some q)), .inl (nI k)] h) (wm_Qc D aC b0 qr qt) (wm_mc 59) (wm_ms 59) (fun q => b0 ≤ q) := by
  refine wm_method 59 (cx := fun _ _ _ _ _ => False) (ids := []) (tb := tb_59) (by decide +kernel) (Nat.le_of_ble_eq_true rfl) hl0 (fun id h => by simp at h) (wm_tb_ok tk_59) [] (fun _ _ _ => False) 40 (fun pc h => by simp at h) (fun hw => ?_)
  conv => whnf
  refine ⟨q, rfl, h1, ?_⟩
  conv => whnf
  trace_state
  refine ⟨w, h2, h3, ?_⟩
  conv => whnf
  refine ⟨?_, ?_, ?_⟩
  · sorry
  · sorry
  conv => whnf
  trace_state
  refine ⟨fun c1 => ?_, fun c1 => ?_⟩
  · conv => whnf
    trace_state
    sorry
  · conv => whnf
    sorry
