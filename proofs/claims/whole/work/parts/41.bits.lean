/-! BITS OF WORDS -/
def wc_bt (x : Int) (i : Nat) : Bool := (Int64.ofInt x).toBitVec.getLsbD i
theorem wc_sh : ∀ j : Nat, j < 64 → ((Int32.ofInt (j : Int)).toInt64 &&& 63).toBitVec.smod 64 = BitVec.ofNat 64 j := by decide +kernel
theorem wc_shl1 : ∀ j : Nat, j < 64 → ((Int64.ofInt 1) <<< ((Int32.ofInt (j : Int)).toInt64 &&& 63)).toBitVec = BitVec.twoPow 64 j := by decide +kernel
theorem wc_ix : ∀ k : Nat, k < 256 → (Int32.ofInt (k : Int) >>> (Int32.ofInt 6 &&& 31)).toInt = ((k / 64 : Nat) : Int) ∧ (Int32.ofInt (k : Int) &&& Int32.ofInt 63).toInt = ((k % 64 : Nat) : Int) := by decide +kernel
theorem wc_one : ∀ i : Nat, i < 64 → (1#64).getLsbD i = decide (i = 0) := by decide +kernel
theorem wc_and1 (y : BitVec 64) : y &&& 1#64 = 0#64 ↔ y.getLsbD 0 = false := by
  constructor
  · intro h
    have := congrArg (fun z => z.getLsbD 0) h
    simp only [BitVec.getLsbD_and, wc_one 0 (by decide), BitVec.getLsbD_zero] at this
    simpa using this
  · intro h
    refine BitVec.eq_of_getLsbD_eq (fun i hi => ?_)
    rw [BitVec.getLsbD_and, wc_one i hi, BitVec.getLsbD_zero]
    by_cases e : i = 0
    · rw [e, h]; rfl
    · simp [e]
theorem wc_has1 {x : Int} {j : Nat} (hj : j < 64) : (Int64.ofInt (Int64.ofInt x >>> ((Int32.ofInt (j : Int)).toInt64 &&& 63)).toInt &&& Int64.ofInt 1).toInt = 0 ↔ wc_bt x j = false := by
  rw [Int64.ofInt_toInt, show (0 : Int) = (0 : Int64).toInt from rfl, Int64.toInt_inj, ← Int64.toBitVec_inj, Int64.toBitVec_and, Int64.toBitVec_shiftRight, wc_sh j hj]
  show _ &&& 1#64 = 0#64 ↔ _
  rw [wc_and1]
  unfold wc_bt
  show ((Int64.ofInt x).toBitVec.sshiftRight (BitVec.ofNat 64 j).toNat).getLsbD 0 = false ↔ _
  rw [BitVec.getLsbD_sshiftRight, BitVec.toNat_ofNat, Nat.mod_eq_of_lt (by omega)]
  simp [hj]
theorem wc_add1 {x : Int} {i j : Nat} (hj : j < 64) (hi : i < 64) : wc_bt (Int64.ofInt x ||| Int64.ofInt ((Int64.ofInt 1) <<< ((Int32.ofInt (j : Int)).toInt64 &&& 63)).toInt).toInt i = (wc_bt x i || decide (i = j)) := by
  unfold wc_bt
  rw [Int64.ofInt_toInt, Int64.ofInt_toInt, Int64.toBitVec_or, wc_shl1 j hj, BitVec.getLsbD_or, BitVec.getLsbD_twoPow]
  simp [hi, hj, eq_comm]
theorem wc_meet {x y : Int} : (Int64.ofInt x &&& Int64.ofInt y).toInt = 0 ↔ ∀ i, i < 64 → ¬ (wc_bt x i = true ∧ wc_bt y i = true) := by
  rw [show (0 : Int) = (0 : Int64).toInt from rfl, Int64.toInt_inj, ← Int64.toBitVec_inj, Int64.toBitVec_and]
  show _ = 0#64 ↔ _
  constructor
  · intro h i hi hc
    have := congrArg (fun z => z.getLsbD i) h
    simp only [BitVec.getLsbD_and, BitVec.getLsbD_zero] at this
    unfold wc_bt at hc
    rw [hc.1, hc.2] at this
    cases this
  · intro h
    refine BitVec.eq_of_getLsbD_eq (fun i hi => ?_)
    rw [BitVec.getLsbD_and, BitVec.getLsbD_zero]
    have := h i hi
    unfold wc_bt at this
    cases h1 : (Int64.ofInt x).toBitVec.getLsbD i <;> cases h2 : (Int64.ofInt y).toBitVec.getLsbD i <;> simp_all
theorem wc_bt0 (i : Nat) : wc_bt 0 i = false := by
  unfold wc_bt
  show (0#64).getLsbD i = false
  exact BitVec.getLsbD_zero
/-- a set of signals: its words; what is in it -/
def wc_bi (L : wm_F Int) (w s : Nat) : Bool := wc_bt (L 25 (s / 64) w) (s % 64)
