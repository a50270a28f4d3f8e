/-! a quotient of small numbers is a number -/
def nanB (A B : Nat) : Bool := (List.range A).all fun a => (List.range B).all fun b => b == 0 || decide ((FP.ddiv (FP.i2d (nI a)) (FP.i2d (nI b))) &&& 0x7fffffffffffffff ≤ 0x7ff0000000000000)
set_option maxRecDepth 100000 in
theorem nanB_t : nanB 181 21 = true := by decide +kernel
theorem nan_ok {a b : Nat} (ha : a < 181) (hb : b < 21) (h0 : ¬ b = 0) : vf_n64 (FP.ddiv (FP.i2d (nI a)) (FP.i2d (nI b))) := by
  have h1 := List.all_eq_true.mp nanB_t a (List.mem_range.mpr ha)
  have h2 := List.all_eq_true.mp h1 b (List.mem_range.mpr hb)
  simp only [Bool.or_eq_true, beq_iff_eq] at h2
  have h3 : (FP.ddiv (FP.i2d (nI a)) (FP.i2d (nI b))) &&& 0x7fffffffffffffff ≤ 0x7ff0000000000000 := of_decide_eq_true (h2.resolve_left h0)
  exact h3
