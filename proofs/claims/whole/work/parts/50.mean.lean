/-! ===== the quotient of meanPrice is a number ===== -/
def mnq (t x : Nat) : Bool := decide (FP.ddiv (FP.i2d (nI x)) (FP.i2d (nI (t + 1))) &&& 0x7fffffffffffffff ≤ 0x7ff0000000000000)
set_option maxRecDepth 100000 in
theorem mnq_all : (List.range 8).all (fun t => (List.range 1441).all (fun x => mnq t x)) = true := by decide +kernel
theorem mean_ok {t x : Nat} (ht : t < 8) (hx : x ≤ 1440) : vf_n64 (FP.ddiv (FP.i2d (nI x)) (FP.i2d (nI (t + 1)))) := by
  have h1 := List.all_eq_true.mp mnq_all t (List.mem_range.mpr ht)
  have h2 := List.all_eq_true.mp h1 x (List.mem_range.mpr (by omega))
  have h3 : decide (FP.ddiv (FP.i2d (nI x)) (FP.i2d (nI (t + 1))) &&& 0x7fffffffffffffff ≤ 0x7ff0000000000000) = true := h2
  have h4 := of_decide_eq_true h3
  exact h4
theorem Jc.mn {S N : bS} {T R sec B : Nat} {w p bt u q : Nat → Nat} (h : Jc S N T R sec B w p bt u q) (hT : 1 ≤ T) : vf_n64 (FP.ddiv (FP.i2d (sma 0 (mPr N R) T)) (FP.i2d (nI T))) := by
  have h8 := h.1.2.2.1
  have hs := sma_nn (f := mPr N R) (c := 180) T (fun i hi => h.2.2.2.pr hi) (by omega)
  obtain ⟨x, hx⟩ : ∃ x : Nat, sma 0 (mPr N R) T = nI x ∧ x ≤ 1440 := by
    refine ⟨(sma 0 (mPr N R) T).toInt.toNat, ?_, by omega⟩
    apply Int32.toInt_inj.mp
    rw [nI_toInt (by omega)]
    omega
  rw [hx.1, show T = (T - 1) + 1 by omega]
  exact mean_ok (by omega) hx.2
