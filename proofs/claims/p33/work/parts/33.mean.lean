/-! ===== the quotient of meanPrice is a number, and equal to itself ===== -/
def mnq (t x : Nat) : Bool := decide (FP.ddiv (FP.i2d (nI x)) (FP.i2d (nI (t + 1))) &&& 0x7fffffffffffffff ≤ 0x7ff0000000000000) && decide (FP.dcmp (FP.ddiv (FP.i2d (nI x)) (FP.i2d (nI (t + 1)))) (FP.ddiv (FP.i2d (nI x)) (FP.i2d (nI (t + 1)))) = some Ordering.eq)
set_option maxRecDepth 100000 in
theorem mnq_all : (List.range 8).all (fun t => (List.range 1441).all (fun x => mnq t x)) = true := by decide +kernel
theorem mean_ok {t x : Nat} (ht : t < 8) (hx : x ≤ 1440) : vf_n64 (FP.ddiv (FP.i2d (nI x)) (FP.i2d (nI (t + 1)))) ∧ FP.dcmp (FP.ddiv (FP.i2d (nI x)) (FP.i2d (nI (t + 1)))) (FP.ddiv (FP.i2d (nI x)) (FP.i2d (nI (t + 1)))) = some Ordering.eq := by
  have h1 := List.all_eq_true.mp mnq_all t (List.mem_range.mpr ht)
  have h2 := List.all_eq_true.mp h1 x (List.mem_range.mpr (by omega))
  have h3 := (Bool.and_eq_true _ _).mp h2
  have h4 := of_decide_eq_true h3.1
  exact ⟨h4, of_decide_eq_true h3.2⟩
theorem d00 : FP.dcmp FP.dconst0 FP.dconst0 = some Ordering.eq := by decide +kernel
theorem Jc.dvb {S N : bS} {T R sec : Nat} {w p bt u q : Nat → Nat} (h : Jc S N T R sec w p bt u q) {t : Nat} (ht : t < 8) : 0 ≤ (bDv S R t).toInt ∧ (bDv S R t).toInt ≤ 54 := by
  have hR := h.R6
  have hs := sma_nn (f := fun r => mx 0 (-(S (7 + r) t))) (c := 9) R (fun i hi => by
    obtain ⟨e, hb, -⟩ := h.2.2.1 i t (by omega) ht
    rw [e]
    exact dv_term hb.1 hb.2) (by omega)
  unfold bDv
  omega
theorem Jc.prb {S N : bS} {T R sec : Nat} {w p bt u q : Nat → Nat} (h : Jc S N T R sec w p bt u q) {t : Nat} (ht : t < T) : 0 ≤ (bPr S R t).toInt ∧ (bPr S R t).toInt ≤ 180 := by
  have hT := h.T8
  obtain ⟨⟨e0, -, e2, -, -⟩, -, hw, hp, -, hu, hq, -⟩ := h.2.2.2.2.1 t ht
  have hd := h.dvb (t := t) (by omega)
  unfold bPr pr
  rw [e0, e2]
  exact pr_bd (by omega) hw.2 hd.1 hd.2
theorem Jc.mn {S N : bS} {T R sec : Nat} {w p bt u q : Nat → Nat} (h : Jc S N T R sec w p bt u q) (hT : 1 ≤ T) : vf_n64 (FP.ddiv (FP.i2d (sma 0 (bPr S R) T)) (FP.i2d (nI T))) ∧ FP.dcmp (FP.ddiv (FP.i2d (sma 0 (bPr S R) T)) (FP.i2d (nI T))) (FP.ddiv (FP.i2d (sma 0 (bPr S R) T)) (FP.i2d (nI T))) = some Ordering.eq := by
  have h8 := h.T8
  have hs := sma_nn (f := bPr S R) (c := 180) T (fun i hi => h.prb hi) (by omega)
  obtain ⟨x, hx⟩ : ∃ x : Nat, sma 0 (bPr S R) T = nI x ∧ x ≤ 1440 := by
    refine ⟨(sma 0 (bPr S R) T).toInt.toNat, ?_, by omega⟩
    apply Int32.toInt_inj.mp
    rw [nI_toInt (by omega)]
    omega
  rw [hx.1, show T = (T - 1) + 1 by omega]
  exact mean_ok (by omega) hx.2
theorem Jc.sp {S N : bS} {T R sec : Nat} {w p bt u q : Nat → Nat} (h : Jc S N T R sec w p bt u q) : sma 0 (bPr S R) T = sma 0 (sPr N) T := sma_congr rfl T (fun t ht => h.prc ht)
