/-! ===== pure: a second of both, side by side ===== -/
theorem tI_add {a b : Int32} (h1 : -2147483648 ≤ a.toInt + b.toInt) (h2 : a.toInt + b.toInt < 2147483648) : (a + b).toInt = a.toInt + b.toInt := by
  rw [Int32.toInt_add]
  exact Int.bmod_eq_of_le (by omega) (by omega)
theorem tI_sub {a b : Int32} (h1 : -2147483648 ≤ a.toInt - b.toInt) (h2 : a.toInt - b.toInt < 2147483648) : (a - b).toInt = a.toInt - b.toInt := by
  rw [Int32.toInt_sub]
  exact Int.bmod_eq_of_le (by omega) (by omega)
theorem tI_mul {a b : Int32} (h1 : -2147483648 ≤ a.toInt * b.toInt) (h2 : a.toInt * b.toInt < 2147483648) : (a * b).toInt = a.toInt * b.toInt := by
  rw [Int32.toInt_mul]
  exact Int.bmod_eq_of_le (by omega) (by omega)
theorem tI_neg {a : Int32} (h1 : -2147483648 < a.toInt) : (-a).toInt = -a.toInt := by
  have h2 := a.toInt_lt
  have h3 := a.le_toInt
  rw [Int32.toInt_neg]
  exact Int.bmod_eq_of_le (by omega) (by omega)
theorem mx_toInt (y : Int32) : (mx 0 y).toInt = if 0 < y.toInt then y.toInt else 0 := by
  unfold mx
  by_cases h : (0 : Int32) < y
  · rw [if_pos h]
    have h1 := Int32.lt_iff_toInt_lt.mp h
    rw [Int32.toInt_zero] at h1
    rw [if_pos h1]
  · rw [if_neg h]
    have h1 : ¬ (0 : Int32).toInt < y.toInt := fun q => h (Int32.lt_iff_toInt_lt.mpr q)
    rw [Int32.toInt_zero] at h1
    rw [if_neg h1, Int32.toInt_zero]
/-- a sum of small numbers -/
theorem sma_bd {f : Nat → Int32} {a : Int32} {A c : Nat} (ha : -(A : Int) ≤ a.toInt ∧ a.toInt ≤ A) : ∀ n : Nat, (∀ i, i < n → -(c : Int) ≤ (f i).toInt ∧ (f i).toInt ≤ c) → A + c * n < 2147483647 → -((A + c * n : Nat) : Int) ≤ (sma a f n).toInt ∧ (sma a f n).toInt ≤ ((A + c * n : Nat) : Int)
  | 0, _, _ => by
    show -((A + c * 0 : Nat) : Int) ≤ a.toInt ∧ a.toInt ≤ _
    rw [Nat.mul_zero]
    exact ha
  | n + 1, h, hb => by
    have e : c * (n + 1) = c * n + c := Nat.mul_succ c n
    have ih := sma_bd ha n (fun i hi => h i (by omega)) (by omega)
    have h1 := h n (by omega)
    show -((A + c * (n + 1) : Nat) : Int) ≤ (sma a f n + f n).toInt ∧ (sma a f n + f n).toInt ≤ _
    rw [tI_add (by omega) (by omega)]
    omega
theorem mul_bd {x y : Int} {a b : Nat} (h1 : -(a : Int) ≤ x) (h2 : x ≤ a) (h3 : -(b : Int) ≤ y) (h4 : y ≤ b) : -((a * b : Nat) : Int) ≤ x * y ∧ x * y ≤ ((a * b : Nat) : Int) := by
  have h5 : x.natAbs ≤ a := by omega
  have h6 : y.natAbs ≤ b := by omega
  have h7 : (x * y).natAbs ≤ a * b := by rw [Int.natAbs_mul]; exact Nat.mul_le_mul h5 h6
  omega
/-- both hold the same -/
def Rel (S N : bS) : Prop := (∀ r, r < 6 → S 5 r = N 3 (17 + r)) ∧ (∀ r t, r < 6 → t < 8 → S (7 + r) t = N 3 (23 + 8 * r + t)) ∧ (∀ t, t < 8 → S 2 t = N 3 (1 + t)) ∧ (∀ t, t < 8 → S 4 t = N 3 (9 + t)) ∧ S 6 0 = N 3 0
theorem rel_pur {S N : bS} {r : Nat} {v v' : Int32} (h : Rel S N) (hr : r < 6) (hv : v = v') : Rel (up2 S 5 r v) (up2 N 3 (17 + r) v') := by
  obtain ⟨h1, h2, h3, h4, h5⟩ := h
  refine ⟨fun r' h' => ?_, fun r' t h' ht => ?_, fun t ht => ?_, fun t ht => ?_, ?_⟩
  · by_cases e : r' = r
    · rw [e, up2_eq, up2_eq, hv]
    · rw [up2_ne _ _ (Or.inr e), up2_ne _ _ (Or.inr (by omega)), h1 r' h']
  · rw [up2_ne _ _ (Or.inl (by omega)), up2_ne _ _ (Or.inr (by omega)), h2 r' t h' ht]
  · rw [up2_ne _ _ (Or.inl (by omega)), up2_ne _ _ (Or.inr (by omega)), h3 t ht]
  · rw [up2_ne _ _ (Or.inl (by omega)), up2_ne _ _ (Or.inr (by omega)), h4 t ht]
  · rw [up2_ne _ _ (Or.inl (by omega)), up2_ne _ _ (Or.inr (by omega)), h5]
theorem rel_held {S N : bS} {r t : Nat} {v v' : Int32} (h : Rel S N) (hr : r < 6) (ht : t < 8) (hv : v = v') : Rel (up2 S (7 + r) t v) (up2 N 3 (23 + 8 * r + t) v') := by
  obtain ⟨h1, h2, h3, h4, h5⟩ := h
  refine ⟨fun r' h' => ?_, fun r' t' h' ht' => ?_, fun t' ht' => ?_, fun t' ht' => ?_, ?_⟩
  · rw [up2_ne _ _ (Or.inl (by omega)), up2_ne _ _ (Or.inr (by omega)), h1 r' h']
  · by_cases e : r' = r ∧ t' = t
    · rw [e.1, e.2, up2_eq, up2_eq, hv]
    · rw [up2_ne _ _ (by omega), up2_ne _ _ (Or.inr (by omega)), h2 r' t' h' ht']
  · rw [up2_ne _ _ (Or.inl (by omega)), up2_ne _ _ (Or.inr (by omega)), h3 t' ht']
  · rw [up2_ne _ _ (Or.inl (by omega)), up2_ne _ _ (Or.inr (by omega)), h4 t' ht']
  · rw [up2_ne _ _ (Or.inl (by omega)), up2_ne _ _ (Or.inr (by omega)), h5]
theorem rel_sil {S N : bS} {t : Nat} {v v' : Int32} (h : Rel S N) (ht : t < 8) (hv : v = v') : Rel (up2 S 2 t v) (up2 N 3 (1 + t) v') := by
  obtain ⟨h1, h2, h3, h4, h5⟩ := h
  refine ⟨fun r' h' => ?_, fun r' t' h' ht' => ?_, fun t' ht' => ?_, fun t' ht' => ?_, ?_⟩
  · rw [up2_ne _ _ (Or.inl (by omega)), up2_ne _ _ (Or.inr (by omega)), h1 r' h']
  · rw [up2_ne _ _ (Or.inl (by omega)), up2_ne _ _ (Or.inr (by omega)), h2 r' t' h' ht']
  · by_cases e : t' = t
    · rw [e, up2_eq, up2_eq, hv]
    · rw [up2_ne _ _ (Or.inr e), up2_ne _ _ (Or.inr (by omega)), h3 t' ht']
  · rw [up2_ne _ _ (Or.inl (by omega)), up2_ne _ _ (Or.inr (by omega)), h4 t' ht']
  · rw [up2_ne _ _ (Or.inl (by omega)), up2_ne _ _ (Or.inr (by omega)), h5]
theorem rel_str {S N : bS} {t : Nat} {v v' : Int32} (h : Rel S N) (ht : t < 8) (hv : v = v') : Rel (up2 S 4 t v) (up2 N 3 (9 + t) v') := by
  obtain ⟨h1, h2, h3, h4, h5⟩ := h
  refine ⟨fun r' h' => ?_, fun r' t' h' ht' => ?_, fun t' ht' => ?_, fun t' ht' => ?_, ?_⟩
  · rw [up2_ne _ _ (Or.inl (by omega)), up2_ne _ _ (Or.inr (by omega)), h1 r' h']
  · rw [up2_ne _ _ (Or.inl (by omega)), up2_ne _ _ (Or.inr (by omega)), h2 r' t' h' ht']
  · rw [up2_ne _ _ (Or.inl (by omega)), up2_ne _ _ (Or.inr (by omega)), h3 t' ht']
  · by_cases e : t' = t
    · rw [e, up2_eq, up2_eq, hv]
    · rw [up2_ne _ _ (Or.inr e), up2_ne _ _ (Or.inr (by omega)), h4 t' ht']
  · rw [up2_ne _ _ (Or.inl (by omega)), up2_ne _ _ (Or.inr (by omega)), h5]
theorem rel_sec {S N : bS} {v v' : Int32} (h : Rel S N) (hv : v = v') : Rel (up2 S 6 0 v) (up2 N 3 0 v') := by
  obtain ⟨h1, h2, h3, h4, h5⟩ := h
  refine ⟨fun r' h' => ?_, fun r' t' h' ht' => ?_, fun t' ht' => ?_, fun t' ht' => ?_, ?_⟩
  · rw [up2_ne _ _ (Or.inl (by omega)), up2_ne _ _ (Or.inr (by omega)), h1 r' h']
  · by_cases e : 7 + r' = 6
    · omega
    · rw [up2_ne _ _ (Or.inl e), up2_ne _ _ (Or.inr (by omega)), h2 r' t' h' ht']
  · rw [up2_ne _ _ (Or.inl (by omega)), up2_ne _ _ (Or.inr (by omega)), h3 t' ht']
  · rw [up2_ne _ _ (Or.inl (by omega)), up2_ne _ _ (Or.inr (by omega)), h4 t' ht']
  · rw [up2_eq, up2_eq, hv]
theorem rel_S {S N : bS} {k j : Nat} {v : Int32} (h : Rel S N) (hk : k = 0 ∨ k = 1 ∨ k = 3 ∨ (k = 6 ∧ j ≠ 0)) : Rel (up2 S k j v) N := by
  obtain ⟨h1, h2, h3, h4, h5⟩ := h
  refine ⟨fun r' h' => ?_, fun r' t' h' ht' => ?_, fun t' ht' => ?_, fun t' ht' => ?_, ?_⟩
  · rw [up2_ne _ _ (by omega), h1 r' h']
  · rw [up2_ne _ _ (by omega), h2 r' t' h' ht']
  · rw [up2_ne _ _ (by omega), h3 t' ht']
  · rw [up2_ne _ _ (by omega), h4 t' ht']
  · rw [up2_ne _ _ (by omega), h5]
theorem rel_N {S N : bS} {k j : Nat} {v : Int32} (h : Rel S N) (hk : k ≠ 3) : Rel S (up2 N k j v) := by
  obtain ⟨h1, h2, h3, h4, h5⟩ := h
  refine ⟨fun r' h' => ?_, fun r' t' h' ht' => ?_, fun t' ht' => ?_, fun t' ht' => ?_, ?_⟩
  · rw [up2_ne _ _ (Or.inl (by omega)), h1 r' h']
  · rw [up2_ne _ _ (Or.inl (by omega)), h2 r' t' h' ht']
  · rw [up2_ne _ _ (Or.inl (by omega)), h3 t' ht']
  · rw [up2_ne _ _ (Or.inl (by omega)), h4 t' ht']
  · rw [up2_ne _ _ (Or.inl (by omega)), h5]
theorem rel_st1 {S N : bS} {p : Int32} {t : Nat} (h : Rel S N) (ht : t < 8) : ∀ j : Nat, j ≤ 6 → Rel (bSt1 S p t j) (mS1 N p t j)
  | 0, _ => h
  | j + 1, hj => by
    have ih := rel_st1 (p := p) h ht j (by omega)
    exact rel_held (rel_pur ih (by omega) (by rw [ih.1 j (by omega), ih.2.1 j t (by omega) ht])) (by omega) ht rfl
theorem rel_strike {S N : bS} {R t : Nat} (h : Rel S N) (ht : t < 8) (hR : R ≤ 6) (hp : bPr S R t = mPr N R t) : Rel (bStr S R t) (mStr N R t) := by
  unfold bStr mStr
  rw [hp]
  have h1 := rel_st1 (p := mPr N R t) h ht R hR
  exact rel_S (rel_str (rel_sil h1 ht rfl) ht (by rw [h1.2.2.2.1 t ht])) (Or.inr (Or.inr (Or.inl rfl)))
theorem bDv_eq {S N : bS} {R t : Nat} (h : Rel S N) (ht : t < 8) (hR : R ≤ 6) : bDv S R t = mDv N R t := by
  unfold bDv mDv
  exact sma_congr rfl R (fun r hr => by rw [h.2.1 r t (by omega) ht])
theorem bPr_eq {S N : bS} {R t : Nat} (h : Rel S N) (ht : t < 8) (hR : R ≤ 6) (h0 : S 0 t = N 0 t) : bPr S R t = mPr N R t := by
  unfold bPr mPr mPb pr
  rw [bDv_eq h ht hR, h.2.2.1 t ht, h0, Int32.add_zero]
theorem bStr_row (S : bS) (R t : Nat) {k : Nat} (j : Nat) (hk : k < 2) : bStr S R t k j = S k j := by
  unfold bStr
  rw [up2_ne _ _ (Or.inl (by omega)), up2_ne _ _ (Or.inl (by omega)), up2_ne _ _ (Or.inl (by omega))]
  exact bSt1_row S _ t j (by omega) (by omega) R
theorem bGo_row (S : bS) (R : Nat) {k : Nat} (j : Nat) (hk : k < 2) : ∀ i : Nat, bGo S R i k j = S k j
  | 0 => up2_ne _ _ (Or.inl (by omega))
  | i + 1 => by
    by_cases c : 1 < bGo S R i 3 i
    · rw [bGo_keep c, up2_ne _ _ (Or.inl (by omega)), up2_ne _ _ (Or.inl (by omega))]
      exact bGo_row S R j hk i
    · rw [bGo_str c, bStr_row _ R i j hk]
      exact bGo_row S R j hk i
/-- what is so of the towers, in BellHush's rows -/
def ST (S : bS) (T : Nat) (w p u : Nat → Nat) : Prop := ∀ t, t < T → S 0 t = nI (w t) ∧ S 1 t = nI (p t) ∧ S 3 t = nI (u t)
theorem goB {S N : bS} {T R sec : Nat} {w p bt u q : Nat → Nat} (hrel : Rel S N) (h : TF N T sec w p bt u q) (hST : ST S T w p u) (hT : T ≤ 8) (hR : R ≤ 6) : ∀ i : Nat, i ≤ T → Rel (bGo S R i) (mGo N R i) ∧ (∀ t, t < T → bGo S R i 3 t = nI (if t < i then u1 p u t else u t)) ∧ bGc S R i = mGc N R i
  | 0, _ => by
    refine ⟨rel_sec hrel (by rw [hrel.2.2.2.2]), fun t ht => ?_, rfl⟩
    rw [if_neg (by omega)]
    exact (up2_ne _ _ (Or.inl (by omega))).trans (hST t ht).2.2
  | i + 1, hi => by
    obtain ⟨r1, r2, r3⟩ := goB hrel h hST hT hR i (by omega)
    obtain ⟨c1, -, -, -⟩ := goC (R := R) h hT hR i (by omega)
    obtain ⟨-, hp1, -, -, hw, hp, -, hu, -⟩ := h.2.2 i (by omega)
    have hst : rmi (mGo N R i 3 0) (mGo N R i 1 i) = mGo N R i 2 i ↔ u i = 1 := by rw [c1, mGo_row N R i (by decide) i, mGo_row N R i (by decide) i]; exact h.strike (by omega)
    have hbi : bGo S R i 3 i = nI (u i) := by rw [r2 i (by omega), if_neg (by omega)]
    have hbc : 1 < bGo S R i 3 i ↔ ¬ u i = 1 := by
      rw [hbi]
      exact (nI_ltI (a := 1) (by omega) (by omega)).trans (by omega)
    have hpp : bPr (bGo S R i) R i = mPr (mGo N R i) R i := bPr_eq r1 (by omega) hR (by rw [bGo_row S R i (by omega) i, mGo_row N R i (by decide) i, (hST i (by omega)).1, (h.2.2 i (by omega)).1])
    by_cases c : u i = 1
    · have n1 : ¬ 1 < bGo S R i 3 i := fun z => hbc.mp z c
      rw [bGo_str n1, mGo_str (hst.mpr c), bGc_str n1, mGc_str (hst.mpr c), r3]
      refine ⟨rel_strike r1 (by omega) hR hpp, fun t ht => ?_, rfl⟩
      unfold bStr
      by_cases e : t = i
      · rw [e, up2_eq, if_pos (by omega), bSt1_row _ _ _ _ (by decide) (by decide), bGo_row S R i (by omega) i, (hST i (by omega)).2.1]
        unfold u1
        rw [if_pos c]
      · rw [up2_ne _ _ (Or.inr e), up2_ne _ _ (Or.inl (by decide)), up2_ne _ _ (Or.inl (by decide)), bSt1_row _ _ _ _ (by decide) (by decide), r2 t ht]
        by_cases e2 : t < i
        · rw [if_pos e2, if_pos (by omega)]
        · rw [if_neg e2, if_neg (by omega)]
    · have n1 : 1 < bGo S R i 3 i := hbc.mpr c
      rw [bGo_keep n1, mGo_keep (fun z => c (hst.mp z)), bGc_keep n1, mGc_keep (fun z => c (hst.mp z)), r3]
      refine ⟨rel_sil (rel_S r1 (Or.inr (Or.inr (Or.inl rfl)))) (by omega) (by rw [r1.2.2.1 i (by omega)]), fun t ht => ?_, rfl⟩
      rw [up2_ne _ _ (Or.inl (by decide))]
      by_cases e : t = i
      · rw [e, up2_eq, if_pos (by omega), hbi]
        unfold u1
        rw [if_neg c]
        exact pk_sub (a := u i) (b := 1) (by omega)
      · rw [up2_ne _ _ (Or.inr e), r2 t ht]
        by_cases e2 : t < i
        · rw [if_pos e2, if_pos (by omega)]
        · rw [if_neg e2, if_neg (by omega)]
