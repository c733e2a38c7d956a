/-! ===== pure: bestToSell, floorMod ===== -/
theorem sma_split {a : Int32} {f : Nat → Int32} {t : Nat} : ∀ n : Nat, t < n → sma a f n = sma a (fun i => if i = t then 0 else f i) n + f t
  | 0, h => absurd h (by omega)
  | n + 1, h => by
    show sma a f n + f n = sma a (fun i => if i = t then 0 else f i) n + (if n = t then 0 else f n) + f t
    by_cases e : n = t
    · rw [if_pos e, Int32.add_zero, ← e]
      congr 1
      exact sma_congr rfl n (fun i hi => (if_neg (show ¬ i = n by omega)).symm)
    · rw [if_neg e, sma_split (t := t) n (by omega)]
      grind
/-- a price: silence, loudness, doves -/
def pz (e w : Nat) (dv : Int32) : Int32 := mx 0 (nI e * nI w - 2 * dv)
theorem MC.sold {N X : bS} {T R sec B : Nat} {w p bt u q : Nat → Nat} (h : MC N T R sec B w p bt u q) (he : RE N X) {r t k : Nat} (hr : r < R) (ht : t < T) (hk : k ≤ 9) (hh : -9 ≤ (N 3 (23 + 8 * r + t)).toInt - k) (hB : B + 1620 < 2147483647) : MC (mSo X R r t k) T R sec (B + 1620) w p bt u q := by
  have hX := h.re he
  have hT := h.1.2.2
  have e1 : X 3 (23 + 8 * r + t) = N 3 (23 + 8 * r + t) := he.2.2.2.1 _ (by omega)
  have hb := (h.2.2.1 r t (by omega) (by omega)).1
  have ek := nI_toInt (n := k) (by omega)
  have hp := hX.pr ht
  have hpd := paid_bd hp.1 hp.2 hk
  have hpu := hX.2.2.2.2 r hr
  unfold mSo
  refine (hX.held hr ht ?_).pur hr ?_ (by omega)
  · rw [e1, tI_sub (by rw [ek]; omega) (by rw [ek]; omega), ek]
    omega
  · rw [tI_add (by omega) (by omega)]
    omega
/-- one sale's worth: a constant and what hangs on the sale -/
theorem worth_sold {S N X : bS} {T R sec B : Nat} {w p bt u q : Nat → Nat} (h : Jc S N T R sec B w p bt u q) (he : RE N X) {r t k : Nat} (hr : r < R) (ht : t < T) (hk : k ≤ 9) (hh : -9 ≤ (N 3 (23 + 8 * r + t)).toInt - k) (h1 : sec + 20 < 2 ^ 30) (h2 : B + 300000 < 2147483647) :
    mWo (mPa (mSo X R r t k) T R (u t)) T R r = sma (N 3 (17 + r)) (fun t' => if t' = t then 0 else pz (if u t' ≤ u t then q t' + (u t' - 1) else q t' + u t) (w t') (mDv N R t') * N 3 (23 + 8 * r + t')) T + bYi S R r t k := by
  have hM := h.2.2.2
  have hT := hM.1.2.2
  have hY := hM.sold he hr ht hk hh (by omega)
  obtain ⟨e0, -, -, e3, hw, hp, -, hu, hqu, -⟩ := hM.2.1.2.2 t ht
  have ex : ∀ j, j < 71 → X 3 j = N 3 j := he.2.2.2.1
  have yh : ∀ r' t', r' < 6 → t' < 8 → mSo X R r t k 3 (23 + 8 * r' + t') = if r' = r ∧ t' = t then N 3 (23 + 8 * r + t) - nI k else N 3 (23 + 8 * r' + t') := by
    intro r' t' hr' ht'
    unfold mSo
    rw [up2_ne _ _ (Or.inr (by omega))]
    by_cases e : r' = r ∧ t' = t
    · rw [if_pos e, e.1, e.2, up2_eq, ex _ (by omega)]
    · rw [if_neg e, up2_ne _ _ (Or.inr (by omega)), ex _ (by omega)]
  have yp : mSo X R r t k 3 (17 + r) = N 3 (17 + r) + bPr S R t * nI k := by
    unfold mSo
    rw [up2_eq, ex _ (by omega), h.prc ht, mPr_of (X := X) (N := N) (ex _ (by omega)) (he.1 t) (fun r' hr' => ex _ (by omega))]
  have yd : ∀ t', t' < T → t' ≠ t → mDv (mSo X R r t k) R t' = mDv N R t' := by
    intro t' ht' ne
    unfold mDv
    exact sma_congr rfl R (fun r' hr' => by rw [yh r' t' (by omega) (by omega), if_neg (fun z => ne z.2)])
  have yt : mDv (mSo X R r t k) R t = mDv N R t - mx 0 (-(N 3 (23 + 8 * r + t))) + mx 0 (-(N 3 (23 + 8 * r + t) - nI k)) := by
    unfold mDv
    rw [sma_split (t := r) R hr, sma_split (a := 0) (f := fun r' => mx 0 (-(N 3 (23 + 8 * r' + t)))) (t := r) R hr]
    rw [sma_congr (g := fun i => if i = r then 0 else mx 0 (-(N 3 (23 + 8 * i + t)))) rfl R (fun i hi => by
      by_cases e : i = r
      · rw [if_pos e, if_pos e]
      · rw [if_neg e, if_neg e, yh i t (by omega) (by omega), if_neg (fun z => e z.1)])]
    rw [yh r t (by omega) (by omega), if_pos ⟨rfl, rfl⟩]
    grind
  rw [worth_pa hY hr (by omega) (by omega), sma_split (t := t) T ht]
  rw [if_pos (Nat.le_refl (u t)), cl_eq hY ht, yt, yh r t (by omega) (by omega), if_pos ⟨rfl, rfl⟩, yp]
  rw [sma_congr (a' := N 3 (17 + r) + bPr S R t * nI k) (g := fun t' => if t' = t then 0 else pz (if u t' ≤ u t then q t' + (u t' - 1) else q t' + u t) (w t') (mDv N R t') * N 3 (23 + 8 * r + t')) rfl T (fun t' ht' => by
    by_cases e : t' = t
    · rw [if_pos e, if_pos e]
    · have ec := cl_eq hY ht'
      have ed := yd t' ht' e
      have eh := yh r t' (by omega) (by omega)
      rw [if_neg (show ¬ (r = r ∧ t' = t) from fun z => e z.2)] at eh
      rw [ed] at ec
      rw [if_neg e, if_neg e, eh, ec, ed]
      unfold pz
      split <;> rfl)]
  rw [sma_out (a := N 3 (17 + r) + bPr S R t * nI k), sma_out (a := N 3 (17 + r))]
  unfold bYi bCw pr
  obtain ⟨s0, s1, s3⟩ := h.2.2.1 t ht
  rw [h.dv ht, h.sil ht, s3, s0, h.2.1.2.1 r t (by omega) (by omega), nI_add, show nI (q t + u t) - 1 = nI (q t + (u t - 1)) by rw [show q t + (u t - 1) = q t + u t - 1 by omega]; exact pk_sub (a := q t + u t) (b := 1) (by omega)]
  grind
theorem mBm_bsl {g y : Nat → Int32} {M : Nat} (hM : M < 2 ^ 30) (h : ∀ i j, i ≤ M → j ≤ M → (g i < g j ↔ y i < y j)) : ∀ k : Nat, k ≤ M → (mBm g (k + 1)).1 = bsl y k ∧ (mBm g (k + 1)).2 = g (bsl y k)
  | 0, _ => by
    have e : mBm g (0 + 1) = (0, g 0) := mBm_0 (by decide)
    rw [e]
    exact ⟨rfl, rfl⟩
  | k + 1, hk => by
    obtain ⟨i1, i2⟩ := mBm_bsl hM h k (by omega)
    have hb := bsl_le y k
    have hpos : ¬ nI (k + 1) ≤ 0 := nI_nle (by omega) (by omega)
    have eb : bsl y (k + 1) = if y (k + 1) ≤ y (bsl y k) then bsl y k else k + 1 := rfl
    by_cases c : y (k + 1) ≤ y (bsl y k)
    · have c2 : ¬ (mBm g (k + 1)).2 < g (k + 1) := by rw [i2, h _ _ (by omega) hk]; exact Int32.not_lt.mpr c
      rw [mBm_2 hpos c2, eb, if_pos c]
      exact ⟨i1, i2⟩
    · have c2 : (mBm g (k + 1)).2 < g (k + 1) := by rw [i2, h _ _ (by omega) hk]; exact Int32.not_le.mp c
      rw [mBm_1 hpos c2, eb, if_neg c]
      exact ⟨rfl, rfl⟩
theorem mn_M {x : Int32} (h1 : -9 ≤ x.toInt) (h2 : x.toInt ≤ 9) : ∃ M : Nat, mn 9 (x + 9) = nI M ∧ M ≤ 9 ∧ (M : Int) ≤ x.toInt + 9 := by
  have e9 : (9 : Int32).toInt = 9 := by decide
  have e : (x + 9).toInt = x.toInt + 9 := by rw [tI_add (by omega) (by omega), e9]
  unfold mn
  by_cases c : x + 9 < 9
  · rw [if_pos c]
    have c1 := Int32.lt_iff_toInt_lt.mp c
    refine ⟨(x.toInt + 9).toNat, ?_, by omega, by omega⟩
    apply Int32.toInt_inj.mp
    rw [e, nI_toInt (by omega)]
    omega
  · rw [if_neg c]
    have c1 : ¬ (x + 9).toInt < (9 : Int32).toInt := fun z => c (Int32.lt_iff_toInt_lt.mpr z)
    exact ⟨9, rfl, Nat.le_refl 9, by omega⟩
theorem cmp_out {c a b : Int32} (h1 : -2147483648 ≤ c.toInt + a.toInt) (h2 : c.toInt + a.toInt < 2147483648) (h3 : -2147483648 ≤ c.toInt + b.toInt) (h4 : c.toInt + b.toInt < 2147483648) : c + a < c + b ↔ a < b := by
  rw [Int32.lt_iff_toInt_lt, Int32.lt_iff_toInt_lt, tI_add h1 h2, tI_add h3 h4]
  omega
theorem yi_bd {S N : bS} {T R sec B : Nat} {w p bt u q : Nat → Nat} (h : Jc S N T R sec B w p bt u q) {r t k : Nat} (hr : r < R) (ht : t < T) (hk : k ≤ 9) (hh : -9 ≤ (N 3 (23 + 8 * r + t)).toInt - k) (hB : B + 1620 < 2147483647) : -3240 ≤ (bYi S R r t k).toInt ∧ (bYi S R r t k).toInt ≤ 3240 := by
  have hM := h.2.2.2
  have hT := hM.1.2.2
  have hb := (hM.2.2.1 r t (by omega) (by omega)).1
  have ek := nI_toInt (n := k) (by omega)
  have hp := hM.pr ht
  have hpd := paid_bd hp.1 hp.2 hk
  obtain ⟨s0, s1, s3⟩ := h.2.2.1 t ht
  obtain ⟨e0, -, -, e3, hw, hpp, -, hu, hqu, -⟩ := hM.2.1.2.2 t ht
  have eh : (N 3 (23 + 8 * r + t) - nI k).toInt = (N 3 (23 + 8 * r + t)).toInt - k := by rw [tI_sub (by rw [ek]; omega) (by rw [ek]; omega), ek]
  have hY := hM.sold (RE.rf N) hr ht hk hh hB
  have hdv := hY.2.2.1.dv (t := t) (by omega) hT.2
  have yh : ∀ r', r' < R → mSo N R r t k 3 (23 + 8 * r' + t) = if r' = r then N 3 (23 + 8 * r + t) - nI k else N 3 (23 + 8 * r' + t) := by
    intro r' hr'
    unfold mSo
    rw [up2_ne _ _ (Or.inr (by omega))]
    by_cases e : r' = r
    · rw [if_pos e, e, up2_eq]
    · rw [if_neg e, up2_ne _ _ (Or.inr (by omega))]
  have yt : mDv (mSo N R r t k) R t = mDv N R t - mx 0 (-(N 3 (23 + 8 * r + t))) + mx 0 (-(N 3 (23 + 8 * r + t) - nI k)) := by
    unfold mDv
    rw [sma_split (t := r) R hr, sma_split (a := 0) (f := fun r' => mx 0 (-(N 3 (23 + 8 * r' + t)))) (t := r) R hr]
    rw [sma_congr (g := fun i => if i = r then 0 else mx 0 (-(N 3 (23 + 8 * i + t)))) rfl R (fun i hi => by
      by_cases e : i = r
      · rw [if_pos e, if_pos e]
      · rw [if_neg e, if_neg e, yh i hi, if_neg e])]
    rw [yh r hr, if_pos rfl]
    grind
  unfold bYi bCw pr
  rw [h.prc ht, h.dv ht, h.sil ht, s3, s0, h.2.1.2.1 r t (by omega) (by omega), nI_add, show nI (q t + u t) - 1 = nI (q t + (u t - 1)) by rw [show q t + (u t - 1) = q t + u t - 1 by omega]; exact pk_sub (a := q t + u t) (b := 1) (by omega), ← yt, Int32.mul_comm (nI k)]
  have hz := pr_bd (x := q t + (u t - 1)) (w := w t) (dv := mDv (mSo N R r t k) R t) (by omega) hw.2 hdv.1 hdv.2
  have ht2 := term_bd hz.1 hz.2 (y := N 3 (23 + 8 * r + t) - nI k) (by omega) (by omega)
  rw [Int32.mul_comm (N 3 (23 + 8 * r + t) - nI k), tI_add (by omega) (by omega)]
  omega
/-- bestToSell -/
theorem Jc.bs {S N : bS} {T R sec B : Nat} {w p bt u q : Nat → Nat} (h : Jc S N T R sec B w p bt u q) {r t M : Nat} (hr : r < R) (ht : t < T) (hM9 : M ≤ 9) (hMh : (M : Int) ≤ (N 3 (23 + 8 * r + t)).toInt + 9) (h1 : sec + 20 < 2 ^ 30) (h2 : B + 300000 < 2147483647) :
    bsl (bYi S R r t) M = (mBm (mVl (kp (up2 N 5 0 0)) T R r t (u t)) (M + 1)).1 := by
  have hM := h.2.2.2
  have hT := hM.1.2.2
  have hP := hM.2.2.2.2 r hr
  refine (mBm_bsl (g := mVl (kp (up2 N 5 0 0)) T R r t (u t)) (y := bYi S R r t) (M := M) (by omega) (fun i j hi hj => ?_) M (Nat.le_refl M)).1.symm
  have hc := sma_bd (A := B) (c := 1620) (a := N 3 (17 + r)) hP (f := fun t' => if t' = t then 0 else pz (if u t' ≤ u t then q t' + (u t' - 1) else q t' + u t) (w t') (mDv N R t') * N 3 (23 + 8 * r + t')) T (fun t' ht' => by
    show _ ≤ (if _ then _ else _ : Int32).toInt ∧ (if _ then _ else _ : Int32).toInt ≤ _
    by_cases e : t' = t
    · rw [if_pos e, Int32.toInt_zero]
      omega
    · rw [if_neg e]
      obtain ⟨-, -, -, -, hw, hpp, -, hu, hqu, -⟩ := hM.2.1.2.2 t' ht'
      have hdv := hM.2.2.1.dv (t := t') (by omega) hT.2
      have hb := (hM.2.2.1 r t' (by omega) (by omega)).1
      have hz := pr_bd (x := if u t' ≤ u t then q t' + (u t' - 1) else q t' + u t) (w := w t') (dv := mDv N R t') (by split <;> omega) hw.2 hdv.1 hdv.2
      exact term_bd hz.1 hz.2 hb.1 hb.2) (by omega)
  have yi := yi_bd h hr ht (k := i) (by omega) (by omega) (by omega)
  have yj := yi_bd h hr ht (k := j) (by omega) (by omega) (by omega)
  unfold mVl
  rw [worth_sold h (RK_bn i).1 hr ht (by omega) (by omega) h1 h2, worth_sold h (RK_bn j).1 hr ht (by omega) (by omega) h1 h2]
  exact cmp_out (by omega) (by omega) (by omega) (by omega)
/-! floorMod -/
theorem nn_msb (z : Int32) : 0 ≤ z ↔ z.toBitVec.msb = false := by
  rw [Int32.le_iff_toInt_le, Int32.toInt_zero, BitVec.msb_eq_toInt]
  show 0 ≤ z.toBitVec.toInt ↔ _
  simp
theorem flm_z {b0 sec p0 : Nat} (hb : b0 < p0) (hp : 2 ≤ p0) (hp9 : p0 ≤ 20) (hs : sec < 2 ^ 29) : ∃ z : Nat, flm (nI b0 - nI sec) (nI p0) = nI z ∧ z < p0 ∧ (sec + z) % p0 = b0 := by
  have ex := pk_sub_toInt (a := b0) (b := sec) (by omega) (by omega)
  have ep := nI_toInt (n := p0) (by omega)
  have er : (rmi (nI b0 - nI sec) (nI p0)).toInt = ((b0 : Int) - sec).tmod p0 := by
    unfold rmi
    rw [rem_toInt, ex, ep]
  have hpn : (nI p0).toBitVec.msb = false := (nn_msb _).mp (by rw [Int32.le_iff_toInt_le, Int32.toInt_zero, ep]; omega)
  have hx : 0 ≤ (nI b0 - nI sec) ^^^ nI p0 ↔ 0 ≤ nI b0 - nI sec := by
    rw [nn_msb, nn_msb, Int32.toBitVec_xor, BitVec.msb_xor, hpn, Bool.xor_false]
  have h0 : 0 ≤ nI b0 - nI sec ↔ sec ≤ b0 := sub_nn (by omega) (by omega)
  unfold flm
  by_cases c : sec ≤ b0
  · rw [if_pos (hx.mpr (h0.mpr c))]
    refine ⟨b0 - sec, ?_, by omega, by rw [show sec + (b0 - sec) = b0 by omega]; exact Nat.mod_eq_of_lt hb⟩
    apply Int32.toInt_inj.mp
    rw [er, nI_toInt (by omega), Int.tmod_eq_emod_of_nonneg (by omega), Int.emod_eq_of_lt (by omega) (by omega)]
    omega
  · rw [if_neg (fun z => c (h0.mp (hx.mp z)))]
    have hd : ((b0 : Int) - sec).tmod p0 = -(((sec - b0) % p0 : Nat) : Int) := by
      rw [show (b0 : Int) - sec = -((sec - b0 : Nat) : Int) by omega, Int.neg_tmod, Int.tmod_eq_emod_of_nonneg (by omega)]
      rfl
    have hl := Nat.mod_lt (sec - b0) (show p0 > 0 by omega)
    have hdm := Nat.div_add_mod (sec - b0) p0
    by_cases c2 : (sec - b0) % p0 = 0
    · have e : rmi (nI b0 - nI sec) (nI p0) = 0 := by
        apply Int32.toInt_inj.mp
        rw [er, hd, c2, Int32.toInt_zero]
        rfl
      rw [if_pos e, e]
      refine ⟨0, rfl, by omega, ?_⟩
      rw [show sec + 0 = b0 + p0 * ((sec - b0) / p0) by omega, Nat.add_mul_mod_self_left]
      exact Nat.mod_eq_of_lt hb
    · have e : ¬ rmi (nI b0 - nI sec) (nI p0) = 0 := fun z => by
        have := congrArg Int32.toInt z
        rw [er, hd, Int32.toInt_zero] at this
        omega
      rw [if_neg e]
      refine ⟨p0 - (sec - b0) % p0, ?_, by omega, ?_⟩
      · apply Int32.toInt_inj.mp
        rw [tI_add (by rw [er, hd, ep]; omega) (by rw [er, hd, ep]; omega), er, hd, ep, nI_toInt (by omega)]
        omega
      · have e2 : p0 * ((sec - b0) / p0 + 1) = p0 * ((sec - b0) / p0) + p0 := Nat.mul_succ _ _
        rw [show sec + (p0 - (sec - b0) % p0) = b0 + p0 * ((sec - b0) / p0 + 1) by omega, Nat.add_mul_mod_self_left]
        exact Nat.mod_eq_of_lt hb
