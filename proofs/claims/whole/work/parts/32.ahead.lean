/-! ===== pure: what will be ===== -/
def HB (N : bS) (T R : Nat) : Prop := ∀ r t, r < 6 → t < 8 → (-9 ≤ (N 3 (23 + 8 * r + t)).toInt ∧ (N 3 (23 + 8 * r + t)).toInt ≤ 9) ∧ (R ≤ r ∨ T ≤ t → N 3 (23 + 8 * r + t) = 0)
def ZB (N : bS) (T : Nat) : Prop := ∀ t, t < 8 → T ≤ t → N 3 (1 + t) = 0 ∧ N 3 (9 + t) = 0
def PB (N : bS) (R B : Nat) : Prop := ∀ r, r < R → -(B : Int) ≤ (N 3 (17 + r)).toInt ∧ (N 3 (17 + r)).toInt ≤ B
def MC (N : bS) (T R sec B : Nat) (w p bt u q : Nat → Nat) : Prop := MI N T R ∧ TF N T sec w p bt u q ∧ HB N T R ∧ ZB N T ∧ PB N R B
theorem sma_sma {a : Int32} {f g : Nat → Int32} : ∀ n : Nat, sma (sma a f n) g n = sma a (fun i => f i + g i) n := by
  have key : ∀ (n : Nat) (x y : Int32), sma (x + y) g n = sma x g n + y := by
    intro n
    induction n with
    | zero => intro x y; rfl
    | succ n ih =>
      intro x y
      show sma (x + y) g n + g n = sma x g n + g n + y
      rw [ih]
      grind
  intro n
  induction n with
  | zero => rfl
  | succ n ih =>
    show sma (sma a f n + f n) g n + g n = sma a (fun i => f i + g i) n + (f n + g n)
    rw [key, ih]
    grind
theorem sma_out {a : Int32} {g : Nat → Int32} : ∀ n : Nat, sma a g n = a + sma 0 g n
  | 0 => (Int32.add_zero a).symm
  | n + 1 => by
    show sma a g n + g n = a + (sma 0 g n + g n)
    rw [sma_out n, Int32.add_assoc]
theorem sma_zero {a : Int32} {g : Nat → Int32} : ∀ n : Nat, (∀ i, i < n → g i = 0) → sma a g n = a
  | 0, _ => rfl
  | n + 1, h => by
    show sma a g n + g n = a
    rw [sma_zero n (fun i hi => h i (by omega)), h n (by omega), Int32.add_zero]
theorem sma_nn {f : Nat → Int32} {c : Nat} : ∀ n : Nat, (∀ i, i < n → 0 ≤ (f i).toInt ∧ (f i).toInt ≤ c) → c * n < 2147483647 → 0 ≤ (sma 0 f n).toInt ∧ (sma 0 f n).toInt ≤ ((c * n : Nat) : Int)
  | 0, _, _ => by
    show 0 ≤ (0 : Int32).toInt ∧ (0 : Int32).toInt ≤ _
    rw [Int32.toInt_zero]
    omega
  | n + 1, h, hb => by
    have e : c * (n + 1) = c * n + c := Nat.mul_succ c n
    have ih := sma_nn n (fun i hi => h i (by omega)) (by omega)
    have h1 := h n (by omega)
    show 0 ≤ (sma 0 f n + f n).toInt ∧ (sma 0 f n + f n).toInt ≤ _
    rw [tI_add (by omega) (by omega)]
    omega
theorem dv_term {x : Int32} (h1 : -9 ≤ x.toInt) (h2 : x.toInt ≤ 9) : 0 ≤ (mx 0 (-x)).toInt ∧ (mx 0 (-x)).toInt ≤ (9 : Nat) := by
  rw [mx_toInt, tI_neg (by omega)]
  split <;> omega
theorem HB.dv {N : bS} {T R : Nat} (h : HB N T R) {t : Nat} (ht : t < 8) (hR : R ≤ 6) : 0 ≤ (mDv N R t).toInt ∧ (mDv N R t).toInt ≤ 54 := by
  have h1 := sma_nn (c := 9) (f := fun r => mx 0 (-(N 3 (23 + 8 * r + t)))) R (fun r hr => dv_term (h r t (by omega) ht).1.1 (h r t (by omega) ht).1.2) (by omega)
  unfold mDv
  omega
/-- a price is small -/
theorem pr_bd {x w : Nat} {dv : Int32} (hx : x ≤ 20) (hw : w ≤ 9) (h0 : 0 ≤ dv.toInt) (h1 : dv.toInt ≤ 54) : 0 ≤ (mx 0 (nI x * nI w - 2 * dv)).toInt ∧ (mx 0 (nI x * nI w - 2 * dv)).toInt ≤ 180 := by
  have e2 : (2 : Int32).toInt = 2 := by decide
  have ex := nI_toInt (n := x) (by omega)
  have ew := nI_toInt (n := w) (by omega)
  have hm := mul_bd (x := x) (y := w) (a := 20) (b := 9) (by omega) (by omega) (by omega) (by omega)
  have e3 : (nI x * nI w).toInt = x * w := by rw [tI_mul (by rw [ex, ew]; omega) (by rw [ex, ew]; omega), ex, ew]
  have e4 : (2 * dv).toInt = 2 * dv.toInt := by rw [tI_mul (by rw [e2]; omega) (by rw [e2]; omega), e2]
  rw [mx_toInt, tI_sub (by rw [e3, e4]; omega) (by rw [e3, e4]; omega), e3, e4]
  split <;> omega
theorem MC.pr {N : bS} {T R sec B : Nat} {w p bt u q : Nat → Nat} (h : MC N T R sec B w p bt u q) {t : Nat} (ht : t < T) : 0 ≤ (mPr N R t).toInt ∧ (mPr N R t).toInt ≤ 180 := by
  obtain ⟨hI, hTF, hH, -, -⟩ := h
  obtain ⟨h0, h1, h2, h3, hw, hp, hb, hu, hq, hm⟩ := hTF.2.2 t ht
  have hT := hI.2.2
  have hd := hH.dv (t := t) (by omega) hT.2
  unfold mPr mPb
  rw [h3, h0, Int32.add_zero]
  exact pr_bd (by omega) hw.2 hd.1 hd.2
theorem term_bd {x y : Int32} (h1 : 0 ≤ x.toInt) (h2 : x.toInt ≤ 180) (h3 : -9 ≤ y.toInt) (h4 : y.toInt ≤ 9) : -((1620 : Nat) : Int) ≤ (x * y).toInt ∧ (x * y).toInt ≤ (1620 : Nat) := by
  have hm := mul_bd (x := x.toInt) (y := y.toInt) (a := 180) (b := 9) (by omega) (by omega) (by omega) (by omega)
  rw [tI_mul (by omega) (by omega)]
  omega
theorem mGo_9 {N : bS} {R t : Nat} (ht : t < 8) : ∀ i : Nat, i ≤ t → mGo N R i 3 (9 + t) = N 3 (9 + t)
  | 0, _ => up2_ne _ _ (Or.inr (by omega))
  | i + 1, hi => by
    by_cases c : rmi (mGo N R i 3 0) (mGo N R i 1 i) = mGo N R i 2 i
    · rw [mGo_str c]
      unfold mStr
      rw [up2_ne _ _ (Or.inr (by omega)), up2_ne _ _ (Or.inr (by omega)), mS1_low (by omega)]
      exact mGo_9 ht i (by omega)
    · rw [mGo_keep c, up2_ne _ _ (Or.inr (by omega))]
      exact mGo_9 ht i (by omega)
theorem MC.go {N : bS} {T R sec B : Nat} {w p bt u q : Nat → Nat} (h : MC N T R sec B w p bt u q) (hs : sec + 1 < 2 ^ 30) (hB : B + 12960 < 2147483647) : MC (mGo N R T) T R (sec + 1) (B + 12960) w p bt (u1 p u) (q1 u q) := by
  have hpr := fun t ht => h.pr (t := t) ht
  obtain ⟨hI, hTF, hH, hZ, hP⟩ := h
  have hT := hI.2.2
  obtain ⟨c1, c2, c3, c4⟩ := goC (R := R) hTF hT.1 hT.2 T (Nat.le_refl T)
  refine ⟨MI_go hI, hTF.go hT.1 hT.2 hs, fun r t hr ht => ?_, fun t ht hTt => ?_, fun r hr => ?_⟩
  · rw [c3 r t hr ht]
    split
    · rw [Int32.toInt_zero]
      exact ⟨by omega, fun _ => rfl⟩
    · exact hH r t hr ht
  · rw [c2 t ht, if_neg (by omega), mGo_9 ht T hTt]
    exact hZ t ht hTt
  · rw [c4 r hr]
    have h1 := sma_bd (A := B) (c := 1620) (hP r hr) (f := fun t => if u t = 1 then mPr N R t * N 3 (23 + 8 * r + t) else 0) T (fun t ht => by
      show _ ≤ (if _ then _ else _ : Int32).toInt ∧ (if _ then _ else _ : Int32).toInt ≤ _
      split
      · exact term_bd (hpr t ht).1 (hpr t ht).2 (hH r t (by omega) (by omega)).1.1 (hH r t (by omega) (by omega)).1.2
      · rw [Int32.toInt_zero]
        omega) (by omega)
    omega
/-! many seconds -/
def uk (p u : Nat → Nat) : Nat → Nat → Nat
  | 0 => u
  | k + 1 => u1 p (uk p u k)
def qk (p u q : Nat → Nat) : Nat → Nat → Nat
  | 0 => q
  | k + 1 => q1 (uk p u k) (qk p u q k)
theorem MC.pa {N : bS} {T R sec B : Nat} {w p bt u q : Nat → Nat} (h : MC N T R sec B w p bt u q) : ∀ k : Nat, sec + k < 2 ^ 30 → B + 12960 * k < 2147483647 → MC (mPa N T R k) T R (sec + k) (B + 12960 * k) w p bt (uk p u k) (qk p u q k)
  | 0, _, _ => h
  | k + 1, h1, h2 => by
    have h5 : sec + k + 1 < 2 ^ 30 := by omega
    have e4 : B + 12960 * (k + 1) = B + 12960 * k + 12960 := by rw [Nat.mul_succ, Nat.add_assoc]
    have h4 : B + 12960 * k + 12960 < 2147483647 := e4 ▸ h2
    have h3 := (MC.pa h k (by omega) (by omega)).go h5 h4
    rw [show sec + (k + 1) = sec + k + 1 from rfl, e4]
    exact h3
theorem uk_lo {p u q : Nat → Nat} {t : Nat} (hp : 2 ≤ p t) (hu : 1 ≤ u t) : ∀ k : Nat, k < u t → uk p u k t = u t - k ∧ qk p u q k t = q t + k
  | 0, _ => ⟨rfl, rfl⟩
  | k + 1, h => by
    obtain ⟨h1, h2⟩ := uk_lo (q := q) hp hu k (by omega)
    show u1 p (uk p u k) t = _ ∧ q1 (uk p u k) (qk p u q k) t = _
    unfold u1 q1
    rw [if_neg (by omega), if_neg (by omega), h1, h2]
    omega
theorem uk_hi {p u q : Nat → Nat} {t : Nat} (hp : 2 ≤ p t) (hu : 1 ≤ u t) : ∀ k : Nat, uk p u (u t + k) t = p t - k % p t ∧ qk p u q (u t + k) t = k % p t
  | 0 => by
    obtain ⟨h1, h2⟩ := uk_lo (q := q) hp hu (u t - 1) (by omega)
    obtain ⟨z, hz⟩ : ∃ z, u t = z + 1 := ⟨u t - 1, by omega⟩
    rw [show u t + 0 = z + 1 by omega]
    rw [show u t - 1 = z by omega] at h1 h2
    show u1 p (uk p u z) t = _ ∧ q1 (uk p u z) (qk p u q z) t = _
    unfold u1 q1
    rw [if_pos (by omega), if_pos (by omega), Nat.zero_mod]
    exact ⟨rfl, rfl⟩
  | k + 1 => by
    obtain ⟨h1, h2⟩ := uk_hi (q := q) hp hu k
    have h3 := Nat.mod_lt k (show p t > 0 by omega)
    show u1 p (uk p u (u t + k)) t = _ ∧ q1 (uk p u (u t + k)) (qk p u q (u t + k)) t = _
    unfold u1 q1
    have h4 : (k + 1) % p t = if k % p t + 1 = p t then 0 else k % p t + 1 := by
      rw [Nat.add_mod, Nat.mod_eq_of_lt (show 1 < p t by omega)]
      split
      · rename_i e
        rw [e, Nat.mod_self]
      · exact Nat.mod_eq_of_lt (by omega)
    by_cases e : k % p t + 1 = p t
    · rw [if_pos (by omega), if_pos (by omega), h4, if_pos e]
      exact ⟨rfl, rfl⟩
    · rw [if_neg (by omega), if_neg (by omega), h4, if_neg e, h1, h2]
      omega
/-- what is held k seconds on -/
theorem held_pa {N : bS} {T R sec B : Nat} {w p bt u q : Nat → Nat} (h : MC N T R sec B w p bt u q) {r t : Nat} (hr : r < R) (ht : t < T) : ∀ k : Nat, sec + k < 2 ^ 30 → B + 12960 * k < 2147483647 → mPa N T R k 3 (23 + 8 * r + t) = if u t ≤ k then 0 else N 3 (23 + 8 * r + t)
  | 0, _, _ => by
    have := (h.2.1.2.2 t ht).2.2.2.2.2.2.2.1
    rw [if_neg (by omega)]
    rfl
  | k + 1, h1, h2 => by
    have ih := held_pa h hr ht k (by omega) (by omega)
    have hk := h.pa k (by omega) (by omega)
    have hT := h.1.2.2
    obtain ⟨-, -, -, -, -, hp, -, hu, -⟩ := h.2.1.2.2 t ht
    obtain ⟨-, -, c3, -⟩ := goC (R := R) hk.2.1 hT.1 hT.2 T (Nat.le_refl T)
    have c := c3 r t (by omega) (by omega)
    show mGo (mPa N T R k) R T 3 _ = _
    rw [c, ih]
    by_cases e : u t ≤ k
    · rw [if_pos e, if_pos (show u t ≤ k + 1 by omega)]
      split <;> rfl
    · have h3 := (uk_lo (q := q) hp.1 hu.1 k (by omega)).1
      rw [h3, if_neg e]
      by_cases e2 : u t = k + 1
      · rw [if_pos ⟨ht, hr, by omega⟩, if_pos (show u t ≤ k + 1 by omega)]
      · rw [if_neg (show ¬ (t < T ∧ r < R ∧ u t - k = 1) by omega), if_neg (show ¬ u t ≤ k + 1 by omega)]
theorem mDv_lo {N : bS} {T R sec B : Nat} {w p bt u q : Nat → Nat} (h : MC N T R sec B w p bt u q) {t : Nat} (ht : t < T) {k : Nat} (h1 : sec + k < 2 ^ 30) (h2 : B + 12960 * k < 2147483647) (hk : k < u t) : mDv (mPa N T R k) R t = mDv N R t := by
  unfold mDv
  exact sma_congr rfl R (fun r hr => by rw [held_pa h hr ht k h1 h2, if_neg (by omega)])
theorem mDv_hi {N : bS} {T R sec B : Nat} {w p bt u q : Nat → Nat} (h : MC N T R sec B w p bt u q) {t : Nat} (ht : t < T) {k : Nat} (h1 : sec + k < 2 ^ 30) (h2 : B + 12960 * k < 2147483647) (hk : u t ≤ k) : mDv (mPa N T R k) R t = 0 := by
  unfold mDv
  exact sma_zero R (fun r hr => by rw [held_pa h hr ht k h1 h2, if_pos hk]; decide)
/-- the price k seconds on -/
theorem pr_pa {N : bS} {T R sec B : Nat} {w p bt u q : Nat → Nat} (h : MC N T R sec B w p bt u q) {t : Nat} (ht : t < T) {k : Nat} (h1 : sec + k < 2 ^ 30) (h2 : B + 12960 * k < 2147483647) : mPr (mPa N T R k) R t = if u t ≤ k then mx 0 (nI ((k - u t) % p t) * nI (w t) - 2 * 0) else mx 0 (nI (q t + k) * nI (w t) - 2 * mDv N R t) := by
  have hk := h.pa k h1 h2
  obtain ⟨-, -, -, -, -, hp, -, hu, -⟩ := h.2.1.2.2 t ht
  obtain ⟨e0, -, -, e3, -⟩ := hk.2.1.2.2 t ht
  unfold mPr mPb
  rw [e0, e3, Int32.add_zero]
  by_cases e : u t ≤ k
  · rw [if_pos e, mDv_hi h ht h1 h2 e]
    have h3 := (uk_hi (q := q) hp.1 hu.1 (k - u t)).2
    rw [show u t + (k - u t) = k by omega] at h3
    rw [h3]
  · rw [if_neg e, mDv_lo h ht h1 h2 (by omega), (uk_lo (q := q) hp.1 hu.1 k (by omega)).2]
theorem cl_eq {N : bS} {T R sec B : Nat} {w p bt u q : Nat → Nat} (h : MC N T R sec B w p bt u q) {t : Nat} (ht : t < T) : mCl N R u t = mx 0 (nI (q t + (u t - 1)) * nI (w t) - 2 * mDv N R t) := by
  obtain ⟨e0, -, -, e3, -, -, -, hu, -⟩ := h.2.1.2.2 t ht
  unfold mCl mPb
  rw [e0, e3, show nI (u t) - 1 = nI (u t - 1) from pk_sub (a := u t) (b := 1) hu.1, nI_add]
/-- the purse k seconds on -/
theorem pur_pa {N : bS} {T R sec B : Nat} {w p bt u q : Nat → Nat} (h : MC N T R sec B w p bt u q) {r : Nat} (hr : r < R) : ∀ k : Nat, sec + k < 2 ^ 30 → B + 12960 * k < 2147483647 → mPa N T R k 3 (17 + r) = sma (N 3 (17 + r)) (fun t => if u t ≤ k then mCl N R u t * N 3 (23 + 8 * r + t) else 0) T
  | 0, _, _ => by
    rw [sma_zero T (fun t ht => by
      have := (h.2.1.2.2 t ht).2.2.2.2.2.2.2.1
      exact if_neg (by omega))]
    rfl
  | k + 1, h1, h2 => by
    have ih := pur_pa h hr k (by omega) (by omega)
    have hk := h.pa k (by omega) (by omega)
    have hT := h.1.2.2
    obtain ⟨-, -, -, c4⟩ := goC (R := R) hk.2.1 hT.1 hT.2 T (Nat.le_refl T)
    show mGo (mPa N T R k) R T 3 _ = _
    rw [c4 r hr, ih, sma_sma]
    refine sma_congr rfl T (fun t ht => ?_)
    obtain ⟨-, -, -, -, -, hp, -, hu, -⟩ := h.2.1.2.2 t ht
    rw [held_pa h hr ht k (by omega) (by omega)]
    by_cases e : u t ≤ k
    · rw [if_pos e, if_pos (show u t ≤ k + 1 by omega), if_pos e, Int32.mul_zero]
      split <;> rw [Int32.add_zero]
    · rw [if_neg e, if_neg e, (uk_lo (q := q) hp.1 hu.1 k (by omega)).1, Int32.zero_add]
      by_cases e2 : u t = k + 1
      · rw [if_pos (show u t - k = 1 by omega), if_pos (show u t ≤ k + 1 by omega), pr_pa h ht (by omega) (by omega), if_neg e, cl_eq h ht, show u t - 1 = k by omega]
      · rw [if_neg (show ¬ u t - k = 1 by omega), if_neg (show ¬ u t ≤ k + 1 by omega)]
theorem worth_pa {N : bS} {T R sec B : Nat} {w p bt u q : Nat → Nat} (h : MC N T R sec B w p bt u q) {r : Nat} (hr : r < R) {k : Nat} (h1 : sec + k < 2 ^ 30) (h2 : B + 12960 * k < 2147483647) : mWo (mPa N T R k) T R r = sma (N 3 (17 + r)) (fun t => (if u t ≤ k then mCl N R u t else mx 0 (nI (q t + k) * nI (w t) - 2 * mDv N R t)) * N 3 (23 + 8 * r + t)) T := by
  unfold mWo
  rw [pur_pa h hr k h1 h2, sma_sma]
  refine sma_congr rfl T (fun t ht => ?_)
  rw [held_pa h hr ht k h1 h2, pr_pa h ht h1 h2]
  by_cases e : u t ≤ k
  · rw [if_pos e, if_pos e, if_pos e, if_pos e, Int32.mul_zero, Int32.add_zero]
  · rw [if_neg e, if_neg e, if_neg e, if_neg e, Int32.zero_add]
