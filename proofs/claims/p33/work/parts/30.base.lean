/-! ===== pure: what serves both claims ===== -/
theorem sma_congr {a a' : Int32} {f g : Nat → Int32} (ha : a = a') : ∀ n : Nat, (∀ i, i < n → f i = g i) → sma a f n = sma a' g n
  | 0, _ => ha
  | n + 1, h => by
    show sma a f n + f n = sma a' g n + g n
    rw [sma_congr ha n (fun i hi => h i (by omega)), h n (by omega)]
theorem amx_congr {f g : Nat → Int32} : ∀ n : Nat, (∀ i, i < n → f i = g i) → amx f n = amx g n
  | 0, _ => rfl
  | n + 1, h => by
    have ih := amx_congr (f := f) (g := g) n (fun i hi => h i (by omega))
    cases e : amx g n with
    | none => rw [amx_none e, amx_none (ih.trans e)]
    | some b =>
      have hb := amx_lt n e
      by_cases c : g n ≤ g b
      · rw [amx_keep e c, amx_keep (ih.trans e) (by rw [h n (by omega), h b (by omega)]; exact c)]
      · rw [amx_new e c, amx_new (ih.trans e) (by rw [h n (by omega), h b (by omega)]; exact c)]
theorem mod_same {x u v p : Nat} (h : (x + u) % p = (x + v) % p) (huv : u ≤ v) (hp : v - u < p) : u = v := by
  have h1 := Nat.sub_mod_eq_zero_of_mod_eq h.symm
  rw [show x + v - (x + u) = v - u by omega, Nat.mod_eq_of_lt hp] at h1
  omega
theorem rmi_nI {a d : Nat} (ha : a < 2 ^ 31) (h0 : 0 < d) (hd : d < 2 ^ 31) : rmi (nI a) (nI d) = nI (a % d) := pk_rem ha h0 hd
theorem tI_add {a b : Int32} (h1 : -2147483648 ≤ a.toInt + b.toInt) (h2 : a.toInt + b.toInt < 2147483648) : (a + b).toInt = a.toInt + b.toInt := by
  rw [Int32.toInt_add]
  exact Int.bmod_eq_of_le (by omega) (by omega)
theorem tI_sub {a b : Int32} (h1 : -2147483648 ≤ a.toInt - b.toInt) (h2 : a.toInt - b.toInt < 2147483648) : (a - b).toInt = a.toInt - b.toInt := by
  rw [Int32.toInt_sub]
  exact Int.bmod_eq_of_le (by omega) (by omega)
theorem tI_mul {a b : Int32} (h1 : -2147483648 ≤ a.toInt * b.toInt) (h2 : a.toInt * b.toInt < 2147483648) : (a * b).toInt = a.toInt * b.toInt := by
  rw [Int32.toInt_mul]
  exact Int.bmod_eq_of_le (by omega) (by omega)
theorem tI_neg {a : Int32} (h1 : -2147483648 < a.toInt) : (-a).toInt = -a.toInt := by
  have h2 := a.toInt_lt
  have h3 := a.le_toInt
  rw [Int32.toInt_neg]
  exact Int.bmod_eq_of_le (by omega) (by omega)
theorem mx_toInt (y : Int32) : (mx 0 y).toInt = if 0 < y.toInt then y.toInt else 0 := by
  unfold mx
  by_cases h : (0 : Int32) < y
  · rw [if_pos h]
    have h1 := Int32.lt_iff_toInt_lt.mp h
    rw [Int32.toInt_zero] at h1
    rw [if_pos h1]
  · rw [if_neg h]
    have h1 : ¬ (0 : Int32).toInt < y.toInt := fun q => h (Int32.lt_iff_toInt_lt.mpr q)
    rw [Int32.toInt_zero] at h1
    rw [if_neg h1, Int32.toInt_zero]
theorem mul_bd {x y : Int} {a b : Nat} (h1 : -(a : Int) ≤ x) (h2 : x ≤ a) (h3 : -(b : Int) ≤ y) (h4 : y ≤ b) : -((a * b : Nat) : Int) ≤ x * y ∧ x * y ≤ ((a * b : Nat) : Int) := by
  have h5 : x.natAbs ≤ a := by omega
  have h6 : y.natAbs ≤ b := by omega
  have h7 : (x * y).natAbs ≤ a * b := by rw [Int.natAbs_mul]; exact Nat.mul_le_mul h5 h6
  omega
theorem sma_bd {f : Nat → Int32} {a : Int32} {A c : Nat} (ha : -(A : Int) ≤ a.toInt ∧ a.toInt ≤ A) : ∀ n : Nat, (∀ i, i < n → -(c : Int) ≤ (f i).toInt ∧ (f i).toInt ≤ c) → A + c * n < 2147483647 → -((A + c * n : Nat) : Int) ≤ (sma a f n).toInt ∧ (sma a f n).toInt ≤ ((A + c * n : Nat) : Int)
  | 0, _, _ => by
    show -((A + c * 0 : Nat) : Int) ≤ a.toInt ∧ a.toInt ≤ _
    rw [Nat.mul_zero]
    exact ha
  | n + 1, h, hb => by
    have e : c * (n + 1) = c * n + c := Nat.mul_succ c n
    have ih := sma_bd ha n (fun i hi => h i (by omega)) (by omega)
    have h1 := h n (by omega)
    show -((A + c * (n + 1) : Nat) : Int) ≤ (sma a f n + f n).toInt ∧ (sma a f n + f n).toInt ≤ _
    rw [tI_add (by omega) (by omega)]
    omega
theorem sma_sma {a : Int32} {f g : Nat → Int32} : ∀ n : Nat, sma (sma a f n) g n = sma a (fun i => f i + g i) n := by
  have key : ∀ (n : Nat) (x y : Int32), sma (x + y) g n = sma x g n + y := by
    intro n
    induction n with
    | zero => intro x y; rfl
    | succ n ih =>
      intro x y
      show sma (x + y) g n + g n = sma x g n + g n + y
      rw [ih]
      grind
  intro n
  induction n with
  | zero => rfl
  | succ n ih =>
    show sma (sma a f n + f n) g n + g n = sma a (fun i => f i + g i) n + (f n + g n)
    rw [key, ih]
    grind
theorem sma_out {a : Int32} {g : Nat → Int32} : ∀ n : Nat, sma a g n = a + sma 0 g n
  | 0 => (Int32.add_zero a).symm
  | n + 1 => by
    show sma a g n + g n = a + (sma 0 g n + g n)
    rw [sma_out n, Int32.add_assoc]
theorem sma_zero {a : Int32} {g : Nat → Int32} : ∀ n : Nat, (∀ i, i < n → g i = 0) → sma a g n = a
  | 0, _ => rfl
  | n + 1, h => by
    show sma a g n + g n = a
    rw [sma_zero n (fun i hi => h i (by omega)), h n (by omega), Int32.add_zero]
theorem sma_nn {f : Nat → Int32} {c : Nat} : ∀ n : Nat, (∀ i, i < n → 0 ≤ (f i).toInt ∧ (f i).toInt ≤ c) → c * n < 2147483647 → 0 ≤ (sma 0 f n).toInt ∧ (sma 0 f n).toInt ≤ ((c * n : Nat) : Int)
  | 0, _, _ => by
    show 0 ≤ (0 : Int32).toInt ∧ (0 : Int32).toInt ≤ _
    rw [Int32.toInt_zero]
    omega
  | n + 1, h, hb => by
    have e : c * (n + 1) = c * n + c := Nat.mul_succ c n
    have ih := sma_nn n (fun i hi => h i (by omega)) (by omega)
    have h1 := h n (by omega)
    show 0 ≤ (sma 0 f n + f n).toInt ∧ (sma 0 f n + f n).toInt ≤ _
    rw [tI_add (by omega) (by omega)]
    omega
theorem dv_term {x : Int32} (h1 : -9 ≤ x.toInt) (h2 : x.toInt ≤ 9) : 0 ≤ (mx 0 (-x)).toInt ∧ (mx 0 (-x)).toInt ≤ (9 : Nat) := by
  rw [mx_toInt, tI_neg (by omega)]
  split <;> omega
theorem pr_bd {x w : Nat} {dv : Int32} (hx : x ≤ 20) (hw : w ≤ 9) (h0 : 0 ≤ dv.toInt) (h1 : dv.toInt ≤ 54) : 0 ≤ (mx 0 (nI x * nI w - 2 * dv)).toInt ∧ (mx 0 (nI x * nI w - 2 * dv)).toInt ≤ 180 := by
  have e2 : (2 : Int32).toInt = 2 := by decide
  have ex := nI_toInt (n := x) (by omega)
  have ew := nI_toInt (n := w) (by omega)
  have hm := mul_bd (x := x) (y := w) (a := 20) (b := 9) (by omega) (by omega) (by omega) (by omega)
  have e3 : (nI x * nI w).toInt = x * w := by rw [tI_mul (by rw [ex, ew]; omega) (by rw [ex, ew]; omega), ex, ew]
  have e4 : (2 * dv).toInt = 2 * dv.toInt := by rw [tI_mul (by rw [e2]; omega) (by rw [e2]; omega), e2]
  rw [mx_toInt, tI_sub (by rw [e3, e4]; omega) (by rw [e3, e4]; omega), e3, e4]
  split <;> omega
theorem sub_nn {k v : Nat} (hk : k < 2 ^ 30) (hv : v < 2 ^ 30) : 0 ≤ nI k - nI v ↔ v ≤ k := by
  rw [Int32.le_iff_toInt_le, Int32.toInt_zero, pk_sub_toInt hk hv]
  omega
def nf (f : Nat → Nat) (T v : Nat) : Nat → Nat := fun t => if t = T then v else f t
def u1 (p u : Nat → Nat) (t : Nat) : Nat := if u t = 1 then p t else u t - 1
def q1 (u q : Nat → Nat) (t : Nat) : Nat := if u t = 1 then 0 else q t + 1
theorem nn_msb (z : Int32) : 0 ≤ z ↔ z.toBitVec.msb = false := by
  rw [Int32.le_iff_toInt_le, Int32.toInt_zero, BitVec.msb_eq_toInt]
  show 0 ≤ z.toBitVec.toInt ↔ _
  simp
theorem flm_z {b0 sec p0 : Nat} (hb : b0 < p0) (hp : 2 ≤ p0) (hp9 : p0 ≤ 20) (hs : sec < 2 ^ 29) : ∃ z : Nat, flm (nI b0 - nI sec) (nI p0) = nI z ∧ z < p0 ∧ (sec + z) % p0 = b0 := by
  have ex := pk_sub_toInt (a := b0) (b := sec) (by omega) (by omega)
  have ep := nI_toInt (n := p0) (by omega)
  have er : (rmi (nI b0 - nI sec) (nI p0)).toInt = ((b0 : Int) - sec).tmod p0 := by
    unfold rmi
    rw [rem_toInt, ex, ep]
  have hpn : (nI p0).toBitVec.msb = false := (nn_msb _).mp (by rw [Int32.le_iff_toInt_le, Int32.toInt_zero, ep]; omega)
  have hx : 0 ≤ (nI b0 - nI sec) ^^^ nI p0 ↔ 0 ≤ nI b0 - nI sec := by
    rw [nn_msb, nn_msb, Int32.toBitVec_xor, BitVec.msb_xor, hpn, Bool.xor_false]
  have h0 : 0 ≤ nI b0 - nI sec ↔ sec ≤ b0 := sub_nn (by omega) (by omega)
  unfold flm
  by_cases c : sec ≤ b0
  · rw [if_pos (hx.mpr (h0.mpr c))]
    refine ⟨b0 - sec, ?_, by omega, by rw [show sec + (b0 - sec) = b0 by omega]; exact Nat.mod_eq_of_lt hb⟩
    apply Int32.toInt_inj.mp
    rw [er, nI_toInt (by omega), Int.tmod_eq_emod_of_nonneg (by omega), Int.emod_eq_of_lt (by omega) (by omega)]
    omega
  · rw [if_neg (fun z => c (h0.mp (hx.mp z)))]
    have hd : ((b0 : Int) - sec).tmod p0 = -(((sec - b0) % p0 : Nat) : Int) := by
      rw [show (b0 : Int) - sec = -((sec - b0 : Nat) : Int) by omega, Int.neg_tmod, Int.tmod_eq_emod_of_nonneg (by omega)]
      rfl
    have hl := Nat.mod_lt (sec - b0) (show p0 > 0 by omega)
    have hdm := Nat.div_add_mod (sec - b0) p0
    by_cases c2 : (sec - b0) % p0 = 0
    · have e : rmi (nI b0 - nI sec) (nI p0) = 0 := by
        apply Int32.toInt_inj.mp
        rw [er, hd, c2, Int32.toInt_zero]
        rfl
      rw [if_pos e, e]
      refine ⟨0, rfl, by omega, ?_⟩
      rw [show sec + 0 = b0 + p0 * ((sec - b0) / p0) by omega, Nat.add_mul_mod_self_left]
      exact Nat.mod_eq_of_lt hb
    · have e : ¬ rmi (nI b0 - nI sec) (nI p0) = 0 := fun z => by
        have := congrArg Int32.toInt z
        rw [er, hd, Int32.toInt_zero] at this
        omega
      rw [if_neg e]
      refine ⟨p0 - (sec - b0) % p0, ?_, by omega, ?_⟩
      · apply Int32.toInt_inj.mp
        rw [tI_add (by rw [er, hd, ep]; omega) (by rw [er, hd, ep]; omega), er, hd, ep, nI_toInt (by omega)]
        omega
      · have e2 : p0 * ((sec - b0) / p0 + 1) = p0 * ((sec - b0) / p0) + p0 := Nat.mul_succ _ _
        rw [show sec + (p0 - (sec - b0) % p0) = b0 + p0 * ((sec - b0) / p0 + 1) by omega, Nat.add_mul_mod_self_left]
        exact Nat.mod_eq_of_lt hb

theorem bStr_row (S : bS) (R t : Nat) {k : Nat} (j : Nat) (hk : k < 2) : bStr S R t k j = S k j := by
  unfold bStr
  rw [up2_ne _ _ (Or.inl (by omega)), up2_ne _ _ (Or.inl (by omega)), up2_ne _ _ (Or.inl (by omega))]
  exact bSt1_row S _ t j (by omega) (by omega) R
theorem bGo_row (S : bS) (R : Nat) {k : Nat} (j : Nat) (hk : k < 2) : ∀ i : Nat, bGo S R i k j = S k j
  | 0 => up2_ne _ _ (Or.inl (by omega))
  | i + 1 => by
    by_cases c : 1 < bGo S R i 3 i
    · rw [bGo_keep c, up2_ne _ _ (Or.inl (by omega)), up2_ne _ _ (Or.inl (by omega))]
      exact bGo_row S R j hk i
    · rw [bGo_str c, bStr_row _ R i j hk]
      exact bGo_row S R j hk i
