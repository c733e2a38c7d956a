/-! ===== pure: what the law looks at ===== -/
def FP (S : bS) (R : Nat) (F : bS) (i : Nat) : Prop := ∀ j, j < i → (F 0 j = S 2 j ∧ F 1 j = bPr S R j ∧ F 2 j = S 3 j ∧ F 3 j = S 4 j ∧ F 4 j = bOp S R j) ∧ ∀ r, r < R → F (6 + r) j = S (7 + r) j
def FQ (S : bS) (R : Nat) (F : bS) (i r : Nat) : Prop := FP S R F i ∧ (F 0 i = S 2 i ∧ F 1 i = bPr S R i ∧ F 2 i = S 3 i ∧ F 3 i = S 4 i ∧ F 4 i = bOp S R i) ∧ ∀ r', r' < r → F (6 + r') i = S (7 + r') i
theorem FP.go {S F : bS} {R i : Nat} (h : FP S R F i) : FQ S R (up2 (up2 (up2 (up2 (up2 F 0 i (S 2 i)) 1 i (bPr S R i)) 2 i (S 3 i)) 3 i (S 4 i)) 4 i (bOp S R i)) i 0 := by
  refine ⟨fun j hj => ?_, ⟨?_, ?_, ?_, ?_, ?_⟩, fun r' hr' => absurd hr' (Nat.not_lt_zero r')⟩
  · have e : ∀ k, up2 (up2 (up2 (up2 (up2 F 0 i (S 2 i)) 1 i (bPr S R i)) 2 i (S 3 i)) 3 i (S 4 i)) 4 i (bOp S R i) k j = F k j := fun k => by
      rw [up2_ne _ _ (Or.inr (by omega)), up2_ne _ _ (Or.inr (by omega)), up2_ne _ _ (Or.inr (by omega)), up2_ne _ _ (Or.inr (by omega)), up2_ne _ _ (Or.inr (by omega))]
    rw [e, e, e, e, e]
    exact ⟨(h j hj).1, fun r hr => (e _).trans ((h j hj).2 r hr)⟩
  · rw [up2_ne _ _ (Or.inl (by decide)), up2_ne _ _ (Or.inl (by decide)), up2_ne _ _ (Or.inl (by decide)), up2_ne _ _ (Or.inl (by decide)), up2_eq]
  · rw [up2_ne _ _ (Or.inl (by decide)), up2_ne _ _ (Or.inl (by decide)), up2_ne _ _ (Or.inl (by decide)), up2_eq]
  · rw [up2_ne _ _ (Or.inl (by decide)), up2_ne _ _ (Or.inl (by decide)), up2_eq]
  · rw [up2_ne _ _ (Or.inl (by decide)), up2_eq]
  · rw [up2_eq]
theorem FQ.st {S F : bS} {R i r : Nat} (h : FQ S R F i r) : FQ S R (up2 F (6 + r) i (S (7 + r) i)) i (r + 1) := by
  obtain ⟨h1, h2, h3⟩ := h
  have e : ∀ k j, k < 5 → up2 F (6 + r) i (S (7 + r) i) k j = F k j := fun k j hk => up2_ne _ _ (Or.inl (by omega))
  refine ⟨fun j hj => ?_, ?_, fun r' hr' => ?_⟩
  · rw [e 0 j (by omega), e 1 j (by omega), e 2 j (by omega), e 3 j (by omega), e 4 j (by omega)]
    exact ⟨(h1 j hj).1, fun r' hr' => (up2_ne _ _ (Or.inr (by omega))).trans ((h1 j hj).2 r' hr')⟩
  · rw [e 0 i (by omega), e 1 i (by omega), e 2 i (by omega), e 3 i (by omega), e 4 i (by omega)]
    exact h2
  · by_cases c : r' = r
    · rw [c, up2_eq]
    · rw [up2_ne _ _ (Or.inl (by omega))]
      exact h3 r' (by omega)
theorem FQ.fin {S F : bS} {R i : Nat} (h : FQ S R F i R) : FP S R F (i + 1) := by
  intro j hj
  by_cases c : j = i
  · rw [c]
    exact h.2
  · exact h.1 j (by omega)
def dmx (f : Nat → Int32) : Nat → Int32
  | 0 => 0
  | i + 1 => mx (dmx f i) (f i)
def smn (f : Nat → Int32) : Nat → Int32
  | 0 => 99
  | i + 1 => mn (smn f i) (f i)
def dueS (S : bS) (i : Nat) : Int32 := sma 0 (fun t => if S 3 t = 1 then 1 else 0) i
def brg (S : bS) (R i : Nat) : Int32 := sma 0 (fun t => if S 3 t = 1 then bPr S R t * bOp S R t else 0) i
theorem amx_ex {f : Nat → Int32} : ∀ n : Nat, 1 ≤ n → ∃ k, amx f n = some k ∧ k < n ∧ ∀ i, i < n → f i ≤ f k
  | 0, h => absurd h (by decide)
  | n + 1, _ => by
    cases e : amx f n with
    | none =>
      have hn : n = 0 := by
        rcases Nat.eq_zero_or_pos n with z | z
        · exact z
        · obtain ⟨k, hk, -⟩ := amx_ex (f := f) n z
          rw [e] at hk
          cases hk
      refine ⟨n, amx_none e, Nat.lt_succ_self n, fun i hi => ?_⟩
      rw [show i = n by omega]
      exact Int32.le_refl _
    | some b =>
      have hb := amx_lt n e
      obtain ⟨k, hk, -, hm⟩ := amx_ex (f := f) n (by omega)
      rw [e] at hk
      cases hk
      by_cases c : f n ≤ f b
      · refine ⟨b, amx_keep e c, by omega, fun i hi => ?_⟩
        by_cases c2 : i = n
        · rw [c2]; exact c
        · exact hm i (by omega)
      · refine ⟨n, amx_new e c, by omega, fun i hi => ?_⟩
        by_cases c2 : i = n
        · rw [c2]; exact Int32.le_refl _
        · exact Int32.le_trans (hm i (by omega)) (Int32.le_of_lt (Int32.not_le.mp c))
theorem dmx_eq {f : Nat → Int32} : ∀ n : Nat, (∀ i, i < n → 0 ≤ f i) → dmx f n = (match amx f n with | none => 0 | some k => f k)
  | 0, _ => rfl
  | n + 1, h => by
    have ih := dmx_eq (f := f) n (fun i hi => h i (by omega))
    show mx (dmx f n) (f n) = _
    cases e : amx f n with
    | none =>
      rw [e] at ih
      rw [amx_none e, ih]
      show mx 0 (f n) = f n
      rw [mx0, if_pos (h n (by omega))]
    | some b =>
      rw [e] at ih
      rw [ih]
      show mx (f b) (f n) = _
      unfold mx
      by_cases c : f n ≤ f b
      · rw [amx_keep e c, if_neg (Int32.not_lt.mpr c)]
      · rw [amx_new e c, if_pos (Int32.not_le.mp c)]
theorem smn_eq {f : Nat → Int32} : ∀ n : Nat, (∀ i, i < n → f i < 99) → smn f n = (match amn f n with | none => 99 | some k => f k)
  | 0, _ => rfl
  | n + 1, h => by
    have ih := smn_eq (f := f) n (fun i hi => h i (by omega))
    show mn (smn f n) (f n) = _
    cases e : amn f n with
    | none =>
      rw [e] at ih
      rw [amn_none e, ih]
      show mn 99 (f n) = f n
      exact if_pos (h n (by omega))
    | some b =>
      rw [e] at ih
      rw [ih]
      show mn (f b) (f n) = _
      unfold mn
      by_cases c : f b ≤ f n
      · rw [amn_keep e c, if_neg (Int32.not_lt.mpr c)]
      · rw [amn_new e c, if_pos (Int32.not_le.mp c)]
theorem amn_ex {f : Nat → Int32} : ∀ n : Nat, 1 ≤ n → ∃ k, amn f n = some k ∧ k < n
  | 0, h => absurd h (by decide)
  | n + 1, _ => by
    cases e : amn f n with
    | none => exact ⟨n, amn_none e, Nat.lt_succ_self n⟩
    | some b =>
      have hb := amn_lt n e
      by_cases c : f b ≤ f n
      · exact ⟨b, amn_keep e c, by omega⟩
      · exact ⟨n, amn_new e c, by omega⟩
theorem oI_lt {o : Option Nat} {n : Nat} (h : ∀ k, o = some k → k < n) (hn : n < 2 ^ 30) : oI o < nI n := by
  cases o with
  | none =>
    rw [Int32.lt_iff_toInt_lt]
    show (-1 : Int32).toInt < _
    rw [nI_toInt (by omega)]
    have e : (-1 : Int32).toInt = -1 := by decide
    omega
  | some k => exact (nI_ltI (by have := h k rfl; omega) (by omega)).mpr (h k rfl)
/-- sums change places -/
theorem sma_swap {g : Nat → Int32} {F : Nat → Nat → Int32} {T : Nat} : ∀ R : Nat, sma 0 (fun r => sma (g r) (fun t => F r t) T) R = sma 0 g R + sma 0 (fun t => sma 0 (fun r => F r t) R) T
  | 0 => by
    show (0 : Int32) = 0 + sma 0 (fun t => 0) T
    rw [sma_zero T (fun _ _ => rfl)]
    rfl
  | R + 1 => by
    show sma 0 _ R + sma (g R) (fun t => F R t) T = (sma 0 g R + g R) + sma 0 (fun t => sma 0 (fun r => F r t) R + F R t) T
    rw [sma_swap R, sma_out (a := g R), ← sma_sma, sma_out (a := sma 0 (fun t => sma 0 (fun r => F r t) R) T)]
    grind
theorem sma_if {P : Int32} {h : Nat → Int32} {c : Prop} [Decidable c] : ∀ R : Nat, sma 0 (fun r => if c then P * h r else 0) R = if c then P * sma 0 h R else 0
  | 0 => by
    show (0 : Int32) = _
    split
    · exact (Int32.mul_zero).symm
    · rfl
  | R + 1 => by
    show sma 0 _ R + (if c then P * h R else 0) = if c then P * (sma 0 h R + h R) else 0
    rw [sma_if R]
    split
    · grind
    · rfl
section LP
variable {S N : bS} {T R sec : Nat} {w p bt u q : Nat → Nat}
theorem Jc.a1 (h : Jc S N T R sec w p bt u q) {t : Nat} (ht : t < T) : ¬ S 2 t < 0 := by
  obtain ⟨⟨-, -, e2, -, -⟩, -, -, hp, -, hu, hq, -⟩ := h.2.2.2.2.1 t ht
  rw [e2]
  exact nI_pos (by omega)
theorem Jc.a2' (h : Jc S N T R sec w p bt u q) {t : Nat} (ht : t < T) : 0 ≤ bPr S R t := by
  rw [Int32.le_iff_toInt_le, Int32.toInt_zero]
  exact (h.prb ht).1
theorem Jc.a2 (h : Jc S N T R sec w p bt u q) {t : Nat} (ht : t < T) : ¬ bPr S R t < 0 := Int32.not_lt.mpr (h.a2' ht)
theorem Jc.lt' (h : Jc S N T R sec w p bt u q) {t : Nat} (ht : t < T) : S 0 t = N (20 + t) 0 := by
  obtain ⟨⟨e0, -⟩, ⟨f0, -⟩, -⟩ := h.2.2.2.2.1 t ht
  rw [e0, f0]
theorem Jc.a3 (h : Jc S N T R sec w p bt u q) {t : Nat} (ht : t < T) : ¬ S 2 t * N (20 + t) 0 < bPr S R t := by
  have hT := h.T8
  obtain ⟨⟨e0, -, e2, -, -⟩, -, hw, hp, -, hu, hq, -⟩ := h.2.2.2.2.1 t ht
  have hd := h.dvb (t := t) (by omega)
  rw [← h.lt' ht]
  unfold bPr pr
  rw [mx0, e0, e2, pk_mul]
  have hb : q t * w t ≤ 20 * 9 := Nat.mul_le_mul (by omega) hw.2
  have em := nI_toInt (n := q t * w t) (by omega)
  have e2' : (2 : Int32).toInt = 2 := by decide
  have ed : (2 * bDv S R t).toInt = 2 * (bDv S R t).toInt := by rw [tI_mul (by rw [e2']; omega) (by rw [e2']; omega), e2']
  have es : (nI (q t * w t) - 2 * bDv S R t).toInt = (q t * w t : Nat) - 2 * (bDv S R t).toInt := by rw [tI_sub (by omega) (by omega), em, ed]
  rw [Int32.not_lt]
  split
  · rw [Int32.le_iff_toInt_le, es, em]
    omega
  · exact nI_pos' (by omega)
theorem Jc.a4 (h : Jc S N T R sec w p bt u q) {t : Nat} (ht : t < T) : ¬ S 3 t < 1 := by
  obtain ⟨⟨-, -, -, e3, -⟩, -, -, hp, -, hu, hq, -⟩ := h.2.2.2.2.1 t ht
  rw [e3]
  exact fun z => by have := (nI_ltI (a := u t) (b := 1) (by omega) (by omega)).mp z; omega
theorem Jc.a5 (h : Jc S N T R sec w p bt u q) {t : Nat} (ht : t < T) : ¬ N (20 + t) 1 < S 3 t := by
  obtain ⟨⟨-, -, -, e3, -⟩, ⟨-, f1, -⟩, -, hp, -, hu, hq, -⟩ := h.2.2.2.2.1 t ht
  rw [e3, f1]
  exact fun z => by have := (nI_ltI (by omega) (by omega)).mp z; omega
theorem Jc.a6 (h : Jc S N T R sec w p bt u q) {t : Nat} (ht : t < T) : sDv S t R = bDv S R t := by
  have hT := h.T8
  have hR := h.R6
  unfold sDv bDv
  exact sma_congr rfl R (fun r hr => by
    obtain ⟨e, hb, -⟩ := h.2.2.1 r t (by omega) (by omega)
    rw [e, dvt hb.1 hb.2])
theorem Jc.a7 (h : Jc S N T R sec w p bt u q) {t : Nat} (ht : t < T) : bPr S R t = mx 0 (S 2 t * N (20 + t) 0 - 2 * sDv S t R) := by
  rw [h.a6 ht, ← h.lt' ht]
  rfl
theorem Jc.a8 (h : Jc S N T R sec w p bt u q) {t : Nat} (ht : t < T) : bPr S R t ≤ bCl S R t := by
  have hT := h.T8
  obtain ⟨⟨e0, -, e2, e3, -⟩, -, hw, hp, -, hu, hq, -⟩ := h.2.2.2.2.1 t ht
  have hd := h.dvb (t := t) (by omega)
  have hb1 : q t * w t ≤ (q t + (u t - 1)) * w t := Nat.mul_le_mul_right _ (by omega)
  have hb2 : (q t + (u t - 1)) * w t ≤ 20 * 9 := Nat.mul_le_mul (by omega) hw.2
  have em1 := nI_toInt (n := q t * w t) (by omega)
  have em2 := nI_toInt (n := (q t + (u t - 1)) * w t) (by omega)
  have e2' : (2 : Int32).toInt = 2 := by decide
  have ed : (2 * bDv S R t).toInt = 2 * (bDv S R t).toInt := by rw [tI_mul (by rw [e2']; omega) (by rw [e2']; omega), e2']
  have es1 : (nI (q t * w t) - 2 * bDv S R t).toInt = (q t * w t : Nat) - 2 * (bDv S R t).toInt := by rw [tI_sub (by omega) (by omega), em1, ed]
  have es2 : (nI ((q t + (u t - 1)) * w t) - 2 * bDv S R t).toInt = ((q t + (u t - 1)) * w t : Nat) - 2 * (bDv S R t).toInt := by rw [tI_sub (by omega) (by omega), em2, ed]
  have e9 : nI (q t) + nI (u t) - 1 = nI (q t + (u t - 1)) := by
    rw [nI_add, show q t + (u t - 1) = q t + u t - 1 by omega]
    exact pk_sub (a := q t + u t) (b := 1) (by omega)
  unfold bPr bCl bCw pr
  rw [e0, e2, e3, e9, pk_mul, pk_mul, Int32.le_iff_toInt_le, mx_toInt, mx_toInt, es1, es2]
  split <;> split <;> omega
theorem Jc.h9 (h : Jc S N T R sec w p bt u q) {r t : Nat} (hr : r < R) (ht : t < T) : ¬ S (7 + r) t < -9 ∧ S (7 + r) t ≤ 9 := by
  have hT := h.T8
  have hR := h.R6
  obtain ⟨e, hb, -⟩ := h.2.2.1 r t (by omega) (by omega)
  have e9 : (9 : Int32).toInt = 9 := by decide
  have m9 : (-9 : Int32).toInt = -9 := by decide
  rw [e, Int32.lt_iff_toInt_lt, Int32.le_iff_toInt_le, e9, m9]
  omega
theorem Jc.s399 (h : Jc S N T R sec w p bt u q) {t : Nat} (ht : t < T) : S 3 t < 99 := by
  obtain ⟨⟨-, -, -, e3, -⟩, -, -, hp, -, hu, hq, -⟩ := h.2.2.2.2.1 t ht
  rw [e3]
  exact (nI_ltI (b := 99) (by omega) (by omega)).mpr (by omega)
theorem Jc.u1' (h : Jc S N T R sec w p bt u q) {t : Nat} (ht : t < T) : S 3 t = 1 ↔ u t = 1 := by
  obtain ⟨⟨-, -, -, e3, -⟩, -, -, hp, -, hu, hq, -⟩ := h.2.2.2.2.1 t ht
  rw [e3]
  exact nI_eq (b := 1) (by omega) (by omega)
theorem Jc.wo2 (h : Jc S N T R sec w p bt u q) {r : Nat} (hr : r < R) : bWb S T R r 0 = sma (S 5 r) (fun t => bPr S R t * S (7 + r) t) T := by
  have hT := h.T8
  have hR := h.R6
  rw [h.wo hr]
  unfold sWo
  exact sma_congr (h.2.1 r hr).symm T (fun t ht => by rw [h.prc ht, h.held (by omega) (by omega), Int32.mul_comm])
theorem Jc.dear (h : Jc S N T R sec w p bt u q) {k : Nat} (hk : bDe S T R = some k) : bPr S R k = dmx (bPr S R) T := by
  rw [dmx_eq T (fun i hi => h.a2' hi), show amx (bPr S R) T = some k from hk]
theorem Jc.soon (h : Jc S N T R sec w p bt u q) {k : Nat} (hk : bNx S T = some k) : S 3 k = smn (S 3) T := by
  rw [smn_eq T (fun i hi => h.s399 hi), show amn (S 3) T = some k from hk]
theorem bBu_lt {S : bS} {T R : Nat} (hT : T ≤ 8) : oI (bBu S T R) < nI T := oI_lt (fun k hk => ab_lt T hk) (by omega)
theorem Jc.gc (h : Jc S N T R sec w p bt u q) : CfS S (bPa S T R 1) T R T p u q ∧ bGc S R T = dueN u T := cfS h.HS h.T8 h.R6 T (Nat.le_refl T)
theorem Jc.g2 (h : Jc S N T R sec w p bt u q) {t : Nat} (ht : t < T) : bPa S T R 1 2 t = if S 3 t = 1 then 0 else S 2 t + 1 := by
  have h1 := (h.gc.1.2.1 t ht).2
  rw [if_pos ht] at h1
  rw [h1]
  unfold q1
  by_cases c : u t = 1
  · rw [if_pos c, if_pos ((h.u1' ht).mpr c)]
    rfl
  · rw [if_neg c, if_neg (fun z => c ((h.u1' ht).mp z)), (h.2.2.2.2.1 t ht).1.2.2.1]
    exact (nI_1 _).symm
theorem Jc.g3 (h : Jc S N T R sec w p bt u q) {t : Nat} (ht : t < T) : bPa S T R 1 3 t = if S 3 t = 1 then nGo N (sPr N) R T (20 + t) 1 else S 3 t - 1 := by
  have h1 := (h.gc.1.2.1 t ht).1
  obtain ⟨⟨-, -, -, e3, -⟩, ⟨-, f1, -⟩, -, hp, -, hu, -⟩ := h.2.2.2.2.1 t ht
  rw [if_pos ht] at h1
  rw [h1]
  unfold u1
  by_cases c : u t = 1
  · rw [if_pos c, if_pos ((h.u1' ht).mpr c), nGo_1 (by omega) (by omega) (by omega) h.R6 (by omega), f1]
  · rw [if_neg c, if_neg (fun z => c ((h.u1' ht).mp z)), e3]
    exact (pk_sub (a := u t) (b := 1) (by omega)).symm
theorem Jc.g4 (h : Jc S N T R sec w p bt u q) {t : Nat} (ht : t < T) : bPa S T R 1 4 t = S 4 t + (if S 3 t = 1 then 1 else 0) := by
  have hT := h.T8
  rw [h.gc.1.2.2.1 t (by omega)]
  by_cases c : u t = 1
  · rw [if_pos ⟨ht, c⟩, if_pos ((h.u1' ht).mpr c)]
  · rw [if_neg (fun z => c z.2), if_neg (fun z => c ((h.u1' ht).mp z)), Int32.add_zero]
theorem Jc.gh (h : Jc S N T R sec w p bt u q) {r t : Nat} (hr : r < R) (ht : t < T) : bPa S T R 1 (7 + r) t = if S 3 t = 1 then 0 else S (7 + r) t := by
  have hT := h.T8
  have hR := h.R6
  rw [h.gc.1.2.2.2.2.1 r t (by omega) (by omega)]
  by_cases c : u t = 1
  · rw [if_pos ⟨ht, hr, c⟩, if_pos ((h.u1' ht).mpr c)]
  · rw [if_neg (fun z => c z.2.2), if_neg (fun z => c ((h.u1' ht).mp z))]
theorem Jc.gs (h : Jc S N T R sec w p bt u q) : bPa S T R 1 6 0 = S 6 0 + 1 := h.gc.1.1
theorem Jc.gd (h : Jc S N T R sec w p bt u q) : bPc S T R 1 = dueS S T := by
  show 0 + bGc S R T = _
  rw [h.gc.2, Int32.zero_add]
  exact sma_congr rfl T (fun t ht => by
    by_cases c : u t = 1
    · rw [if_pos c, if_pos ((h.u1' ht).mpr c)]
    · rw [if_neg c, if_neg (fun z => c ((h.u1' ht).mp z))])
theorem Jc.gp (h : Jc S N T R sec w p bt u q) : sma 0 (bPa S T R 1 5) R = sma 0 (S 5) R + brg S R T := by
  rw [sma_congr (g := fun r => sma (S 5 r) (fun t => if S 3 t = 1 then bPr S R t * S (7 + r) t else 0) T) rfl R (fun r hr => by
    rw [h.gc.1.2.2.2.2.2 r hr]
    exact sma_congr rfl T (fun t ht => by
      by_cases c : u t = 1
      · rw [if_pos c, if_pos ((h.u1' ht).mpr c)]
      · rw [if_neg c, if_neg (fun z => c ((h.u1' ht).mp z))]))]
  rw [sma_swap]
  unfold brg
  congr 1
  exact sma_congr rfl T (fun t ht => sma_if R)
theorem Je.go {S N : bS} {T R sec : Nat} (h : Je S N T R sec) (hs : sec + 1 < 2 ^ 29) : Je (bPa S T R 1) (nGo N (sPr N) R T) T R (sec + 1) := by
  obtain ⟨w, p, bt, u, q, hJ⟩ := h
  exact ⟨w, p, bt, u1 p u, q1 u q, (hJ.go hs).1⟩
end LP
