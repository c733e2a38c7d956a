/-! ===== pure: both answer the same ===== -/
def Jc (S N : bS) (T R sec B : Nat) (w p bt u q : Nat → Nat) : Prop := BI S T R ∧ Rel S N ∧ ST S T w p u ∧ MC N T R sec B w p bt u q
section SAME
variable {S N : bS} {T R sec B : Nat} {w p bt u q : Nat → Nat}
theorem Jc.loud (h : Jc S N T R sec B w p bt u q) {t : Nat} (ht : t < T) : S 0 t = N 0 t := by
  rw [(h.2.2.1 t ht).1, (h.2.2.2.2.1.2.2 t ht).1]
theorem Jc.dv (h : Jc S N T R sec B w p bt u q) {t : Nat} (ht : t < T) : bDv S R t = mDv N R t := bDv_eq h.2.1 (by have := h.1.2.2; omega) h.1.2.2.2
theorem Jc.prc (h : Jc S N T R sec B w p bt u q) {t : Nat} (ht : t < T) : bPr S R t = mPr N R t := bPr_eq h.2.1 (by have := h.1.2.2; omega) h.1.2.2.2 (h.loud ht)
theorem Jc.sil (h : Jc S N T R sec B w p bt u q) {t : Nat} (ht : t < T) : S 2 t = nI (q t) := by
  rw [h.2.1.2.2.1 t (by have := h.1.2.2; omega), (h.2.2.2.2.1.2.2 t ht).2.2.2.1]
theorem Jc.cl (h : Jc S N T R sec B w p bt u q) {t : Nat} (ht : t < T) : bCl S R t = mCl N R u t := by
  obtain ⟨-, -, -, -, -, -, -, hu, -⟩ := h.2.2.2.2.1.2.2 t ht
  obtain ⟨e0, e1, e3⟩ := h.2.2.1 t ht
  rw [cl_eq h.2.2.2 ht]
  unfold bCl bCw pr
  rw [h.dv ht, h.sil ht, e0, e3, nI_add, show nI (q t + u t) - 1 = nI (q t + u t - 1) from pk_sub (a := q t + u t) (b := 1) (by omega), show q t + u t - 1 = q t + (u t - 1) by omega]
theorem Jc.op (h : Jc S N T R sec B w p bt u q) {t : Nat} (ht : t < T) : bOp S R t = mOp N R t := sma_congr rfl R (fun r hr => h.2.1.2.1 r t (by have := h.1.2.2; omega) (by have := h.1.2.2; omega))
theorem Jc.sh (h : Jc S N T R sec B w p bt u q) {r : Nat} (hr : r < R) : bSh S T r = mSh N T r := sma_congr rfl T (fun t ht => by rw [h.2.1.2.1 r t (by have := h.1.2.2; omega) (by have := h.1.2.2; omega)])
theorem Jc.ow (h : Jc S N T R sec B w p bt u q) : bOw S R = mOw N R := sma_congr rfl R (fun r hr => by rw [h.2.1.1 r (by have := h.1.2.2; omega)])
theorem sub_nn {k v : Nat} (hk : k < 2 ^ 30) (hv : v < 2 ^ 30) : 0 ≤ nI k - nI v ↔ v ≤ k := by
  rw [Int32.le_iff_toInt_le, Int32.toInt_zero, pk_sub_toInt hk hv]
  omega
theorem Jc.pb (h : Jc S N T R sec B w p bt u q) {t k : Nat} (ht : t < T) (hk : k ≤ 100) (h1 : sec + k < 2 ^ 30) (h2 : B + 12960 * k < 2147483647) : bPb S R t k = mPr (mPa N T R k) R t := by
  obtain ⟨-, -, -, -, -, hp, -, hu, -⟩ := h.2.2.2.2.1.2.2 t ht
  obtain ⟨e0, e1, e3⟩ := h.2.2.1 t ht
  rw [pr_pa h.2.2.2 ht h1 h2]
  unfold bPb pr
  rw [e3, e1, e0, h.sil ht]
  by_cases c : u t ≤ k
  · rw [if_pos ((sub_nn (by omega) (by omega)).mpr c), if_pos c, if_pos (show (2 : Int32) ≤ nI (p t) from (nI_leI (a := 2) (by omega) (by omega)).mpr hp.1), pk_sub c, rmi_nI (by omega) (by omega) (by omega)]
  · rw [if_neg (fun z => c ((sub_nn (by omega) (by omega)).mp z)), if_neg c, nI_add, h.dv ht]
theorem Jc.wb (h : Jc S N T R sec B w p bt u q) {r k : Nat} (hr : r < R) (hk : k ≤ 100) (h1 : sec + k < 2 ^ 30) (h2 : B + 12960 * k < 2147483647) : bWb S T R r k = mWo (mPa N T R k) T R r := by
  have hT := h.1.2.2
  rw [worth_pa h.2.2.2 hr h1 h2]
  unfold bWb
  refine sma_congr (h.2.1.1 r (by omega)) T (fun t ht => ?_)
  obtain ⟨-, -, -, -, -, hp, -, hu, -⟩ := h.2.2.2.2.1.2.2 t ht
  obtain ⟨e0, e1, e3⟩ := h.2.2.1 t ht
  unfold bWt
  rw [e3, h.2.1.2.1 r t (by omega) (by omega)]
  by_cases c : u t ≤ k
  · rw [if_neg (fun z => absurd ((nI_ltI (by omega) (by omega)).mp z) (by omega)), if_pos c, h.cl ht]
  · rw [if_pos ((nI_ltI (by omega) (by omega)).mpr (by omega)), if_neg c, h.pb ht hk h1 h2, pr_pa h.2.2.2 ht h1 h2, if_neg c]
theorem Jc.w0 (h : Jc S N T R sec B w p bt u q) {r : Nat} (hr : r < R) (h1 : B < 2147483647) : bWb S T R r 0 = mWo N T R r := h.wb hr (by omega) (by have := h.2.2.2.2.1.2.1; omega) (by omega)
theorem Jc.de (h : Jc S N T R sec B w p bt u q) : bDe S T R = mDe N T R := amx_congr T (fun t ht => h.prc ht)
theorem Jc.rc (h : Jc S N T R sec B w p bt u q) (h1 : B < 2147483647) : bRc S T R = mRi N T R := amx_congr R (fun r hr => h.w0 hr h1)
theorem amn_amN {f : Nat → Int32} {g : Nat → Nat} : ∀ n : Nat, (∀ i, i < n → f i = nI (g i) ∧ g i < 2 ^ 31) → amn f n = amN g n
  | 0, _ => rfl
  | n + 1, h => by
    have ih := amn_amN (f := f) (g := g) n (fun i hi => h i (by omega))
    cases e : amN g n with
    | none => rw [amN_none e, amn_none (ih.trans e)]
    | some b =>
      have hb := amN_lt n e
      obtain ⟨a1, a2⟩ := h n (by omega)
      obtain ⟨a3, a4⟩ := h b (by omega)
      by_cases c : g b ≤ g n
      · rw [amN_keep e c, amn_keep (ih.trans e) (by rw [a1, a3]; exact (nI_leI a4 a2).mpr c)]
      · rw [amN_new e (by omega), amn_new (ih.trans e) (by rw [a1, a3]; exact fun z => c ((nI_leI a4 a2).mp z))]
theorem Jc.nx (h : Jc S N T R sec B w p bt u q) : bNx S T = amN u T := amn_amN T (fun t ht => ⟨(h.2.2.1 t ht).2.2, by have := (h.2.2.2.2.1.2.2 t ht).2.2.2.2.2; omega⟩)
theorem ab_mTb {f g : Nat → Int32} : ∀ n : Nat, (∀ i, i < n → f i = g i) → (mTb g n).1 = ab f n ∧ (mTb g n).2 = (match ab f n with | none => 0 | some b => g b)
  | 0, _ => ⟨rfl, rfl⟩
  | n + 1, h => by
    obtain ⟨i1, i2⟩ := ab_mTb (f := f) (g := g) n (fun i hi => h i (by omega))
    have hn := h n (by omega)
    cases e : ab f n with
    | none =>
      rw [e] at i1 i2
      dsimp only at i2
      by_cases c : f n ≤ 0
      · have c2 : ¬ (mTb g n).2 < g n := by rw [i2, ← hn]; exact Int32.not_lt.mpr c
        rw [mTb_keep c2, ab_skip c, e]
        exact ⟨i1, i2⟩
      · have c2 : (mTb g n).2 < g n := by rw [i2, ← hn]; exact Int32.not_le.mp c
        rw [mTb_new c2, ab_none c e]
        exact ⟨rfl, rfl⟩
    | some b =>
      rw [e] at i1 i2
      dsimp only at i2
      have hb := ab_lt n e
      have hfb := h b (by omega)
      have hpos : ¬ f b ≤ 0 := by
        have key : ∀ m : Nat, ∀ b : Nat, ab f m = some b → ¬ f b ≤ 0 := by
          intro m
          induction m with
          | zero => intro b hb; cases hb
          | succ m ih =>
            intro b hb
            by_cases c : f m ≤ 0
            · rw [ab_skip c] at hb
              exact ih b hb
            · cases e2 : ab f m with
              | none => rw [ab_none c e2] at hb; cases hb; exact c
              | some b2 =>
                by_cases c2 : f m ≤ f b2
                · rw [ab_keep c e2 c2] at hb; cases hb; exact ih _ e2
                · rw [ab_new c e2 c2] at hb; cases hb; exact c
        exact key n b e
      by_cases c : f n ≤ 0
      · have c2 : ¬ (mTb g n).2 < g n := by
          rw [i2, ← hn, ← hfb]
          exact Int32.not_lt.mpr (Int32.le_trans c (Int32.le_of_lt (Int32.not_le.mp hpos)))
        rw [mTb_keep c2, ab_skip c, e]
        exact ⟨i1, i2⟩
      · by_cases c2 : f n ≤ f b
        · have c3 : ¬ (mTb g n).2 < g n := by rw [i2, ← hn, ← hfb]; exact Int32.not_lt.mpr c2
          rw [mTb_keep c3, ab_keep c e c2]
          exact ⟨i1, i2⟩
        · have c3 : (mTb g n).2 < g n := by rw [i2, ← hn, ← hfb]; exact Int32.not_le.mp c2
          rw [mTb_new c3, ab_new c e c2]
          exact ⟨rfl, rfl⟩
theorem Jc.bu (h : Jc S N T R sec B w p bt u q) : bBu S T R = (mBu N T R u).1 := (ab_mTb T (fun t ht => by unfold bRi; rw [h.cl ht, h.prc ht])).1.symm
/-- the sum over the purse, second by second -/
theorem Jc.db0 (h : Jc S N T R sec B w p bt u q) {r : Nat} (hr : r < R) : ∀ k : Nat, k ≤ 100 → sec + k < 2 ^ 30 → B + 12960 * k < 2147483647 → sma (S 5 r) (bCi S T R r) (k + 1) = mPa N T R k 3 (17 + r)
  | 0, _, h1, h2 => by
    show sma (S 5 r) _ 0 + bCi S T R r 0 = N 3 (17 + r)
    have e : bCi S T R r 0 = 0 := sma_zero T (fun t ht => by
      obtain ⟨-, -, -, -, -, hp, -, hu, -⟩ := h.2.2.2.2.1.2.2 t ht
      unfold bCt
      rw [(h.2.2.1 t ht).2.2]
      exact if_neg (fun z => by have := (nI_eq (a := u t) (b := 0) (by omega) (by omega)).mp z; omega))
    rw [e, Int32.add_zero]
    exact h.2.1.1 r (by have := h.1.2.2; omega)
  | k + 1, hk, h1, h2 => by
    have hT := h.1.2.2
    have ih := h.db0 hr k (by omega) (by omega) (by omega)
    show sma (S 5 r) (bCi S T R r) (k + 1) + bCi S T R r (k + 1) = _
    rw [ih, pur_pa h.2.2.2 hr k (by omega) (by omega), pur_pa h.2.2.2 hr (k + 1) h1 h2]
    unfold bCi
    rw [← sma_out, sma_sma]
    refine sma_congr rfl T (fun t ht => ?_)
    obtain ⟨-, -, -, -, -, hp, -, hu, -⟩ := h.2.2.2.2.1.2.2 t ht
    unfold bCt
    rw [(h.2.2.1 t ht).2.2, h.cl ht, h.2.1.2.1 r t (by omega) (by omega)]
    by_cases c : u t ≤ k
    · rw [if_pos c, if_neg (fun z => by have := (nI_eq (a := u t) (b := k + 1) (by omega) (by omega)).mp z; omega), if_pos (show u t ≤ k + 1 by omega), Int32.add_zero]
    · rw [if_neg c, Int32.zero_add]
      by_cases c2 : u t = k + 1
      · rw [if_pos (by rw [c2]), if_pos (show u t ≤ k + 1 by omega)]
      · rw [if_neg (fun z => c2 ((nI_eq (a := u t) (b := k + 1) (by omega) (by omega)).mp z)), if_neg (show ¬ u t ≤ k + 1 by omega)]
theorem dbl_dbn {f g : Nat → Int32} : ∀ n k : Nat, (∀ j, k ≤ j → j < k + n → f j = g j) → dbn g n k ≤ k + n ∧ dbl f n k = if dbn g n k < k + n then nI (dbn g n k) else -1
  | 0, k, _ => ⟨Nat.le_refl k, (if_neg (Nat.lt_irrefl _)).symm⟩
  | n + 1, k, h => by
    unfold dbl dbn
    rw [h k (Nat.le_refl k) (by omega)]
    by_cases c : 0 ≤ g k
    · rw [if_pos c, if_pos c]
      have ih := dbl_dbn (f := f) (g := g) n (k + 1) (fun j h1 h2 => h j (by omega) (by omega))
      rw [show k + (n + 1) = k + 1 + n by omega]
      exact ih
    · rw [if_neg c, if_neg c]
      exact ⟨by omega, (if_pos (by omega)).symm⟩
theorem Jc.db (h : Jc S N T R sec B w p bt u q) {r : Nat} (hr : r < R) (h1 : sec + 100 < 2 ^ 30) (h2 : B + 12960 * 100 < 2147483647) : bDb S T R r = mDb (dbn (fun k => mPa N T R k 3 (17 + r)) 101 0) := by
  obtain ⟨e1, e2⟩ := dbl_dbn (f := fun k => sma (S 5 r) (bCi S T R r) (k + 1)) (g := fun k => mPa N T R k 3 (17 + r)) 101 0 (fun j _ hj => h.db0 hr j (by omega) (by omega) (by omega))
  unfold bDb mDb
  rw [e2]
  by_cases c : dbn (fun k => mPa N T R k 3 (17 + r)) 101 0 < 0 + 101
  · rw [if_pos c, if_neg (by omega)]
  · rw [if_neg c, if_pos (by omega)]
theorem Jc.dg (h : Jc S N T R sec B w p bt u q) (h1 : B < 2147483647) : bDg S T R = mDg N T R u := by
  have hT := h.1.2.2
  unfold bDg mDg
  refine lfo_congr (lfo_congr ?_ T (fun d t ht => ?_)) R (fun d r hr => ?_)
  · rw [h.2.1.2.2.2.2, h.de, h.nx, h.rc h1, h.ow, h.bu]
    rfl
  · unfold bMt mDt
    rw [h.dv ht, h.prc ht, h.op ht, h.cl ht, (h.2.2.1 t ht).2.2, h.2.1.2.2.1 t (by omega), h.2.1.2.2.2.1 t (by omega)]
    rfl
  · unfold bMr mDr
    rw [h.2.1.1 r (by omega), h.w0 hr h1, h.sh hr]
    exact lfo_congr rfl T (fun d t ht => by rw [h.2.1.2.1 r t (by omega) (by omega)])
theorem Jc.me (h : Jc S N T R sec B w p bt u q) : bMe S T R = mMe N T R := by
  have hT := h.1.2.2
  unfold bMe mMe
  rw [sma_congr rfl T (fun t ht => h.prc ht)]
  by_cases c : T < 1
  · rw [if_pos c, if_pos (by rw [show T = 0 by omega]; rfl)]
  · rw [if_neg c, if_neg (nI_ne0 (by omega) (by omega))]
end SAME
