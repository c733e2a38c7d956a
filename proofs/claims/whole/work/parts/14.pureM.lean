/-! BellHushModel: what its methods answer -/
def amN (f : Nat → Nat) : Nat → Option Nat
  | 0 => none
  | n + 1 => match amN f n with
    | none => some n
    | some b => if f b ≤ f n then some b else some n
theorem amN_lt {f : Nat → Nat} {b : Nat} : ∀ n : Nat, amN f n = some b → b < n
  | 0, h => by cases h
  | n + 1, h => by
    unfold amN at h
    cases e : amN f n with
    | none => rw [e] at h; cases h; exact Nat.lt_succ_self _
    | some q =>
      rw [e] at h
      have := amN_lt (f := f) (b := q) n e
      dsimp only at h
      split at h <;> cases h <;> omega
theorem amN_none {f : Nat → Nat} {i : Nat} (h : amN f i = none) : amN f (i + 1) = some i := by unfold amN; rw [h]
theorem amN_keep {f : Nat → Nat} {i b : Nat} (h : amN f i = some b) (c : f b ≤ f i) : amN f (i + 1) = some b := by unfold amN; rw [h]; exact if_pos c
theorem amN_new {f : Nat → Nat} {i b : Nat} (h : amN f i = some b) (c : f i < f b) : amN f (i + 1) = some i := by unfold amN; rw [h]; exact if_neg (Nat.not_le.mpr c)
def mTb (f : Nat → Int32) : Nat → Option Nat × Int32
  | 0 => (none, 0)
  | n + 1 => if (mTb f n).2 < f n then (some n, f n) else mTb f n
theorem mTb_new {f : Nat → Int32} {n : Nat} (c : (mTb f n).2 < f n) : mTb f (n + 1) = (some n, f n) := if_pos c
theorem mTb_keep {f : Nat → Int32} {n : Nat} (c : ¬ (mTb f n).2 < f n) : mTb f (n + 1) = mTb f n := if_neg c
def isI (v lo hi : Int32) : Int32 := if v < lo then 0 else if hi < v then 0 else 1
theorem isI_nar (v lo hi : Int32) : narrow .boolean (.int (isI v lo hi)) = .int (isI v lo hi) := by
  unfold isI
  split
  · rfl
  · split <;> rfl
theorem isI_one {v lo hi : Nat} (h1 : lo ≤ v) (h2 : v ≤ hi) (h3 : hi < 2 ^ 31) : isI (nI v) (nI lo) (nI hi) = 1 := by
  unfold isI
  rw [if_neg (fun h => absurd ((nI_ltI (by omega) (by omega)).mp h) (by omega)), if_neg (fun h => absurd ((nI_ltI h3 (by omega)).mp h) (by omega))]
def mU (N : bS) (t u : Nat) : Prop := 1 ≤ u ∧ u ≤ 20 ∧ rmi (N 3 0 + nI u) (N 1 t) = N 2 t ∧ ∀ k : Nat, 1 ≤ k → k < u → ¬ rmi (N 3 0 + nI k) (N 1 t) = N 2 t
def mDv (N : bS) (R t : Nat) : Int32 := sma 0 (fun r => mx 0 (-(N 3 (23 + 8 * r + t)))) R
def mPb (N : bS) (R t : Nat) (x : Int32) : Int32 := mx 0 ((N 3 (1 + t) + x) * N 0 t - 2 * mDv N R t)
def mPr (N : bS) (R t : Nat) : Int32 := mPb N R t 0
def mOp (N : bS) (R t : Nat) : Int32 := sma 0 (fun r => N 3 (23 + 8 * r + t)) R
def mDe (N : bS) (T R : Nat) : Option Nat := amx (mPr N R) T
def mWo (N : bS) (T R r : Nat) : Int32 := sma (N 3 (17 + r)) (fun t => mPr N R t * N 3 (23 + 8 * r + t)) T
def mRi (N : bS) (T R : Nat) : Option Nat := amx (mWo N T R) R
def mSh (N : bS) (T r : Nat) : Int32 := sma 0 (fun t => if 0 ≤ N 3 (23 + 8 * r + t) then 0 else 1) T
def mOw (N : bS) (R : Nat) : Int32 := sma 0 (fun r => if 0 ≤ N 3 (17 + r) then 0 else 1) R
def mCl (N : bS) (R : Nat) (u : Nat → Nat) (t : Nat) : Int32 := mPb N R t (nI (u t) - 1)
def mBu (N : bS) (T R : Nat) (u : Nat → Nat) : Option Nat × Int32 := mTb (fun t => mCl N R u t - mPr N R t) T
/-! its changes -/
def upR (N : bS) (k : Nat) (f : Nat → Int32) : bS := fun k' => if k' = k then f else N k'
def kp (N : bS) : bS := upR N 4 (va_cpy (N 3) (N 4) 0 0 71)
def bk (N : bS) : bS := upR N 3 (va_cpy (N 4) (N 3) 0 0 71)
def mS1 (N : bS) (p : Int32) (t : Nat) : Nat → bS
  | 0 => N
  | i + 1 => up2 (up2 (mS1 N p t i) 3 (17 + i) (mS1 N p t i 3 (17 + i) + p * mS1 N p t i 3 (23 + 8 * i + t))) 3 (23 + 8 * i + t) 0
def mStr (N : bS) (R t : Nat) : bS := up2 (up2 (mS1 N (mPr N R t) t R) 3 (1 + t) 0) 3 (9 + t) (mS1 N (mPr N R t) t R 3 (9 + t) + 1)
def mGo (N : bS) (R : Nat) : Nat → bS
  | 0 => up2 N 3 0 (N 3 0 + 1)
  | t + 1 => if rmi (mGo N R t 3 0) (mGo N R t 1 t) = mGo N R t 2 t then mStr (mGo N R t) R t else up2 (mGo N R t) 3 (1 + t) (mGo N R t 3 (1 + t) + 1)
def mGc (N : bS) (R : Nat) : Nat → Int32
  | 0 => 0
  | t + 1 => if rmi (mGo N R t 3 0) (mGo N R t 1 t) = mGo N R t 2 t then mGc N R t + 1 else mGc N R t
def mPa (N : bS) (T R : Nat) : Nat → bS
  | 0 => N
  | i + 1 => mGo (mPa N T R i) R T
def mPc (N : bS) (T R : Nat) : Nat → Int32
  | 0 => 0
  | i + 1 => mPc N T R i + mGc (mPa N T R i) R T
def mSo (N : bS) (R r t k : Nat) : bS := up2 (up2 N 3 (23 + 8 * r + t) (N 3 (23 + 8 * r + t) - nI k)) 3 (17 + r) (N 3 (17 + r) + mPr N R t * nI k)
def mBn (N : bS) (T R r t far : Nat) : Nat → bS
  | 0 => N
  | k + 1 => bk (mPa (mSo (mBn N T R r t far k) R r t k) T R far)
def mVl (N : bS) (T R r t far k : Nat) : Int32 := mWo (mPa (mSo (mBn N T R r t far k) R r t k) T R far) T R r
def mBm (g : Nat → Int32) : Nat → Nat × Int32
  | 0 => (0, 0)
  | k + 1 => if nI k ≤ 0 then (k, g k) else if (mBm g k).2 < g k then (k, g k) else mBm g k
def dbn (g : Nat → Int32) : Nat → Nat → Nat
  | 0, k => k
  | n + 1, k => if 0 ≤ g k then dbn g n (k + 1) else k
theorem dbn_hit {g : Nat → Int32} {i : Nat} (hi : ¬ 0 ≤ g i) : ∀ n k : Nat, k ≤ i → i < k + n → (∀ j, k ≤ j → j < i → 0 ≤ g j) → dbn g n k = i
  | 0, k, h1, h2, _ => absurd h2 (by omega)
  | n + 1, k, h1, h2, h3 => by
    unfold dbn
    by_cases e : k = i
    · subst e
      exact if_neg hi
    · rw [if_pos (h3 k (Nat.le_refl k) (by omega))]
      exact dbn_hit hi n (k + 1) (by omega) (by omega) (fun j h4 h5 => h3 j (by omega) h5)
theorem dbn_miss {g : Nat → Int32} : ∀ n k : Nat, (∀ j, k ≤ j → j < k + n → 0 ≤ g j) → dbn g n k = k + n
  | 0, k, _ => rfl
  | n + 1, k, h => by
    unfold dbn
    rw [if_pos (h k (Nat.le_refl k) (by omega)), dbn_miss n (k + 1) (fun j h1 h2 => h j (by omega) (by omega))]
    omega
theorem mS1_row (N : bS) (p : Int32) (t : Nat) {k : Nat} (j : Nat) (h : k ≠ 3) : ∀ i : Nat, mS1 N p t i k j = N k j
  | 0 => rfl
  | i + 1 => by
    unfold mS1
    rw [up2_ne _ _ (Or.inl h), up2_ne _ _ (Or.inl h)]
    exact mS1_row N p t j h i
theorem mStr_row (N : bS) (R t : Nat) {k : Nat} (j : Nat) (h : k ≠ 3) : mStr N R t k j = N k j := by
  unfold mStr
  rw [up2_ne _ _ (Or.inl h), up2_ne _ _ (Or.inl h)]
  exact mS1_row N _ t j h R
theorem mGo_str {N : bS} {R t : Nat} (c : rmi (mGo N R t 3 0) (mGo N R t 1 t) = mGo N R t 2 t) : mGo N R (t + 1) = mStr (mGo N R t) R t := if_pos c
theorem mGo_keep {N : bS} {R t : Nat} (c : ¬ rmi (mGo N R t 3 0) (mGo N R t 1 t) = mGo N R t 2 t) : mGo N R (t + 1) = up2 (mGo N R t) 3 (1 + t) (mGo N R t 3 (1 + t) + 1) := if_neg c
theorem mGc_str {N : bS} {R t : Nat} (c : rmi (mGo N R t 3 0) (mGo N R t 1 t) = mGo N R t 2 t) : mGc N R (t + 1) = mGc N R t + 1 := if_pos c
theorem mGc_keep {N : bS} {R t : Nat} (c : ¬ rmi (mGo N R t 3 0) (mGo N R t 1 t) = mGo N R t 2 t) : mGc N R (t + 1) = mGc N R t := if_neg c
theorem mGo_row (N : bS) (R : Nat) {k : Nat} (j : Nat) (h : k ≠ 3) : ∀ t : Nat, mGo N R t k j = N k j
  | 0 => up2_ne _ _ (Or.inl h)
  | t + 1 => by
    by_cases c : rmi (mGo N R t 3 0) (mGo N R t 1 t) = mGo N R t 2 t
    · rw [mGo_str c, mStr_row _ R t j h]
      exact mGo_row N R j h t
    · rw [mGo_keep c, up2_ne _ _ (Or.inl h)]
      exact mGo_row N R j h t
theorem mPa_row (N : bS) (T R : Nat) {k : Nat} (j : Nat) (h : k ≠ 3) : ∀ i : Nat, mPa N T R i k j = N k j
  | 0 => rfl
  | i + 1 => (mGo_row _ R j h T).trans (mPa_row N T R j h i)
theorem MI_3 {N : bS} {T R j : Nat} {v : Int32} (h : MI N T R) : MI (up2 N 3 j v) T R := ⟨(up2_ne _ _ (Or.inl (by decide))).trans h.1, (up2_ne _ _ (Or.inl (by decide))).trans h.2.1, h.2.2⟩
theorem MI_5 {N : bS} {T R : Nat} {v : Int32} (h : MI N T R) : MI (up2 N 5 0 v) T R := ⟨(up2_ne _ _ (Or.inr (by decide))).trans h.1, (up2_ne _ _ (Or.inr (by decide))).trans h.2.1, h.2.2⟩
theorem MI_kp {N : bS} {T R : Nat} (h : MI N T R) : MI (kp N) T R := h
theorem MI_bk {N : bS} {T R : Nat} (h : MI N T R) : MI (bk N) T R := h
theorem MI_s1 {N : bS} {T R t i : Nat} {p : Int32} (h : MI N T R) : MI (mS1 N p t i) T R := ⟨(mS1_row _ _ _ _ (by decide) _).trans h.1, (mS1_row _ _ _ _ (by decide) _).trans h.2.1, h.2.2⟩
theorem MI_go {N : bS} {T R t : Nat} (h : MI N T R) : MI (mGo N R t) T R := ⟨(mGo_row _ _ _ (by decide) _).trans h.1, (mGo_row _ _ _ (by decide) _).trans h.2.1, h.2.2⟩
theorem MI_pa {N : bS} {T R i : Nat} (h : MI N T R) : MI (mPa N T R i) T R := ⟨(mPa_row _ _ _ _ (by decide) _).trans h.1, (mPa_row _ _ _ _ (by decide) _).trans h.2.1, h.2.2⟩
theorem MI_so {N : bS} {T R r t k : Nat} (h : MI N T R) : MI (mSo N R r t k) T R := MI_3 (MI_3 h)
theorem MI_bn {N : bS} {T R r t far : Nat} (h : MI N T R) : ∀ k : Nat, MI (mBn N T R r t far k) T R
  | 0 => h
  | k + 1 => MI_bk (MI_pa (MI_so (MI_bn h k)))
/-- the periods are no 0 -/
def mP (N : bS) (T : Nat) : Prop := ∀ t : Nat, t < T → ¬ N 1 t = 0
theorem mP_row {N N' : bS} {T : Nat} (h : mP N T) (e : ∀ t, N' 1 t = N 1 t) : mP N' T := fun t ht q => h t ht ((e t).symm.trans q)
theorem mP_3 {N : bS} {T j : Nat} {v : Int32} (h : mP N T) : mP (up2 N 3 j v) T := mP_row h (fun _ => up2_ne _ _ (Or.inl (by decide)))
theorem mP_5 {N : bS} {T j : Nat} {v : Int32} (h : mP N T) : mP (up2 N 5 j v) T := mP_row h (fun _ => up2_ne _ _ (Or.inl (by decide)))
theorem mP_kp {N : bS} {T : Nat} (h : mP N T) : mP (kp N) T := h
theorem mP_bk {N : bS} {T : Nat} (h : mP N T) : mP (bk N) T := h
theorem mP_go {N : bS} {T R t : Nat} (h : mP N T) : mP (mGo N R t) T := mP_row h (fun _ => mGo_row _ _ _ (by decide) _)
theorem mP_pa {N : bS} {T R i : Nat} (h : mP N T) : mP (mPa N T R i) T := mP_row h (fun _ => mPa_row _ _ _ _ (by decide) _)
theorem mP_so {N : bS} {T R r t k : Nat} (h : mP N T) : mP (mSo N R r t k) T := mP_3 (mP_3 h)
theorem mP_bn {N : bS} {T R r t far : Nat} (h : mP N T) : ∀ k : Nat, mP (mBn N T R r t far k) T
  | 0 => h
  | k + 1 => mP_bk (mP_pa (mP_so (mP_bn h k)))
theorem mU_5 {N : bS} {T j : Nat} {v : Int32} {u : Nat → Nat} (h : ∀ t, t < T → mU N t (u t)) : ∀ t, t < T → mU (up2 N 5 j v) t (u t) := h
