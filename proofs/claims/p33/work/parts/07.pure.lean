/-! ===== pure words: what the methods answer ===== -/
def sma (a0 : Int32) (f : Nat → Int32) : Nat → Int32
  | 0 => a0
  | n + 1 => sma a0 f n + f n
def amx (f : Nat → Int32) : Nat → Option Nat
  | 0 => none
  | n + 1 => match amx f n with
    | none => some n
    | some b => if f n ≤ f b then some b else some n
def amn (f : Nat → Int32) : Nat → Option Nat
  | 0 => none
  | n + 1 => match amn f n with
    | none => some n
    | some b => if f b ≤ f n then some b else some n
def ab (f : Nat → Int32) : Nat → Option Nat
  | 0 => none
  | n + 1 => if f n ≤ 0 then ab f n else match ab f n with
    | none => some n
    | some b => if f n ≤ f b then some b else some n
def oI : Option Nat → Int32
  | none => -1
  | some k => nI k
def bsl (y : Nat → Int32) : Nat → Nat
  | 0 => 0
  | n + 1 => if y (n + 1) ≤ y (bsl y n) then bsl y n else n + 1
def dbl (g : Nat → Int32) : Nat → Nat → Int32
  | 0, _ => -1
  | n + 1, k => if 0 ≤ g k then dbl g n (k + 1) else nI k
def lfo (f : Int64 → Nat → Int64) (d : Int64) : Nat → Int64
  | 0 => d
  | n + 1 => f (lfo f d n) n
def rmi (x y : Int32) : Int32 := x - x / y * y
theorem amx_lt {f : Nat → Int32} {b : Nat} : ∀ n : Nat, amx f n = some b → b < n
  | 0, h => by cases h
  | n + 1, h => by
    unfold amx at h
    cases e : amx f n with
    | none => rw [e] at h; cases h; exact Nat.lt_succ_self _
    | some q =>
      rw [e] at h
      have := amx_lt (f := f) (b := q) n e
      dsimp only at h
      split at h <;> cases h <;> omega
theorem amn_lt {f : Nat → Int32} {b : Nat} : ∀ n : Nat, amn f n = some b → b < n
  | 0, h => by cases h
  | n + 1, h => by
    unfold amn at h
    cases e : amn f n with
    | none => rw [e] at h; cases h; exact Nat.lt_succ_self _
    | some q =>
      rw [e] at h
      have := amn_lt (f := f) (b := q) n e
      dsimp only at h
      split at h <;> cases h <;> omega
theorem ab_lt {f : Nat → Int32} {b : Nat} : ∀ n : Nat, ab f n = some b → b < n
  | 0, h => by cases h
  | n + 1, h => by
    unfold ab at h
    split at h
    · have := ab_lt (f := f) (b := b) n h
      omega
    · cases e : ab f n with
      | none => rw [e] at h; cases h; exact Nat.lt_succ_self _
      | some q =>
        rw [e] at h
        have := ab_lt (f := f) (b := q) n e
        dsimp only at h
        split at h <;> cases h <;> omega
theorem bsl_le (y : Nat → Int32) : ∀ n : Nat, bsl y n ≤ n
  | 0 => Nat.le_refl 0
  | n + 1 => by
    have := bsl_le y n
    unfold bsl
    split <;> omega
theorem loopU {P : Nat → Prop} (n : Nat) (hend : P n) (hstep : ∀ i : Nat, i < n → P (i + 1) → P i) (i : Nat) (hi : i ≤ n) : P i := by
  have key : ∀ d i : Nat, i + d = n → P i := by
    intro d
    induction d with
    | zero => intro i h; rw [show i = n by omega]; exact hend
    | succ d ih => intro i h; exact hstep i (by omega) (ih (i + 1) (by omega))
  exact key (n - i) i (by omega)
theorem amx_none {f : Nat → Int32} {i : Nat} (h : amx f i = none) : amx f (i + 1) = some i := by unfold amx; rw [h]
theorem amx_keep {f : Nat → Int32} {i b : Nat} (h : amx f i = some b) (c : f i ≤ f b) : amx f (i + 1) = some b := by unfold amx; rw [h]; exact if_pos c
theorem amx_new {f : Nat → Int32} {i b : Nat} (h : amx f i = some b) (c : ¬ f i ≤ f b) : amx f (i + 1) = some i := by unfold amx; rw [h]; exact if_neg c
theorem amn_none {f : Nat → Int32} {i : Nat} (h : amn f i = none) : amn f (i + 1) = some i := by unfold amn; rw [h]
theorem amn_keep {f : Nat → Int32} {i b : Nat} (h : amn f i = some b) (c : f b ≤ f i) : amn f (i + 1) = some b := by unfold amn; rw [h]; exact if_pos c
theorem amn_new {f : Nat → Int32} {i b : Nat} (h : amn f i = some b) (c : ¬ f b ≤ f i) : amn f (i + 1) = some i := by unfold amn; rw [h]; exact if_neg c
theorem ab_skip {f : Nat → Int32} {i : Nat} (c : f i ≤ 0) : ab f (i + 1) = ab f i := by
  have e : ab f (i + 1) = if f i ≤ 0 then ab f i else match ab f i with | none => some i | some b => if f i ≤ f b then some b else some i := rfl
  rw [e, if_pos c]
theorem ab_none {f : Nat → Int32} {i : Nat} (c : ¬ f i ≤ 0) (h : ab f i = none) : ab f (i + 1) = some i := by
  have e : ab f (i + 1) = if f i ≤ 0 then ab f i else match ab f i with | none => some i | some b => if f i ≤ f b then some b else some i := rfl
  rw [e, if_neg c, h]
theorem ab_keep {f : Nat → Int32} {i b : Nat} (c : ¬ f i ≤ 0) (h : ab f i = some b) (c2 : f i ≤ f b) : ab f (i + 1) = some b := by
  have e : ab f (i + 1) = if f i ≤ 0 then ab f i else match ab f i with | none => some i | some b => if f i ≤ f b then some b else some i := rfl
  rw [e, if_neg c, h]
  exact if_pos c2
theorem ab_new {f : Nat → Int32} {i b : Nat} (c : ¬ f i ≤ 0) (h : ab f i = some b) (c2 : ¬ f i ≤ f b) : ab f (i + 1) = some i := by
  have e : ab f (i + 1) = if f i ≤ 0 then ab f i else match ab f i with | none => some i | some b => if f i ≤ f b then some b else some i := rfl
  rw [e, if_neg c, h]
  exact if_neg c2
theorem dbl_hit {g : Nat → Int32} {i : Nat} (hi : ¬ 0 ≤ g i) : ∀ n k : Nat, k ≤ i → i < k + n → (∀ j, k ≤ j → j < i → 0 ≤ g j) → dbl g n k = nI i
  | 0, k, h1, h2, _ => absurd h2 (by omega)
  | n + 1, k, h1, h2, h3 => by
    unfold dbl
    by_cases e : k = i
    · subst e
      exact if_neg hi
    · rw [if_pos (h3 k (Nat.le_refl k) (by omega))]
      exact dbl_hit hi n (k + 1) (by omega) (by omega) (fun j h4 h5 => h3 j (by omega) h5)
theorem dbl_miss {g : Nat → Int32} : ∀ n k : Nat, (∀ j, k ≤ j → j < k + n → 0 ≤ g j) → dbl g n k = -1
  | 0, k, _ => rfl
  | n + 1, k, h => by
    unfold dbl
    rw [if_pos (h k (Nat.le_refl k) (by omega))]
    exact dbl_miss n (k + 1) (fun j h1 h2 => h j (by omega) (by omega))
theorem nI_m1 {n : Nat} (h : n < 2 ^ 31) : ¬ nI n = -1 := by
  intro e
  have h1 := nI_toInt h
  rw [e] at h1
  have h2 : (-1 : Int32).toInt = -1 := by decide
  omega
/-- BellHush: how many towers and traders -/
def BI (S : bS) (T R : Nat) : Prop := S 6 1 = nI T ∧ S 6 2 = nI R ∧ T ≤ 8 ∧ R ≤ 6
def pr (x y z : Int32) : Int32 := mx 0 (x * y - 2 * z)
def bDv (S : bS) (R t : Nat) : Int32 := sma 0 (fun r => mx 0 (-(S (7 + r) t))) R
def bPr (S : bS) (R t : Nat) : Int32 := pr (S 2 t) (S 0 t) (bDv S R t)
def bCw (S : bS) (t : Nat) (dv : Int32) : Int32 := pr (S 2 t + S 3 t - 1) (S 0 t) dv
def bCl (S : bS) (R t : Nat) : Int32 := bCw S t (bDv S R t)
def bRi (S : bS) (R t : Nat) : Int32 := bCl S R t - bPr S R t
def bPb (S : bS) (R t k : Nat) : Int32 := if 0 ≤ nI k - S 3 t then pr (if 2 ≤ S 1 t then rmi (nI k - S 3 t) (S 1 t) else 0) (S 0 t) 0 else pr (S 2 t + nI k) (S 0 t) (bDv S R t)
def bOp (S : bS) (R t : Nat) : Int32 := sma 0 (fun r => S (7 + r) t) R
def bSh (S : bS) (T r : Nat) : Int32 := sma 0 (fun t => if 0 ≤ S (7 + r) t then 0 else 1) T
def bWt (S : bS) (R r k t : Nat) : Int32 := (if nI k < S 3 t then bPb S R t k else bCl S R t) * S (7 + r) t
def bWb (S : bS) (T R r k : Nat) : Int32 := sma (S 5 r) (bWt S R r k) T
def bCt (S : bS) (R r k t : Nat) : Int32 := if S 3 t = nI k then bCl S R t * S (7 + r) t else 0
def bCi (S : bS) (T R r k : Nat) : Int32 := sma 0 (bCt S R r k) T
def bYi (S : bS) (R r t k : Nat) : Int32 := nI k * bPr S R t + (S (7 + r) t - nI k) * bCw S t (bDv S R t - mx 0 (-(S (7 + r) t)) + mx 0 (-(S (7 + r) t - nI k)))
def bDe (S : bS) (T R : Nat) : Option Nat := amx (bPr S R) T
def bNx (S : bS) (T : Nat) : Option Nat := amn (S 3) T
def bRc (S : bS) (T R : Nat) : Option Nat := amx (fun r => bWb S T R r 0) R
def bOw (S : bS) (R : Nat) : Int32 := sma 0 (fun r => if 0 ≤ S 5 r then 0 else 1) R
def bBu (S : bS) (T R : Nat) : Option Nat := ab (bRi S R) T
def bDb (S : bS) (T R r : Nat) : Int32 := dbl (fun k => sma (S 5 r) (bCi S T R r) (k + 1)) 101 0
def mi (d : Int64) (x : Int32) : Int64 := d * 31 + x.toInt64
def bMt (S : bS) (R : Nat) (d : Int64) (t : Nat) : Int64 := mi (mi (mi (mi (mi (mi (mi d (S 2 t)) (bDv S R t)) (bPr S R t)) (S 3 t)) (S 4 t)) (bOp S R t)) (bCl S R t)
def bMr (S : bS) (T R : Nat) (d : Int64) (r : Nat) : Int64 := lfo (fun d t => mi d (S (7 + r) t)) (mi (mi (mi d (S 5 r)) (bWb S T R r 0)) (bSh S T r)) T
def bDg (S : bS) (T R : Nat) : Int64 := lfo (bMr S T R) (lfo (bMt S R) (mi (mi (mi (mi (mi (mi (mi (mi 2081 (S 6 0)) (nI T)) (nI R)) (oI (bDe S T R))) (oI (bNx S T))) (oI (bRc S T R))) (bOw S R)) (oI (bBu S T R))) T) R
/-! BellHush's changes -/
def flm (x y : Int32) : Int32 := if 0 ≤ x ^^^ y then rmi x y else if rmi x y = 0 then rmi x y else rmi x y + y
def bSt1 (S : bS) (p : Int32) (t : Nat) : Nat → bS
  | 0 => S
  | i + 1 => up2 (up2 (bSt1 S p t i) 5 i (bSt1 S p t i 5 i + p * bSt1 S p t i (7 + i) t)) (7 + i) t 0
def bStr (S : bS) (R t : Nat) : bS := up2 (up2 (up2 (bSt1 S (bPr S R t) t R) 2 t 0) 4 t (bSt1 S (bPr S R t) t R 4 t + 1)) 3 t (bSt1 S (bPr S R t) t R 1 t)
def bGo (S : bS) (R : Nat) : Nat → bS
  | 0 => up2 S 6 0 (S 6 0 + 1)
  | t + 1 => if 1 < bGo S R t 3 t then up2 (up2 (bGo S R t) 3 t (bGo S R t 3 t - 1)) 2 t (bGo S R t 2 t + 1) else bStr (bGo S R t) R t
def bGc (S : bS) (R : Nat) : Nat → Int32
  | 0 => 0
  | t + 1 => if 1 < bGo S R t 3 t then bGc S R t else bGc S R t + 1
def bPa (S : bS) (T R : Nat) : Nat → bS
  | 0 => S
  | i + 1 => bGo (bPa S T R i) R T
def bPc (S : bS) (T R : Nat) : Nat → Int32
  | 0 => 0
  | i + 1 => bPc S T R i + bGc (bPa S T R i) R T
theorem bSt1_row (S : bS) (p : Int32) (t : Nat) {k : Nat} (j : Nat) (h5 : k ≠ 5) (h7 : k < 7) : ∀ i : Nat, bSt1 S p t i k j = S k j
  | 0 => rfl
  | i + 1 => by
    unfold bSt1
    rw [up2_ne _ _ (Or.inl (by omega)), up2_ne _ _ (Or.inl (by omega))]
    exact bSt1_row S p t j h5 h7 i
theorem bStr_6 (S : bS) (R t j : Nat) : bStr S R t 6 j = S 6 j := by
  unfold bStr
  rw [up2_ne _ _ (Or.inl (by omega)), up2_ne _ _ (Or.inl (by omega)), up2_ne _ _ (Or.inl (by omega))]
  exact bSt1_row S _ t j (by decide) (by decide) R
theorem bGo_keep {S : bS} {R t : Nat} (c : 1 < bGo S R t 3 t) : bGo S R (t + 1) = up2 (up2 (bGo S R t) 3 t (bGo S R t 3 t - 1)) 2 t (bGo S R t 2 t + 1) := if_pos c
theorem bGo_str {S : bS} {R t : Nat} (c : ¬ 1 < bGo S R t 3 t) : bGo S R (t + 1) = bStr (bGo S R t) R t := if_neg c
theorem bGc_keep {S : bS} {R t : Nat} (c : 1 < bGo S R t 3 t) : bGc S R (t + 1) = bGc S R t := if_pos c
theorem bGc_str {S : bS} {R t : Nat} (c : ¬ 1 < bGo S R t 3 t) : bGc S R (t + 1) = bGc S R t + 1 := if_neg c
theorem bGo_6 {S : bS} {R j : Nat} (hj : j ≠ 0) : ∀ t : Nat, bGo S R t 6 j = S 6 j
  | 0 => up2_ne _ _ (Or.inr hj)
  | t + 1 => by
    by_cases c : 1 < bGo S R t 3 t
    · rw [bGo_keep c, up2_ne _ _ (Or.inl (by omega)), up2_ne _ _ (Or.inl (by omega))]
      exact bGo_6 hj t
    · rw [bGo_str c, bStr_6]
      exact bGo_6 hj t
theorem BI_go {S : bS} {T R t : Nat} (h : BI S T R) : BI (bGo S R t) T R := ⟨(bGo_6 (by decide) t).trans h.1, (bGo_6 (by decide) t).trans h.2.1, h.2.2⟩
theorem BI_pa {S : bS} {T R : Nat} (h : BI S T R) : ∀ i : Nat, BI (bPa S T R i) T R
  | 0 => h
  | i + 1 => BI_go (BI_pa h i)
