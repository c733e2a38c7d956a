/-! ===== pure: what holds between both ===== -/
def JT (S N : bS) (sec : Nat) (w p bt u q : Nat → Nat) (t : Nat) : Prop := (S 0 t = nI (w t) ∧ S 1 t = nI (p t) ∧ S 2 t = nI (q t) ∧ S 3 t = nI (u t) ∧ S 4 t = N (20 + t) 4) ∧ (N (20 + t) 0 = nI (w t) ∧ N (20 + t) 1 = nI (p t) ∧ N (20 + t) 2 = nI (bt t) ∧ N (20 + t) 3 = nI (q t)) ∧ (1 ≤ w t ∧ w t ≤ 9) ∧ (2 ≤ p t ∧ p t ≤ 20) ∧ bt t < p t ∧ (1 ≤ u t ∧ u t ≤ p t) ∧ q t + u t ≤ p t ∧ (sec + u t) % p t = bt t
def JH (S N : bS) (R : Nat) : Prop := ∀ r t, r < 6 → t < 8 → S (7 + r) t = N (7 + r) t ∧ (-9 ≤ (N (7 + r) t).toInt ∧ (N (7 + r) t).toInt ≤ 9) ∧ (R ≤ r → N (7 + r) t = 0)
def Jc (S N : bS) (T R sec : Nat) (w p bt u q : Nat → Nat) : Prop := BI S T R ∧ (∀ r, r < R → S 5 r = N 5 r) ∧ JH S N R ∧ (S 6 0 = nI sec ∧ N 6 0 = nI sec ∧ sec < 2 ^ 29) ∧ (∀ t, t < T → JT S N sec w p bt u q t) ∧ ∀ t, t < 8 → T ≤ t → S 2 t = 0 ∧ S 4 t = 0
section JCS
variable {S N : bS} {T R sec : Nat} {w p bt u q : Nat → Nat}
theorem Jc.T8 (h : Jc S N T R sec w p bt u q) : T ≤ 8 := h.1.2.2.1
theorem Jc.R6 (h : Jc S N T R sec w p bt u q) : R ≤ 6 := h.1.2.2.2
theorem Jc.hP (h : Jc S N T R sec w p bt u q) : ∀ t, t < T → ¬ N (20 + t) 1 = 0 := by
  intro t ht
  obtain ⟨-, ⟨-, e, -⟩, -, hp, -⟩ := h.2.2.2.2.1 t ht
  rw [e]
  exact nI_ne0 (by omega) (by omega)
theorem Jc.held (h : Jc S N T R sec w p bt u q) {r t : Nat} (hr : r < 6) (ht : t < 8) : S (7 + r) t = N (7 + r) t := (h.2.2.1 r t hr ht).1
theorem Jc.dv (h : Jc S N T R sec w p bt u q) {t : Nat} (ht : t < 8) : bDv S R t = sDv N t 6 := by
  have hR := h.R6
  unfold bDv sDv
  rw [sma_tail (R := R) 6 hR (fun i h1 h2 => by rw [(h.2.2.1 i t h2 ht).2.2 h1]; rfl)]
  exact sma_congr rfl R (fun r hr => by
    obtain ⟨e, hb, -⟩ := h.2.2.1 r t (by omega) ht
    rw [e, dvt hb.1 hb.2])
theorem Jc.prc (h : Jc S N T R sec w p bt u q) {t : Nat} (ht : t < T) : bPr S R t = sPr N t := by
  have hT := h.T8
  obtain ⟨⟨e0, -, e2, -, -⟩, ⟨f0, -, -, f3⟩, -⟩ := h.2.2.2.2.1 t ht
  have e : ∀ a z : Int32, a - 2 * z = a - z - z := by intro a z; grind
  unfold bPr pr sPr sPz
  rw [mx0, h.dv (by omega), e2, e0, f3, f0, e]
theorem Jc.un (h : Jc S N T R sec w p bt u q) {t : Nat} (ht : t < T) : sUn N t = nI (u t) := by
  obtain ⟨-, ⟨-, f1, f2, -⟩, -, hp, hb, hu, -, hm⟩ := h.2.2.2.2.1 t ht
  unfold sUn sUz
  rw [f1, f2, h.2.2.2.1.2.1]
  exact un_val hb hp.1 hp.2 h.2.2.2.1.2.2 hu hm
theorem Jc.s3 (h : Jc S N T R sec w p bt u q) {t : Nat} (ht : t < T) : S 3 t = sUn N t := by
  rw [h.un ht]
  exact (h.2.2.2.2.1 t ht).1.2.2.2.1
theorem Jc.op (h : Jc S N T R sec w p bt u q) {t : Nat} (ht : t < 8) : bOp S R t = sma 0 (fun r => N (7 + r) t) 6 := by
  have hR := h.R6
  unfold bOp
  rw [sma_tail (R := R) 6 hR (fun i h1 h2 => (h.2.2.1 i t h2 ht).2.2 h1)]
  exact sma_congr rfl R (fun r hr => h.held (by omega) ht)
theorem Jc.wt (h : Jc S N T R sec w p bt u q) {r t : Nat} (hr : r < R) (ht : t < T) : bWt S R r 0 t = N (7 + r) t * sPr N t := by
  have hT := h.T8
  have hR := h.R6
  obtain ⟨⟨-, -, -, e3, -⟩, -, -, hp, -, hu, -, -⟩ := h.2.2.2.2.1 t ht
  have c1 : nI 0 < S 3 t := by
    rw [e3]
    exact (nI_ltI (by omega) (by omega)).mpr (by omega)
  have c2 : ¬ 0 ≤ nI 0 - S 3 t := by
    rw [e3, sub_nn (by omega) (by omega)]
    omega
  unfold bWt bPb
  rw [if_pos c1, if_neg c2, h.held (by omega) (by omega), show S 2 t + nI 0 = S 2 t from Int32.add_zero _, ← h.prc ht, Int32.mul_comm]
  rfl
theorem Jc.wo (h : Jc S N T R sec w p bt u q) {r : Nat} (hr : r < R) : bWb S T R r 0 = sWo N T r := by
  unfold bWb sWo
  exact sma_congr (h.2.1 r hr) T (fun t ht => h.wt hr ht)
theorem Jc.sh (h : Jc S N T R sec w p bt u q) {r : Nat} (hr : r < R) : bSh S T r = sma 0 (fun t => if 0 ≤ N (7 + r) t then 0 else 1) T := by
  have hT := h.T8
  have hR := h.R6
  unfold bSh
  exact sma_congr rfl T (fun t ht => by rw [h.held (by omega) (by omega)])
theorem Jc.ow (h : Jc S N T R sec w p bt u q) : bOw S R = sma 0 (fun r => if 0 ≤ N 5 r then 0 else 1) R := by
  unfold bOw
  exact sma_congr rfl R (fun r hr => by rw [h.2.1 r hr])
theorem Jc.de (h : Jc S N T R sec w p bt u q) : bDe S T R = amx (sPr N) T := amx_congr T (fun t ht => h.prc ht)
theorem Jc.nx (h : Jc S N T R sec w p bt u q) : bNx S T = amn (sUn N) T := amn_congr T (fun t ht => h.s3 ht)
theorem Jc.rc (h : Jc S N T R sec w p bt u q) : bRc S T R = amx (sWo N T) R := amx_congr R (fun r hr => h.wo hr)
theorem Jc.HS (h : Jc S N T R sec w p bt u q) : HS S T p u q := by
  intro t ht
  obtain ⟨⟨-, e1, e2, e3, -⟩, -, -, hp, -, hu, hq, -⟩ := h.2.2.2.2.1 t ht
  exact ⟨e1, e2, e3, ⟨hu.1, by omega⟩, by omega⟩
theorem Jc.HN (h : Jc S N T R sec w p bt u q) : HN N T sec p bt u q := by
  refine ⟨h.2.2.2.1.2, fun t ht => ?_⟩
  obtain ⟨-, ⟨-, f1, f2, f3⟩, -, hp, hb, hu, -, hm⟩ := h.2.2.2.2.1 t ht
  exact ⟨f1, f2, f3, hp, hb, hu, hm⟩
theorem bGo_0 {S : bS} {R k j : Nat} (hk : k < 2) (i : Nat) : bGo S R i k j = S k j := bGo_row S R j hk i
theorem Jc.go (h : Jc S N T R sec w p bt u q) (hs : sec + 1 < 2 ^ 29) : Jc (bGo S R T) (nGo N (sPr N) R T) T R (sec + 1) w p bt (u1 p u) (q1 u q) ∧ bGc S R T = nGc N (sPr N) R T := by
  have hT := h.T8
  have hR := h.R6
  obtain ⟨⟨c1, c2, c3, c4, c5⟩, c6⟩ := cfS h.HS hT hR T (Nat.le_refl T)
  obtain ⟨⟨d1, d2, d5⟩, d6⟩ := cfN (P := sPr N) h.HN hT hR T (Nat.le_refl T)
  refine ⟨⟨BI_go h.1, fun r hr => ?_, fun r t hr ht => ?_, ⟨?_, ?_, hs⟩, fun t ht => ?_, fun t ht hTt => ?_⟩, c6.trans d6.symm⟩
  · rw [c5.2 r hr, d5.2 r hr]
    exact sma_congr (h.2.1 r hr) T (fun t ht => by rw [h.prc ht, h.held (by omega) (by omega)])
  · obtain ⟨e1, e2, e3⟩ := h.2.2.1 r t hr ht
    rw [c5.1 r t hr ht, d5.1 r t hr ht, e1]
    by_cases c : t < T ∧ r < R ∧ u t = 1
    · rw [if_pos c]
      exact ⟨rfl, by decide, fun _ => rfl⟩
    · rw [if_neg c]
      exact ⟨rfl, e2, e3⟩
  · rw [c1, h.2.2.2.1.1]
    exact nI_1 sec
  · rw [d1, h.2.2.2.1.2.1]
    exact nI_1 sec
  · obtain ⟨⟨e0, e1, e2, e3, e4⟩, ⟨f0, f1, f2, f3⟩, hw, hp, hb, hu, hq, hm⟩ := h.2.2.2.2.1 t ht
    obtain ⟨g3, g2⟩ := c2 t ht
    obtain ⟨k3, k4⟩ := d2 t ht
    rw [if_pos ht] at g3 g2 k3
    refine ⟨⟨(bGo_0 (by omega) T).trans e0, (bGo_0 (by omega) T).trans e1, g2, g3, ?_⟩, ⟨(nGo_1 (by omega) (by omega) (by omega) hR (by omega) T).trans f0, (nGo_1 (by omega) (by omega) (by omega) hR (by omega) T).trans f1, (nGo_1 (by omega) (by omega) (by omega) hR (by omega) T).trans f2, k3⟩, hw, hp, hb, ?_, ?_, ?_⟩
    · rw [c3 t (by omega), k4, e4]
    · unfold u1
      split <;> omega
    · unfold u1 q1
      split <;> omega
    · unfold u1
      split
      · rename_i e
        rw [e] at hm
        rw [Nat.add_mod_right]
        exact hm
      · rw [← hm]
        congr 1
        omega
  · rw [c4 t ht hTt, c3 t ht, if_neg (by omega)]
    exact h.2.2.2.2.2 t ht hTt
end JCS
def Je (S N : bS) (T R sec : Nat) : Prop := ∃ w p bt u q : Nat → Nat, Jc S N T R sec w p bt u q
theorem Je.pa {S N : bS} {T R sec : Nat} (h : Je S N T R sec) : ∀ k : Nat, sec + k < 2 ^ 29 → Je (bPa S T R k) (nPa N T R k) T R (sec + k) ∧ bPc S T R k = nPc N T R k
  | 0, _ => ⟨h, rfl⟩
  | k + 1, h1 => by
    obtain ⟨⟨w, p, bt, u, q, i1⟩, i2⟩ := Je.pa h k (by omega)
    obtain ⟨g1, g2⟩ := i1.go (by omega)
    refine ⟨⟨w, p, bt, u1 p u, q1 u q, g1⟩, ?_⟩
    show bPc S T R k + bGc (bPa S T R k) R T = nPc N T R k + nGc (nPa N T R k) (sPr (nPa N T R k)) R T
    rw [i2, g2]
/-- buying (x below 0) and selling -/
theorem Jc.sold {S N : bS} {T R sec : Nat} {w p bt u q : Nat → Nat} (h : Jc S N T R sec w p bt u q) {r t : Nat} {v v' : Int32} (hr : r < R) (ht : t < T) {d d' : Int32} (hv : S 5 r + d = v) (hv' : N 5 r + d = v') (hd : -9 ≤ d'.toInt ∧ d'.toInt ≤ 9) : Jc (up2 (up2 S 5 r v) (7 + r) t d') (up2 (up2 N 5 r v') (7 + r) t d') T R sec w p bt u q := by
  have hT := h.T8
  have hR := h.R6
  refine ⟨⟨?_, ?_, h.1.2.2⟩, fun r' hr' => ?_, fun r' t' hr' ht' => ?_, ⟨?_, ?_, h.2.2.2.1.2.2⟩, fun t' ht' => ?_, fun t' ht' hTt => ?_⟩
  · rw [up2_ne _ _ (Or.inl (by omega)), up2_ne _ _ (Or.inl (by omega))]
    exact h.1.1
  · rw [up2_ne _ _ (Or.inl (by omega)), up2_ne _ _ (Or.inl (by omega))]
    exact h.1.2.1
  · have e5 : ∀ (X : bS) (z z' : Int32), up2 (up2 X 5 r z) (7 + r) t z' 5 r' = up2 X 5 r z 5 r' := fun X z z' => up2_ne _ _ (Or.inl (by omega))
    rw [e5, e5]
    by_cases e : r' = r
    · rw [e, up2_eq, up2_eq, ← hv, ← hv', h.2.1 r hr]
    · rw [up2_ne _ _ (Or.inr e), up2_ne _ _ (Or.inr e)]
      exact h.2.1 r' hr'
  · by_cases e : r' = r ∧ t' = t
    · rw [e.1, e.2, up2_eq, up2_eq]
      exact ⟨rfl, hd, fun z => by omega⟩
    · rw [up2_ne _ _ (by omega), up2_ne _ _ (Or.inl (by omega)), up2_ne _ _ (by omega), up2_ne _ _ (Or.inl (by omega))]
      exact h.2.2.1 r' t' hr' ht'
  · rw [up2_ne _ _ (Or.inl (by omega)), up2_ne _ _ (Or.inl (by omega))]
    exact h.2.2.2.1.1
  · rw [up2_ne _ _ (Or.inl (by omega)), up2_ne _ _ (Or.inl (by omega))]
    exact h.2.2.2.1.2.1
  · have h1 : ∀ (X : bS) (z z' : Int32) (k j : Nat), (k < 5 ∨ 13 ≤ k) → up2 (up2 X 5 r z) (7 + r) t z' k j = X k j := fun X z z' k j hk => by rw [up2_ne _ _ (Or.inl (by omega)), up2_ne _ _ (Or.inl (by omega))]
    unfold JT
    rw [h1 _ _ _ 0 t' (by omega), h1 _ _ _ 1 t' (by omega), h1 _ _ _ 2 t' (by omega), h1 _ _ _ 3 t' (by omega), h1 _ _ _ 4 t' (by omega), h1 _ _ _ (20 + t') 0 (by omega), h1 _ _ _ (20 + t') 1 (by omega), h1 _ _ _ (20 + t') 2 (by omega), h1 _ _ _ (20 + t') 3 (by omega), h1 _ _ _ (20 + t') 4 (by omega)]
    exact h.2.2.2.2.1 t' ht'
  · rw [up2_ne _ _ (Or.inl (by omega)), up2_ne _ _ (Or.inl (by omega)), up2_ne _ _ (Or.inl (by omega)), up2_ne _ _ (Or.inl (by omega))]
    exact h.2.2.2.2.2 t' ht' hTt
theorem Jc.addT {S N : bS} {T R sec : Nat} {w p bt u q : Nat → Nat} (h : Jc S N T R sec w p bt u q) (hR : R < 6) : Jc (up2 (up2 S 5 R 100) 6 2 (nI (R + 1))) (nAd N R) T (R + 1) sec w p bt u q := by
  have hT := h.T8
  refine ⟨⟨?_, ?_, hT, hR⟩, fun r' hr' => ?_, fun r' t' hr' ht' => ?_, ⟨?_, ?_, h.2.2.2.1.2.2⟩, fun t' ht' => ?_, fun t' ht' hTt => ?_⟩
  · rw [up2_ne _ _ (Or.inr (by omega)), up2_ne _ _ (Or.inl (by omega))]
    exact h.1.1
  · rw [up2_eq]
  · show _ = upd (fpre (N 5) R) R 100 r'
    rw [up2_ne _ _ (Or.inl (by omega))]
    by_cases e : r' = R
    · rw [e, up2_eq, pk_us]
    · rw [up2_ne _ _ (Or.inr e), pk_un e, fpre_at (by omega)]
      exact h.2.1 r' (by omega)
  · obtain ⟨e1, e2, e3⟩ := h.2.2.1 r' t' hr' ht'
    rw [up2_ne _ _ (Or.inl (by omega)), up2_ne _ _ (Or.inl (by omega)), nAd_ne (by omega)]
    exact ⟨e1, e2, fun z => e3 (by omega)⟩
  · rw [up2_ne _ _ (Or.inr (by omega)), up2_ne _ _ (Or.inl (by omega))]
    exact h.2.2.2.1.1
  · rw [nAd_ne (by omega)]
    exact h.2.2.2.1.2.1
  · have h1 : ∀ (z z' : Int32) (k j : Nat), k < 5 → up2 (up2 S 5 R z) 6 2 z' k j = S k j := fun z z' k j hk => by rw [up2_ne _ _ (Or.inl (by omega)), up2_ne _ _ (Or.inl (by omega))]
    unfold JT
    rw [h1 _ _ 0 t' (by omega), h1 _ _ 1 t' (by omega), h1 _ _ 2 t' (by omega), h1 _ _ 3 t' (by omega), h1 _ _ 4 t' (by omega), nAd_ne (by omega)]
    exact h.2.2.2.2.1 t' ht'
  · rw [up2_ne _ _ (Or.inl (by omega)), up2_ne _ _ (Or.inl (by omega)), up2_ne _ _ (Or.inl (by omega)), up2_ne _ _ (Or.inl (by omega))]
    exact h.2.2.2.2.2 t' ht' hTt
/-- Sim with one row more -/
def nLi (N : bS) (T : Nat) (F : Nat → Int32) : bS := fun k => if k = 20 + T then F else N k
theorem nLi_at {N : bS} {T : Nat} {F : Nat → Int32} : nLi N T F (20 + T) = F := if_pos rfl
theorem nLi_ne {N : bS} {T : Nat} {F : Nat → Int32} {k : Nat} (h : k ≠ 20 + T) : nLi N T F k = N k := if_neg h
theorem Jc.list {S N : bS} {T R sec : Nat} {w p bt u q : Nat → Nat} (h : Jc S N T R sec w p bt u q) (hT : T < 8) {w0 p0 b0 z : Nat} {v : Int32} {F : Nat → Int32} (hw : 1 ≤ w0 ∧ w0 ≤ 9) (hp : 2 ≤ p0 ∧ p0 ≤ 20) (hb : b0 < p0) (hv : v = nI z) (hz : 1 ≤ z ∧ z ≤ p0) (hm : (sec + z) % p0 = b0) (f0 : F 0 = nI w0) (f1 : F 1 = nI p0) (f2 : F 2 = nI b0) (f3 : F 3 = 0) (f4 : F 4 = 0) : Jc (up2 (up2 (up2 (up2 S 0 T (nI w0)) 1 T (nI p0)) 3 T v) 6 1 (nI (T + 1))) (nLi N T F) (T + 1) R sec (nf w T w0) (nf p T p0) (nf bt T b0) (nf u T z) (nf q T 0) := by
  have hR := h.R6
  subst hv
  refine ⟨⟨?_, ?_, hT, hR⟩, fun r' hr' => ?_, fun r' t' hr' ht' => ?_, ⟨?_, ?_, h.2.2.2.1.2.2⟩, fun t ht => ?_, fun t' ht' hTt => ?_⟩
  · rw [up2_eq]
  · rw [up2_ne _ _ (Or.inr (by omega)), up2_ne _ _ (Or.inl (by omega)), up2_ne _ _ (Or.inl (by omega)), up2_ne _ _ (Or.inl (by omega))]
    exact h.1.2.1
  · rw [up2_ne _ _ (Or.inl (by omega)), up2_ne _ _ (Or.inl (by omega)), up2_ne _ _ (Or.inl (by omega)), up2_ne _ _ (Or.inl (by omega)), nLi_ne (by omega)]
    exact h.2.1 r' hr'
  · rw [up2_ne _ _ (Or.inl (by omega)), up2_ne _ _ (Or.inl (by omega)), up2_ne _ _ (Or.inl (by omega)), up2_ne _ _ (Or.inl (by omega)), nLi_ne (by omega)]
    exact h.2.2.1 r' t' hr' ht'
  · rw [up2_ne _ _ (Or.inr (by omega)), up2_ne _ _ (Or.inl (by omega)), up2_ne _ _ (Or.inl (by omega)), up2_ne _ _ (Or.inl (by omega))]
    exact h.2.2.2.1.1
  · rw [nLi_ne (by omega)]
    exact h.2.2.2.1.2.1
  · unfold JT nf
    by_cases e : t = T
    · subst e
      rw [if_pos rfl, if_pos rfl, if_pos rfl, if_pos rfl, if_pos rfl, nLi_at]
      obtain ⟨z2, z4⟩ := h.2.2.2.2.2 t hT (Nat.le_refl t)
      refine ⟨⟨?_, ?_, ?_, ?_, ?_⟩, ⟨f0, f1, f2, f3⟩, hw, hp, hb, hz, by omega, hm⟩
      · rw [up2_ne _ _ (Or.inl (by omega)), up2_ne _ _ (Or.inl (by omega)), up2_ne _ _ (Or.inl (by omega)), up2_eq]
      · rw [up2_ne _ _ (Or.inl (by omega)), up2_ne _ _ (Or.inl (by omega)), up2_eq]
      · rw [up2_ne _ _ (Or.inl (by omega)), up2_ne _ _ (Or.inl (by omega)), up2_ne _ _ (Or.inl (by omega)), up2_ne _ _ (Or.inl (by omega)), z2]
        rfl
      · rw [up2_ne _ _ (Or.inl (by omega)), up2_eq]
      · rw [up2_ne _ _ (Or.inl (by omega)), up2_ne _ _ (Or.inl (by omega)), up2_ne _ _ (Or.inl (by omega)), up2_ne _ _ (Or.inl (by omega)), z4, f4]
    · rw [if_neg e, if_neg e, if_neg e, if_neg e, if_neg e, nLi_ne (by omega)]
      obtain ⟨⟨e0, e1, e2, e3, e4⟩, k2⟩ := h.2.2.2.2.1 t (by omega)
      refine ⟨⟨?_, ?_, ?_, ?_, ?_⟩, k2⟩
      · rw [up2_ne _ _ (Or.inl (by omega)), up2_ne _ _ (Or.inl (by omega)), up2_ne _ _ (Or.inl (by omega)), up2_ne _ _ (Or.inr e), e0]
      · rw [up2_ne _ _ (Or.inl (by omega)), up2_ne _ _ (Or.inl (by omega)), up2_ne _ _ (Or.inr e), up2_ne _ _ (Or.inl (by omega)), e1]
      · rw [up2_ne _ _ (Or.inl (by omega)), up2_ne _ _ (Or.inl (by omega)), up2_ne _ _ (Or.inl (by omega)), up2_ne _ _ (Or.inl (by omega)), e2]
      · rw [up2_ne _ _ (Or.inl (by omega)), up2_ne _ _ (Or.inr e), up2_ne _ _ (Or.inl (by omega)), up2_ne _ _ (Or.inl (by omega)), e3]
      · rw [up2_ne _ _ (Or.inl (by omega)), up2_ne _ _ (Or.inl (by omega)), up2_ne _ _ (Or.inl (by omega)), up2_ne _ _ (Or.inl (by omega)), e4]
  · rw [up2_ne _ _ (Or.inl (by omega)), up2_ne _ _ (Or.inl (by omega)), up2_ne _ _ (Or.inl (by omega)), up2_ne _ _ (Or.inl (by omega)), up2_ne _ _ (Or.inl (by omega)), up2_ne _ _ (Or.inl (by omega)), up2_ne _ _ (Or.inl (by omega)), up2_ne _ _ (Or.inl (by omega))]
    exact h.2.2.2.2.2 t' ht' (by omega)
