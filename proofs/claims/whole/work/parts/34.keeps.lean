/-! ===== pure: what both hold stays the same ===== -/
theorem MC.mono {N : bS} {T R sec B B' : Nat} {w p bt u q : Nat → Nat} (h : MC N T R sec B w p bt u q) (hB : B ≤ B') : MC N T R sec B' w p bt u q := ⟨h.1, h.2.1, h.2.2.1, h.2.2.2.1, fun r hr => by have := h.2.2.2.2 r hr; omega⟩
theorem Jc.mono {S N : bS} {T R sec B B' : Nat} {w p bt u q : Nat → Nat} (h : Jc S N T R sec B w p bt u q) (hB : B ≤ B') : Jc S N T R sec B' w p bt u q := ⟨h.1, h.2.1, h.2.2.1, h.2.2.2.mono hB⟩
theorem Jc.go {S N : bS} {T R sec B : Nat} {w p bt u q : Nat → Nat} (h : Jc S N T R sec B w p bt u q) (hs : sec + 1 < 2 ^ 30) (hB : B + 12960 < 2147483647) : Jc (bGo S R T) (mGo N R T) T R (sec + 1) (B + 12960) w p bt (u1 p u) (q1 u q) ∧ bGc S R T = mGc N R T := by
  obtain ⟨hI, hrel, hST, hM⟩ := h
  have hT := hI.2.2
  obtain ⟨g1, g2, g3⟩ := goB hrel hM.2.1 hST hT.1 hT.2 T (Nat.le_refl T)
  refine ⟨⟨BI_go hI, g1, fun t ht => ⟨?_, ?_, ?_⟩, hM.go hs hB⟩, g3⟩
  · rw [bGo_row S R t (by decide) T]
    exact (hST t ht).1
  · rw [bGo_row S R t (by decide) T]
    exact (hST t ht).2.1
  · rw [g2 t ht, if_pos ht]
theorem Jc.pa {S N : bS} {T R sec B : Nat} {w p bt u q : Nat → Nat} (h : Jc S N T R sec B w p bt u q) : ∀ k : Nat, sec + k < 2 ^ 30 → B + 12960 * k < 2147483647 → Jc (bPa S T R k) (mPa N T R k) T R (sec + k) (B + 12960 * k) w p bt (uk p u k) (qk p u q k) ∧ bPc S T R k = mPc N T R k
  | 0, _, _ => ⟨h, rfl⟩
  | k + 1, h1, h2 => by
    have h5 : sec + k + 1 < 2 ^ 30 := by omega
    have e4 : B + 12960 * (k + 1) = B + 12960 * k + 12960 := by rw [Nat.mul_succ, Nat.add_assoc]
    have h4 : B + 12960 * k + 12960 < 2147483647 := e4 ▸ h2
    obtain ⟨i1, i2⟩ := Jc.pa h k (by omega) (by omega)
    obtain ⟨g1, g2⟩ := i1.go h5 h4
    rw [show sec + (k + 1) = sec + k + 1 from rfl, e4]
    refine ⟨g1, ?_⟩
    show bPc S T R k + bGc (bPa S T R k) R T = mPc N T R k + mGc (mPa N T R k) R T
    rw [i2, g2]
/-- the reference's rows that count are the same -/
def RE (N N' : bS) : Prop := (∀ j, N' 0 j = N 0 j) ∧ (∀ j, N' 1 j = N 1 j) ∧ (∀ j, N' 2 j = N 2 j) ∧ (∀ j, j < 71 → N' 3 j = N 3 j) ∧ N' 5 1 = N 5 1 ∧ N' 5 2 = N 5 2
theorem MC.re {N N' : bS} {T R sec B : Nat} {w p bt u q : Nat → Nat} (h : MC N T R sec B w p bt u q) (e : RE N N') : MC N' T R sec B w p bt u q := by
  obtain ⟨hI, ⟨f1, f2, f3⟩, hH, hZ, hP⟩ := h
  obtain ⟨e0, e1, e2, e3, e5, e6⟩ := e
  have hT := hI.2.2
  refine ⟨⟨e5.trans hI.1, e6.trans hI.2.1, hT⟩, ⟨(e3 0 (by omega)).trans f1, f2, fun t ht => ?_⟩, fun r t hr ht => ?_, fun t ht hTt => ?_, fun r hr => ?_⟩
  · rw [e0, e1, e2, e3 (1 + t) (by omega)]
    exact f3 t ht
  · rw [e3 (23 + 8 * r + t) (by omega)]
    exact hH r t hr ht
  · rw [e3 (1 + t) (by omega), e3 (9 + t) (by omega)]
    exact hZ t ht hTt
  · rw [e3 (17 + r) (by omega)]
    exact hP r hr
theorem Rel.re {S N N' : bS} (h : Rel S N) (e : RE N N') : Rel S N' := by
  obtain ⟨h1, h2, h3, h4, h5⟩ := h
  obtain ⟨-, -, -, e3, -⟩ := e
  exact ⟨fun r hr => by rw [e3 _ (by omega), h1 r hr], fun r t hr ht => by rw [e3 _ (by omega), h2 r t hr ht], fun t ht => by rw [e3 _ (by omega), h3 t ht], fun t ht => by rw [e3 _ (by omega), h4 t ht], by rw [e3 _ (by omega), h5]⟩
theorem Jc.re {S N N' : bS} {T R sec B : Nat} {w p bt u q : Nat → Nat} (h : Jc S N T R sec B w p bt u q) (e : RE N N') : Jc S N' T R sec B w p bt u q := ⟨h.1, h.2.1.re e, h.2.2.1, h.2.2.2.re e⟩
theorem RE.rf (N : bS) : RE N N := ⟨fun _ => rfl, fun _ => rfl, fun _ => rfl, fun _ _ => rfl, rfl, rfl⟩
theorem RE.five (N : bS) (v : Int32) : RE N (up2 N 5 0 v) := ⟨fun _ => rfl, fun _ => rfl, fun _ => rfl, fun _ _ => rfl, rfl, rfl⟩
theorem RE.five2 (N : bS) (v v' : Int32) : RE N (up2 (up2 N 5 0 v) 5 0 v') := ⟨fun _ => rfl, fun _ => rfl, fun _ => rfl, fun _ _ => rfl, rfl, rfl⟩
/-- .. and what was kept aside is what is now -/
def RK (N X : bS) : Prop := RE N X ∧ ∀ j, j < 71 → X 4 j = N 3 j
theorem cpy_at (f g : Nat → Int32) {j : Nat} (h : j < 71) : va_cpy f g 0 0 71 j = f j := by
  rw [pk_cpy_in (by omega) (by omega)]
  congr 1
  omega
theorem RK_kp (N : bS) : RK N (kp (up2 N 5 0 0)) := ⟨⟨fun _ => rfl, fun _ => rfl, fun _ => rfl, fun _ _ => rfl, rfl, rfl⟩, fun j hj => cpy_at (N 3) _ hj⟩
theorem RK_bk {N X Y : bS} (h : RK N X) (e : ∀ k j, k ≠ 3 → Y k j = X k j) : RK N (bk Y) := by
  obtain ⟨⟨e0, e1, e2, e3, e5, e6⟩, e4⟩ := h
  refine ⟨⟨fun j => (e 0 j (by decide)).trans (e0 j), fun j => (e 1 j (by decide)).trans (e1 j), fun j => (e 2 j (by decide)).trans (e2 j), fun j hj => ?_, (e 5 1 (by decide)).trans e5, (e 5 2 (by decide)).trans e6⟩, fun j hj => (e 4 j (by decide)).trans (e4 j hj)⟩
  show va_cpy (Y 4) (Y 3) 0 0 71 j = N 3 j
  rw [cpy_at _ _ hj, e 4 j (by decide), e4 j hj]
theorem mSo_row {N : bS} {R r t k : Nat} (k' j : Nat) (h : k' ≠ 3) : mSo N R r t k k' j = N k' j := by
  unfold mSo
  rw [up2_ne _ _ (Or.inl h), up2_ne _ _ (Or.inl h)]
theorem RK_bn {N : bS} {T R r t far : Nat} : ∀ k : Nat, RK N (mBn (kp (up2 N 5 0 0)) T R r t far k)
  | 0 => RK_kp N
  | k + 1 => RK_bk (RK_bn k) (fun k' j hk => (mPa_row _ T R j hk far).trans (mSo_row k' j hk))
/-! single changes -/
theorem MC.held {N : bS} {T R sec B : Nat} {w p bt u q : Nat → Nat} (h : MC N T R sec B w p bt u q) {r t : Nat} (hr : r < R) (ht : t < T) {v : Int32} (hv : -9 ≤ v.toInt ∧ v.toInt ≤ 9) : MC (up2 N 3 (23 + 8 * r + t) v) T R sec B w p bt u q := by
  obtain ⟨hI, ⟨f1, f2, f3⟩, hH, hZ, hP⟩ := h
  have hT := hI.2.2
  refine ⟨MI_3 hI, ⟨(up2_ne _ _ (Or.inr (by omega))).trans f1, f2, fun t' ht' => ?_⟩, fun r' t' hr' ht' => ?_, fun t' ht' hTt => ?_, fun r' hr' => ?_⟩
  · rw [up2_ne _ _ (Or.inl (by decide)), up2_ne _ _ (Or.inl (by decide)), up2_ne _ _ (Or.inl (by decide)), up2_ne _ _ (Or.inr (by omega))]
    exact f3 t' ht'
  · by_cases e : r' = r ∧ t' = t
    · rw [e.1, e.2, up2_eq]
      exact ⟨hv, fun z => by omega⟩
    · rw [up2_ne _ _ (Or.inr (by omega))]
      exact hH r' t' hr' ht'
  · rw [up2_ne _ _ (Or.inr (by omega)), up2_ne _ _ (Or.inr (by omega))]
    exact hZ t' ht' hTt
  · rw [up2_ne _ _ (Or.inr (by omega))]
    exact hP r' hr'
theorem MC.pur {N : bS} {T R sec B B' : Nat} {w p bt u q : Nat → Nat} (h : MC N T R sec B w p bt u q) {r : Nat} (hr : r < R) {v : Int32} (hv : -(B' : Int) ≤ v.toInt ∧ v.toInt ≤ B') (hB : B ≤ B') : MC (up2 N 3 (17 + r) v) T R sec B' w p bt u q := by
  obtain ⟨hI, ⟨f1, f2, f3⟩, hH, hZ, hP⟩ := h.mono hB
  have hT := hI.2.2
  refine ⟨MI_3 hI, ⟨(up2_ne _ _ (Or.inr (by omega))).trans f1, f2, fun t' ht' => ?_⟩, fun r' t' hr' ht' => ?_, fun t' ht' hTt => ?_, fun r' hr' => ?_⟩
  · rw [up2_ne _ _ (Or.inl (by decide)), up2_ne _ _ (Or.inl (by decide)), up2_ne _ _ (Or.inl (by decide)), up2_ne _ _ (Or.inr (by omega))]
    exact f3 t' ht'
  · rw [up2_ne _ _ (Or.inr (by omega))]
    exact hH r' t' hr' ht'
  · rw [up2_ne _ _ (Or.inr (by omega)), up2_ne _ _ (Or.inr (by omega))]
    exact hZ t' ht' hTt
  · by_cases e : r' = r
    · rw [e, up2_eq]
      exact hv
    · rw [up2_ne _ _ (Or.inr (by omega))]
      exact hP r' hr'
theorem BI.up {S : bS} {T R k j : Nat} {v : Int32} (h : BI S T R) (hk : k ≠ 6) : BI (up2 S k j v) T R := ⟨(up2_ne _ _ (Or.inl (Ne.symm hk))).trans h.1, (up2_ne _ _ (Or.inl (Ne.symm hk))).trans h.2.1, h.2.2⟩
theorem ST.up {S : bS} {T k j : Nat} {w p u : Nat → Nat} {v : Int32} (h : ST S T w p u) (hk : 4 ≤ k) : ST (up2 S k j v) T w p u := fun t ht => ⟨(up2_ne _ _ (Or.inl (by omega))).trans (h t ht).1, (up2_ne _ _ (Or.inl (by omega))).trans (h t ht).2.1, (up2_ne _ _ (Or.inl (by omega))).trans (h t ht).2.2⟩
theorem up2_comm {N : bS} {k i j : Nat} {v v' : Int32} (h : i ≠ j) : up2 (up2 N k i v) k j v' = up2 (up2 N k j v') k i v := by
  funext k' j'
  by_cases e : k' = k
  · rw [e]
    by_cases e1 : j' = i
    · rw [e1, up2_ne _ _ (Or.inr h), up2_eq, up2_eq]
    · by_cases e2 : j' = j
      · rw [e2, up2_eq, up2_ne _ _ (Or.inr (Ne.symm h)), up2_eq]
      · rw [up2_ne _ _ (Or.inr e2), up2_ne _ _ (Or.inr e1), up2_ne _ _ (Or.inr e1), up2_ne _ _ (Or.inr e2)]
  · rw [up2_ne _ _ (Or.inl e), up2_ne _ _ (Or.inl e), up2_ne _ _ (Or.inl e), up2_ne _ _ (Or.inl e)]
theorem paid_bd {x : Int32} {k : Nat} (h1 : 0 ≤ x.toInt) (h2 : x.toInt ≤ 180) (hk : k ≤ 9) : 0 ≤ (x * nI k).toInt ∧ (x * nI k).toInt ≤ 1620 := by
  have ek := nI_toInt (n := k) (by omega)
  have hm := mul_bd (x := x.toInt) (y := (k : Int)) (a := 180) (b := 9) (by omega) (by omega) (by omega) (by omega)
  have h3 : 0 ≤ x.toInt * (k : Int) := Int.mul_nonneg h1 (by omega)
  rw [tI_mul (by rw [ek]; omega) (by rw [ek]; omega), ek]
  omega
/-- a trade: both purses by the same, both holdings by the same -/
theorem Jc.trade {S N : bS} {T R sec B : Nat} {w p bt u q : Nat → Nat} (h : Jc S N T R sec B w p bt u q) {r t : Nat} (hr : r < R) (ht : t < T) {a a' b b' : Int32} (ha : a = a') (hb : b = b') (hv : -9 ≤ b'.toInt ∧ b'.toInt ≤ 9) (hp : -((B + 1620 : Nat) : Int) ≤ a'.toInt ∧ a'.toInt ≤ ((B + 1620 : Nat) : Int)) : Jc (up2 (up2 S 5 r a) (7 + r) t b) (up2 (up2 N 3 (23 + 8 * r + t) b') 3 (17 + r) a') T R sec (B + 1620) w p bt u q := by
  obtain ⟨hI, hrel, hST, hM⟩ := h
  have hT := hI.2.2
  refine ⟨(hI.up (by decide)).up (by omega), ?_, (hST.up (by omega)).up (by omega), (hM.held hr ht hv).pur hr hp (by omega)⟩
  rw [up2_comm (by omega)]
  exact rel_held (rel_pur hrel (by omega) ha) (by omega) (by omega) hb
theorem Jc.addT {S N : bS} {T R sec B : Nat} {w p bt u q : Nat → Nat} (h : Jc S N T R sec B w p bt u q) (hR : R < 6) (hB : 100 ≤ B) : Jc (up2 (up2 S 5 R 100) 6 2 (nI (R + 1))) (up2 (up2 (up2 N 5 0 0) 3 (17 + R) 100) 5 2 (nI (R + 1))) T (R + 1) sec B w p bt u q := by
  obtain ⟨hI, hrel, hST, ⟨hMI, hTF, hH, hZ, hP⟩⟩ := h
  have hT := hI.2.2
  have e100 : (100 : Int32).toInt = 100 := by decide
  refine ⟨⟨?_, ?_, hT.1, hR⟩, ?_, (hST.up (by omega)).up (by omega), ⟨?_, ?_, hT.1, hR⟩, ⟨(show up2 (up2 N 5 0 0) 3 (17 + R) 100 3 0 = _ from (up2_ne _ _ (Or.inr (by omega))).trans hTF.1), hTF.2.1, fun t ht => ?_⟩, fun r t hr ht => ?_, fun t ht hTt => ?_, fun r hr => ?_⟩
  · rw [up2_ne _ _ (Or.inr (by decide)), up2_ne _ _ (Or.inl (by decide))]
    exact hI.1
  · rw [up2_eq]
  · exact rel_N (rel_S (rel_pur (rel_N hrel (by decide)) hR rfl) (Or.inr (Or.inr (Or.inr ⟨rfl, by decide⟩)))) (by decide)
  · rw [up2_ne _ _ (Or.inr (by decide)), up2_ne _ _ (Or.inl (by decide)), up2_ne _ _ (Or.inr (by decide))]
    exact hMI.1
  · rw [up2_eq]
  · show N 0 t = _ ∧ N 1 t = _ ∧ N 2 t = _ ∧ up2 (up2 N 5 0 0) 3 (17 + R) 100 3 (1 + t) = _ ∧ _
    rw [up2_ne _ _ (Or.inr (by omega))]
    exact hTF.2.2 t ht
  · rw [up2_ne _ _ (Or.inl (by decide)), up2_ne _ _ (Or.inr (by omega))]
    exact ⟨(hH r t hr ht).1, fun z => (hH r t hr ht).2 (by omega)⟩
  · show up2 (up2 N 5 0 0) 3 (17 + R) 100 3 (1 + t) = 0 ∧ up2 (up2 N 5 0 0) 3 (17 + R) 100 3 (9 + t) = 0
    exact ⟨(up2_ne _ _ (Or.inr (by omega))).trans (hZ t ht hTt).1, (up2_ne _ _ (Or.inr (by omega))).trans (hZ t ht hTt).2⟩
  · rw [up2_ne _ _ (Or.inl (by decide))]
    by_cases e : r = R
    · rw [e, up2_eq, e100]
      omega
    · rw [up2_ne _ _ (Or.inr (by omega))]
      exact hP r (by omega)
/-- f, but v at T -/
def nf (f : Nat → Nat) (T v : Nat) : Nat → Nat := fun t => if t = T then v else f t
theorem Jc.list {S N : bS} {T R sec B : Nat} {w p bt u q : Nat → Nat} (h : Jc S N T R sec B w p bt u q) (hT : T < 8) {w0 p0 b0 z : Nat} {v : Int32} (hw : 1 ≤ w0 ∧ w0 ≤ 9) (hp : 2 ≤ p0 ∧ p0 ≤ 20) (hb : b0 < p0) (hv : v = nI z) (hz : 1 ≤ z ∧ z ≤ p0) (hm : (sec + z) % p0 = b0) : Jc (up2 (up2 (up2 (up2 S 0 T (nI w0)) 1 T (nI p0)) 3 T v) 6 1 (nI (T + 1))) (up2 (up2 (up2 (up2 (up2 N 5 0 0) 0 T (nI w0)) 1 T (nI p0)) 2 T (nI b0)) 5 1 (nI (T + 1))) (T + 1) R sec B (nf w T w0) (nf p T p0) (nf bt T b0) (nf u T z) (nf q T 0) := by
  obtain ⟨hI, hrel, hST, ⟨hMI, hTF, hH, hZ, hP⟩⟩ := h
  have hR := hI.2.2.2
  subst hv
  refine ⟨⟨?_, ?_, hT, hR⟩, ?_, fun t ht => ?_, ⟨?_, ?_, hT, hR⟩, ⟨hTF.1, hTF.2.1, fun t ht => ?_⟩, fun r t hr ht => ?_, fun t ht hTt => ?_, fun r hr => hP r hr⟩
  · rw [up2_eq]
  · rw [up2_ne _ _ (Or.inr (by decide)), up2_ne _ _ (Or.inl (by decide)), up2_ne _ _ (Or.inl (by decide)), up2_ne _ _ (Or.inl (by decide))]
    exact hI.2.1
  · exact rel_N (rel_N (rel_N (rel_N (rel_N (rel_S (rel_S (rel_S (rel_S hrel (Or.inl rfl)) (Or.inr (Or.inl rfl))) (Or.inr (Or.inr (Or.inl rfl)))) (Or.inr (Or.inr (Or.inr ⟨rfl, by decide⟩)))) (by decide)) (by decide)) (by decide)) (by decide)) (by decide)
  · unfold nf
    by_cases e : t = T
    · rw [if_pos e, if_pos e, if_pos e, e]
      refine ⟨?_, ?_, ?_⟩
      · rw [up2_ne _ _ (Or.inl (by decide)), up2_ne _ _ (Or.inl (by decide)), up2_ne _ _ (Or.inl (by decide)), up2_eq]
      · rw [up2_ne _ _ (Or.inl (by decide)), up2_ne _ _ (Or.inl (by decide)), up2_eq]
      · rw [up2_ne _ _ (Or.inl (by decide)), up2_eq]
    · rw [if_neg e, if_neg e, if_neg e]
      have h9 := hST t (by omega)
      refine ⟨?_, ?_, ?_⟩
      · rw [up2_ne _ _ (Or.inl (by decide)), up2_ne _ _ (Or.inl (by decide)), up2_ne _ _ (Or.inl (by decide)), up2_ne _ _ (Or.inr e)]
        exact h9.1
      · rw [up2_ne _ _ (Or.inl (by decide)), up2_ne _ _ (Or.inl (by decide)), up2_ne _ _ (Or.inr e), up2_ne _ _ (Or.inl (by decide))]
        exact h9.2.1
      · rw [up2_ne _ _ (Or.inl (by decide)), up2_ne _ _ (Or.inr e), up2_ne _ _ (Or.inl (by decide)), up2_ne _ _ (Or.inl (by decide))]
        exact h9.2.2
  · rw [up2_eq]
  · rw [up2_ne _ _ (Or.inr (by decide)), up2_ne _ _ (Or.inl (by decide)), up2_ne _ _ (Or.inl (by decide)), up2_ne _ _ (Or.inl (by decide)), up2_ne _ _ (Or.inr (by decide))]
    exact hMI.2.1
  · unfold nf
    by_cases e : t = T
    · rw [if_pos e, if_pos e, if_pos e, if_pos e, if_pos e, e]
      refine ⟨?_, ?_, ?_, (hZ T hT (Nat.le_refl T)).1, hw, hp, hb, hz, by omega, hm⟩
      · rw [up2_ne _ _ (Or.inl (by decide)), up2_ne _ _ (Or.inl (by decide)), up2_ne _ _ (Or.inl (by decide)), up2_eq]
      · rw [up2_ne _ _ (Or.inl (by decide)), up2_ne _ _ (Or.inl (by decide)), up2_eq]
      · rw [up2_ne _ _ (Or.inl (by decide)), up2_eq]
    · rw [if_neg e, if_neg e, if_neg e, if_neg e, if_neg e]
      obtain ⟨f0, f1, f2, f3, f4⟩ := hTF.2.2 t (by omega)
      refine ⟨?_, ?_, ?_, f3, f4⟩
      · rw [up2_ne _ _ (Or.inl (by decide)), up2_ne _ _ (Or.inl (by decide)), up2_ne _ _ (Or.inl (by decide)), up2_ne _ _ (Or.inr e), up2_ne _ _ (Or.inl (by decide))]
        exact f0
      · rw [up2_ne _ _ (Or.inl (by decide)), up2_ne _ _ (Or.inl (by decide)), up2_ne _ _ (Or.inr e), up2_ne _ _ (Or.inl (by decide)), up2_ne _ _ (Or.inl (by decide))]
        exact f1
      · rw [up2_ne _ _ (Or.inl (by decide)), up2_ne _ _ (Or.inr e), up2_ne _ _ (Or.inl (by decide)), up2_ne _ _ (Or.inl (by decide)), up2_ne _ _ (Or.inl (by decide))]
        exact f2
  · exact ⟨(hH r t hr ht).1, fun z => (hH r t hr ht).2 (by omega)⟩
  · exact hZ t ht (by omega)
