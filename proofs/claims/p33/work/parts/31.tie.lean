/-! ===== pure: both hold the same; a second of both ===== -/
theorem mx0 (y : Int32) : mx 0 y = if 0 ≤ y then y else 0 := by
  unfold mx
  by_cases h : (0 : Int32) < y
  · rw [if_pos h, if_pos (Int32.le_of_lt h)]
  · rw [if_neg h]
    by_cases h2 : (0 : Int32) ≤ y
    · rw [if_pos h2]
      exact Int32.le_antisymm h2 (Int32.not_lt.mp h)
    · rw [if_neg h2]
theorem dvt {x : Int32} (h1 : -9 ≤ x.toInt) (h2 : x.toInt ≤ 9) : mx 0 (-x) = if 0 ≤ x then 0 else -x := by
  have e := tI_neg (a := x) (by omega)
  apply Int32.toInt_inj.mp
  rw [mx_toInt, e]
  by_cases c : 0 ≤ x
  · have c1 := Int32.le_iff_toInt_le.mp c
    rw [Int32.toInt_zero] at c1
    rw [if_pos c, if_neg (by omega), Int32.toInt_zero]
  · have c1 : ¬ (0 : Int32).toInt ≤ x.toInt := fun z => c (Int32.le_iff_toInt_le.mpr z)
    rw [Int32.toInt_zero] at c1
    rw [if_neg c, if_pos (by omega), e]
theorem sma_tail {a : Int32} {f : Nat → Int32} {R : Nat} : ∀ n : Nat, R ≤ n → (∀ i, R ≤ i → i < n → f i = 0) → sma a f n = sma a f R
  | 0, h, _ => by rw [show R = 0 by omega]
  | n + 1, h, hz => by
    by_cases e : R = n + 1
    · rw [e]
    · show sma a f n + f n = _
      rw [hz n (by omega) (by omega), Int32.add_zero]
      exact sma_tail n (by omega) (fun i h1 h2 => hz i h1 (by omega))
theorem amn_congr {f g : Nat → Int32} : ∀ n : Nat, (∀ i, i < n → f i = g i) → amn f n = amn g n
  | 0, _ => rfl
  | n + 1, h => by
    have ih := amn_congr (f := f) (g := g) n (fun i hi => h i (by omega))
    cases e : amn g n with
    | none => rw [amn_none e, amn_none (ih.trans e)]
    | some b =>
      have hb := amn_lt n e
      by_cases c : g b ≤ g n
      · rw [amn_keep e c, amn_keep (ih.trans e) (by rw [h n (by omega), h b (by omega)]; exact c)]
      · rw [amn_new e c, amn_new (ih.trans e) (by rw [h n (by omega), h b (by omega)]; exact c)]
theorem mod_same2 {x u v p : Nat} (h : (x + u) % p = (x + v) % p) (hu : 1 ≤ u ∧ u ≤ p) (hv : 1 ≤ v ∧ v ≤ p) : u = v := by
  rcases Nat.le_total u v with z | z
  · exact mod_same h z (by omega)
  · exact (mod_same h.symm z (by omega)).symm
theorem rmi_v {a b p : Nat} (ha : a < 2 ^ 30) (hb : b < 2 ^ 30) (hp : p < 2 ^ 31) : (rmi (nI a - nI b) (nI p)).toInt = ((a : Int) - b).tmod p := by
  unfold rmi
  rw [rem_toInt, pk_sub_toInt ha hb, nI_toInt hp]
theorem un_val {b0 sec p0 u : Nat} (hb : b0 < p0) (hp : 2 ≤ p0) (hp9 : p0 ≤ 20) (hs : sec < 2 ^ 29) (hu : 1 ≤ u ∧ u ≤ p0) (hm : (sec + u) % p0 = b0) : (if rmi (nI b0 - nI sec) (nI p0) ≤ 0 then rmi (nI b0 - nI sec) (nI p0) + nI p0 else rmi (nI b0 - nI sec) (nI p0)) = nI u := by
  have er := rmi_v (a := b0) (b := sec) (p := p0) (by omega) (by omega) (by omega)
  have ep := nI_toInt (n := p0) (by omega)
  have eu := nI_toInt (n := u) (by omega)
  by_cases c : sec ≤ b0
  · have e1 : ((b0 : Int) - sec).tmod p0 = (b0 : Int) - sec := by rw [Int.tmod_eq_emod_of_nonneg (by omega), Int.emod_eq_of_lt (by omega) (by omega)]
    rw [e1] at er
    by_cases c2 : b0 = sec
    · have hup : u = p0 := mod_same2 (x := sec) (u := u) (v := p0) (p := p0) (by rw [hm, Nat.add_mod_right, ← c2, Nat.mod_eq_of_lt hb]) hu ⟨by omega, Nat.le_refl _⟩
      rw [if_pos (by rw [Int32.le_iff_toInt_le, er, Int32.toInt_zero]; omega)]
      apply Int32.toInt_inj.mp
      rw [tI_add (by rw [er, ep]; omega) (by rw [er, ep]; omega), er, ep, eu]
      omega
    · have hup : u = b0 - sec := mod_same2 (x := sec) (p := p0) (by rw [hm, show sec + (b0 - sec) = b0 by omega, Nat.mod_eq_of_lt hb]) hu ⟨by omega, by omega⟩
      rw [if_neg (by rw [Int32.le_iff_toInt_le, er, Int32.toInt_zero]; omega)]
      apply Int32.toInt_inj.mp
      rw [er, eu]
      omega
  · have hd : ((b0 : Int) - sec).tmod p0 = -(((sec - b0) % p0 : Nat) : Int) := by
      rw [show (b0 : Int) - sec = -((sec - b0 : Nat) : Int) by omega, Int.neg_tmod, Int.tmod_eq_emod_of_nonneg (by omega)]
      rfl
    rw [hd] at er
    have hl := Nat.mod_lt (sec - b0) (show p0 > 0 by omega)
    have hdm := Nat.div_add_mod (sec - b0) p0
    have e2 : p0 * ((sec - b0) / p0 + 1) = p0 * ((sec - b0) / p0) + p0 := Nat.mul_succ _ _
    have hup : u = p0 - (sec - b0) % p0 := mod_same2 (x := sec) (p := p0) (by
      rw [hm, show sec + (p0 - (sec - b0) % p0) = b0 + p0 * ((sec - b0) / p0 + 1) by omega, Nat.add_mul_mod_self_left]
      exact (Nat.mod_eq_of_lt hb).symm) hu ⟨by omega, by omega⟩
    rw [if_pos (by rw [Int32.le_iff_toInt_le, er, Int32.toInt_zero]; omega)]
    apply Int32.toInt_inj.mp
    rw [tI_add (by rw [er, ep]; omega) (by rw [er, ep]; omega), er, ep, eu]
    omega
theorem nz_iff {b0 x p0 : Nat} (hb : b0 < p0) (hp9 : p0 ≤ 20) (hx : x < 2 ^ 30) : rmi (nI x - nI b0) (nI p0) = 0 ↔ x % p0 = b0 := by
  have er := rmi_v (a := x) (b := b0) (p := p0) hx (by omega) (by omega)
  constructor
  · intro h
    have h1 := congrArg Int32.toInt h
    rw [er, Int32.toInt_zero] at h1
    obtain ⟨k, hk⟩ := Int.dvd_of_tmod_eq_zero h1
    have hk0 : 0 ≤ k := by
      rcases Int.lt_or_le k 0 with z | z
      · have h2 : (p0 : Int) * k ≤ (p0 : Int) * (-1) := Int.mul_le_mul_of_nonneg_left (by omega) (by omega)
        omega
      · exact z
    obtain ⟨m, rfl⟩ := Int.eq_ofNat_of_zero_le hk0
    have h3 : x = b0 + p0 * m := by
      have h4 : (x : Int) = ((b0 + p0 * m : Nat) : Int) := by
        rw [Int.natCast_add, Int.natCast_mul]
        omega
      exact Int.ofNat_inj.mp h4
    rw [h3, Nat.add_mul_mod_self_left]
    exact Nat.mod_eq_of_lt hb
  · intro h
    apply Int32.toInt_inj.mp
    rw [er, Int32.toInt_zero]
    have h1 := Nat.div_add_mod x p0
    have h2 : (x : Int) - b0 = (p0 : Int) * ((x / p0 : Nat) : Int) := by
      rw [← Int.natCast_mul]
      omega
    rw [h2]
    exact Int.mul_tmod_right _ _
/-! the rows that a stroke leaves -/
theorem bS1_h {X : bS} {p : Int32} {t r t' : Nat} : ∀ j : Nat, bSt1 X p t j (7 + r) t' = if r < j ∧ t' = t then 0 else X (7 + r) t'
  | 0 => (if_neg (by omega)).symm
  | j + 1 => by
    unfold bSt1
    by_cases e : r = j ∧ t' = t
    · rw [if_pos (by omega), e.1, e.2, up2_eq]
    · rw [up2_ne _ _ (by omega), up2_ne _ _ (Or.inl (by omega)), bS1_h j]
      by_cases e2 : r < j ∧ t' = t
      · rw [if_pos e2, if_pos (by omega)]
      · rw [if_neg e2, if_neg (by omega)]
theorem bS1_p {X : bS} {p : Int32} {t r : Nat} : ∀ j : Nat, bSt1 X p t j 5 r = if r < j then X 5 r + p * X (7 + r) t else X 5 r
  | 0 => (if_neg (by omega)).symm
  | j + 1 => by
    unfold bSt1
    rw [up2_ne _ _ (Or.inl (by omega))]
    by_cases e : r = j
    · rw [if_pos (by omega), e, up2_eq, bS1_p j, if_neg (by omega), bS1_h j, if_neg (by omega)]
    · rw [up2_ne _ _ (Or.inr e), bS1_p j]
      by_cases e2 : r < j
      · rw [if_pos e2, if_pos (by omega)]
      · rw [if_neg e2, if_neg (by omega)]
theorem bS1_o {X : bS} {p : Int32} {t k c : Nat} (h5 : k ≠ 5) (h : k < 7 ∨ 13 ≤ k) : ∀ j : Nat, j ≤ 6 → bSt1 X p t j k c = X k c
  | 0, _ => rfl
  | j + 1, hj => by
    unfold bSt1
    rw [up2_ne _ _ (Or.inl (by omega)), up2_ne _ _ (Or.inl h5)]
    exact bS1_o h5 h j (by omega)
/-- what is held and the purses, i towers done -/
def CfH (S X : bS) (P : Nat → Int32) (R i : Nat) (u : Nat → Nat) : Prop := (∀ r t, r < 6 → t < 8 → X (7 + r) t = if t < i ∧ r < R ∧ u t = 1 then 0 else S (7 + r) t) ∧ ∀ r, r < R → X 5 r = sma (S 5 r) (fun t => if u t = 1 then P t * S (7 + r) t else 0) i
theorem CfH.ext {S X Y : bS} {P : Nat → Int32} {R i : Nat} {u : Nat → Nat} (h : CfH S X P R i u) (h1 : ∀ r t, r < 6 → Y (7 + r) t = X (7 + r) t) (h2 : ∀ r, Y 5 r = X 5 r) : CfH S Y P R i u := ⟨fun r t hr ht => (h1 r t hr).trans (h.1 r t hr ht), fun r hr => (h2 r).trans (h.2 r hr)⟩
theorem CfH.kp {S X : bS} {P : Nat → Int32} {R i : Nat} {u : Nat → Nat} (h : CfH S X P R i u) (c : ¬ u i = 1) : CfH S X P R (i + 1) u := by
  refine ⟨fun r t hr ht => ?_, fun r hr => ?_⟩
  · rw [h.1 r t hr ht]
    by_cases e : t < i ∧ r < R ∧ u t = 1
    · rw [if_pos e, if_pos ⟨by omega, e.2⟩]
    · rw [if_neg e, if_neg (fun z => by
        rcases (show t < i ∨ t = i by omega) with z1 | z1
        · exact e ⟨z1, z.2⟩
        · exact c (z1 ▸ z.2.2))]
  · rw [h.2 r hr]
    show _ = sma _ _ i + (if u i = 1 then _ else _)
    rw [if_neg c, Int32.add_zero]
theorem CfH.st {S X : bS} {P : Nat → Int32} {R i : Nat} {u : Nat → Nat} (h : CfH S X P R i u) (c : u i = 1) (hi : i < 8) (hR : R ≤ 6) : CfH S (bSt1 X (P i) i R) P R (i + 1) u := by
  refine ⟨fun r t hr ht => ?_, fun r hr => ?_⟩
  · rw [bS1_h, h.1 r t hr ht]
    by_cases e : r < R ∧ t = i
    · rw [if_pos e, if_pos ⟨by omega, e.1, by rw [e.2]; exact c⟩]
    · rw [if_neg e]
      by_cases e2 : t < i ∧ r < R ∧ u t = 1
      · rw [if_pos e2, if_pos ⟨by omega, e2.2⟩]
      · rw [if_neg e2, if_neg (fun z => by
          rcases (show t < i ∨ t = i by omega) with z1 | z1
          · exact e2 ⟨z1, z.2⟩
          · exact e ⟨z.2.1, z1⟩)]
  · rw [bS1_p, if_pos hr, h.2 r hr, h.1 r i (by omega) hi, if_neg (by omega)]
    show _ = sma _ _ i + (if u i = 1 then _ else _)
    rw [if_pos c]
/-- how many strike -/
def dueN (u : Nat → Nat) (i : Nat) : Int32 := sma 0 (fun t => if u t = 1 then 1 else 0) i
/-- what is so of the class's towers -/
def HS (S : bS) (T : Nat) (p u q : Nat → Nat) : Prop := ∀ t, t < T → S 1 t = nI (p t) ∧ S 2 t = nI (q t) ∧ S 3 t = nI (u t) ∧ (1 ≤ u t ∧ u t ≤ 20) ∧ q t ≤ 20
def CfS (S X : bS) (T R i : Nat) (p u q : Nat → Nat) : Prop := X 6 0 = S 6 0 + 1 ∧ (∀ t, t < T → X 3 t = nI (if t < i then u1 p u t else u t) ∧ X 2 t = nI (if t < i then q1 u q t else q t)) ∧ (∀ t, t < 8 → X 4 t = if t < i ∧ u t = 1 then S 4 t + 1 else S 4 t) ∧ (∀ t, t < 8 → T ≤ t → X 2 t = S 2 t) ∧ CfH S X (bPr S R) R i u
theorem bPr_of {X S : bS} {R t : Nat} (h2 : X 2 t = S 2 t) (h0 : X 0 t = S 0 t) (hh : ∀ r, r < R → X (7 + r) t = S (7 + r) t) : bPr X R t = bPr S R t := by
  unfold bPr bDv
  rw [h2, h0, sma_congr rfl R (fun r hr => by rw [hh r hr])]
theorem cfS {S : bS} {T R : Nat} {p u q : Nat → Nat} (h : HS S T p u q) (hT : T ≤ 8) (hR : R ≤ 6) : ∀ i : Nat, i ≤ T → CfS S (bGo S R i) T R i p u q ∧ bGc S R i = dueN u i
  | 0, _ => by
    refine ⟨⟨up2_eq _ _ _ _, fun t ht => ?_, fun t ht => ?_, fun t ht hTt => ?_, fun r t hr ht => ?_, fun r hr => ?_⟩, rfl⟩
    · rw [if_neg (by omega), if_neg (by omega)]
      exact ⟨(up2_ne _ _ (Or.inl (by omega))).trans (h t ht).2.2.1, (up2_ne _ _ (Or.inl (by omega))).trans (h t ht).2.1⟩
    · rw [if_neg (by omega)]
      exact up2_ne _ _ (Or.inl (by omega))
    · exact up2_ne _ _ (Or.inl (by omega))
    · rw [if_neg (by omega)]
      exact up2_ne _ _ (Or.inl (by omega))
    · exact up2_ne _ _ (Or.inl (by omega))
  | i + 1, hi => by
    obtain ⟨⟨c1, c2, c3, c4, c5⟩, c6⟩ := cfS h hT hR i (by omega)
    obtain ⟨hp, hq, hu3, hu, hq9⟩ := h i (by omega)
    obtain ⟨e3, e2⟩ := c2 i (by omega)
    rw [if_neg (by omega)] at e3 e2
    have hbc : 1 < bGo S R i 3 i ↔ ¬ u i = 1 := by
      rw [e3]
      exact (nI_ltI (a := 1) (by omega) (by omega)).trans (by omega)
    have hP : bPr (bGo S R i) R i = bPr S R i := bPr_of (e2.trans hq.symm) (bGo_row S R i (by omega) i) (fun r hr => by rw [c5.1 r i (by omega) (by omega), if_neg (by omega)])
    by_cases c : u i = 1
    · have n1 : ¬ 1 < bGo S R i 3 i := fun z => hbc.mp z c
      rw [bGo_str n1, bGc_str n1]
      unfold bStr
      rw [hP]
      refine ⟨⟨?_, fun t ht => ?_, fun t ht => ?_, fun t ht hTt => ?_, ?_⟩, ?_⟩
      · rw [up2_ne _ _ (Or.inl (by omega)), up2_ne _ _ (Or.inl (by omega)), up2_ne _ _ (Or.inl (by omega)), bS1_o (by omega) (by omega) R hR, c1]
      · obtain ⟨f3, f2⟩ := c2 t ht
        by_cases e : t = i
        · rw [e, up2_eq, if_pos (by omega), if_pos (by omega), bS1_o (by omega) (by omega) R hR, bGo_row S R i (by omega) i, hp, up2_ne _ _ (Or.inl (by omega)), up2_ne _ _ (Or.inl (by omega)), up2_eq]
          unfold u1 q1
          rw [if_pos c, if_pos c]
          exact ⟨rfl, rfl⟩
        · rw [up2_ne _ _ (Or.inr e), up2_ne _ _ (Or.inl (by omega)), up2_ne _ _ (Or.inl (by omega)), bS1_o (by omega) (by omega) R hR, f3, up2_ne _ _ (Or.inl (by omega)), up2_ne _ _ (Or.inl (by omega)), up2_ne _ _ (Or.inr e), bS1_o (by omega) (by omega) R hR, f2]
          by_cases e2 : t < i
          · rw [if_pos e2, if_pos (by omega), if_pos e2, if_pos (by omega)]
            exact ⟨rfl, rfl⟩
          · rw [if_neg e2, if_neg (by omega), if_neg e2, if_neg (by omega)]
            exact ⟨rfl, rfl⟩
      · rw [up2_ne _ _ (Or.inl (by omega))]
        by_cases e : t = i
        · rw [e, up2_eq, if_pos ⟨by omega, c⟩, bS1_o (by omega) (by omega) R hR, c3 i (by omega), if_neg (by omega)]
        · rw [up2_ne _ _ (Or.inr e), up2_ne _ _ (Or.inl (by omega)), bS1_o (by omega) (by omega) R hR, c3 t ht]
          by_cases e2 : t < i ∧ u t = 1
          · rw [if_pos e2, if_pos ⟨by omega, e2.2⟩]
          · rw [if_neg e2, if_neg (fun z => e2 ⟨by omega, z.2⟩)]
      · rw [up2_ne _ _ (Or.inl (by omega)), up2_ne _ _ (Or.inl (by omega)), up2_ne _ _ (Or.inr (by omega)), bS1_o (by omega) (by omega) R hR, c4 t ht hTt]
      · exact (c5.st c (by omega) hR).ext (fun r t _ => by rw [up2_ne _ _ (Or.inl (by omega)), up2_ne _ _ (Or.inl (by omega)), up2_ne _ _ (Or.inl (by omega))]) (fun r => by rw [up2_ne _ _ (Or.inl (by omega)), up2_ne _ _ (Or.inl (by omega)), up2_ne _ _ (Or.inl (by omega))])
      · rw [c6]
        show _ = sma _ _ i + (if u i = 1 then _ else _)
        rw [if_pos c]
        rfl
    · have n1 : 1 < bGo S R i 3 i := hbc.mpr c
      rw [bGo_keep n1, bGc_keep n1]
      refine ⟨⟨?_, fun t ht => ?_, fun t ht => ?_, fun t ht hTt => ?_, ?_⟩, ?_⟩
      · rw [up2_ne _ _ (Or.inl (by omega)), up2_ne _ _ (Or.inl (by omega)), c1]
      · obtain ⟨f3, f2⟩ := c2 t ht
        by_cases e : t = i
        · rw [e, up2_ne _ _ (Or.inl (by omega)), up2_eq, if_pos (by omega), if_pos (by omega), e3, up2_eq, e2]
          unfold u1 q1
          rw [if_neg c, if_neg c]
          exact ⟨pk_sub (a := u i) (b := 1) (by omega), nI_1 _⟩
        · rw [up2_ne _ _ (Or.inl (by omega)), up2_ne _ _ (Or.inr e), f3, up2_ne _ _ (Or.inr e), up2_ne _ _ (Or.inl (by omega)), f2]
          by_cases e2 : t < i
          · rw [if_pos e2, if_pos (by omega), if_pos e2, if_pos (by omega)]
            exact ⟨rfl, rfl⟩
          · rw [if_neg e2, if_neg (by omega), if_neg e2, if_neg (by omega)]
            exact ⟨rfl, rfl⟩
      · rw [up2_ne _ _ (Or.inl (by omega)), up2_ne _ _ (Or.inl (by omega)), c3 t ht]
        by_cases e2 : t < i ∧ u t = 1
        · rw [if_pos e2, if_pos ⟨by omega, e2.2⟩]
        · rw [if_neg e2, if_neg (fun z => by
            rcases (show t < i ∨ t = i by omega) with z1 | z1
            · exact e2 ⟨z1, z.2⟩
            · exact c (z1 ▸ z.2))]
      · rw [up2_ne _ _ (Or.inr (by omega)), up2_ne _ _ (Or.inl (by omega)), c4 t ht hTt]
      · exact (c5.kp c).ext (fun r t _ => by rw [up2_ne _ _ (Or.inl (by omega)), up2_ne _ _ (Or.inl (by omega))]) (fun r => by rw [up2_ne _ _ (Or.inl (by omega)), up2_ne _ _ (Or.inl (by omega))])
      · rw [c6]
        show _ = sma _ _ i + (if u i = 1 then _ else _)
        rw [if_neg c, Int32.add_zero]
        rfl
/-- what is so of Sim's towers -/
def HN (N : bS) (T sec : Nat) (p bt u q : Nat → Nat) : Prop := (N 6 0 = nI sec ∧ sec < 2 ^ 29) ∧ ∀ t, t < T → N (20 + t) 1 = nI (p t) ∧ N (20 + t) 2 = nI (bt t) ∧ N (20 + t) 3 = nI (q t) ∧ (2 ≤ p t ∧ p t ≤ 20) ∧ bt t < p t ∧ (1 ≤ u t ∧ u t ≤ p t) ∧ (sec + u t) % p t = bt t
def CfN (N X : bS) (P : Nat → Int32) (T R i : Nat) (u q : Nat → Nat) : Prop := X 6 0 = N 6 0 + 1 ∧ (∀ t, t < T → X (20 + t) 3 = nI (if t < i then q1 u q t else q t) ∧ X (20 + t) 4 = if t < i ∧ u t = 1 then N (20 + t) 4 + 1 else N (20 + t) 4) ∧ CfH N X P R i u
theorem nGo_0 {N : bS} {P : Nat → Int32} {R t j : Nat} (hR : R ≤ 6) : ∀ i : Nat, i ≤ t → t < 8 → nGo N P R i (20 + t) j = N (20 + t) j
  | 0, _, _ => up2_ne _ _ (Or.inl (by omega))
  | i + 1, hi, ht => by
    have ih := nGo_0 (N := N) (P := P) (R := R) (t := t) (j := j) hR i (by omega) ht
    by_cases c : nZ (nGo N P R i) i = 0
    · rw [nGo_s c, bS1_o (by omega) (by omega) R hR]
      unfold nZs nY
      rw [up2_ne _ _ (Or.inl (by omega)), up2_ne _ _ (Or.inl (by omega)), up2_ne _ _ (Or.inl (by omega)), ih]
    · rw [nGo_k c]
      unfold nY
      rw [up2_ne _ _ (Or.inl (by omega)), ih]
theorem cfN {N : bS} {P : Nat → Int32} {T R sec : Nat} {p bt u q : Nat → Nat} (h : HN N T sec p bt u q) (hT : T ≤ 8) (hR : R ≤ 6) : ∀ i : Nat, i ≤ T → CfN N (nGo N P R i) P T R i u q ∧ nGc N P R i = dueN u i
  | 0, _ => by
    refine ⟨⟨up2_eq _ _ _ _, fun t ht => ?_, fun r t hr ht => ?_, fun r hr => ?_⟩, rfl⟩
    · rw [if_neg (by omega), if_neg (by omega)]
      exact ⟨(up2_ne _ _ (Or.inl (by omega))).trans (h.2 t ht).2.2.1, up2_ne _ _ (Or.inl (by omega))⟩
    · rw [if_neg (by omega)]
      exact up2_ne _ _ (Or.inl (by omega))
    · exact up2_ne _ _ (Or.inl (by omega))
  | i + 1, hi => by
    obtain ⟨⟨c1, c2, c5⟩, c6⟩ := cfN (P := P) h hT hR i (by omega)
    obtain ⟨hp1, hb1, hq1, hp, hb, hu, hm⟩ := h.2 i (by omega)
    have hz : nZ (nGo N P R i) i = 0 ↔ u i = 1 := by
      unfold nZ
      rw [c1, h.1.1, show nI sec + 1 = nI (sec + 1) from nI_1 sec, nGo_0 hR i (Nat.le_refl i) (by omega), nGo_0 hR i (Nat.le_refl i) (by omega), hp1, hb1, nz_iff hb hp.2 (by have := h.1.2; omega)]
      constructor
      · intro z
        exact (mod_same2 (x := sec) (u := 1) (v := u i) (p := p i) (by rw [z, hm]) ⟨by omega, by omega⟩ hu).symm
      · intro z
        rw [← hm, z]
    have e3 : nGo N P R i (20 + i) 3 = nI (q i) := (nGo_0 hR i (Nat.le_refl i) (by omega)).trans hq1
    have e4 : nGo N P R i (20 + i) 4 = N (20 + i) 4 := nGo_0 hR i (Nat.le_refl i) (by omega)
    have key : ∀ t : Nat, t < T → t ≠ i → (nGo N P R i (20 + t) 3 = nI (if t < i + 1 then q1 u q t else q t)) ∧ nGo N P R i (20 + t) 4 = if t < i + 1 ∧ u t = 1 then N (20 + t) 4 + 1 else N (20 + t) 4 := by
      intro t ht e
      obtain ⟨f3, f4⟩ := c2 t ht
      rw [f3, f4]
      by_cases e2 : t < i
      · rw [if_pos e2, if_pos (by omega)]
        refine ⟨rfl, ?_⟩
        by_cases e5 : u t = 1
        · rw [if_pos ⟨e2, e5⟩, if_pos ⟨by omega, e5⟩]
        · rw [if_neg (fun z => e5 z.2), if_neg (fun z => e5 z.2)]
      · rw [if_neg e2, if_neg (by omega), if_neg (fun z => e2 z.1), if_neg (fun z => by omega)]
        exact ⟨rfl, rfl⟩
    by_cases c : u i = 1
    · rw [nGo_s (hz.mpr c), nGc_s (hz.mpr c)]
      refine ⟨⟨?_, fun t ht => ?_, ?_⟩, ?_⟩
      · rw [bS1_o (by omega) (by omega) R hR]
        unfold nZs nY
        rw [up2_ne _ _ (Or.inl (by omega)), up2_ne _ _ (Or.inl (by omega)), up2_ne _ _ (Or.inl (by omega)), c1]
      · rw [bS1_o (by omega) (by omega) R hR, bS1_o (by omega) (by omega) R hR]
        unfold nZs nY
        by_cases e : t = i
        · rw [e, up2_ne _ _ (Or.inr (by omega)), up2_eq, up2_eq, e4, if_pos (by omega), if_pos ⟨by omega, c⟩]
          unfold q1
          rw [if_pos c]
          exact ⟨rfl, rfl⟩
        · rw [up2_ne _ _ (Or.inl (by omega)), up2_ne _ _ (Or.inl (by omega)), up2_ne _ _ (Or.inl (by omega)), up2_ne _ _ (Or.inl (by omega)), up2_ne _ _ (Or.inl (by omega)), up2_ne _ _ (Or.inl (by omega))]
          exact key t ht e
      · refine CfH.st (c5.ext (fun r t _ => ?_) (fun r => ?_)) c (by omega) hR
        · unfold nZs nY
          rw [up2_ne _ _ (Or.inl (by omega)), up2_ne _ _ (Or.inl (by omega)), up2_ne _ _ (Or.inl (by omega))]
        · unfold nZs nY
          rw [up2_ne _ _ (Or.inl (by omega)), up2_ne _ _ (Or.inl (by omega)), up2_ne _ _ (Or.inl (by omega))]
      · rw [c6]
        show _ = sma _ _ i + (if u i = 1 then _ else _)
        rw [if_pos c]
        rfl
    · rw [nGo_k (fun z => c (hz.mp z)), nGc_k (fun z => c (hz.mp z))]
      unfold nY
      refine ⟨⟨?_, fun t ht => ?_, ?_⟩, ?_⟩
      · rw [up2_ne _ _ (Or.inl (by omega)), c1]
      · by_cases e : t = i
        · rw [e, up2_eq, e3, up2_ne _ _ (Or.inr (by omega)), e4, if_pos (by omega), if_neg (fun z => c z.2)]
          unfold q1
          rw [if_neg c]
          exact ⟨nI_1 _, rfl⟩
        · rw [up2_ne _ _ (Or.inl (by omega)), up2_ne _ _ (Or.inl (by omega))]
          exact key t ht e
      · exact (c5.kp c).ext (fun r t _ => up2_ne _ _ (Or.inl (by omega))) (fun r => up2_ne _ _ (Or.inl (by omega)))
      · rw [c6]
        show _ = sma _ _ i + (if u i = 1 then _ else _)
        rw [if_neg c, Int32.add_zero]
        rfl
