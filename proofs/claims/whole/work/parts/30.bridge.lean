/-! ===== pure: the reference a second on ===== -/
theorem sma_congr {a a' : Int32} {f g : Nat → Int32} (ha : a = a') : ∀ n : Nat, (∀ i, i < n → f i = g i) → sma a f n = sma a' g n
  | 0, _ => ha
  | n + 1, h => by
    show sma a f n + f n = sma a' g n + g n
    rw [sma_congr ha n (fun i hi => h i (by omega)), h n (by omega)]
theorem amx_congr {f g : Nat → Int32} : ∀ n : Nat, (∀ i, i < n → f i = g i) → amx f n = amx g n
  | 0, _ => rfl
  | n + 1, h => by
    have ih := amx_congr (f := f) (g := g) n (fun i hi => h i (by omega))
    cases e : amx g n with
    | none => rw [amx_none e, amx_none (ih.trans e)]
    | some b =>
      have hb := amx_lt n e
      by_cases c : g n ≤ g b
      · rw [amx_keep e c, amx_keep (ih.trans e) (by rw [h n (by omega), h b (by omega)]; exact c)]
      · rw [amx_new e c, amx_new (ih.trans e) (by rw [h n (by omega), h b (by omega)]; exact c)]
theorem lfo_congr {f g : Int64 → Nat → Int64} {d d' : Int64} (hd : d = d') : ∀ n : Nat, (∀ x i, i < n → f x i = g x i) → lfo f d n = lfo g d' n
  | 0, _ => hd
  | n + 1, h => by
    show f (lfo f d n) n = g (lfo g d' n) n
    rw [lfo_congr hd n (fun x i hi => h x i (by omega)), h _ n (by omega)]
theorem mod_same {x u v p : Nat} (h : (x + u) % p = (x + v) % p) (huv : u ≤ v) (hp : v - u < p) : u = v := by
  have h1 := Nat.sub_mod_eq_zero_of_mod_eq h.symm
  rw [show x + v - (x + u) = v - u by omega, Nat.mod_eq_of_lt hp] at h1
  omega
theorem rmi_nI {a d : Nat} (ha : a < 2 ^ 31) (h0 : 0 < d) (hd : d < 2 ^ 31) : rmi (nI a) (nI d) = nI (a % d) := pk_rem ha h0 hd
/-- what is so of the towers, in the reference's rows -/
def TF (N : bS) (T sec : Nat) (w p bt u q : Nat → Nat) : Prop := N 3 0 = nI sec ∧ sec < 2 ^ 30 ∧ ∀ t : Nat, t < T → N 0 t = nI (w t) ∧ N 1 t = nI (p t) ∧ N 2 t = nI (bt t) ∧ N 3 (1 + t) = nI (q t) ∧ (1 ≤ w t ∧ w t ≤ 9) ∧ (2 ≤ p t ∧ p t ≤ 20) ∧ bt t < p t ∧ (1 ≤ u t ∧ u t ≤ p t) ∧ q t + u t ≤ p t ∧ (sec + u t) % p t = bt t
theorem TF.mP {N : bS} {T sec : Nat} {w p bt u q : Nat → Nat} (h : TF N T sec w p bt u q) : mP N T := by
  intro t ht q0
  obtain ⟨-, -, h3⟩ := h
  obtain ⟨-, h1, -, -, -, h2, -⟩ := h3 t ht
  rw [h1] at q0
  exact nI_ne0 (by omega) (by omega) q0
theorem TF.mU {N : bS} {T sec : Nat} {w p bt u q : Nat → Nat} (h : TF N T sec w p bt u q) : ∀ t, t < T → mU N t (u t) := by
  intro t ht
  obtain ⟨h0, hs, h3⟩ := h
  obtain ⟨-, h1, h2, -, -, hp, hb, hu, hq, hm⟩ := h3 t ht
  refine ⟨hu.1, by omega, ?_, fun k hk1 hk2 q0 => ?_⟩
  · rw [h0, h1, h2, nI_add, rmi_nI (by omega) (by omega) (by omega), hm]
  · rw [h0, h1, h2, nI_add, rmi_nI (by omega) (by omega) (by omega)] at q0
    have q1 := (nI_eq (by have := Nat.mod_lt (sec + k) (show p t > 0 by omega); omega) (by omega)).mp q0
    have q2 := mod_same (x := sec) (u := k) (v := u t) (p := p t) (by omega) (by omega) (by omega)
    omega
/-- whether a tower strikes in the next second -/
theorem TF.strike {N : bS} {T sec : Nat} {w p bt u q : Nat → Nat} (h : TF N T sec w p bt u q) {t : Nat} (ht : t < T) : rmi (nI (sec + 1)) (N 1 t) = N 2 t ↔ u t = 1 := by
  obtain ⟨h0, hs, h3⟩ := h
  obtain ⟨-, h1, h2, -, -, hp, hb, hu, hq, hm⟩ := h3 t ht
  rw [h1, h2, rmi_nI (by omega) (by omega) (by omega), nI_eq (by have := Nat.mod_lt (sec + 1) (show p t > 0 by omega); omega) (by omega)]
  constructor
  · intro q0
    have q2 := mod_same (x := sec) (u := 1) (v := u t) (p := p t) (by omega) (by omega) (by omega)
    omega
  · intro q0
    rw [← hm, q0]
/-! the reference's strike, place by place -/
theorem mS1_low {X : bS} {p : Int32} {t k : Nat} (hk : k < 17) : ∀ j : Nat, mS1 X p t j 3 k = X 3 k
  | 0 => rfl
  | j + 1 => by
    unfold mS1
    rw [up2_ne _ _ (Or.inr (by omega)), up2_ne _ _ (Or.inr (by omega))]
    exact mS1_low hk j
theorem mS1_held {X : bS} {p : Int32} {t : Nat} (ht : t < 8) {r t' : Nat} (ht' : t' < 8) : ∀ j : Nat, j ≤ 6 → mS1 X p t j 3 (23 + 8 * r + t') = if r < j ∧ t' = t then 0 else X 3 (23 + 8 * r + t')
  | 0, _ => by rw [if_neg (by omega)]; rfl
  | j + 1, hj => by
    unfold mS1
    by_cases e : r = j ∧ t' = t
    · rw [if_pos (by omega), e.1, e.2, up2_eq]
    · rw [up2_ne _ _ (Or.inr (by omega)), up2_ne _ _ (Or.inr (by omega)), mS1_held ht ht' j (by omega)]
      by_cases e2 : r < j ∧ t' = t
      · rw [if_pos e2, if_pos (by omega)]
      · rw [if_neg e2, if_neg (by omega)]
theorem mS1_pur {X : bS} {p : Int32} {t : Nat} (ht : t < 8) {r : Nat} (hr : r < 6) : ∀ j : Nat, j ≤ 6 → mS1 X p t j 3 (17 + r) = if r < j then X 3 (17 + r) + p * X 3 (23 + 8 * r + t) else X 3 (17 + r)
  | 0, _ => by rw [if_neg (by omega)]; rfl
  | j + 1, hj => by
    unfold mS1
    rw [up2_ne _ _ (Or.inr (by omega))]
    by_cases e : r = j
    · rw [if_pos (by omega), e, up2_eq, mS1_held ht ht j (by omega), if_neg (by omega), mS1_pur ht (by omega) j (by omega), if_neg (by omega)]
    · rw [up2_ne _ _ (Or.inr (by omega)), mS1_pur ht hr j (by omega)]
      by_cases e2 : r < j
      · rw [if_pos e2, if_pos (by omega)]
      · rw [if_neg e2, if_neg (by omega)]
def u1 (p u : Nat → Nat) (t : Nat) : Nat := if u t = 1 then p t else u t - 1
def q1 (u q : Nat → Nat) (t : Nat) : Nat := if u t = 1 then 0 else q t + 1
theorem mPr_of {X N : bS} {R t : Nat} (h1 : X 3 (1 + t) = N 3 (1 + t)) (h0 : X 0 t = N 0 t) (hh : ∀ r, r < R → X 3 (23 + 8 * r + t) = N 3 (23 + 8 * r + t)) : mPr X R t = mPr N R t := by
  unfold mPr mPb mDv
  rw [h1, h0, sma_congr rfl R (fun r hr => by rw [hh r hr])]
/-- i towers done -/
def GoC (N X : bS) (R sec i : Nat) (u q : Nat → Nat) : Prop := X 3 0 = nI (sec + 1) ∧ (∀ t, t < 8 → X 3 (1 + t) = if t < i then nI (q1 u q t) else N 3 (1 + t)) ∧ (∀ r t, r < 6 → t < 8 → X 3 (23 + 8 * r + t) = if t < i ∧ r < R ∧ u t = 1 then 0 else N 3 (23 + 8 * r + t)) ∧ ∀ r, r < R → X 3 (17 + r) = sma (N 3 (17 + r)) (fun t => if u t = 1 then mPr N R t * N 3 (23 + 8 * r + t) else 0) i
theorem goC {N : bS} {T R sec : Nat} {w p bt u q : Nat → Nat} (h : TF N T sec w p bt u q) (hT : T ≤ 8) (hR : R ≤ 6) : ∀ i : Nat, i ≤ T → GoC N (mGo N R i) R sec i u q
  | 0, _ => by
    refine ⟨?_, fun t ht => ?_, fun r t hr ht => ?_, fun r hr => ?_⟩
    · show up2 N 3 0 _ 3 0 = _
      rw [up2_eq, h.1]
      exact nI_1 sec
    · rw [if_neg (by omega)]
      exact up2_ne _ _ (Or.inr (by omega))
    · rw [if_neg (by omega)]
      exact up2_ne _ _ (Or.inr (by omega))
    · exact up2_ne _ _ (Or.inr (by omega))
  | i + 1, hi => by
    obtain ⟨c1, c2, c3, c4⟩ := goC h hT hR i (by omega)
    have e0 : mGo N R i 0 i = N 0 i := mGo_row N R i (by decide) i
    have e1 : mGo N R i 1 i = N 1 i := mGo_row N R i (by decide) i
    have e2 : mGo N R i 2 i = N 2 i := mGo_row N R i (by decide) i
    have hst : rmi (mGo N R i 3 0) (mGo N R i 1 i) = mGo N R i 2 i ↔ u i = 1 := by rw [c1, e1, e2]; exact h.strike (by omega)
    have h2i : mGo N R i 3 (1 + i) = N 3 (1 + i) := by rw [c2 i (by omega), if_neg (by omega)]
    have hpi : mPr (mGo N R i) R i = mPr N R i := mPr_of h2i e0 (fun r hr => by rw [c3 r i (by omega) (by omega), if_neg (by omega)])
    obtain ⟨-, -, -, hq9, -⟩ := h.2.2 i (by omega)
    by_cases c : u i = 1
    · rw [mGo_str (hst.mpr c)]
      unfold mStr
      rw [hpi]
      refine ⟨?_, fun t ht => ?_, fun r t hr ht => ?_, fun r hr => ?_⟩
      · rw [up2_ne _ _ (Or.inr (by omega)), up2_ne _ _ (Or.inr (by omega)), mS1_low (by omega), c1]
      · rw [up2_ne _ _ (Or.inr (by omega))]
        by_cases e : t = i
        · rw [e, up2_eq, if_pos (by omega)]
          unfold q1
          rw [if_pos c, nI_0]
        · rw [up2_ne _ _ (Or.inr (by omega)), mS1_low (by omega), c2 t ht]
          by_cases e3 : t < i
          · rw [if_pos e3, if_pos (by omega)]
          · rw [if_neg e3, if_neg (by omega)]
      · rw [up2_ne _ _ (Or.inr (by omega)), up2_ne _ _ (Or.inr (by omega)), mS1_held (by omega) ht R hR, c3 r t hr ht]
        by_cases e : r < R ∧ t = i
        · rw [if_pos e, if_pos ⟨by omega, e.1, by rw [e.2]; exact c⟩]
        · rw [if_neg e]
          by_cases e3 : t < i ∧ r < R ∧ u t = 1
          · rw [if_pos e3, if_pos ⟨by omega, e3.2⟩]
          · rw [if_neg e3, if_neg (fun z => by
              rcases (show t < i ∨ t = i by omega) with z1 | z1
              · exact e3 ⟨z1, z.2⟩
              · exact e ⟨z.2.1, z1⟩)]
      · rw [up2_ne _ _ (Or.inr (by omega)), up2_ne _ _ (Or.inr (by omega)), mS1_pur (by omega) (by omega) R hR, if_pos hr, c4 r hr, c3 r i (by omega) (by omega), if_neg (by omega)]
        show _ = sma _ _ i + (if u i = 1 then _ else _)
        rw [if_pos c]
    · rw [mGo_keep (fun z => c (hst.mp z))]
      refine ⟨?_, fun t ht => ?_, fun r t hr ht => ?_, fun r hr => ?_⟩
      · rw [up2_ne _ _ (Or.inr (by omega)), c1]
      · by_cases e : t = i
        · rw [e, up2_eq, if_pos (by omega), h2i, hq9]
          unfold q1
          rw [if_neg c]
          exact nI_1 _
        · rw [up2_ne _ _ (Or.inr (by omega)), c2 t ht]
          by_cases e3 : t < i
          · rw [if_pos e3, if_pos (by omega)]
          · rw [if_neg e3, if_neg (by omega)]
      · rw [up2_ne _ _ (Or.inr (by omega)), c3 r t hr ht]
        by_cases e3 : t < i ∧ r < R ∧ u t = 1
        · rw [if_pos e3, if_pos ⟨by omega, e3.2⟩]
        · rw [if_neg e3, if_neg (fun z => by
            rcases (show t < i ∨ t = i by omega) with z1 | z1
            · exact e3 ⟨z1, z.2⟩
            · exact c (z1 ▸ z.2.2))]
      · rw [up2_ne _ _ (Or.inr (by omega)), c4 r hr]
        show _ = sma _ _ i + (if u i = 1 then _ else _)
        rw [if_neg c, Int32.add_zero]
theorem TF.go {N : bS} {T R sec : Nat} {w p bt u q : Nat → Nat} (h : TF N T sec w p bt u q) (hT : T ≤ 8) (hR : R ≤ 6) (hs : sec + 1 < 2 ^ 30) : TF (mGo N R T) T (sec + 1) w p bt (u1 p u) (q1 u q) := by
  obtain ⟨c1, c2, c3, c4⟩ := goC h hT hR T (Nat.le_refl T)
  refine ⟨c1, hs, fun t ht => ?_⟩
  obtain ⟨h0, h1, h2, h3, hw, hp, hb, hu, hq, hm⟩ := h.2.2 t ht
  refine ⟨(mGo_row N R t (by decide) T).trans h0, (mGo_row N R t (by decide) T).trans h1, (mGo_row N R t (by decide) T).trans h2, by rw [c2 t (by omega), if_pos ht], hw, hp, hb, ?_, ?_, ?_⟩
  · unfold u1
    split <;> omega
  · unfold u1 q1
    split <;> omega
  · unfold u1
    split
    · rename_i e
      rw [e] at hm
      rw [Nat.add_mod_right]
      exact hm
    · rw [← hm]
      congr 1
      omega
