/-! ===== the law's own worlds ===== -/
def Dsx (a b x : Nat → Nat) (T R sz : Nat) : Prop := (∀ i j : Nat, i < 14 → j < 10 + T → a i ≠ b j) ∧ (∀ i j : Nat, i < 14 → j < 6 + R → a i ≠ x j) ∧ (∀ i j : Nat, i < 10 + T → j < 6 + R → b i ≠ x j) ∧ (∀ i : Nat, i < 14 → sz ≤ a i) ∧ (∀ j : Nat, j < 10 + T → sz ≤ b j) ∧ ∀ j : Nat, j < 6 + R → sz ≤ x j
def L1 (D : va_G) (cI cQ : ClassId) (a b x : Nat → Nat) (S N : bS) (T R : Nat) (P : bS → Prop) (U : State) (H : Heap) : Prop := BW D cI cQ a S U H ∧ SW D cI cQ b N T R U H ∧ ∃ F : bS, XW D cI cQ x F T R U H ∧ P F
theorem XW.kept {D : va_G} {cI cQ : ClassId} {x : Nat → Nat} {F : bS} {n m : Nat} {U : State} {H H1 : Heap} (h : XW D cI cQ x F n m U H) (hq : ∀ k : Nat, k < 6 + m → H1[x k]? = H[x k]?) : XW D cI cQ x F n m U H1 := GW.kept h hq
theorem XW.lt {D : va_G} {cI cQ : ClassId} {x : Nat → Nat} {F : bS} {n m : Nat} {U : State} {H : Heap} (h : XW D cI cQ x F n m U H) : ∀ k : Nat, k < 6 + m → x k < H.size := GW.lt h
