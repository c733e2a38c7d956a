section
-- ===== PART A: goes FIRST, ahead of the names: the tables' words, and 'selects' of the private methods out of them =====
/-- a private method of a class that the tables say can be made, by its rows of tables_1 -/
def lw_okq (q : MethodName × Nat) : Prop := (q.1.cls ≠ "java/lang/invoke/MethodHandle" ∧ q.1.cls ≠ "java/lang/invoke/VarHandle") ∧ Cond.instantiable q.1.cls q.2 ∈ tables_1 ∧ Cond.privateMethod q.1 ∈ tables_1 ∧ Cond.instanceMethod q.1 ∈ tables_1
theorem lw_p0 : lw_okq (⟨"java/lang/Throwable", "fillInStackTrace", "(I)Ljava/lang/Throwable;"⟩, 6) := ⟨⟨by decide +kernel, by decide +kernel⟩, List.mem_of_getElem? (i := 98) (by decide +kernel), List.mem_of_getElem? (i := 96) (by decide +kernel), List.mem_of_getElem? (i := 97) (by decide +kernel)⟩
theorem lw_p1 : lw_okq (⟨"BellHush", "goOneSecond", "()I"⟩, 10) := ⟨⟨by decide +kernel, by decide +kernel⟩, List.mem_of_getElem? (i := 11) (by decide +kernel), List.mem_of_getElem? (i := 128) (by decide +kernel), List.mem_of_getElem? (i := 129) (by decide +kernel)⟩
theorem lw_p2 : lw_okq (⟨"BellHush", "strike", "(I)V"⟩, 10) := ⟨⟨by decide +kernel, by decide +kernel⟩, List.mem_of_getElem? (i := 11) (by decide +kernel), List.mem_of_getElem? (i := 132) (by decide +kernel), List.mem_of_getElem? (i := 133) (by decide +kernel)⟩
theorem lw_p3 : lw_okq (⟨"BellHush", "priceNow", "(I)I"⟩, 10) := ⟨⟨by decide +kernel, by decide +kernel⟩, List.mem_of_getElem? (i := 11) (by decide +kernel), List.mem_of_getElem? (i := 136) (by decide +kernel), List.mem_of_getElem? (i := 137) (by decide +kernel)⟩
theorem lw_p4 : lw_okq (⟨"BellHush", "dovesNow", "(I)I"⟩, 10) := ⟨⟨by decide +kernel, by decide +kernel⟩, List.mem_of_getElem? (i := 11) (by decide +kernel), List.mem_of_getElem? (i := 140) (by decide +kernel), List.mem_of_getElem? (i := 141) (by decide +kernel)⟩
theorem lw_p5 : lw_okq (⟨"BellHush", "requireTower", "(I)V"⟩, 10) := ⟨⟨by decide +kernel, by decide +kernel⟩, List.mem_of_getElem? (i := 11) (by decide +kernel), List.mem_of_getElem? (i := 165) (by decide +kernel), List.mem_of_getElem? (i := 166) (by decide +kernel)⟩
theorem lw_p6 : lw_okq (⟨"BellHush", "heldByAll", "(I)I"⟩, 10) := ⟨⟨by decide +kernel, by decide +kernel⟩, List.mem_of_getElem? (i := 11) (by decide +kernel), List.mem_of_getElem? (i := 205) (by decide +kernel), List.mem_of_getElem? (i := 206) (by decide +kernel)⟩
theorem lw_p7 : lw_okq (⟨"BellHush", "requireTrader", "(I)V"⟩, 10) := ⟨⟨by decide +kernel, by decide +kernel⟩, List.mem_of_getElem? (i := 11) (by decide +kernel), List.mem_of_getElem? (i := 225) (by decide +kernel), List.mem_of_getElem? (i := 226) (by decide +kernel)⟩
theorem lw_p8 : lw_okq (⟨"BellHush", "worthBehind", "(II)I"⟩, 10) := ⟨⟨by decide +kernel, by decide +kernel⟩, List.mem_of_getElem? (i := 11) (by decide +kernel), List.mem_of_getElem? (i := 238) (by decide +kernel), List.mem_of_getElem? (i := 239) (by decide +kernel)⟩
theorem lw_p9 : lw_okq (⟨"BellHush", "closing", "(I)I"⟩, 10) := ⟨⟨by decide +kernel, by decide +kernel⟩, List.mem_of_getElem? (i := 11) (by decide +kernel), List.mem_of_getElem? (i := 242) (by decide +kernel), List.mem_of_getElem? (i := 243) (by decide +kernel)⟩
theorem lw_p10 : lw_okq (⟨"BellHush", "closingWith", "(II)I"⟩, 10) := ⟨⟨by decide +kernel, by decide +kernel⟩, List.mem_of_getElem? (i := 11) (by decide +kernel), List.mem_of_getElem? (i := 246) (by decide +kernel), List.mem_of_getElem? (i := 247) (by decide +kernel)⟩
theorem lw_p11 : lw_okq (⟨"BellHush", "priceBehind", "(II)I"⟩, 10) := ⟨⟨by decide +kernel, by decide +kernel⟩, List.mem_of_getElem? (i := 11) (by decide +kernel), List.mem_of_getElem? (i := 250) (by decide +kernel), List.mem_of_getElem? (i := 251) (by decide +kernel)⟩
theorem lw_p12 : lw_okq (⟨"BellHush", "shortTowers", "(I)I"⟩, 10) := ⟨⟨by decide +kernel, by decide +kernel⟩, List.mem_of_getElem? (i := 11) (by decide +kernel), List.mem_of_getElem? (i := 262) (by decide +kernel), List.mem_of_getElem? (i := 263) (by decide +kernel)⟩
theorem lw_p13 : lw_okq (⟨"BellHush", "riseUntilStroke", "(I)I"⟩, 10) := ⟨⟨by decide +kernel, by decide +kernel⟩, List.mem_of_getElem? (i := 11) (by decide +kernel), List.mem_of_getElem? (i := 278) (by decide +kernel), List.mem_of_getElem? (i := 279) (by decide +kernel)⟩
def lw_privs_1 : List (MethodName × Nat) := [(⟨"java/lang/Throwable", "fillInStackTrace", "(I)Ljava/lang/Throwable;"⟩, 6), (⟨"BellHush", "goOneSecond", "()I"⟩, 10), (⟨"BellHush", "strike", "(I)V"⟩, 10), (⟨"BellHush", "priceNow", "(I)I"⟩, 10), (⟨"BellHush", "dovesNow", "(I)I"⟩, 10), (⟨"BellHush", "requireTower", "(I)V"⟩, 10), (⟨"BellHush", "heldByAll", "(I)I"⟩, 10), (⟨"BellHush", "requireTrader", "(I)V"⟩, 10), (⟨"BellHush", "worthBehind", "(II)I"⟩, 10), (⟨"BellHush", "closing", "(I)I"⟩, 10), (⟨"BellHush", "closingWith", "(II)I"⟩, 10), (⟨"BellHush", "priceBehind", "(II)I"⟩, 10), (⟨"BellHush", "shortTowers", "(I)I"⟩, 10), (⟨"BellHush", "riseUntilStroke", "(I)I"⟩, 10)]
theorem lw_r1 : ∀ q ∈ lw_privs_1, lw_okq q := List.forall_mem_cons.mpr ⟨lw_p0, List.forall_mem_cons.mpr ⟨lw_p1, List.forall_mem_cons.mpr ⟨lw_p2, List.forall_mem_cons.mpr ⟨lw_p3, List.forall_mem_cons.mpr ⟨lw_p4, List.forall_mem_cons.mpr ⟨lw_p5, List.forall_mem_cons.mpr ⟨lw_p6, List.forall_mem_cons.mpr ⟨lw_p7, List.forall_mem_cons.mpr ⟨lw_p8, List.forall_mem_cons.mpr ⟨lw_p9, List.forall_mem_cons.mpr ⟨lw_p10, List.forall_mem_cons.mpr ⟨lw_p11, List.forall_mem_cons.mpr ⟨lw_p12, List.forall_mem_cons.mpr ⟨lw_p13, fun _ h => absurd h List.not_mem_nil⟩⟩⟩⟩⟩⟩⟩⟩⟩⟩⟩⟩⟩⟩
def lw_privs : List (MethodName × Nat) := lw_privs_1
def lw_tbl : List Cond := k2_sels lw_privs ++ tables_1
theorem lw_privs_ok : ∀ q ∈ lw_privs, lw_okq q := lw_r1
/-- the streams that the claim lets the run draw from -/
abbrev lw_cs : List Choice := [Jvm.Choice.named "NaN.bits"]
theorem lw_bits : nanBits ∈ lw_cs := by first | decide | exact List.mem_cons_self | simp [lw_cs, nanBits]
/-! ===== BEGIN words of one list among another's, by their places ===== -/
theorem goodIn_r {big : List Cond} (ws : List Cond) (ps : List Nat) (hp : ws = ps.filterMap (fun i => big[i]?)) (h : ws.all goodWord = true) : GoodIn big ws := by
  intro w hw
  have h1 := List.all_eq_true.mp h w hw
  rw [hp] at hw
  obtain ⟨i, -, hi⟩ := List.mem_filterMap.mp hw
  have hm : w ∈ big := by first | exact List.mem_of_getElem? hi | exact List.getElem?_mem hi
  exact ⟨hm, good_of_word h1⟩
theorem goodIn_app {big a b : List Cond} (ha : GoodIn big a) (hb : GoodIn big b) : GoodIn big (a ++ b) := fun w h => (List.mem_append.mp h).elim (ha w) (hb w)
theorem goodIn_ca {big a b : List Cond} {c : Cond} (ha : GoodIn big (c :: a)) (hb : GoodIn big b) : GoodIn big (c :: (a ++ b)) := fun w h => (List.mem_cons.mp h).elim (fun e => ha w (List.mem_cons.mpr (Or.inl e))) (fun h => (List.mem_append.mp h).elim (fun h => ha w (List.mem_cons.mpr (Or.inr h))) (hb w))
theorem goodIn_sub {big ws : List Cond} (hm : ∀ w ∈ ws, w ∈ big) (h : ws.all goodWord = true) : GoodIn big ws := fun w hw => ⟨hm w hw, good_of_word (List.all_eq_true.mp h w hw)⟩
/-! ===== END ===== -/

/-! ===== BEGIN new T[n][m]: the outer array a place, the inner ones among the pooled ===== -/
/-- f, but v at every address of l -/
def vr_up {α : Type} (f : Nat → α) (l : List Nat) (v : α) : Nat → α := fun a => if a ∈ l then v else f a
theorem vr_up_in {α : Type} {f : Nat → α} {l : List Nat} {v : α} {a : Nat} (h : a ∈ l) : vr_up f l v a = v := if_pos h
theorem vr_up_ne {α : Type} {f : Nat → α} {l : List Nat} {v : α} {a : Nat} (h : a ∉ l) : vr_up f l v a = f a := if_neg h
theorem vr_rows {L l : List Nat} {f : Nat → va_E} {e : va_E} (h : ∀ a, a ∈ l → a ∉ L) : va_pl L f ++ l.map (fun a => (a, e)) = va_pl (L ++ l) (vr_up f l e) := by
  unfold va_pl
  rw [List.map_append]
  congr 1
  · apply List.map_congr_left
    intro a ha
    rw [vr_up_ne (fun q => h a q ha)]
  · apply List.map_congr_left
    intro a ha
    rw [vr_up_in ha]
theorem vr_lay {X rows : va_W} {x : Nat × va_E} {pl : va_W} {D : va_G} {cl : List vw_C} {H : Heap} (hP : va_P D cl (((X ++ pl) ++ [x]) ++ rows) H) : va_P D cl ((X ++ [x]) ++ (pl ++ rows)) H := by
  rw [List.append_assoc (X ++ pl)] at hP
  have h := va_P.swap hP
  rw [← List.append_assoc X] at h
  have h2 := va_P.swap h
  rw [List.append_assoc (X ++ [x])] at h2
  exact h2
theorem vr_layD {X rows : va_W} {x : Nat × va_E} {pl : va_W} {A : Nat → Prop} (hD : va_D A (((X ++ pl) ++ [x]) ++ rows)) : va_D A ((X ++ [x]) ++ (pl ++ rows)) := by
  rw [List.append_assoc (X ++ pl)] at hD
  have h := va_D.swap hD
  rw [← List.append_assoc X] at h
  have h2 := va_D.swap h
  rw [List.append_assoc (X ++ [x])] at h2
  exact h2
theorem vr_outer (c : ClassId) (N h0 : Nat) : ∀ i : Nat, Jvm.Free.Multi.outerC c N h0 i = arrV c N (fun j => va_rf (if j < i then some (h0 + 1 + j) else none))
  | 0 => by
    show ({ cls := c, slots := Array.replicate N .null, vm := .none } : Cell) = _
    rw [arrV_new]
    refine congrArg (arrV c N) (funext fun j => ?_)
    simp [va_rf]
  | i + 1 => by
    show (Jvm.Free.Multi.outerC c N h0 i).setSlot i (.ref (h0 + 1 + i)) = _
    rw [vr_outer c N h0 i, arrV_store]
    refine congrArg (arrV c N) (funext fun j => ?_)
    by_cases e : j = i
    · subst e
      simp [updV, va_rf]
    · by_cases h : j < i
      · simp [updV, e, h, Nat.lt_succ_of_lt h]
      · simp [updV, e, h, show ¬ j < i + 1 by omega]
/-- an array class's component is an array class: by the tables -/
def va_AOA (ty : FieldType) (U : State) : Prop := (Cond.arrayOver (.array ty)).before #[] U = true
theorem va_AOA.use {ty : FieldType} {A : Array Value} {U : State} (h : va_AOA ty U) : (Cond.arrayOver (.array ty)).before A U = true := h
section VGM
variable {p : Program} {l : Launch} {e : Env} {R : Room} {s : State} {m : MethodId} {args : Array Value} {below : List Frame} {meth : Method} {c : Code} {H : Heap} {locs : List Loc} {cells slots : Nat} {Q : State → Prop}
variable {cc : ByteArray} {pc : Nat} {ls : Array Slot} {rest : List Value} {D : va_G} {cl : List vw_C} {A : Nat → Prop} {a : Nat} {tys : List (ClassId × FieldType)} {ws : va_W} {H0 : Heap}
theorem va_mna {X : va_W} {L : List Nat} {f : Nat → va_E} {cc : ByteArray} (hexec : p.tables.exec = Jvm.exec) (hb : c.code = cc) {own : String} {index : Nat} {ty : FieldType} {cy : ClassId} (hown : s.vm.findClass own = some m.cls) (hclink : (Cond.classLink own index ("[" ++ (FieldType.array ty).toString)).before args s = true) (hover : va_AOA ty s) (harr : (Cond.arrayClass ty).before args s = true) (hcy : s.vm.findClass (FieldType.array ty).toString = some cy)
    (hK : va_K D cl tys s) (hP : va_P D cl (X ++ va_pl L f) H) (hD : va_D A (X ++ va_pl L f)) (hS : va_S A H0 H locs) (hA : ∀ q, H0.size ≤ q → A q) {n k : Int32} {N' K' : Nat} {z : vp_A} (hn : ¬ n < 0) (hk : ¬ k < 0) (hN : n.toNatClampNeg = N') (hM : k.toNatClampNeg = K')
    (hb1 : N' * 4 ≤ 536870912) (hb2 : K' * componentBytes ty ≤ 536870912) (hb3 : K' ≤ 536870912) (hdf : fits ty (defaultValue ty) = true) (hdd : (defaultValue ty).isDefault = true) (hcells : cells + (1 + N') ≤ R.cells) (hslots : slots + (N' + N' * K') ≤ R.slots) (hz : ∀ c : ClassId, Jvm.Free.Multi.innerC c K' (defaultValue ty) = vp_cell c z) (hdg : decode cc pc = .ok (.multianewarray index 2, 4))
    (kk : ∀ (q : Nat) (r : Nat → Nat) (cA : ClassId) (H1 : Heap), (∀ i j : Nat, i < N' → j < N' → r i = r j → i = j) → (∀ i : Nat, i < N' → r i ∉ L) → va_K D cl (tys ++ [(cA, .array ty)]) s →
      va_P D cl ((X ++ [(q, .inl (cA, N', .inr (.inr (.inr (.inr (fun i => if i < N' then some (r i) else none))))))]) ++ va_pl (L ++ (List.range N').map r) (vr_up f ((List.range N').map r) (.inl (cy, z)))) H1 → va_D A ((X ++ [(q, .inl (cA, N', .inr (.inr (.inr (.inr (fun i => if i < N' then some (r i) else none))))))]) ++ va_pl (L ++ (List.range N').map r) (vr_up f ((List.range N').map r) (.inl (cy, z)))) → va_S A H0 H1 locs →
      W p l e R s m args below meth c H1 locs (cells + 1 + N') (slots + N' + N' * K') Q (F0 m (pc + 4) ls (.ref q :: rest))) : W p l e R s m args below meth c H locs cells slots Q (F0 m pc ls (.int k :: .int n :: rest)) := by
  subst hN
  subst hM
  intro T hT Xs
  obtain ⟨vm₁, cA, comp, -, fA, fC, hO, -, X', step⟩ := Xs.multianewarray2F hexec hown hclink (va_AOA.use hover) harr (g := F0 m pc ls (.int k :: .int n :: rest)) rfl (by rw [hb]; exact hdg) rfl hn hk hb1 hb2 hb3 hdf hdd hcells hslots
  have ec : some cy = some comp := hcy.symm.trans fC
  cases ec
  generalize hF : Jvm.Free.Multi.fill (T.setVm vm₁) cA cy n.toNatClampNeg k.toNatClampNeg (defaultValue ty) n.toNatClampNeg = F at X' step
  have hTh : (T.setVm vm₁).heap = H := hT
  obtain ⟨f1, f2, -, -⟩ := Jvm.Free.Multi.fill_facts (T.setVm vm₁) cA cy n.toNatClampNeg k.toNatClampNeg (defaultValue ty) n.toNatClampNeg
  rw [hF, hTh] at f1 f2
  have hold : ∀ x : Nat, x < H.size → F.heap[x]? = H[x]? := fun x hx => by
    have := Jvm.Free.Multi.fill_old (T.setVm vm₁) cA cy n.toNatClampNeg k.toNatClampNeg (defaultValue ty) (a := x) (by rw [hTh]; exact hx) n.toNatClampNeg
    rw [hF, hTh] at this
    exact this
  have hrow : ∀ j : Nat, j < n.toNatClampNeg → F.heap[H.size + 1 + j]? = some (vp_cell cy z) := fun j hj => by
    have := Jvm.Free.Multi.fill_inner (T.setVm vm₁) cA cy n.toNatClampNeg k.toNatClampNeg (defaultValue ty) n.toNatClampNeg j hj
    rw [hF, hTh, hz] at this
    exact this
  have hout : Jvm.Free.Multi.outerC cA n.toNatClampNeg H.size n.toNatClampNeg = vp_cell cA (n.toNatClampNeg, .inr (.inr (.inr (.inr (fun i => if i < n.toNatClampNeg then some (H.size + 1 + i) else none))))) := by
    rw [vp_cell_q]
    exact vr_outer cA n.toNatClampNeg H.size n.toNatClampNeg
  rw [hout] at f2
  have hlt : ∀ a, a ∈ L → a < H.size := fun a ha => by
    obtain ⟨k9, hk9⟩ := va_pl_get (X := X) (f := f) ha
    exact (hP k9 _ hk9).lt
  have hnl : ∀ i : Nat, i < n.toNatClampNeg → H.size + 1 + i ∉ L := fun i _ h => by
    have := hlt _ h
    omega
  have hnm : ∀ a, a ∈ (List.range n.toNatClampNeg).map (fun i => H.size + 1 + i) → a ∉ L := fun a ha h => by
    obtain ⟨i, -, rfl⟩ := List.mem_map.mp ha
    have := hlt _ h
    omega
  have hP0 : va_P D cl (X ++ va_pl L f) F.heap := hP.kept (fun k9 x hx => hold x.1 ((hP k9 x hx).lt))
  have hP1 : va_P D cl ((X ++ va_pl L f) ++ [(H.size, .inl (cA, n.toNatClampNeg, .inr (.inr (.inr (.inr (fun i => if i < n.toNatClampNeg then some (H.size + 1 + i) else none))))))]) F.heap := hP0.app (fun k9 x hx => by
    have h0 : k9 < 1 := (List.getElem?_eq_some_iff.mp hx).1
    rw [show k9 = 0 by omega] at hx
    cases hx
    exact f2)
  have hP2 : va_P D cl (((X ++ va_pl L f) ++ [(H.size, .inl (cA, n.toNatClampNeg, .inr (.inr (.inr (.inr (fun i => if i < n.toNatClampNeg then some (H.size + 1 + i) else none))))))]) ++ ((List.range n.toNatClampNeg).map (fun i => H.size + 1 + i)).map (fun a => (a, .inl (cy, z)))) F.heap := hP1.app (fun k9 x hx => by
    obtain ⟨a, ha, rfl⟩ := List.mem_map.mp (List.mem_of_getElem? hx)
    obtain ⟨i, hi, rfl⟩ := List.mem_map.mp ha
    exact hrow i (List.mem_range.mp hi))
  have hD2 : va_D A (((X ++ va_pl L f) ++ [(H.size, .inl (cA, n.toNatClampNeg, .inr (.inr (.inr (.inr (fun i => if i < n.toNatClampNeg then some (H.size + 1 + i) else none))))))]) ++ ((List.range n.toNatClampNeg).map (fun i => H.size + 1 + i)).map (fun a => (a, .inl (cy, z)))) := by
    have hD1 := hD.push (e := .inl (cA, n.toNatClampNeg, .inr (.inr (.inr (.inr (fun i => if i < n.toNatClampNeg then some (H.size + 1 + i) else none)))))) hP rfl (hA _ hS.1)
    generalize hW1 : (X ++ va_pl L f) ++ [(H.size, .inl (cA, n.toNatClampNeg, .inr (.inr (.inr (.inr (fun i => if i < n.toNatClampNeg then some (H.size + 1 + i) else none))))))] = W1 at hD1 hP1 ⊢
    have hle : ∀ (k9 : Nat) (x : Nat × va_E), W1[k9]? = some x → x.1 ≤ H.size := fun k9 x hx => by
      rw [← hW1] at hx
      by_cases hl : k9 < (X ++ va_pl L f).length
      · rw [List.getElem?_append_left hl] at hx
        exact Nat.le_of_lt ((hP k9 x hx).lt)
      · rw [List.getElem?_append_right (by omega)] at hx
        have h0 : k9 - (X ++ va_pl L f).length < 1 := (List.getElem?_eq_some_iff.mp hx).1
        rw [show k9 - (X ++ va_pl L f).length = 0 by omega] at hx
        cases hx
        exact Nat.le_refl _
    have hr : ∀ (k9 : Nat) (x : Nat × va_E), (((List.range n.toNatClampNeg).map (fun i => H.size + 1 + i)).map (fun a => ((a, .inl (cy, z)) : Nat × va_E)))[k9]? = some x → x.1 = H.size + 1 + k9 := fun k9 x hx => by
      rw [List.getElem?_map, List.getElem?_map] at hx
      by_cases h9 : k9 < n.toNatClampNeg
      · rw [List.getElem?_range h9] at hx
        cases hx
        rfl
      · have hn0 : (List.range n.toNatClampNeg)[k9]? = none := List.getElem?_eq_none (by rw [List.length_range]; omega)
        rw [hn0] at hx
        cases hx
    refine ⟨fun i j x y hi hj hxy => ?_, fun k9 x hx => ?_⟩
    · by_cases h1 : i < W1.length <;> by_cases h2 : j < W1.length
      · rw [List.getElem?_append_left h1] at hi
        rw [List.getElem?_append_left h2] at hj
        exact hD1.1 i j x y hi hj hxy
      · rw [List.getElem?_append_left h1] at hi
        rw [List.getElem?_append_right (by omega)] at hj
        have := hle _ _ hi
        have := hr _ _ hj
        omega
      · rw [List.getElem?_append_right (by omega)] at hi
        rw [List.getElem?_append_left h2] at hj
        have := hle _ _ hj
        have := hr _ _ hi
        omega
      · rw [List.getElem?_append_right (by omega)] at hi hj
        have := hr _ _ hi
        have := hr _ _ hj
        omega
    · by_cases h1 : k9 < W1.length
      · rw [List.getElem?_append_left h1] at hx
        exact hD1.2 k9 x hx
      · rw [List.getElem?_append_right (by omega)] at hx
        have := hr _ _ hx
        exact hA _ (by have := hS.1; omega)
  have hAr : ArrOfT s cA (.array ty) := fun N9 z9 => by
    obtain ⟨-, k9, hk9, cm9, hkk9⟩ := (hO 0 0 0).1
    exact ⟨(fun q hq => by cases hq), k9, hk9, cm9, hkk9⟩
  have hK2 : va_K D cl (tys ++ [(cA, .array ty)]) s := ⟨hK.1, fun k9 x hx => by
    by_cases hl : k9 < tys.length
    · rw [List.getElem?_append_left hl] at hx
      exact hK.2 k9 x hx
    · rw [List.getElem?_append_right (by omega)] at hx
      have h0 : k9 - tys.length < 1 := (List.getElem?_eq_some_iff.mp hx).1
      rw [show k9 - tys.length = 0 by omega] at hx
      cases hx
      exact ⟨hAr, fA⟩⟩
  obtain ⟨t, a1, b1⟩ := kk H.size (fun i => H.size + 1 + i) cA F.heap (fun i j _ _ h => by have h9 : H.size + 1 + i = H.size + 1 + j := h; omega) hnl hK2 (by rw [← vr_rows hnm]; exact vr_lay hP2) (by rw [← vr_rows hnm]; exact vr_layD hD2) ⟨by rw [f1]; have := hS.1; omega, fun x h1 h2 => (hold x (Nat.lt_of_lt_of_le h1 hS.1)).trans (hS.2.1 x h1 h2), hS.2.2⟩ F rfl X'
  refine ⟨t, step t ?_, b1⟩
  have e : T.heap.size = H.size := by rw [hT]
  rw [e]
  exact a1
end VGM
/-! ===== END ===== -/

/-! ===== BEGIN exceptions that leave a method, and their catching by the caller (launches without stack traces) ===== -/
section VXA
/-! The laws vx_back, vx_callV, vx_callS, vx_callSW, vx_throw0, vx_throwS follow proofs of the library, with one case more: JvmDerived/Free/Laws.lean (Back.of_free), Shelf42/LK1.lean (callV, callS), Shelf/KitTraced.lean (throwNew0V, throwNewS). -/
/-- where a method has thrown q: the class by its name, the cell, what was written, the world -/
def vx_T (XC : String → State → State → Prop) (st : State) (q : Addr) (t : State) (mc ms : Nat) (free : Addr → Prop) : Prop :=
  ∃ (E : String) (ce : Cell) (L : List Loc), XC E st t ∧ t.heap[q]? = some ce ∧ ce.vm = .none ∧ st.vm.findClass E = some ce.cls ∧ st.WarmedH t.vm ∧ st.sameButNew ({ t with vm := st.vm } : State) L mc ms ∧ ∀ z ∈ L, free z.base
def vx_Q (Qc : Array Value → State → Outcome → State → Prop) (XC : String → State → State → Prop) (mc ms : Nat) (free : Addr → Prop) : Array Value → State → Outcome → State → Prop := fun a st o t =>
  (Qc a st o t ∧ ∃ L, FrameEnd st o t L mc ms ∧ ∀ q ∈ L, free q.base) ∨ ∃ q, o = .threw q ∧ vx_T XC st q t mc ms free
/-- a callee that returns or throws -/
def vx_Met (l : Launch) (y : MethodName) (ws : List Cond) (rm : Room) (Pc : Array Value → State → Prop) (Qc : Array Value → State → Outcome → State → Prop) (XC : String → State → State → Prop) (mc ms : Nat) (free : Addr → Prop) : Prop :=
  MetFree l y (headSpec ws rm) Pc (fun _ _ _ _ _ => True) (vx_Q Qc XC mc ms free)
def vx_Post (XC : String → State → State → Prop) (mc ms : Nat) (free : Addr → Prop) : Pt → Array Value → Addr → Pt → Prop := fun A a q B =>
  ∃ (g : JFrame) (mk : MethodId) (t : State) (L : List Loc) (E : String) (ce : Cell), B.U.heap = t.heap ∧ B.U.vm = t.vm ∧ XC E (A.U.calling g mk a) t ∧ t.heap[q]? = some ce ∧ ce.vm = .none ∧ A.U.vm.findClass E = some ce.cls ∧ B.locs = A.locs ++ L ∧ (∀ z ∈ L, free z.base) ∧ B.cells = A.cells + mc ∧ B.slots = A.slots + ms
def vx_Back (l : Launch) (R : Room) (p : Program) (e : Env) (below : List Frame) (s : State) (sargs : Array Value) (y : MethodName) (len W9 : Nat)
    (Pre : Pt → Array Value → Prop) (Post : Pt → Array Value → Option Value → Pt → Prop) (PostX : Pt → Array Value → Addr → Pt → Prop) : Prop :=
  ∀ (m : MethodId) (meth : Method) (c : Code) (A : Pt) (g : JFrame) (ig : Instr) (mk : MethodId) (a : Array Value),
    Stand p l e R s m sargs below meth c A.U A.locs A.cells A.slots → g.method = m → g.locals.size = c.maxLocals → decode c.code g.pc = .ok (ig, len) →
    2 * g.monitorRoom + (g.stack.map fun v => v.category).sum ≤ W9 → A.U.methodNamed? y = some mk → Pre A a →
    (∃ (v : Option Value) (B : Pt), Stand p l e R s m sargs below meth c B.U B.locs B.cells B.slots ∧ Post A a v B ∧
      Steps p.tables e below (doInvoke e (A.U.setTop g) [] mk a).1 (B.U.setTop { g with pc := g.pc + len, stack := v.toList ++ g.stack })) ∨
    (∃ (q : Addr) (B : Pt), Stand p l e R s m sargs below meth c B.U B.locs B.cells B.slots ∧ PostX A a q B ∧
      Steps p.tables e below (doInvoke e (A.U.setTop g) [] mk a).1 ((B.U.setTop g).pushFrame (.throwing q)))
section Payer
variable {l : Launch} {R : Room} {p : Program} {e : Env} {below : List Frame} {s : State} {sargs : Array Value} {y : MethodName} {len W9 : Nat}
theorem vx_back {ws : List Cond} {rm : Room} {Pc : Array Value → State → Prop} {Qc : Array Value → State → Outcome → State → Prop} {XC : String → State → State → Prop} {mc ms : Nat} {free : Addr → Prop} {bytes : ByteArray} {maxL : Nat} {ret : Option FieldType}
    (hM : vx_Met l y ws rm Pc Qc XC mc ms free) (hblind : FrameBlind Pc) (hrc : rm.cells = mc) (hrs : rm.slots = ms)
    (hframes : rm.frames + 1 ≤ R.frames) (hlocals : W9 + (maxL + 11) + rm.locals ≤ R.locals)
    (hws : ∀ w ∈ ws, ∀ a' U, s.WarmedH U.vm → w.before a' U = true) (hcode : Cond.code y bytes maxL ret ∈ ws) (hinit : ∀ a' U, s.WarmedH U.vm → (Cond.initialized y.cls).before a' U = true) :
    vx_Back l R p e below s sargs y len W9 (PreOf R mc ms Pc) (PostOf Qc mc ms free) (vx_Post XC mc ms free) := by
  intro m meth c A g ig mk a X hg hsize hdg hW hn hp
  have h1 : (headSpec ws rm).pre.before a A.U = true := atoms_intro fun w hw => hws w hw _ _ X.warmed
  have h2 : (Cond.code y bytes maxL ret).before a A.U = true := hws _ hcode _ _ X.warmed
  have h3 : (Cond.initialized y.cls).before a A.U = true := hinit _ _ X.warmed
  have h4 : A.cells + (headSpec ws rm).room.cells ≤ R.cells := by rw [show (headSpec ws rm).room.cells = mc from hrc]; exact hp.1
  have h5 : A.slots + (headSpec ws rm).room.slots ≤ R.slots := by rw [show (headSpec ws rm).room.slots = ms from hrs]; exact hp.2.1
  have hPc : Pc a (A.U.calling g mk a) := hblind _ _ _ _ hp.2.2
  obtain ⟨U, Ls, c0, s0⟩ := A
  dsimp only [Pt.U, Pt.locs, Pt.cells, Pt.slots] at h1 h2 h3 h4 h5 X hn hPc ⊢
  obtain ⟨methY, cY, hmY, hcY, -, hlY, -, -, -, -⟩ := Cond.code_spec hn h2
  obtain ⟨kY, hkY, -⟩ := className_of_methodNamed hn
  have hinitY : kY.init = .initialized := Cond.initialized_spec (findClass_of_methodNamed hn) hkY h3
  have h : At U g.method c below := by rw [hg]; exact X.here
  have hlocals9 : W9 + (maxL + 11) + (headSpec ws rm).room.locals ≤ R.locals := hlocals
  have happ : (headSpec ws rm).appliesLoose y e.platform (U.calling g mk a) = true :=
    Spec.appliesLoose_calling (g := g) h hdg hn hkY hinitY
      (X.room_calling (g := g) (R' := (headSpec ws rm).room) hsize hmY hcY hframes (by rw [hlY]; omega) h4 h5) h1
  obtain ⟨mid, hmid⟩ := h.above
  have hfr : (U.setTop g).frames = (.java g :: mid) ++ below := by rw [State.frames_setTop' g h.top, hmid]; rfl
  obtain ⟨o, s₂, hsteps, -, hend, hq⟩ := Steps.callFree hM p X.admits X.cas X.clock (acts := []) hfr happ hPc trivial
  have hq' : vx_Q Qc XC mc ms free a (U.calling g mk a) o s₂ := hq
  rw [State.frames_setTop' g h.top] at hend
  obtain ⟨g₀, hg0⟩ := Option.isSome_iff_exists.mp h.top
  obtain ⟨r, hr⟩ := State.topJava?_eq_some.mp hg0
  have hr' : (({ U with heap := s₂.heap, slotsUsed := s₂.slotsUsed } : State).setVm s₂.vm).frames = .java g₀ :: r := hr
  rcases hq' with ⟨hqc, L, hfe, hL⟩ | ⟨q, rfl, E, ce, L, hx, hce, hcv, hcl, hW₂, hsm, hL⟩
  · obtain ⟨⟨v, rfl⟩, hW₂, e2, q2, q3, q4, q5, q6⟩ := id hfe
    have e3 : s₂ = ({ (U.calling g mk a).setFrames s₂.frames with heap := s₂.heap, slotsUsed := s₂.slotsUsed } : State).setVm s₂.vm := by
      have : s₂ = ({ s₂ with vm := (U.calling g mk a).vm } : State).setVm s₂.vm := rfl
      rw [e2] at this
      exact this
    obtain ⟨c₂, i₂, len₂, hc₂, hd₂, hf₂⟩ := hend
    have hW' : U.WarmedH s₂.vm := hW₂
    have hcc : c₂ = c := by
      have h1 : s₂.code? g.method = U.code? g.method := by
        rw [State.code?_eq, State.code?_eq, hW'.alike.method?]
      exact Option.some.inj (hc₂.symm.trans (h1.trans h.code))
    subst hcc
    have hlen : len₂ = len := by rw [hdg] at hd₂; cases hd₂; rfl
    subst hlen
    have hs₂ : s₂ = (({ U with heap := s₂.heap, slotsUsed := s₂.slotsUsed } : State).setVm s₂.vm).setTop { g with pc := g.pc + len₂, stack := v.toList ++ g.stack } := by
      refine e3.trans ?_
      rw [hf₂, State.calling_eq h.top, State.setFrames_setFrames, State.setTop_of_frames _ hr', hr]
      rfl
    have hsame : U.sameButNew ({ U with heap := s₂.heap, slotsUsed := s₂.slotsUsed } : State) L mc ms := by
      refine ⟨?_, q2, q3, q4, q5, q6⟩
      obtain ⟨t, ht, -⟩ := State.frames_cons hr
      show ({ U with heap := s₂.heap, slotsUsed := s₂.slotsUsed } : State) = { U.setFrames U.frames with heap := s₂.heap, slotsUsed := s₂.slotsUsed }
      rw [State.setFrames_self ht]
    subst hg
    refine Or.inl ⟨v, ⟨(({ U with heap := s₂.heap, slotsUsed := s₂.slotsUsed } : State).setVm s₂.vm), Ls ++ L, c0 + mc, s0 + ms⟩,
      ⟨X.admits, X.cas, X.clock, X.frames, X.room, X.hears, X.method, X.code, (X.here.setHeapUsed s₂.heap s₂.slotsUsed).setVm hW'.alike, X.tail, State.WarmedH.trans X.warmed hW', X.limits, X.bytes, X.same.trans (hsame.setVm s.vm)⟩,
      ⟨g, mk, s₂, L, rfl, rfl, hqc, rfl, hL, rfl, rfl⟩, ?_⟩
    show Steps p.tables e below _ ((({ U with heap := s₂.heap, slotsUsed := s₂.slotsUsed } : State).setVm s₂.vm).setTop { g with pc := g.pc + len₂, stack := v.toList ++ g.stack })
    rw [← hs₂]
    exact hsteps
  · obtain ⟨e2, q2, q3, q4, q5, q6⟩ := id hsm
    have e3 : s₂ = ({ (U.calling g mk a).setFrames s₂.frames with heap := s₂.heap, slotsUsed := s₂.slotsUsed } : State).setVm s₂.vm := by
      have : s₂ = ({ s₂ with vm := (U.calling g mk a).vm } : State).setVm s₂.vm := rfl
      rw [e2] at this
      exact this
    have hf₂ : s₂.frames = .throwing q :: .java g :: U.frames.tail := hend
    have hW' : U.WarmedH s₂.vm := hW₂
    have hs₂ : s₂ = ((({ U with heap := s₂.heap, slotsUsed := s₂.slotsUsed } : State).setVm s₂.vm).setTop g).pushFrame (.throwing q) := by
      refine e3.trans ?_
      rw [hf₂, State.calling_eq h.top, State.setFrames_setFrames, State.pushFrame, State.frames_setTop _ hr', State.setTop_of_frames _ hr', State.setFrames_setFrames, hr]
      rfl
    have hsame : U.sameButNew ({ U with heap := s₂.heap, slotsUsed := s₂.slotsUsed } : State) L mc ms := by
      refine ⟨?_, q2, q3, q4, q5, q6⟩
      obtain ⟨t, ht, -⟩ := State.frames_cons hr
      show ({ U with heap := s₂.heap, slotsUsed := s₂.slotsUsed } : State) = { U.setFrames U.frames with heap := s₂.heap, slotsUsed := s₂.slotsUsed }
      rw [State.setFrames_self ht]
    subst hg
    refine Or.inr ⟨q, ⟨(({ U with heap := s₂.heap, slotsUsed := s₂.slotsUsed } : State).setVm s₂.vm), Ls ++ L, c0 + mc, s0 + ms⟩,
      ⟨X.admits, X.cas, X.clock, X.frames, X.room, X.hears, X.method, X.code, (X.here.setHeapUsed s₂.heap s₂.slotsUsed).setVm hW'.alike, X.tail, State.WarmedH.trans X.warmed hW', X.limits, X.bytes, X.same.trans (hsame.setVm s.vm)⟩,
      ⟨g, mk, s₂, L, E, ce, rfl, rfl, hx, hce, hcv, hcl, rfl, hL, rfl, rfl⟩, ?_⟩
    show Steps p.tables e below _ (((({ U with heap := s₂.heap, slotsUsed := s₂.slotsUsed } : State).setVm s₂.vm).setTop g).pushFrame (.throwing q))
    rw [← hs₂]
    exact hsteps
end Payer
section Calls
variable {p : Program} {l : Launch} {e : Env} {R : Room} {s : State} {m : MethodId} {args : Array Value} {below : List Frame} {meth : Method} {c : Code} {T : State} {locs : List Loc} {cells slots : Nat}
theorem vx_callV (X : Stand p l e R s m args below meth c T locs cells slots) (hexec : p.tables.exec = Jvm.exec) {own C : String} {index : Nat} {y : MethodName} {bytes : ByteArray} {maxL : Nat} {ret : Option FieldType}
    (hown : s.vm.findClass own = some m.cls) (hlink : (Cond.methodLink own index y).before args s = true) (hinst : (Cond.instanceMethod y).before args s = true) (hsel : (Cond.selects C y y).before args s = true)
    (hcode : (Cond.code y bytes maxL ret).before args s = true) (hy : y.cls ≠ "java/lang/invoke/MethodHandle" ∧ y.cls ≠ "java/lang/invoke/VarHandle")
    {W9 : Nat} {Pre : Pt → Array Value → Prop} {Post : Pt → Array Value → Option Value → Pt → Prop} {PostX : Pt → Array Value → Addr → Pt → Prop} (hK : vx_Back l R p e below s args y 3 W9 Pre Post PostX)
    {b : Addr} {cellB : Cell} (hcell : T.heap[b]? = some cellB) (hobj : cellB.vm.isStatics = false) (hcls : s.vm.findClass C = some cellB.cls)
    {g : JFrame} (hg : g.method = m) (hsize : g.locals.size = c.maxLocals) {argsL rest : List Value} (hlen : ∀ sig, parseMethodDescriptor y.desc = some sig → argsL.length = sig.parameters.length)
    (hstack : g.stack = argsL.reverse ++ .ref b :: rest) (hW : 2 * g.monitorRoom + (rest.map fun v => v.category).sum ≤ W9) (hdg : decode c.code g.pc = .ok (.invokevirtual index, 3))
    (hpre : ∀ vm₁, s.WarmedH vm₁ → Pre ⟨T.setVm vm₁, locs, cells, slots⟩ (Value.ref b :: argsL).toArray) :
    (∃ (v : Option Value) (vm₁ : Vm) (B : Pt), s.WarmedH vm₁ ∧ Stand p l e R s m args below meth c B.U B.locs B.cells B.slots ∧ Post ⟨T.setVm vm₁, locs, cells, slots⟩ (Value.ref b :: argsL).toArray v B ∧
      ∀ target, Steps p.tables e below (B.U.setTop { g with pc := g.pc + 3, stack := v.toList ++ rest }) target → Steps p.tables e below (T.setTop g) target) ∨
    (∃ (q : Addr) (vm₁ : Vm) (B : Pt), s.WarmedH vm₁ ∧ Stand p l e R s m args below meth c B.U B.locs B.cells B.slots ∧ PostX ⟨T.setVm vm₁, locs, cells, slots⟩ (Value.ref b :: argsL).toArray q B ∧
      Steps p.tables e below (T.setTop g) ((B.U.setTop { g with stack := rest }).pushFrame (.throwing q))) := by
  obtain ⟨mk, methM, hnamed, hmethM, hstM, habM⟩ := Cond.instanceMethod_spec hinst
  obtain ⟨methM', cM, hmethM', -, -, -, -, -, -, hsigM⟩ := Cond.code_spec hnamed hcode
  cases hmethM.symm.trans hmethM'
  obtain ⟨c2, r2, m2, q1, q2, q3, q4, kP, hkP, hkPi⟩ := Cond.selects_spec hsel
  cases hcls.symm.trans q1
  cases (State.methodFound?_of_named hnamed hy).symm.trans q2
  cases hnamed.symm.trans q3
  have hselP : selectMethod e.platform s.vm cellB.cls mk = .method mk := by rw [Launch.admits_selectMethod X.admits]; exact q4
  obtain ⟨vm₁, X₁, hstep₁⟩ := X.invokevirtual hexec hown hlink hnamed hmethM hstM hkP hkPi hy (a := b) (cell := cellB) hcell
    (fun z h => by rw [h] at hobj; cases hobj) hselP hmethM habM hkP hkPi (g := g) hg (argsL := argsL) (rest := rest) (hlen _ hsigM) hstack hdg
  rcases hK m meth c ⟨T.setVm vm₁, locs, cells, slots⟩ { g with stack := rest } (.invokevirtual index) mk (Value.ref b :: argsL).toArray X₁ hg hsize hdg hW (X₁.named hnamed) (hpre vm₁ X₁.warmed) with ⟨v, B, X', hpost, hsteps⟩ | ⟨q, B, X', hpost, hsteps⟩
  · exact Or.inl ⟨v, vm₁, B, X₁.warmed, X', hpost, fun target h => hstep₁ _ fun acts => by rw [doInvoke_state]; exact hsteps.trans h⟩
  · exact Or.inr ⟨q, vm₁, B, X₁.warmed, X', hpost, hstep₁ _ fun acts => by rw [doInvoke_state]; exact hsteps⟩
theorem vx_callS (X : Stand p l e R s m args below meth c T locs cells slots) (hexec : p.tables.exec = Jvm.exec) {own : String} {index : Nat} {y : MethodName} {bytes : ByteArray} {maxL : Nat} {ret : Option FieldType}
    (hown : s.vm.findClass own = some m.cls) (hlink : (Cond.methodLink own index y).before args s = true) (hstat : (Cond.static y).before args s = true) (hinit : (Cond.initialized y.cls).before args s = true)
    (hcode : (Cond.code y bytes maxL ret).before args s = true) (hy : y.cls ≠ "java/lang/invoke/MethodHandle" ∧ y.cls ≠ "java/lang/invoke/VarHandle")
    {W9 : Nat} {Pre : Pt → Array Value → Prop} {Post : Pt → Array Value → Option Value → Pt → Prop} {PostX : Pt → Array Value → Addr → Pt → Prop} (hK : vx_Back l R p e below s args y 3 W9 Pre Post PostX)
    {g : JFrame} (hg : g.method = m) (hsize : g.locals.size = c.maxLocals) {argsL rest : List Value} (hlen : ∀ sig, parseMethodDescriptor y.desc = some sig → argsL.length = sig.parameters.length)
    (hstack : g.stack = argsL.reverse ++ rest) (hW : 2 * g.monitorRoom + (rest.map fun v => v.category).sum ≤ W9) (hdg : decode c.code g.pc = .ok (.invokestatic index, 3))
    (hpre : ∀ vm₁, s.WarmedH vm₁ → Pre ⟨T.setVm vm₁, locs, cells, slots⟩ argsL.toArray) :
    (∃ (v : Option Value) (vm₁ : Vm) (B : Pt), s.WarmedH vm₁ ∧ Stand p l e R s m args below meth c B.U B.locs B.cells B.slots ∧ Post ⟨T.setVm vm₁, locs, cells, slots⟩ argsL.toArray v B ∧
      ∀ target, Steps p.tables e below (B.U.setTop { g with pc := g.pc + 3, stack := v.toList ++ rest }) target → Steps p.tables e below (T.setTop g) target) ∨
    (∃ (q : Addr) (vm₁ : Vm) (B : Pt), s.WarmedH vm₁ ∧ Stand p l e R s m args below meth c B.U B.locs B.cells B.slots ∧ PostX ⟨T.setVm vm₁, locs, cells, slots⟩ argsL.toArray q B ∧
      Steps p.tables e below (T.setTop g) ((B.U.setTop { g with stack := rest }).pushFrame (.throwing q))) := by
  obtain ⟨mk, hnamed⟩ := Cond.code_named hcode
  obtain ⟨methM, cM, hmethM, -, -, -, -, -, -, hsigM⟩ := Cond.code_spec hnamed hcode
  have hstatic : methM.isStatic = true := Cond.static_spec hnamed hmethM hstat
  obtain ⟨kP, hkP, -⟩ := className_of_methodNamed hnamed
  have hinitP : kP.init = .initialized := Cond.initialized_spec (findClass_of_methodNamed hnamed) hkP hinit
  obtain ⟨vm₁, X₁, hstep₁⟩ := X.invokestatic hexec hown hlink hnamed hmethM hstatic hkP hinitP hy (g := g) hg (argsL := argsL) (rest := rest) (hlen _ hsigM) hstack hdg
  rcases hK m meth c ⟨T.setVm vm₁, locs, cells, slots⟩ { g with stack := rest } (.invokestatic index) mk argsL.toArray X₁ hg hsize hdg hW (X₁.named hnamed) (hpre vm₁ X₁.warmed) with ⟨v, B, X', hpost, hsteps⟩ | ⟨q, B, X', hpost, hsteps⟩
  · exact Or.inl ⟨v, vm₁, B, X₁.warmed, X', hpost, fun target h => hstep₁ _ fun acts => by rw [doInvoke_state]; exact hsteps.trans h⟩
  · exact Or.inr ⟨q, vm₁, B, X₁.warmed, X', hpost, hstep₁ _ fun acts => by rw [doInvoke_state]; exact hsteps⟩
end Calls
theorem vx_cls {s : State} {T : State} {vm₁ : Vm} {E : String} {k : ClassId} (hW : s.WarmedH vm₁) (h : (T.setVm vm₁).vm.findClass E = some k) : s.vm.findClass E = some k := by
  have h1 : vm₁.findClass E = some k := h
  rw [hW.alike.findClass] at h1
  exact h1
/-- the method's frame g, with q thrown over it -/
def vx_W (p : Program) (l : Launch) (e : Env) (R : Room) (s : State) (m : MethodId) (args : Array Value) (below : List Frame) (meth : Method) (c : Code) (H : Heap) (locs : List Loc) (cells slots : Nat) (Q : State → Prop) (g : JFrame) (q : Addr) : Prop :=
  ∀ T : State, T.heap = H → Stand p l e R s m args below meth c T locs cells slots → ∃ t, Steps p.tables e below ((T.setTop g).pushFrame (.throwing q)) t ∧ Q t
def vx_Run (p : Program) (l : Launch) (e : Env) (R : Room) (s : State) (m : MethodId) (args : Array Value) (below : List Frame) (meth : Method) (c : Code) (H : Heap) (locs : List Loc) (cells slots mc ms : Nat) (g : JFrame) (rest : List Value) (Qa : State → Outcome → State → Prop) (XC : String → State → State → Prop) (free : Addr → Prop) : Prop :=
  ∀ T : State, T.heap = H → Stand p l e R s m args below meth c T locs cells slots →
    (∃ (v : Option Value) (st₀ t T' : State) (L : List Loc), st₀.heap = H ∧ Stand p l e R s m args below meth c T' (locs ++ L) (cells + mc) (slots + ms) ∧ (∀ q ∈ L, free q.base) ∧ T'.heap = t.heap ∧ T'.vm = t.vm ∧ Qa st₀ (.returned v) t ∧
      Goes p e below T g T' { g with pc := g.pc + 3, stack := v.toList ++ rest }) ∨
    (∃ (q : Addr) (st₀ t T' : State) (L : List Loc) (E : String) (ce : Cell), st₀.heap = H ∧ Stand p l e R s m args below meth c T' (locs ++ L) (cells + mc) (slots + ms) ∧ (∀ z ∈ L, free z.base) ∧ T'.heap = t.heap ∧ T'.vm = t.vm ∧ XC E st₀ t ∧ t.heap[q]? = some ce ∧ ce.vm = .none ∧ s.vm.findClass E = some ce.cls ∧
      Steps p.tables e below (T.setTop g) ((T'.setTop { g with stack := rest }).pushFrame (.throwing q)))
def vx_X {S : Type} (px : S → Prop) (B : String → S → State → Prop) (A : Nat → Prop) : String → State → State → Prop := fun E st t => ∃ u : S, px u ∧ B E u t ∧ va_F A st t
section Runs
variable {p : Program} {l : Launch} {e : Env} {R : Room} {s : State} {m : MethodId} {args : Array Value} {below : List Frame} {meth : Method} {c : Code} {H : Heap} {locs : List Loc} {cells slots : Nat}
variable {y : MethodName} {bytes cc : ByteArray} {maxL nL mc ms n index : Nat} {ret : Option FieldType} {ws : List Cond} {rm : Room} {Pc : Array Value → State → Prop} {Qc : Array Value → State → Outcome → State → Prop} {XC : String → State → State → Prop} {free : Addr → Prop} {Ts : List Cond} {own C : String} {b : Addr} {As rest : List Value} {g : JFrame}
theorem vx_callBack (cb : CallB R s args own index y bytes maxL ret ws rm mc ms n) (hM : vx_Met l y ws rm Pc Qc XC mc ms free) (hbl : FrameBlind Pc) : vx_Back l R p e below s args y 3 8 (PreOf R mc ms Pc) (PostOf Qc mc ms free) (vx_Post XC mc ms free) := by
  obtain ⟨hrc, hrs, hfr, hlo, hws, hcw, -, hini, -⟩ := cb
  exact vx_back (bytes := bytes) (maxL := maxL) (ret := ret) hM hbl hrc hrs hfr hlo hws hcw (fun a' U hW => word_at hW (Or.inl (by first | rfl | simp [Cond.onTables, Cond.keeps, Cond.steady])) hini)
theorem vx_runV (S : CallFix p m c cc nL s args Ts own) (hM : vx_Met l y ws rm Pc Qc XC mc ms free) (cw : CallW R s args own C index y bytes maxL ret ws rm mc ms n) (hp : PreV s H C b Pc As)
    (hg : g.method = m) (hn : As.length = n) (hsize : g.locals.size = nL) (hstack : g.stack = As.reverse ++ .ref b :: rest) (hW : 2 * g.monitorRoom + (rest.map fun v => v.category).sum ≤ 8) (hdg : decode cc g.pc = .ok (.invokevirtual index, 3)) (hf : cells + mc ≤ R.cells ∧ slots + ms ≤ R.slots) :
    vx_Run p l e R s m args below meth c H locs cells slots mc ms g rest (Qc (Value.ref b :: As).toArray) XC free := by
  have hK : vx_Back l R p e below s args y 3 8 (PreOf R mc ms Pc) (PostOf Qc mc ms free) (vx_Post XC mc ms free) := vx_callBack cw.1 hM hp.1
  obtain ⟨⟨-, -, -, -, -, -, hcode, -, hy, hlen, hl⟩, hin, hse⟩ := cw
  obtain ⟨hx, hb, hml, ho, -⟩ := S
  obtain ⟨-, ⟨cellB, hcB, hoB, hclB⟩, hPc⟩ := hp
  intro T hT X
  rcases vx_callV X hx (C := C) (bytes := bytes) (maxL := maxL) (ret := ret) ho hl hin hse hcode hy hK (by rw [hT]; exact hcB) hoB hclB hg (hsize.trans hml.symm) (argsL := As) (rest := rest) (fun sig h => hn.trans (hlen sig h)) hstack hW (by rw [hb]; exact hdg)
    (fun vm₁ hW₁ => ⟨hf.1, hf.2, hPc (T.setVm vm₁) hT hW₁⟩) with ⟨v, vm₁, ⟨U', l2, c2, s2⟩, hW₁, X', ⟨g', mk, t, L, e1, e2, hq, h1, hL, h2, h3⟩, st⟩ | ⟨q, vm₁, ⟨U', l2, c2, s2⟩, hW₁, X', ⟨g', mk, t, L, E, ce, e1, e2, hq, hce, hcv, hcl, h1, hL, h2, h3⟩, st⟩
  · dsimp only [Pt.U, Pt.locs, Pt.cells, Pt.slots] at X' e1 e2 h1 h2 h3 st
    subst h1; subst h2; subst h3
    exact Or.inl ⟨v, (T.setVm vm₁).calling g' mk (Value.ref b :: As).toArray, t, U', L, hT, X', hL, e1, e2, hq, st⟩
  · dsimp only [Pt.U, Pt.locs, Pt.cells, Pt.slots] at X' e1 e2 h1 h2 h3 st hcl
    subst h1; subst h2; subst h3
    exact Or.inr ⟨q, (T.setVm vm₁).calling g' mk (Value.ref b :: As).toArray, t, U', L, E, ce, hT, X', hL, e1, e2, hq, hce, hcv, vx_cls hW₁ hcl, st⟩
theorem vx_runS (S : CallFix p m c cc nL s args Ts own) (hM : vx_Met l y ws rm Pc Qc XC mc ms free) (cw : CallB R s args own index y bytes maxL ret ws rm mc ms n ∧ (Cond.static y).before args s = true) (hp : PreS s H Pc As)
    (hg : g.method = m) (hn : As.length = n) (hsize : g.locals.size = nL) (hstack : g.stack = As.reverse ++ rest) (hW : 2 * g.monitorRoom + (rest.map fun v => v.category).sum ≤ 8) (hdg : decode cc g.pc = .ok (.invokestatic index, 3)) (hf : cells + mc ≤ R.cells ∧ slots + ms ≤ R.slots) :
    vx_Run p l e R s m args below meth c H locs cells slots mc ms g rest (Qc As.toArray) XC free := by
  have hK : vx_Back l R p e below s args y 3 8 (PreOf R mc ms Pc) (PostOf Qc mc ms free) (vx_Post XC mc ms free) := vx_callBack cw.1 hM hp.1
  obtain ⟨⟨-, -, -, -, -, -, hcode, hini, hy, hlen, hl⟩, hstt⟩ := cw
  obtain ⟨hx, hb, hml, ho, -⟩ := S
  intro T hT X
  rcases vx_callS X hx (bytes := bytes) (maxL := maxL) (ret := ret) ho hl hstt hini hcode hy hK hg (hsize.trans hml.symm) (argsL := As) (rest := rest) (fun sig h => hn.trans (hlen sig h)) hstack hW (by rw [hb]; exact hdg)
    (fun vm₁ hW₁ => ⟨hf.1, hf.2, hp.2 (T.setVm vm₁) hT hW₁⟩) with ⟨v, vm₁, ⟨U', l2, c2, s2⟩, hW₁, X', ⟨g', mk, t, L, e1, e2, hq, h1, hL, h2, h3⟩, st⟩ | ⟨q, vm₁, ⟨U', l2, c2, s2⟩, hW₁, X', ⟨g', mk, t, L, E, ce, e1, e2, hq, hce, hcv, hcl, h1, hL, h2, h3⟩, st⟩
  · dsimp only [Pt.U, Pt.locs, Pt.cells, Pt.slots] at X' e1 e2 h1 h2 h3 st
    subst h1; subst h2; subst h3
    exact Or.inl ⟨v, (T.setVm vm₁).calling g' mk As.toArray, t, U', L, hT, X', hL, e1, e2, hq, st⟩
  · dsimp only [Pt.U, Pt.locs, Pt.cells, Pt.slots] at X' e1 e2 h1 h2 h3 st hcl
    subst h1; subst h2; subst h3
    exact Or.inr ⟨q, (T.setVm vm₁).calling g' mk As.toArray, t, U', L, E, ce, hT, X', hL, e1, e2, hq, hce, hcv, vx_cls hW₁ hcl, st⟩
end Runs
section Rows
variable {p : Program} {l : Launch} {e : Env} {R : Room} {s : State} {m : MethodId} {args : Array Value} {below : List Frame} {meth : Method} {c : Code} {H : Heap} {locs : List Loc} {cells slots : Nat} {Q : State → Prop}
variable {mc ms : Nat} {free : Addr → Prop} {A0 A1 : Nat → Prop} {H0 : Heap} {a : Array Value} {pc : Nat} {ls : Array Slot} {st0 rest : List Value}
theorem vx_keep {st₀ t T' : State} {L : List Loc} (h0 : st₀.heap = H) (e1 : T'.heap = t.heap) (hS : va_S A0 H0 H locs) (hA : ∀ q, q < H.size → A1 q → A0 q) (hf : ∀ q, free q → A0 q) (hL : ∀ q ∈ L, free q.base) (hF : va_F A1 st₀ t) :
    H.size ≤ T'.heap.size ∧ (∀ q : Nat, q < H.size → ¬ A1 q → T'.heap[q]? = H[q]?) ∧ va_S A0 H0 T'.heap (locs ++ L) := by
  obtain ⟨hz, hk⟩ := hF
  rw [h0] at hz hk
  exact ⟨by rw [e1]; exact hz, fun q h1 h2 => by rw [e1]; exact hk q h1 h2,
    ⟨Nat.le_trans hS.1 (by rw [e1]; exact hz), fun q h1 h2 => by rw [e1, hk q (Nat.lt_of_lt_of_le h1 hS.1) (fun z => h2 (hA q (Nat.lt_of_lt_of_le h1 hS.1) z))]; exact hS.2.1 q h1 h2, fun q hq => by
      rcases List.mem_append.mp hq with h | h
      · exact hS.2.2 q h
      · exact hf _ (hL q h)⟩⟩
theorem vx_calli {S SX : Type} {post : Int32 → S → Prop} {px : SX → Prop} {B : S → State → Prop} {BX : String → SX → State → Prop} {AX : Nat → Prop} (hr : vx_Run p l e R s m args below meth c H locs cells slots mc ms (F0 m pc ls st0) rest (va_Qi post B A1 a) (vx_X px BX AX) free) (hS : va_S A0 H0 H locs) (hA : ∀ q, q < H.size → A1 q → A0 q) (hf : ∀ q, free q → A0 q) (hAX : ∀ q, q < H.size → AX q → A0 q)
    (kx : ∀ (E : String) (ce : Cell) (q9 : Addr) (u : SX) (t : State) (H1 : Heap) (locs1 : List Loc), t.heap = H1 → s.vm.Alike t.vm → px u → BX E u t → H.size ≤ H1.size → (∀ q : Nat, q < H.size → ¬ AX q → H1[q]? = H[q]?) → va_S A0 H0 H1 locs1 → H1[q9]? = some ce → ce.vm = .none → s.vm.findClass E = some ce.cls → vx_W p l e R s m args below meth c H1 locs1 (cells + mc) (slots + ms) Q (F0 m pc ls rest) q9)
    (kk : ∀ (r : Int32) (u : S) (t : State) (H1 : Heap) (locs1 : List Loc), t.heap = H1 → s.vm.Alike t.vm → post r u → B u t → H.size ≤ H1.size → (∀ q : Nat, q < H.size → ¬ A1 q → H1[q]? = H[q]?) → va_S A0 H0 H1 locs1 → W p l e R s m args below meth c H1 locs1 (cells + mc) (slots + ms) Q (F0 m (pc + 3) ls (.int r :: rest))) : W p l e R s m args below meth c H locs cells slots Q (F0 m pc ls st0) := by
  intro T hT X
  rcases hr T hT X with ⟨v, st₀, t, T', L, h0, X', hL, e1, e2, ⟨⟨r, u, hv, hp, hb⟩, hF⟩, st⟩ | ⟨q, st₀, t, T', L, E, ce, h0, X', hL, e1, e2, ⟨u, hp, hb, hF⟩, hce, hcv, hcl, st⟩
  · cases hv
    obtain ⟨k1, k2, k3⟩ := vx_keep h0 e1 hS hA hf hL hF
    obtain ⟨t2, a1, b1⟩ := kk r u t T'.heap (locs ++ L) e1.symm (by rw [← e2]; exact X'.warmed.alike) hp hb k1 k2 k3 T' rfl X'
    exact ⟨t2, st t2 a1, b1⟩
  · obtain ⟨k1, k2, k3⟩ := vx_keep h0 e1 hS hAX hf hL hF
    obtain ⟨t2, a1, b1⟩ := kx E ce q u t T'.heap (locs ++ L) e1.symm (by rw [← e2]; exact X'.warmed.alike) hp hb k1 k2 k3 (by rw [e1]; exact hce) hcv hcl T' rfl X'
    exact ⟨t2, st.trans a1, b1⟩
theorem vx_calll {S SX : Type} {post : Int64 → S → Prop} {px : SX → Prop} {B : S → State → Prop} {BX : String → SX → State → Prop} {AX : Nat → Prop} (hr : vx_Run p l e R s m args below meth c H locs cells slots mc ms (F0 m pc ls st0) rest (va_Ql post B A1 a) (vx_X px BX AX) free) (hS : va_S A0 H0 H locs) (hA : ∀ q, q < H.size → A1 q → A0 q) (hf : ∀ q, free q → A0 q) (hAX : ∀ q, q < H.size → AX q → A0 q)
    (kx : ∀ (E : String) (ce : Cell) (q9 : Addr) (u : SX) (t : State) (H1 : Heap) (locs1 : List Loc), t.heap = H1 → s.vm.Alike t.vm → px u → BX E u t → H.size ≤ H1.size → (∀ q : Nat, q < H.size → ¬ AX q → H1[q]? = H[q]?) → va_S A0 H0 H1 locs1 → H1[q9]? = some ce → ce.vm = .none → s.vm.findClass E = some ce.cls → vx_W p l e R s m args below meth c H1 locs1 (cells + mc) (slots + ms) Q (F0 m pc ls rest) q9)
    (kk : ∀ (r : Int64) (u : S) (t : State) (H1 : Heap) (locs1 : List Loc), t.heap = H1 → s.vm.Alike t.vm → post r u → B u t → H.size ≤ H1.size → (∀ q : Nat, q < H.size → ¬ A1 q → H1[q]? = H[q]?) → va_S A0 H0 H1 locs1 → W p l e R s m args below meth c H1 locs1 (cells + mc) (slots + ms) Q (F0 m (pc + 3) ls (.long r :: rest))) : W p l e R s m args below meth c H locs cells slots Q (F0 m pc ls st0) := by
  intro T hT X
  rcases hr T hT X with ⟨v, st₀, t, T', L, h0, X', hL, e1, e2, ⟨⟨r, u, hv, hp, hb⟩, hF⟩, st⟩ | ⟨q, st₀, t, T', L, E, ce, h0, X', hL, e1, e2, ⟨u, hp, hb, hF⟩, hce, hcv, hcl, st⟩
  · cases hv
    obtain ⟨k1, k2, k3⟩ := vx_keep h0 e1 hS hA hf hL hF
    obtain ⟨t2, a1, b1⟩ := kk r u t T'.heap (locs ++ L) e1.symm (by rw [← e2]; exact X'.warmed.alike) hp hb k1 k2 k3 T' rfl X'
    exact ⟨t2, st t2 a1, b1⟩
  · obtain ⟨k1, k2, k3⟩ := vx_keep h0 e1 hS hAX hf hL hF
    obtain ⟨t2, a1, b1⟩ := kx E ce q u t T'.heap (locs ++ L) e1.symm (by rw [← e2]; exact X'.warmed.alike) hp hb k1 k2 k3 (by rw [e1]; exact hce) hcv hcl T' rfl X'
    exact ⟨t2, st.trans a1, b1⟩
theorem vx_callf {S SX : Type} {post : UInt32 → S → Prop} {px : SX → Prop} {B : S → State → Prop} {BX : String → SX → State → Prop} {AX : Nat → Prop} (hr : vx_Run p l e R s m args below meth c H locs cells slots mc ms (F0 m pc ls st0) rest (va_Qf post B A1 a) (vx_X px BX AX) free) (hS : va_S A0 H0 H locs) (hA : ∀ q, q < H.size → A1 q → A0 q) (hf : ∀ q, free q → A0 q) (hAX : ∀ q, q < H.size → AX q → A0 q)
    (kx : ∀ (E : String) (ce : Cell) (q9 : Addr) (u : SX) (t : State) (H1 : Heap) (locs1 : List Loc), t.heap = H1 → s.vm.Alike t.vm → px u → BX E u t → H.size ≤ H1.size → (∀ q : Nat, q < H.size → ¬ AX q → H1[q]? = H[q]?) → va_S A0 H0 H1 locs1 → H1[q9]? = some ce → ce.vm = .none → s.vm.findClass E = some ce.cls → vx_W p l e R s m args below meth c H1 locs1 (cells + mc) (slots + ms) Q (F0 m pc ls rest) q9)
    (kk : ∀ (r : UInt32) (u : S) (t : State) (H1 : Heap) (locs1 : List Loc), t.heap = H1 → s.vm.Alike t.vm → post r u → B u t → H.size ≤ H1.size → (∀ q : Nat, q < H.size → ¬ A1 q → H1[q]? = H[q]?) → va_S A0 H0 H1 locs1 → W p l e R s m args below meth c H1 locs1 (cells + mc) (slots + ms) Q (F0 m (pc + 3) ls (.float r :: rest))) : W p l e R s m args below meth c H locs cells slots Q (F0 m pc ls st0) := by
  intro T hT X
  rcases hr T hT X with ⟨v, st₀, t, T', L, h0, X', hL, e1, e2, ⟨⟨r, u, hv, hp, hb⟩, hF⟩, st⟩ | ⟨q, st₀, t, T', L, E, ce, h0, X', hL, e1, e2, ⟨u, hp, hb, hF⟩, hce, hcv, hcl, st⟩
  · cases hv
    obtain ⟨k1, k2, k3⟩ := vx_keep h0 e1 hS hA hf hL hF
    obtain ⟨t2, a1, b1⟩ := kk r u t T'.heap (locs ++ L) e1.symm (by rw [← e2]; exact X'.warmed.alike) hp hb k1 k2 k3 T' rfl X'
    exact ⟨t2, st t2 a1, b1⟩
  · obtain ⟨k1, k2, k3⟩ := vx_keep h0 e1 hS hAX hf hL hF
    obtain ⟨t2, a1, b1⟩ := kx E ce q u t T'.heap (locs ++ L) e1.symm (by rw [← e2]; exact X'.warmed.alike) hp hb k1 k2 k3 (by rw [e1]; exact hce) hcv hcl T' rfl X'
    exact ⟨t2, st.trans a1, b1⟩
theorem vx_calld {S SX : Type} {post : UInt64 → S → Prop} {px : SX → Prop} {B : S → State → Prop} {BX : String → SX → State → Prop} {AX : Nat → Prop} (hr : vx_Run p l e R s m args below meth c H locs cells slots mc ms (F0 m pc ls st0) rest (va_Qd post B A1 a) (vx_X px BX AX) free) (hS : va_S A0 H0 H locs) (hA : ∀ q, q < H.size → A1 q → A0 q) (hf : ∀ q, free q → A0 q) (hAX : ∀ q, q < H.size → AX q → A0 q)
    (kx : ∀ (E : String) (ce : Cell) (q9 : Addr) (u : SX) (t : State) (H1 : Heap) (locs1 : List Loc), t.heap = H1 → s.vm.Alike t.vm → px u → BX E u t → H.size ≤ H1.size → (∀ q : Nat, q < H.size → ¬ AX q → H1[q]? = H[q]?) → va_S A0 H0 H1 locs1 → H1[q9]? = some ce → ce.vm = .none → s.vm.findClass E = some ce.cls → vx_W p l e R s m args below meth c H1 locs1 (cells + mc) (slots + ms) Q (F0 m pc ls rest) q9)
    (kk : ∀ (r : UInt64) (u : S) (t : State) (H1 : Heap) (locs1 : List Loc), t.heap = H1 → s.vm.Alike t.vm → post r u → B u t → H.size ≤ H1.size → (∀ q : Nat, q < H.size → ¬ A1 q → H1[q]? = H[q]?) → va_S A0 H0 H1 locs1 → W p l e R s m args below meth c H1 locs1 (cells + mc) (slots + ms) Q (F0 m (pc + 3) ls (.double r :: rest))) : W p l e R s m args below meth c H locs cells slots Q (F0 m pc ls st0) := by
  intro T hT X
  rcases hr T hT X with ⟨v, st₀, t, T', L, h0, X', hL, e1, e2, ⟨⟨r, u, hv, hp, hb⟩, hF⟩, st⟩ | ⟨q, st₀, t, T', L, E, ce, h0, X', hL, e1, e2, ⟨u, hp, hb, hF⟩, hce, hcv, hcl, st⟩
  · cases hv
    obtain ⟨k1, k2, k3⟩ := vx_keep h0 e1 hS hA hf hL hF
    obtain ⟨t2, a1, b1⟩ := kk r u t T'.heap (locs ++ L) e1.symm (by rw [← e2]; exact X'.warmed.alike) hp hb k1 k2 k3 T' rfl X'
    exact ⟨t2, st t2 a1, b1⟩
  · obtain ⟨k1, k2, k3⟩ := vx_keep h0 e1 hS hAX hf hL hF
    obtain ⟨t2, a1, b1⟩ := kx E ce q u t T'.heap (locs ++ L) e1.symm (by rw [← e2]; exact X'.warmed.alike) hp hb k1 k2 k3 (by rw [e1]; exact hce) hcv hcl T' rfl X'
    exact ⟨t2, st.trans a1, b1⟩
theorem vx_callv {S SX : Type} {post : S → Prop} {px : SX → Prop} {B : S → State → Prop} {BX : String → SX → State → Prop} {AX : Nat → Prop} (hr : vx_Run p l e R s m args below meth c H locs cells slots mc ms (F0 m pc ls st0) rest (va_Qv post B A1 a) (vx_X px BX AX) free) (hS : va_S A0 H0 H locs) (hA : ∀ q, q < H.size → A1 q → A0 q) (hf : ∀ q, free q → A0 q) (hAX : ∀ q, q < H.size → AX q → A0 q)
    (kx : ∀ (E : String) (ce : Cell) (q9 : Addr) (u : SX) (t : State) (H1 : Heap) (locs1 : List Loc), t.heap = H1 → s.vm.Alike t.vm → px u → BX E u t → H.size ≤ H1.size → (∀ q : Nat, q < H.size → ¬ AX q → H1[q]? = H[q]?) → va_S A0 H0 H1 locs1 → H1[q9]? = some ce → ce.vm = .none → s.vm.findClass E = some ce.cls → vx_W p l e R s m args below meth c H1 locs1 (cells + mc) (slots + ms) Q (F0 m pc ls rest) q9)
    (kk : ∀ (u : S) (t : State) (H1 : Heap) (locs1 : List Loc), t.heap = H1 → s.vm.Alike t.vm → post u → B u t → H.size ≤ H1.size → (∀ q : Nat, q < H.size → ¬ A1 q → H1[q]? = H[q]?) → va_S A0 H0 H1 locs1 → W p l e R s m args below meth c H1 locs1 (cells + mc) (slots + ms) Q (F0 m (pc + 3) ls (rest))) : W p l e R s m args below meth c H locs cells slots Q (F0 m pc ls st0) := by
  intro T hT X
  rcases hr T hT X with ⟨v, st₀, t, T', L, h0, X', hL, e1, e2, ⟨⟨u, hv, hp, hb⟩, hF⟩, st⟩ | ⟨q, st₀, t, T', L, E, ce, h0, X', hL, e1, e2, ⟨u, hp, hb, hF⟩, hce, hcv, hcl, st⟩
  · cases hv
    obtain ⟨k1, k2, k3⟩ := vx_keep h0 e1 hS hA hf hL hF
    obtain ⟨t2, a1, b1⟩ := kk u t T'.heap (locs ++ L) e1.symm (by rw [← e2]; exact X'.warmed.alike) hp hb k1 k2 k3 T' rfl X'
    exact ⟨t2, st t2 a1, b1⟩
  · obtain ⟨k1, k2, k3⟩ := vx_keep h0 e1 hS hAX hf hL hF
    obtain ⟨t2, a1, b1⟩ := kx E ce q u t T'.heap (locs ++ L) e1.symm (by rw [← e2]; exact X'.warmed.alike) hp hb k1 k2 k3 (by rw [e1]; exact hce) hcv hcl T' rfl X'
    exact ⟨t2, st.trans a1, b1⟩
/-- caught by the row x of this method's table; the rows ahead don't take it -/
theorem vx_catch {own name : String} {E : String} {ce : Cell} {q : Addr} (hown : s.vm.findClass own = some m.cls) (pre : List ExceptionTableEntry) (x : ExceptionTableEntry) (suf : List ExceptionTableEntry) (hsplit : c.exceptionTable.toList = pre ++ x :: suf)
    (hpass : ∀ z ∈ pre, covers z pc = false ∨ (z.catchType ≠ 0 ∧ ∃ nm : String, (Cond.classLink own z.catchType nm).before args s = true ∧ va_Nc E nm s)) (hx : covers x pc = true) (h0 : x.catchType ≠ 0)
    (hlink : (Cond.classLink own x.catchType name).before args s = true) (hcast : (Cond.castable E name).before args s = true) (hcell : H[q]? = some ce) (hv : ce.vm = .none) (hcl : s.vm.findClass E = some ce.cls)
    (kk : W p l e R s m args below meth c H locs cells slots Q (F0 m x.handlerPc ls [.ref q])) : vx_W p l e R s m args below meth c H locs cells slots Q (F0 m pc ls rest) q := by
  intro T hT X
  have hpl : e.platform.magicAccessors = ({} : Platform).magicAccessors := by rw [X.admits.platform]
  obtain ⟨c3, c4, hc3, hc4, hasg⟩ := Cond.castable_spec hcast
  cases Option.some.inj (hc3.symm.trans hcl)
  obtain ⟨c5, hc5, hcl5⟩ := Cond.classLink_spec hown hlink e.platform hpl
  cases Option.some.inj (hc4.symm.trans hc5)
  obtain ⟨vm', X', st⟩ := X.thenCaughtThrough q (g := F0 m pc ls rest) rfl (Steps.refl _) (by rw [hT]; exact hcell) (by rw [hv]; rfl) (by obtain ⟨k9, h9, -⟩ := Vm.findClass_spec hcl; exact ⟨k9, h9⟩) pre x suf hsplit
    (fun z hz => by
      rcases hpass z hz with h | ⟨hz0, nm, hl1, hn1⟩
      · exact Or.inl h
      · obtain ⟨c6, hc6, hcl6⟩ := Cond.classLink_spec hown hl1 e.platform hpl
        obtain ⟨a8, b8, h1, h2, h3⟩ := hn1
        cases Option.some.inj (h1.symm.trans hcl)
        cases Option.some.inj (h2.symm.trans hc6)
        exact Or.inr ⟨hz0, _, hcl6, h3⟩) hx (Or.inr ⟨h0, c4, hcl5, hasg⟩)
  obtain ⟨t, a1, b1⟩ := kk (T.setVm vm') hT X'
  exact ⟨t, st.trans a1, b1⟩
end Rows
section Ends
variable {p : Program} {l : Launch} {e : Env} {R : Room} {s : State} {m : MethodId} {args : Array Value} {below : List Frame} {meth : Method} {c : Code} {H : Heap} {locs : List Loc} {cells slots : Nat} {Q : State → Prop}
variable {mc ms : Nat} {free : Addr → Prop} {A0 A1 : Nat → Prop} {H0 : Heap} {a : Array Value} {ls : Array Slot} {st0 rest : List Value}
variable {Qc : Array Value → State → Outcome → State → Prop} {XC : String → State → State → Prop}
/-- what a body that may throw owes at its end -/
def vx_MQ (below : List Frame) (Qc : Array Value → State → Outcome → State → Prop) (XC : String → State → State → Prop) (a : Array Value) (s : State) (mc ms : Nat) (free : Addr → Prop) : State → Prop := fun t =>
  ∃ o, t.status = .running ∧ Ended t below o ∧ vx_Q Qc XC mc ms free a s o t
theorem vx_ret {g : JFrame} {mc ms : Nat} (k : W p l e R s m args below meth c H locs cells slots (MQ below Qc args s mc ms free) g) : W p l e R s m args below meth c H locs cells slots (vx_MQ below Qc XC args s mc ms free) g := by
  intro T hT X
  obtain ⟨t, a1, o, b1, b2, b3, b4⟩ := k T hT X
  exact ⟨t, a1, o, b1, b2, Or.inl ⟨b3, b4⟩⟩
/-- not caught here: it goes on to the caller -/
theorem vx_widen {g : JFrame} {q : Addr} {k n : Nat} (h1 : cells ≤ k) (h2 : slots ≤ n) (kk : vx_W p l e R s m args below meth c H locs k n Q g q) : vx_W p l e R s m args below meth c H locs cells slots Q g q := fun T hT X => kk T hT (stand_widen X h1 h2)
theorem vx_out {pc : Nat} {E : String} {ce : Cell} {q : Addr} {mc ms : Nat} (hout : ∀ x ∈ c.exceptionTable.toList, covers x pc = false) (hlocks : meth.locks = false) (hcell : H[q]? = some ce) (hv : ce.vm = .none) (hcl : s.vm.findClass E = some ce.cls)
    (hx : ∀ t : State, t.heap = H → s.vm.Alike t.vm → XC E s t) (hf : ∀ z ∈ locs, free z.base) (hc : cells ≤ mc) (hs : slots ≤ ms) :
    vx_W p l e R s m args below meth c H locs cells slots (vx_MQ below Qc XC args s mc ms free) (F0 m pc ls rest) q := by
  intro T hT X
  obtain ⟨st1, hrun, hend, hW, hsm⟩ := X.leaveThrown q (g := F0 m pc ls rest) rfl rfl rfl hout hlocks
  have hcell9 : (T.setFrames (.throwing q :: below)).heap[q]? = some ce := by
    show T.heap[q]? = some ce
    rw [hT]; exact hcell
  exact ⟨_, st1, .threw q, hrun, hend, Or.inr ⟨q, rfl, E, ce, locs, hx _ hT hW.alike, hcell9, hv, hcl, hW, hsm.mono hc hs, hf⟩⟩
theorem vx_frame {U : State} {k n : Nat} (h : s.sameButNew ({ U with vm := s.vm } : State) locs k n) : s.heap.size ≤ U.heap.size ∧ ∀ q : Nat, q < s.heap.size → (∀ z ∈ locs, z.base ≠ q) → U.heap[q]? = s.heap[q]? := by
  obtain ⟨-, h2, -, -, -, h6⟩ := h
  refine ⟨h2, fun q hq hz => ?_⟩
  obtain ⟨c9, e1, e2, e3, e4⟩ := h6 q _ (Array.getElem?_eq_getElem hq)
  have hs : c9.slots = (s.heap[q]).slots := Array.ext_getElem? fun i => e4 i fun hm => hz _ hm rfl
  have h9 : c9 = s.heap[q] := by
    rw [hs] at e2
    exact e2
  have e5 : U.heap[q]? = some c9 := e1
  rw [e5, h9, Array.getElem?_eq_getElem hq]
/-- the words of a throw but the four that speak of the heap -/
def vx_no (w : Cond) : Bool := decide (w ≠ .isRef (.static Bundle.tN "UNASSIGNED_STACK" Bundle.steD)) && decide (w ≠ .isRef (.static Bundle.tN "SUPPRESSED_SENTINEL" Bundle.listD)) && decide (w ≠ .laysStatic Bundle.tN "UNASSIGNED_STACK" Bundle.steD) && decide (w ≠ .laysStatic Bundle.tN "SUPPRESSED_SENTINEL" Bundle.listD)
def vx_at0 (own : String) (ic : Nat) (X : String) (names : List String) : List Cond := (Bundle.ownAtoms0 own ic X names).filter vx_no
def vx_atS (own : String) (ic : Nat) (X : String) (names : List String) : List Cond := (Bundle.ownAtoms own ic X names).filter vx_no
/-- a word that the tables alone decide, or a good one -/
def vx_ot (w : Cond) : Bool := w.onTables || goodWord w
theorem vx_ot_at {args a' : Array Value} {s U : State} {w : Cond} (hW : s.WarmedH U.vm) (hvm : s.vm = U.vm) (hg : vx_ot w = true) (h : w.before args s = true) : w.before a' U = true := by
  simp only [vx_ot, Bool.or_eq_true] at hg
  rcases hg with hg | hg
  · exact va_tabs hg hvm h
  · exact word_at hW (good_of_word hg) h
/-- a list's words: the good ones out of the method's own list, the others by premises of their own -/
theorem vx_hat {args : Array Value} {s : State} {L B : List Cond} (h1 : ∀ w ∈ L.filter goodWord, w.before args s = true) (h2 : ∀ w ∈ L.filter (fun w => !goodWord w), w ∈ B) (h3 : ∀ w ∈ B, w.before args s = true) : ∀ w ∈ L, w.before args s = true := by
  intro w hw
  by_cases g : goodWord w = true
  · exact h1 w (List.mem_filter.mpr ⟨hw, g⟩)
  · refine h3 w (h2 w (List.mem_filter.mpr ⟨hw, ?_⟩))
    show (!goodWord w) = true
    cases hgw : goodWord w
    · rfl
    · exact absurd hgw g
theorem vx_c {args : Array Value} {s : State} {w : Cond} {B : List Cond} (h : w.before args s = true) (t : ∀ w ∈ B, w.before args s = true) : ∀ w' ∈ w :: B, w'.before args s = true := fun w' h' => (List.mem_cons.mp h').elim (fun e => by rw [e]; exact h) (t w')
theorem vx_n {args : Array Value} {s : State} : ∀ w ∈ ([] : List Cond), w.before args s = true := fun _ h => nomatch h
theorem vx_own {args : Array Value} {s : State} {L : List Cond} (h1 : ∀ w ∈ L.filter vx_no, w.before args s = true)
    (hU : (Cond.isRef (.static Bundle.tN "UNASSIGNED_STACK" Bundle.steD)).before args s = true) (hN : (Cond.isRef (.static Bundle.tN "SUPPRESSED_SENTINEL" Bundle.listD)).before args s = true)
    (lU : (Cond.laysStatic Bundle.tN "UNASSIGNED_STACK" Bundle.steD).before args s = true) (lN : (Cond.laysStatic Bundle.tN "SUPPRESSED_SENTINEL" Bundle.listD).before args s = true) : ∀ w ∈ L, w.before args s = true := by
  intro w hw
  by_cases e1 : w = .isRef (.static Bundle.tN "UNASSIGNED_STACK" Bundle.steD)
  · rw [e1]; exact hU
  · by_cases e2 : w = .isRef (.static Bundle.tN "SUPPRESSED_SENTINEL" Bundle.listD)
    · rw [e2]; exact hN
    · by_cases e3 : w = .laysStatic Bundle.tN "UNASSIGNED_STACK" Bundle.steD
      · rw [e3]; exact lU
      · by_cases e4 : w = .laysStatic Bundle.tN "SUPPRESSED_SENTINEL" Bundle.listD
        · rw [e4]; exact lN
        · exact h1 w (List.mem_filter.mpr ⟨hw, by unfold vx_no; rw [decide_eq_true e1, decide_eq_true e2, decide_eq_true e3, decide_eq_true e4]; rfl⟩)
/-- where a static field lies, its class's statics cell in H -/
def vx_L (C n d : String) (A : Nat → Prop) (U : State) (H : Heap) : Prop := ∃ (c : ClassId) (k : Class) (i : Nat) (f : Field) (a : Nat) (cell : Cell), U.vm.findClass C = some c ∧ U.fieldFound? C n d = some (c, k, i, f) ∧ f.isStatic = true ∧ k.statics = some a ∧ H[a]? = some cell ∧ cell.vm.isStatics = true ∧ cell.cls = c ∧ f.slot < cell.slots.size ∧ k.staticTypes[f.slot]? = some f.type ∧ ¬ A a
theorem vx_L.moved {C n d : String} {A : Nat → Prop} {u U : State} {H : Heap} (hvm : u.vm.Alike U.vm) (h : vx_L C n d A u H) : vx_L C n d A U H := by
  obtain ⟨c, k, i, f, a, cell, h1, h2, h3, h4, h5, h6, h7, h8, h9, h10⟩ := h
  obtain ⟨k', hi', he⟩ := State.fieldFound?_setVm hvm h2
  exact ⟨c, k', i, f, a, cell, by rw [hvm.findClass]; exact h1, hi', h3, by rw [he]; exact h4, h5, h6, h7, h8, by rw [he]; exact h9, h10⟩
theorem vx_L.kept {C n d : String} {A : Nat → Prop} {U : State} {H H1 : Heap} (h : vx_L C n d A U H) (hq : ∀ a : Nat, a < H.size → ¬ A a → H1[a]? = H[a]?) : vx_L C n d A U H1 := by
  obtain ⟨c, k, i, f, a, cell, h1, h2, h3, h4, h5, h6, h7, h8, h9, h10⟩ := h
  exact ⟨c, k, i, f, a, cell, h1, h2, h3, h4, by rw [hq a (Array.getElem?_eq_some_iff.mp h5).1 h10]; exact h5, h6, h7, h8, h9, h10⟩
theorem vx_L.narrow {C n d : String} {A B : Nat → Prop} {U : State} {H : Heap} (h : vx_L C n d A U H) (hAB : ∀ q, B q → A q) : vx_L C n d B U H := by
  obtain ⟨c, k, i, f, a, cell, h1, h2, h3, h4, h5, h6, h7, h8, h9, h10⟩ := h
  exact ⟨c, k, i, f, a, cell, h1, h2, h3, h4, h5, h6, h7, h8, h9, fun z => h10 (hAB _ z)⟩
theorem vx_L.word {C n d : String} {A : Nat → Prop} {s : State} {args : Array Value} (h : vx_L C n d A s s.heap) : (Cond.laysStatic C n d).before args s = true := by
  obtain ⟨c, k, i, f, a, cell, h1, h2, h3, h4, h5, h6, h7, h8, h9, -⟩ := h
  show (Cond.laysStatic C n d).holds args s none s [] = true
  exact Cond.laysStatic_of h1 h2 h3 h4 h5 h6 h7 h8 h9
/-- .. and what it holds: null or some reference -/
def vx_Zq (C n d : String) (A : Nat → Prop) (U : State) (H : Heap) : Prop := va_Zq C n d A U H ∧ vx_L C n d A U H
theorem vx_Zq.moved {C n d : String} {A : Nat → Prop} {u U : State} {H : Heap} (hvm : u.vm.Alike U.vm) (h : vx_Zq C n d A u H) : vx_Zq C n d A U H := ⟨va_Zq.moved hvm h.1, vx_L.moved hvm h.2⟩
theorem vx_Zq.kept {C n d : String} {A : Nat → Prop} {U : State} {H H1 : Heap} (h : vx_Zq C n d A U H) (hq : ∀ a : Nat, a < H.size → ¬ A a → H1[a]? = H[a]?) : vx_Zq C n d A U H1 := ⟨va_Zq.kept h.1 hq, vx_L.kept h.2 hq⟩
theorem vx_Zq.narrow {C n d : String} {A B : Nat → Prop} {U : State} {H : Heap} (h : vx_Zq C n d A U H) (hAB : ∀ q, B q → A q) : vx_Zq C n d B U H := ⟨va_Zq.narrow h.1 hAB, vx_L.narrow h.2 hAB⟩
theorem vx_Zqof {args : Array Value} {s : State} {C n d : String} {A : Nat → Prop} (hl : (Cond.laysStatic C n d).before args s = true) (hini : (Cond.initialized C).before args s = true) (h : (Cond.isRef (.static C n d)).before args s = true) (hA : ∀ a : Nat, a < s.heap.size → ¬ A a) : vx_Zq C n d A s s.heap := by
  refine ⟨va_Zqof hl hini h hA, ?_⟩
  obtain ⟨c, k, i, f, a, cell, h1, h2, h3, h4, h5, h6, h7, h8, h9⟩ := Cond.laysStatic_spec hl
  exact ⟨c, k, i, f, a, cell, h1, h2, h3, h4, h5, h6, h7, h8, h9, hA a (Array.getElem?_eq_some_iff.mp h5).1⟩
theorem vx_isRef {C n d : String} {v : Value} {A : Nat → Prop} {s : State} {args : Array Value} (h : va_Z C n d v A s s.heap) (hv : v.isRef = true) : (Cond.isRef (.static C n d)).before args s = true := by
  obtain ⟨cf, kf, fi, f, a, cell, h1, h2, h3, h4, h5, h6, h7, -⟩ := h
  have he : (Term.static C n d).eval args s none [] s = some v := by
    simp [Term.eval, State.fieldNamed?, h1, h2, h4, h5, h6, h7]
  simp only [Cond.before, Cond.holds, Cond.value, he]
  cases v <;> simp_all [Value.isRef]
theorem vx_isRefq {C n d : String} {A : Nat → Prop} {s : State} {args : Array Value} (h : va_Zq C n d A s s.heap) : (Cond.isRef (.static C n d)).before args s = true := by
  rcases h with h | ⟨t, h⟩
  · exact vx_isRef h rfl
  · exact vx_isRef h rfl
/-- the same frame, seen from here: as if the method were called anew in this heap -/
theorem vx_rebase {T : State} (X : Stand p l e R s m args below meth c T locs cells slots) {R' : Room} (hf : R'.frames ≤ R.frames) (hl : R'.locals ≤ R.locals) (hc : cells + R'.cells ≤ R.cells) (hs : slots + R'.slots ≤ R.slots) :
    Stand p l e R' ((T.setVm s.vm).setFrames (.invoking m args :: below)) m args below meth c T [] 0 0 := by
  have htop : (T.setVm s.vm).topJava?.isSome := X.here.top
  have hF : ((T.setVm s.vm).setFrames (.invoking m args :: below)).frames = .invoking m args :: below := State.frames_setFrames _ (State.cur_lt_of_top htop)
  obtain ⟨g₀, hg0⟩ := Option.isSome_iff_exists.mp htop
  obtain ⟨r, hr⟩ := State.topJava?_eq_some.mp hg0
  have hl9 : e.platform.stackLimits (T.setVm s.vm).me = e.platform.stackLimits s.me := X.limits
  have hb9 : (T.setVm s.vm).me.stackBytes = s.me.stackBytes := X.bytes
  refine ⟨X.admits, X.cas, X.clock, hF, ?_, X.hears, X.method, X.code, X.here, X.tail, X.warmed, ?_, ?_, ?_⟩
  · have h := X.room
    have hU : ((T.setVm s.vm).setFrames (.invoking m args :: below)).localsInUse = s.localsInUse := by
      rw [State.localsInUse_invoking hF (meth := meth) (c := c) X.method X.code, State.localsInUse_invoking X.frames X.method X.code]
    simp only [State.hasRoom, Bool.and_eq_true, decide_eq_true_eq] at h ⊢
    obtain ⟨⟨⟨⟨h1, h2, h3, h4, h5, h6⟩, h7⟩, h8⟩, h9⟩ := h
    rw [X.frames, List.length_cons] at h2 h3
    have q1 := X.heapSize
    have q2 := X.used
    simp only [hF, hU, List.length_cons, State.stackLimits_setFrames, State.stackBytes_setFrames, hl9, hb9]
    refine ⟨⟨⟨⟨by omega, by omega, by omega, by omega, by omega, h6⟩, ?_⟩, ?_⟩, X.book⟩
    · show T.heap.size + R'.cells ≤ e.platform.maxCells
      omega
    · show T.slotsUsed + R'.slots ≤ e.platform.maxSlots
      omega
  · rw [State.stackLimits_setFrames]; rfl
  · rw [State.stackBytes_setFrames]; rfl
  · refine ⟨?_, Nat.le_refl _, Nat.le_refl _, ?_, ?_, fun a c9 h9 => ⟨c9, h9, rfl, rfl, fun _ _ => rfl⟩⟩
    · obtain ⟨t, ht, -⟩ := State.frames_cons hr
      show T.setVm s.vm = { ((T.setVm s.vm).setFrames (.invoking m args :: below)).setFrames (T.setVm s.vm).frames with heap := T.heap, slotsUsed := T.slotsUsed }
      rw [State.setFrames_setFrames, State.setFrames_self ht]
      rfl
    · show T.slotsUsed = T.slotsUsed + ((T.heap.toList.drop T.heap.size).map (·.slots.size)).sum
      rw [List.drop_eq_nil_of_le (Nat.le_of_eq Array.length_toList)]
      rfl
    · show ((T.heap.toList.drop T.heap.size).map (·.slots.size)).sum ≤ 0
      rw [List.drop_eq_nil_of_le (Nat.le_of_eq Array.length_toList)]
      exact Nat.le_refl _
/-- 'throw new E()': new; dup; invokespecial; athrow -/
theorem vx_throw0 {cc : ByteArray} {pc : Nat} (hexec : p.tables.exec = Jvm.exec) (hb : c.code = cc) (hl : l.stackTraces = false) {own cls : String} {names : List String} {ik ic mc ms : Nat} {A : Nat → Prop}
    (hown : s.vm.findClass own = some m.cls) (hcls : Bundle.fit cls = true) (hnames : ∀ n ∈ names, Bundle.fit n = true)
    (hk : (Cond.classLink own ik cls).before args s = true) (hini : (Cond.initialized cls).before args s = true) (hat : ∀ w ∈ vx_at0 own ic cls names, w.before args s = true)
    (hgood : ∀ w ∈ Cond.classLink own ik cls :: Cond.initialized cls :: vx_at0 own ic cls names, vx_ot w = true)
    (hU : vx_Zq Bundle.tN "UNASSIGNED_STACK" Bundle.steD A s s.heap) (hN : vx_Zq Bundle.tN "SUPPRESSED_SENTINEL" Bundle.listD A s s.heap) (hS : va_S A s.heap H locs) (hsize : ls.size = c.maxLocals)
    (d0 : decode cc pc = .ok (.new ik, 3)) (d3 : decode cc (pc + 3) = .ok (.dup, 1)) (d4 : decode cc (pc + 4) = .ok (.invokespecial ic, 3)) (d7 : decode cc (pc + 7) = .ok (.athrow, 1))
    (hout : ∀ x ∈ c.exceptionTable.toList, covers x (pc + 7) = false)
    (hRframes : names.length + 3 < R.frames) (hRlocals : (rest.map fun v => v.category).sum + (13 * (names.length + 1) + 42) ≤ R.locals) (hRcells : cells + 1 ≤ R.cells) (hRslots : slots + 6 ≤ R.slots) (hlocks : meth.locks = false)
    (hx : ∀ t : State, s.vm.Alike t.vm → H.size ≤ t.heap.size → (∀ q : Nat, q < H.size → t.heap[q]? = H[q]?) → XC cls s t)
    (hf : ∀ z ∈ locs, free z.base) (hc : cells + 1 ≤ mc) (hs : slots + 6 ≤ ms) :
    W p l e R s m args below meth c H locs cells slots (vx_MQ below Qc XC args s mc ms free) (F0 m pc ls rest) := by
  intro T hT X
  have htr : e.platform.stackTraces = false := (show e.platform.stackTraces = l.stackTraces by rw [X.admits.platform]).trans hl
  have Y := vx_rebase X (R' := { frames := R.frames, locals := R.locals, cells := 1, slots := 6 }) (Nat.le_refl _) (Nat.le_refl _) hRcells hRslots
  obtain ⟨s', hA⟩ : ∃ z, z = (T.setVm s.vm).setFrames (.invoking m args :: below) := ⟨_, rfl⟩
  rw [← hA] at Y
  have hvm : s'.vm = s.vm := by rw [hA]; rfl
  have hhp : s'.heap = H := by rw [hA]; exact hT
  have hW0 : s.WarmedH s'.vm := by rw [hvm]; exact State.WarmedH.refl s
  have hat' : ∀ w ∈ vx_at0 own ic cls names, w.before args s' = true := fun w hw => vx_ot_at hW0 hvm.symm (hgood w (List.mem_cons_of_mem _ (List.mem_cons_of_mem _ hw))) (hat w hw)
  have hk' : (Cond.classLink own ik cls).before args s' = true := vx_ot_at hW0 hvm.symm (hgood _ List.mem_cons_self) hk
  have hini' : (Cond.initialized cls).before args s' = true := vx_ot_at hW0 hvm.symm (hgood _ (List.mem_cons_of_mem _ List.mem_cons_self)) hini
  have hU' : vx_Zq Bundle.tN "UNASSIGNED_STACK" Bundle.steD A s' s'.heap := by rw [hhp]; exact vx_Zq.moved hW0.alike (hU.kept hS.2.1)
  have hN' : vx_Zq Bundle.tN "SUPPRESSED_SENTINEL" Bundle.listD A s' s'.heap := by rw [hhp]; exact vx_Zq.moved hW0.alike (hN.kept hS.2.1)
  have h : ∀ w ∈ Bundle.ownAtoms0 own ic cls names, w.before args s' = true := vx_own hat' (vx_isRefq hU'.1) (vx_isRefq hN'.1) hU'.2.word hN'.2.word
  have hown' : s'.vm.findClass own = some m.cls := by rw [hvm]; exact hown
  have hins : (Cond.instantiable cls 6).before args s' = true := h _ (by simp [Bundle.ownAtoms0])
  obtain ⟨vm₁, cX, kX, hfX, hkX, -, -, X₁, st1⟩ := Y.newCold hexec (own := own) (C := cls) (index := ik) (n := 6) hown' hk' hins hini'
    (g := F0 m pc ls rest) rfl (by rw [hb]; exact d0) (Nat.le_refl _) (Nat.le_refl _)
  generalize hT1 : (T.setVm vm₁).pushCell { cls := cX, slots := kX.instanceTypes.map defaultValue, vm := .none } = T1 at X₁ st1
  have hcat : (Value.ref T.heap.size).category = 1 := rfl
  have hcellA : T1.heap[T.heap.size]? = some (freshCell cX kX) := by rw [← hT1]; exact State.heap_pushCell_size _ _
  have d3' : decode c.code (pc + 3) = .ok (.dup, 1) := by rw [hb]; exact d3
  obtain ⟨U, hsteps, hrun, hend, hW, hsame, ce, hce, hO⟩ := X₁.ctorThrow0 hexec htr (own := own) (cls := cls) (names := names) (ic := ic) hown' hcls hnames h (fun x hx => nomatch hx) hfX hkX hcellA (by rw [hhp, hT]; exact Nat.le_refl _)
    (g := { method := m, pc := pc + 4, locals := ls, stack := .ref T.heap.size :: .ref T.heap.size :: rest, locked := none }) rfl hsize rfl rfl (rest := rest) rfl
    (by rw [hb]; exact d4) (by rw [hb]; exact d7) hout hRframes (by simp only [List.map_cons, List.sum_cons, hcat]; omega) hlocks
  obtain ⟨f1, f2⟩ := vx_frame hsame
  rw [hhp] at f1 f2
  have hWs : s.WarmedH U.vm := State.WarmedH.trans hW0 hW
  have hcl : s.vm.findClass cls = some ce.cls := by
    have h9 := hO.cls
    rw [hvm] at h9
    exact h9
  have hall : s.sameButNew ({ U with vm := s.vm } : State) locs mc ms := by
    subst hA
    obtain ⟨e1, e2⟩ := hsame
    rw [State.setFrames_setFrames] at e1
    have h2 : (T.setVm s.vm).sameButNew ({ U with vm := s.vm } : State) [] (0 + 1) (0 + 6) := ⟨e1, e2⟩
    have h3 := X.same.trans h2
    rw [List.append_nil] at h3
    exact h3.mono hc hs
  refine ⟨U, ?_, .threw T.heap.size, hrun, hend, Or.inr ⟨T.heap.size, rfl, cls, ce, locs, hx U hWs.alike f1 (fun q hq => f2 q hq (fun z hz => nomatch hz)), hce, hO.vm, hcl, hWs, hall, hf⟩⟩
  refine st1 _ ?_
  show Steps p.tables e below (T1.setTop { method := m, pc := pc + 3, locals := ls, stack := .ref T.heap.size :: rest, locked := none }) _
  jvm_step X₁.here [X₁.here.top, hexec, d3', Value.category]
  exact hsteps
/-- 'throw new E("text")': new; dup; ldc; invokespecial; athrow -/
theorem vx_throwS {cc : ByteArray} {pc : Nat} (hexec : p.tables.exec = Jvm.exec) (hb : c.code = cc) (hl : l.stackTraces = false) {own cls text : String} {names : List String} {ik is ic mc ms sa : Nat} {A : Nat → Prop}
    (hown : s.vm.findClass own = some m.cls) (hcls : Bundle.fit cls = true) (hnames : ∀ n ∈ names, Bundle.fit n = true)
    (hk : (Cond.classLink own ik cls).before args s = true) (hini : (Cond.initialized cls).before args s = true) (hstr : vk_R own is text sa s) (hat : ∀ w ∈ vx_atS own ic cls names, w.before args s = true)
    (hgood : ∀ w ∈ Cond.classLink own ik cls :: Cond.initialized cls :: vx_atS own ic cls names, vx_ot w = true)
    (hU : vx_Zq Bundle.tN "UNASSIGNED_STACK" Bundle.steD A s s.heap) (hN : vx_Zq Bundle.tN "SUPPRESSED_SENTINEL" Bundle.listD A s s.heap) (hS : va_S A s.heap H locs) (hsize : ls.size = c.maxLocals)
    (d0 : decode cc pc = .ok (.new ik, 3)) (d3 : decode cc (pc + 3) = .ok (.dup, 1)) (d4 : decode cc (pc + 4) = .ok (.ldc is, 2)) (d6 : decode cc (pc + 6) = .ok (.invokespecial ic, 3)) (d9 : decode cc (pc + 9) = .ok (.athrow, 1))
    (hout : ∀ x ∈ c.exceptionTable.toList, covers x (pc + 9) = false)
    (hRframes : names.length + 3 < R.frames) (hRlocals : (rest.map fun v => v.category).sum + (13 * (names.length + 1) + 43) ≤ R.locals) (hRcells : cells + 1 ≤ R.cells) (hRslots : slots + 6 ≤ R.slots) (hlocks : meth.locks = false)
    (hx : ∀ t : State, s.vm.Alike t.vm → H.size ≤ t.heap.size → (∀ q : Nat, q < H.size → t.heap[q]? = H[q]?) → XC cls s t)
    (hf : ∀ z ∈ locs, free z.base) (hc : cells + 1 ≤ mc) (hs : slots + 6 ≤ ms) :
    W p l e R s m args below meth c H locs cells slots (vx_MQ below Qc XC args s mc ms free) (F0 m pc ls rest) := by
  intro T hT X
  have htr : e.platform.stackTraces = false := (show e.platform.stackTraces = l.stackTraces by rw [X.admits.platform]).trans hl
  have Y := vx_rebase X (R' := { frames := R.frames, locals := R.locals, cells := 1, slots := 6 }) (Nat.le_refl _) (Nat.le_refl _) hRcells hRslots
  obtain ⟨s', hA⟩ : ∃ z, z = (T.setVm s.vm).setFrames (.invoking m args :: below) := ⟨_, rfl⟩
  rw [← hA] at Y
  have hvm : s'.vm = s.vm := by rw [hA]; rfl
  have hhp : s'.heap = H := by rw [hA]; exact hT
  have hW0 : s.WarmedH s'.vm := by rw [hvm]; exact State.WarmedH.refl s
  have hat' : ∀ w ∈ vx_atS own ic cls names, w.before args s' = true := fun w hw => vx_ot_at hW0 hvm.symm (hgood w (List.mem_cons_of_mem _ (List.mem_cons_of_mem _ hw))) (hat w hw)
  have hk' : (Cond.classLink own ik cls).before args s' = true := vx_ot_at hW0 hvm.symm (hgood _ List.mem_cons_self) hk
  have hini' : (Cond.initialized cls).before args s' = true := vx_ot_at hW0 hvm.symm (hgood _ (List.mem_cons_of_mem _ List.mem_cons_self)) hini
  have hU' : vx_Zq Bundle.tN "UNASSIGNED_STACK" Bundle.steD A s' s'.heap := by rw [hhp]; exact vx_Zq.moved hW0.alike (hU.kept hS.2.1)
  have hN' : vx_Zq Bundle.tN "SUPPRESSED_SENTINEL" Bundle.listD A s' s'.heap := by rw [hhp]; exact vx_Zq.moved hW0.alike (hN.kept hS.2.1)
  have h : ∀ w ∈ Bundle.ownAtoms own ic cls names, w.before args s' = true := vx_own hat' (vx_isRefq hU'.1) (vx_isRefq hN'.1) hU'.2.word hN'.2.word
  have hown' : s'.vm.findClass own = some m.cls := by rw [hvm]; exact hown
  have hins : (Cond.instantiable cls 6).before args s' = true := h _ (by simp [Bundle.ownAtoms])
  obtain ⟨vm₁, cX, kX, hfX, hkX, -, -, X₁, st1⟩ := Y.newCold hexec (own := own) (C := cls) (index := ik) (n := 6) hown' hk' hins hini'
    (g := F0 m pc ls rest) rfl (by rw [hb]; exact d0) (Nat.le_refl _) (Nat.le_refl _)
  generalize hT1 : (T.setVm vm₁).pushCell { cls := cX, slots := kX.instanceTypes.map defaultValue, vm := .none } = T1 at X₁ st1
  have hcat : (Value.ref T.heap.size).category = 1 := rfl
  have hcellA : T1.heap[T.heap.size]? = some (freshCell cX kX) := by rw [← hT1]; exact State.heap_pushCell_size _ _
  have d3' : decode c.code (pc + 3) = .ok (.dup, 1) := by rw [hb]; exact d3
  have d4' : decode c.code (pc + 4) = .ok (.ldc is, 2) := by rw [hb]; exact d4
  have hstr' : vk_R own is text sa s' := vk_R.warm hW0 hstr
  obtain ⟨U, hsteps, hrun, hend, hW, hsame, ce, hce, hO⟩ := X₁.ctorThrowS hexec htr (own := own) (cls := cls) (names := names) (ic := ic) hown' hcls hnames h (fun x hx => nomatch hx) hfX hkX hcellA (by rw [hhp, hT]; exact Nat.le_refl _) (msg := .ref sa) rfl
    (g := { method := m, pc := pc + 6, locals := ls, stack := .ref sa :: .ref T.heap.size :: .ref T.heap.size :: rest, locked := none }) rfl hsize rfl rfl (rest := rest) rfl
    (by rw [hb]; exact d6) (by rw [hb]; exact d9) hout hRframes (by simp only [List.map_cons, List.sum_cons, hcat]; omega) hlocks
  obtain ⟨f1, f2⟩ := vx_frame hsame
  rw [hhp] at f1 f2
  have hWs : s.WarmedH U.vm := State.WarmedH.trans hW0 hW
  have hcl : s.vm.findClass cls = some ce.cls := by
    have h9 := hO.cls
    rw [hvm] at h9
    exact h9
  have hall : s.sameButNew ({ U with vm := s.vm } : State) locs mc ms := by
    subst hA
    obtain ⟨e1, e2⟩ := hsame
    rw [State.setFrames_setFrames] at e1
    have h2 : (T.setVm s.vm).sameButNew ({ U with vm := s.vm } : State) [] (0 + 1) (0 + 6) := ⟨e1, e2⟩
    have h3 := X.same.trans h2
    rw [List.append_nil] at h3
    exact h3.mono hc hs
  refine ⟨U, ?_, .threw T.heap.size, hrun, hend, Or.inr ⟨T.heap.size, rfl, cls, ce, locs, hx U hWs.alike f1 (fun q hq => f2 q hq (fun z hz => nomatch hz)), hce, hO.vm, hcl, hWs, hall, hf⟩⟩
  refine st1 _ ?_
  show Steps p.tables e below (T1.setTop { method := m, pc := pc + 3, locals := ls, stack := .ref T.heap.size :: rest, locked := none }) _
  jvm_step X₁.here [X₁.here.top, hexec, d3', Value.category]
  exact X₁.ldcString hexec (own := own) (text := text) (index := is) (a := sa) hown' hstr'.1 hstr'.2
    (g := { method := m, pc := pc + 4, locals := ls, stack := .ref T.heap.size :: .ref T.heap.size :: rest, locked := none }) rfl d4' _ hsteps
/-- 'throw new E("text")', the text by a wide index -/
theorem vx_throwSW {cc : ByteArray} {pc : Nat} (hexec : p.tables.exec = Jvm.exec) (hb : c.code = cc) (hl : l.stackTraces = false) {own cls text : String} {names : List String} {ik is ic mc ms sa : Nat} {A : Nat → Prop}
    (hown : s.vm.findClass own = some m.cls) (hcls : Bundle.fit cls = true) (hnames : ∀ n ∈ names, Bundle.fit n = true)
    (hk : (Cond.classLink own ik cls).before args s = true) (hini : (Cond.initialized cls).before args s = true) (hstr : vk_R own is text sa s) (hat : ∀ w ∈ vx_atS own ic cls names, w.before args s = true)
    (hgood : ∀ w ∈ Cond.classLink own ik cls :: Cond.initialized cls :: vx_atS own ic cls names, vx_ot w = true)
    (hU : vx_Zq Bundle.tN "UNASSIGNED_STACK" Bundle.steD A s s.heap) (hN : vx_Zq Bundle.tN "SUPPRESSED_SENTINEL" Bundle.listD A s s.heap) (hS : va_S A s.heap H locs) (hsize : ls.size = c.maxLocals)
    (d0 : decode cc pc = .ok (.new ik, 3)) (d3 : decode cc (pc + 3) = .ok (.dup, 1)) (d4 : decode cc (pc + 4) = .ok (.ldc_w is, 3)) (d7 : decode cc (pc + 7) = .ok (.invokespecial ic, 3)) (d10 : decode cc (pc + 10) = .ok (.athrow, 1))
    (hout : ∀ x ∈ c.exceptionTable.toList, covers x (pc + 10) = false)
    (hRframes : names.length + 3 < R.frames) (hRlocals : (rest.map fun v => v.category).sum + (13 * (names.length + 1) + 43) ≤ R.locals) (hRcells : cells + 1 ≤ R.cells) (hRslots : slots + 6 ≤ R.slots) (hlocks : meth.locks = false)
    (hx : ∀ t : State, s.vm.Alike t.vm → H.size ≤ t.heap.size → (∀ q : Nat, q < H.size → t.heap[q]? = H[q]?) → XC cls s t)
    (hf : ∀ z ∈ locs, free z.base) (hc : cells + 1 ≤ mc) (hs : slots + 6 ≤ ms) :
    W p l e R s m args below meth c H locs cells slots (vx_MQ below Qc XC args s mc ms free) (F0 m pc ls rest) := by
  intro T hT X
  have htr : e.platform.stackTraces = false := (show e.platform.stackTraces = l.stackTraces by rw [X.admits.platform]).trans hl
  have Y := vx_rebase X (R' := { frames := R.frames, locals := R.locals, cells := 1, slots := 6 }) (Nat.le_refl _) (Nat.le_refl _) hRcells hRslots
  obtain ⟨s', hA⟩ : ∃ z, z = (T.setVm s.vm).setFrames (.invoking m args :: below) := ⟨_, rfl⟩
  rw [← hA] at Y
  have hvm : s'.vm = s.vm := by rw [hA]; rfl
  have hhp : s'.heap = H := by rw [hA]; exact hT
  have hW0 : s.WarmedH s'.vm := by rw [hvm]; exact State.WarmedH.refl s
  have hat' : ∀ w ∈ vx_atS own ic cls names, w.before args s' = true := fun w hw => vx_ot_at hW0 hvm.symm (hgood w (List.mem_cons_of_mem _ (List.mem_cons_of_mem _ hw))) (hat w hw)
  have hk' : (Cond.classLink own ik cls).before args s' = true := vx_ot_at hW0 hvm.symm (hgood _ List.mem_cons_self) hk
  have hini' : (Cond.initialized cls).before args s' = true := vx_ot_at hW0 hvm.symm (hgood _ (List.mem_cons_of_mem _ List.mem_cons_self)) hini
  have hU' : vx_Zq Bundle.tN "UNASSIGNED_STACK" Bundle.steD A s' s'.heap := by rw [hhp]; exact vx_Zq.moved hW0.alike (hU.kept hS.2.1)
  have hN' : vx_Zq Bundle.tN "SUPPRESSED_SENTINEL" Bundle.listD A s' s'.heap := by rw [hhp]; exact vx_Zq.moved hW0.alike (hN.kept hS.2.1)
  have h : ∀ w ∈ Bundle.ownAtoms own ic cls names, w.before args s' = true := vx_own hat' (vx_isRefq hU'.1) (vx_isRefq hN'.1) hU'.2.word hN'.2.word
  have hown' : s'.vm.findClass own = some m.cls := by rw [hvm]; exact hown
  have hins : (Cond.instantiable cls 6).before args s' = true := h _ (by simp [Bundle.ownAtoms])
  obtain ⟨vm₁, cX, kX, hfX, hkX, -, -, X₁, st1⟩ := Y.newCold hexec (own := own) (C := cls) (index := ik) (n := 6) hown' hk' hins hini'
    (g := F0 m pc ls rest) rfl (by rw [hb]; exact d0) (Nat.le_refl _) (Nat.le_refl _)
  generalize hT1 : (T.setVm vm₁).pushCell { cls := cX, slots := kX.instanceTypes.map defaultValue, vm := .none } = T1 at X₁ st1
  have hcat : (Value.ref T.heap.size).category = 1 := rfl
  have hcellA : T1.heap[T.heap.size]? = some (freshCell cX kX) := by rw [← hT1]; exact State.heap_pushCell_size _ _
  have d3' : decode c.code (pc + 3) = .ok (.dup, 1) := by rw [hb]; exact d3
  have d4' : decode c.code (pc + 4) = .ok (.ldc_w is, 3) := by rw [hb]; exact d4
  have hstr' : vk_R own is text sa s' := vk_R.warm hW0 hstr
  obtain ⟨U, hsteps, hrun, hend, hW, hsame, ce, hce, hO⟩ := X₁.ctorThrowS hexec htr (own := own) (cls := cls) (names := names) (ic := ic) hown' hcls hnames h (fun x hx => nomatch hx) hfX hkX hcellA (by rw [hhp, hT]; exact Nat.le_refl _) (msg := .ref sa) rfl
    (g := { method := m, pc := pc + 7, locals := ls, stack := .ref sa :: .ref T.heap.size :: .ref T.heap.size :: rest, locked := none }) rfl hsize rfl rfl (rest := rest) rfl
    (by rw [hb]; exact d7) (by rw [hb]; exact d10) hout hRframes (by simp only [List.map_cons, List.sum_cons, hcat]; omega) hlocks
  obtain ⟨f1, f2⟩ := vx_frame hsame
  rw [hhp] at f1 f2
  have hWs : s.WarmedH U.vm := State.WarmedH.trans hW0 hW
  have hcl : s.vm.findClass cls = some ce.cls := by
    have h9 := hO.cls
    rw [hvm] at h9
    exact h9
  have hall : s.sameButNew ({ U with vm := s.vm } : State) locs mc ms := by
    subst hA
    obtain ⟨e1, e2⟩ := hsame
    rw [State.setFrames_setFrames] at e1
    have h2 : (T.setVm s.vm).sameButNew ({ U with vm := s.vm } : State) [] (0 + 1) (0 + 6) := ⟨e1, e2⟩
    have h3 := X.same.trans h2
    rw [List.append_nil] at h3
    exact h3.mono hc hs
  refine ⟨U, ?_, .threw T.heap.size, hrun, hend, Or.inr ⟨T.heap.size, rfl, cls, ce, locs, hx U hWs.alike f1 (fun q hq => f2 q hq (fun z hz => nomatch hz)), hce, hO.vm, hcl, hWs, hall, hf⟩⟩
  refine st1 _ ?_
  show Steps p.tables e below (T1.setTop { method := m, pc := pc + 3, locals := ls, stack := .ref T.heap.size :: rest, locked := none }) _
  jvm_step X₁.here [X₁.here.top, hexec, d3', Value.category]
  exact X₁.ldcStringW hexec (own := own) (text := text) (index := is) (a := sa) hown' hstr'.1 hstr'.2
    (g := { method := m, pc := pc + 4, locals := ls, stack := .ref T.heap.size :: .ref T.heap.size :: rest, locked := none }) rfl d4' _ hsteps
end Ends
section Bodies
variable {l : Launch}
theorem vx_ofW {y : MethodName} {ws ws' : List Cond} {rm : Room} {Pc : Array Value → State → Prop} {Qc : Array Value → State → Outcome → State → Prop} {XC : String → State → State → Prop} {mc ms : Nat} {free : Addr → Prop} {cc : ByteArray} {maxL : Nat} {ret : Option FieldType}
    (hy : plainName y.cls = true) (hw : ws = Cond.code y cc maxL ret :: ws')
    (body : ∀ p e s m args below meth c s₁, BodyLoose p l y (headSpec ws rm) cc maxL ret e s m args below meth c s₁ → c.maxLocals = maxL → (∀ x ∈ c.exceptionTable.toList, False) → Pc args s →
      W p l e (headSpec ws rm).room s m args below meth c s.heap [] 0 0 (vx_MQ below Qc XC args s mc ms free) (entryFrame m args maxL)) : vx_Met l y ws rm Pc Qc XC mc ms free := by
  refine MetFree.of_bodyS (code := cc) (maxLocals := maxL) (ret := ret) hy ?_ ?_
  · intro args s m h hn
    obtain ⟨meth, c, h1, h2, h3, h4, h5, h6, -, -⟩ := Cond.code_spec hn (atoms_spec (ws := ws) h _ (by rw [hw]; exact List.mem_cons_self))
    exact ⟨meth, c, h1, h2, h3, h4, h5, h6⟩
  · intro p e s m args below meth c s₁ B hml hP _
    have hh0 : s₁.heap = s.heap := by rw [B.state]; rfl
    have ht : ∀ x ∈ c.exceptionTable.toList, False := by
      obtain ⟨meth9, c9, h1, h2, -, -, -, -, h7, -⟩ := Cond.code_spec B.named (atoms_spec (ws := ws) B.pre _ (by rw [hw]; exact List.mem_cons_self))
      cases Option.some.inj (h1.symm.trans B.method)
      cases Option.some.inj (h2.symm.trans (Stand.of_body B).code)
      intro x hx
      rw [Array.isEmpty_iff.mp h7] at hx
      cases hx
    obtain ⟨t, a1, o, b1, b2, b3⟩ := body p e s m args below meth c s₁ B hml ht hP s₁ hh0 (Stand.of_body B)
    exact ⟨t, o, a1, b1, b2, b3⟩
/-- the table of a body with handlers -/
theorem vx_table {p : Program} {x y : MethodName} {S : Spec} {cc bytes : ByteArray} {maxL maxL' : Nat} {ret ret' : Option FieldType} {e : Env} {s s₁ : State} {m : MethodId} {args : Array Value} {below : List Frame} {meth : Method} {c : Code} {hh : List (Nat × Nat × Nat × Nat)}
    (B : BodyLoose p l y S cc maxL ret e s m args below meth c s₁) (h : (Cond.codeWith y bytes maxL' ret' hh).before args s = true) : c.exceptionTable.toList = tableOf hh := by
  obtain ⟨m9, meth9, c9, hn9, h1, h2, -, -, h6, -⟩ := Cond.codeWith_spec h
  cases Option.some.inj (hn9.symm.trans B.named)
  cases Option.some.inj (h1.symm.trans B.method)
  cases Option.some.inj (h2.symm.trans (Stand.of_body B).code)
  rw [← h6, table_eq]
end Bodies
end VXA
/-! ===== END ===== -/
/-! ===== BEGIN a static call of a method with an exception table ===== -/
section VXS
variable {p : Program} {l : Launch} {e : Env} {R : Room} {s : State} {m : MethodId} {args : Array Value} {below : List Frame} {meth : Method} {c : Code} {T : State} {H : Heap} {locs : List Loc} {cells slots : Nat}
abbrev vx_CSW (R : Room) (s : State) (args : Array Value) (own : String) (index : Nat) (y : MethodName) (bytes : ByteArray) (maxL : Nat) (ret : Option FieldType) (hh : List (Nat × Nat × Nat × Nat)) (ws : List Cond) (rm : Room) (mc ms n : Nat) : Prop :=
  (rm.cells = mc ∧ rm.slots = ms ∧ rm.frames + 1 ≤ R.frames ∧ 8 + (maxL + 11) + rm.locals ≤ R.locals ∧ (∀ w ∈ ws, ∀ (a' : Array Value) (U : State), s.WarmedH U.vm → w.before a' U = true) ∧ Cond.codeWith y bytes maxL ret hh ∈ ws) ∧
  (Cond.codeWith y bytes maxL ret hh).before args s = true ∧ (Cond.initialized y.cls).before args s = true ∧ (y.cls ≠ "java/lang/invoke/MethodHandle" ∧ y.cls ≠ "java/lang/invoke/VarHandle") ∧
  (∀ sig, parseMethodDescriptor y.desc = some sig → n = sig.parameters.length) ∧ (Cond.methodLink own index y).before args s = true ∧ (Cond.static y).before args s = true
theorem vx_cwSW {own : String} {index maxL mc ms : Nat} {y : MethodName} {bytes : ByteArray} {ret : Option FieldType} {hh : List (Nat × Nat × Nat × Nat)} {Ts ws ws' : List Cond} {rm : Room} (n : Nat) (ht : ∀ w ∈ Ts, w.before args s = true) (hT : GoodIn Ts (va_wsS own index y ws)) (hw : ws = Cond.codeWith y bytes maxL ret hh :: ws') (hrc : rm.cells = mc) (hrs : rm.slots = ms)
    (hd : y.cls ≠ "java/lang/invoke/MethodHandle" ∧ y.cls ≠ "java/lang/invoke/VarHandle" ∧ (parseMethodDescriptor y.desc).map (fun d => d.parameters.length) = some n) (hR : rm.frames + 1 ≤ R.frames ∧ 8 + (maxL + 11) + rm.locals ≤ R.locals) :
    vx_CSW R s args own index y bytes maxL ret hh ws rm mc ms n := by
  have ok : ∀ w ∈ va_wsS own index y ws, w.before args s = true := fun w h => ht w (hT w h).1
  have hG : GoodIn Ts ws := fun w h => hT w (by unfold va_wsS; exact List.mem_append_right _ h)
  have hc : Cond.codeWith y bytes maxL ret hh ∈ ws := by rw [hw]; exact List.mem_cons_self
  refine ⟨⟨hrc, hrs, hR.1, hR.2, pay_in ht hG, hc⟩, ht _ (hG _ hc).1, ok _ (by simp [va_wsS]), ⟨hd.1, hd.2.1⟩, fun sig h => ?_, ok _ (by simp [va_wsS]), ok _ (by simp [va_wsS])⟩
  have h2 := hd.2.2
  rw [h] at h2
  exact (Option.some.inj h2).symm
theorem vx_callSW (X : Stand p l e R s m args below meth c T locs cells slots) (hexec : p.tables.exec = Jvm.exec) {own : String} {index : Nat} {y : MethodName} {bytes : ByteArray} {maxL : Nat} {ret : Option FieldType} {hh : List (Nat × Nat × Nat × Nat)}
    (hown : s.vm.findClass own = some m.cls) (hlink : (Cond.methodLink own index y).before args s = true) (hstat : (Cond.static y).before args s = true) (hinit : (Cond.initialized y.cls).before args s = true)
    (hcode : (Cond.codeWith y bytes maxL ret hh).before args s = true) (hy : y.cls ≠ "java/lang/invoke/MethodHandle" ∧ y.cls ≠ "java/lang/invoke/VarHandle")
    {W9 : Nat} {Pre : Pt → Array Value → Prop} {Post : Pt → Array Value → Option Value → Pt → Prop} (hK : Back l R p e below s args y 3 W9 Pre Post)
    {g : JFrame} (hg : g.method = m) (hsize : g.locals.size = c.maxLocals) {argsL rest : List Value} (hlen : ∀ sig, parseMethodDescriptor y.desc = some sig → argsL.length = sig.parameters.length)
    (hstack : g.stack = argsL.reverse ++ rest) (hW : 2 * g.monitorRoom + (rest.map fun v => v.category).sum ≤ W9) (hdg : decode c.code g.pc = .ok (.invokestatic index, 3))
    (hpre : ∀ vm₁, s.WarmedH vm₁ → Pre ⟨T.setVm vm₁, locs, cells, slots⟩ argsL.toArray) :
    ∃ (v : Option Value) (vm₁ : Vm) (B : Pt), s.WarmedH vm₁ ∧ Stand p l e R s m args below meth c B.U B.locs B.cells B.slots ∧ Post ⟨T.setVm vm₁, locs, cells, slots⟩ argsL.toArray v B ∧
      ∀ target, Steps p.tables e below (B.U.setTop { g with pc := g.pc + 3, stack := v.toList ++ rest }) target → Steps p.tables e below (T.setTop g) target := by
  obtain ⟨mk, methM, cM, hnamed, hmethM, -, -, -, -, -, -, hsigM⟩ := Cond.codeWith_spec hcode
  have hstatic : methM.isStatic = true := Cond.static_spec hnamed hmethM hstat
  obtain ⟨kP, hkP, -⟩ := className_of_methodNamed hnamed
  have hinitP : kP.init = .initialized := Cond.initialized_spec (findClass_of_methodNamed hnamed) hkP hinit
  obtain ⟨vm₁, X₁, hstep₁⟩ := X.invokestatic hexec hown hlink hnamed hmethM hstatic hkP hinitP hy (g := g) hg (argsL := argsL) (rest := rest) (hlen _ hsigM) hstack hdg
  obtain ⟨v, B, X', hpost, hsteps⟩ := hK m meth c ⟨T.setVm vm₁, locs, cells, slots⟩ { g with stack := rest } (.invokestatic index) mk argsL.toArray X₁ hg hsize hdg hW (X₁.named hnamed) (hpre vm₁ X₁.warmed)
  exact ⟨v, vm₁, B, X₁.warmed, X', hpost, fun target h => hstep₁ _ fun acts => by rw [doInvoke_state]; exact hsteps.trans h⟩
theorem vx_runSW {y : MethodName} {bytes cc : ByteArray} {maxL nL mc ms n index : Nat} {ret : Option FieldType} {hh : List (Nat × Nat × Nat × Nat)} {ws : List Cond} {rm : Room} {Pc : Array Value → State → Prop} {Qc : Array Value → State → Outcome → State → Prop} {free : Addr → Prop} {Ts : List Cond} {own : String} {As rest : List Value} {g : JFrame}
    (S : CallFix p m c cc nL s args Ts own) (hM : Met l y ws rm Pc Qc mc ms free) (cw : vx_CSW R s args own index y bytes maxL ret hh ws rm mc ms n) (hp : PreS s H Pc As)
    (hg : g.method = m) (hn : As.length = n) (hsize : g.locals.size = nL) (hstack : g.stack = As.reverse ++ rest) (hW : 2 * g.monitorRoom + (rest.map fun v => v.category).sum ≤ 8) (hdg : decode cc g.pc = .ok (.invokestatic index, 3)) (hf : cells + mc ≤ R.cells ∧ slots + ms ≤ R.slots) :
    va_Run p l e R s m args below meth c H locs cells slots mc ms g rest (Qc As.toArray) (free) := by
  obtain ⟨⟨hrc, hrs, hfr, hlo, hws, hcw⟩, hcode, hini, hy, hlen, hl, hstt⟩ := cw
  have hK : Back l R p e below s args y 3 8 (PreOf R mc ms Pc) (PostOf Qc mc ms free) := va_backW (hh := hh) (bytes := bytes) (maxL := maxL) (ret := ret) hM hp.1 hrc hrs hfr hlo hws hcw (fun a' U hW => word_at hW (Or.inl (by first | rfl | simp [Cond.onTables, Cond.keeps, Cond.steady])) hini)
  obtain ⟨hx, hb, hml, ho, -⟩ := S
  intro T hT X
  obtain ⟨v, vm₁, ⟨U', l2, c2, s2⟩, hW₁, X', ⟨g', mk, t, L, e1, e2, hq, h1, hL, h2, h3⟩, st⟩ := vx_callSW X hx (hh := hh) (bytes := bytes) (maxL := maxL) (ret := ret) ho hl hstt hini hcode hy hK hg (hsize.trans hml.symm) (argsL := As) (rest := rest) (fun sig h => hn.trans (hlen sig h)) hstack hW (by rw [hb]; exact hdg)
    (fun vm₁ hW₁ => ⟨hf.1, hf.2, hp.2 (T.setVm vm₁) hT hW₁⟩)
  dsimp only [Pt.U, Pt.locs, Pt.cells, Pt.slots] at X' e1 e2 h1 h2 h3 st
  subst h1; subst h2; subst h3
  exact ⟨v, (T.setVm vm₁).calling g' mk As.toArray, t, U', L, hT, X', hL, e1, e2, hq, st⟩
/-- not caught here, past rows that name other classes: it goes on to the caller -/
theorem vx_outP {p : Program} {l : Launch} {e : Env} {R : Room} {s : State} {m : MethodId} {args : Array Value} {below : List Frame} {meth : Method} {c : Code} {H : Heap} {locs : List Loc} {cells slots : Nat} {free : Addr → Prop} {ls : Array Slot} {rest : List Value} {Qc : Array Value → State → Outcome → State → Prop} {XC : String → State → State → Prop}
    {pc : Nat} {own E : String} {ce : Cell} {q : Addr} {mc ms : Nat} (hown : s.vm.findClass own = some m.cls) (hlocks : meth.locks = false)
    (hpass : ∀ z ∈ c.exceptionTable.toList, covers z pc = false ∨ (z.catchType ≠ 0 ∧ ∃ nm : String, (Cond.classLink own z.catchType nm).before args s = true ∧ va_Nc E nm s)) (hcell : H[q]? = some ce) (hv : ce.vm = .none) (hcl : s.vm.findClass E = some ce.cls)
    (hx : ∀ t : State, t.heap = H → s.vm.Alike t.vm → XC E s t) (hf : ∀ z ∈ locs, free z.base) (hc : cells ≤ mc) (hs : slots ≤ ms) :
    vx_W p l e R s m args below meth c H locs cells slots (vx_MQ below Qc XC args s mc ms free) (F0 m pc ls rest) q := by
  intro T hT X
  have hpl : e.platform.magicAccessors = ({} : Platform).magicAccessors := by rw [X.admits.platform]
  obtain ⟨vm', hW', X', st⟩ := X.outThrough hlocks q (g := F0 m pc ls rest) rfl rfl rfl (cell := ce) (by rw [hT]; exact hcell) (by rw [hv]; rfl)
    (by obtain ⟨k9, h9, -⟩ := Vm.findClass_spec hcl; exact ⟨k9, h9⟩) (fun z hz => by
      rcases hpass z hz with h | ⟨hz0, nm, hl1, hn1⟩
      · exact Or.inl h
      · obtain ⟨c6, hc6, hcl6⟩ := Cond.classLink_spec hown hl1 e.platform hpl
        obtain ⟨a8, b8, h1, h2, h3⟩ := hn1
        cases Option.some.inj (h1.symm.trans hcl)
        cases Option.some.inj (h2.symm.trans hc6)
        exact Or.inr ⟨hz0, _, hcl6, h3⟩)
  obtain ⟨g₀, hfr⟩ := X'.frames_eq
  have hcell9 : ((T.setVm vm').setFrames (.throwing q :: below)).heap[q]? = some ce := by
    show T.heap[q]? = some ce
    rw [hT]; exact hcell
  have hend : Ended ((T.setVm vm').setFrames (.throwing q :: below)) below (.threw q) := State.frames_setFrames _ (State.cur_lt_of_frames hfr)
  refine ⟨(T.setVm vm').setFrames (.throwing q :: below), ?_, .threw q, X'.here.running, hend, Or.inr ⟨q, rfl, E, ce, locs, hx _ hT (X'.ends _).1.alike, hcell9, hv, hcl, (X'.ends _).1, (X'.ends _).2.mono hc hs, hf⟩⟩
  rw [X.pushThrowing_eq]
  exact st
/-- a thing of a world lies in the heap -/
theorem vx_lt {D : va_G} {cl : List vw_C} {ws : va_W} {H1 : Heap} (h : va_P D cl ws H1) {k : Nat} {q : Nat × va_E} (hk : ws[k]? = some q) : q.1 < H1.size := (h k q hk).lt
end VXS
/-! ===== END ===== -/
/-! ===== BEGIN methods with a table of their own: called by a name, returning or throwing ===== -/
section VXH
/-! vx_backW, vx_callVX, vx_callSX, vx_callVW, vx_runVW, vx_runVX, vx_runSX, vx_ofWH follow the same proofs as their sisters above (Free/Laws.lean, Shelf42/LK1.lean); vx_outP calls Shelf42/NT130.lean (outThrough). -/
section
variable {l : Launch} {R : Room} {p : Program} {e : Env} {below : List Frame} {s : State} {sargs : Array Value} {y : MethodName} {len W9 : Nat}
theorem vx_backW {ws : List Cond} {rm : Room} {Pc : Array Value → State → Prop} {Qc : Array Value → State → Outcome → State → Prop} {XC : String → State → State → Prop} {mc ms : Nat} {free : Addr → Prop} {bytes : ByteArray} {maxL : Nat} {ret : Option FieldType} {hh : List (Nat × Nat × Nat × Nat)}
    (hM : vx_Met l y ws rm Pc Qc XC mc ms free) (hblind : FrameBlind Pc) (hrc : rm.cells = mc) (hrs : rm.slots = ms)
    (hframes : rm.frames + 1 ≤ R.frames) (hlocals : W9 + (maxL + 11) + rm.locals ≤ R.locals)
    (hws : ∀ w ∈ ws, ∀ a' U, s.WarmedH U.vm → w.before a' U = true) (hcode : Cond.codeWith y bytes maxL ret hh ∈ ws) (hinit : ∀ a' U, s.WarmedH U.vm → (Cond.initialized y.cls).before a' U = true) :
    vx_Back l R p e below s sargs y len W9 (PreOf R mc ms Pc) (PostOf Qc mc ms free) (vx_Post XC mc ms free) := by
  intro m meth c A g ig mk a X hg hsize hdg hW hn hp
  have h1 : (headSpec ws rm).pre.before a A.U = true := atoms_intro fun w hw => hws w hw _ _ X.warmed
  have h2 : (Cond.codeWith y bytes maxL ret hh).before a A.U = true := hws _ hcode _ _ X.warmed
  have h3 : (Cond.initialized y.cls).before a A.U = true := hinit _ _ X.warmed
  have h4 : A.cells + (headSpec ws rm).room.cells ≤ R.cells := by rw [show (headSpec ws rm).room.cells = mc from hrc]; exact hp.1
  have h5 : A.slots + (headSpec ws rm).room.slots ≤ R.slots := by rw [show (headSpec ws rm).room.slots = ms from hrs]; exact hp.2.1
  have hPc : Pc a (A.U.calling g mk a) := hblind _ _ _ _ hp.2.2
  obtain ⟨U, Ls, c0, s0⟩ := A
  dsimp only [Pt.U, Pt.locs, Pt.cells, Pt.slots] at h1 h2 h3 h4 h5 X hn hPc ⊢
  obtain ⟨m9, methY, cY, hn9, hmY, hcY, -, hlY, -⟩ := Cond.codeWith_spec h2
  cases Option.some.inj (hn9.symm.trans hn)
  obtain ⟨kY, hkY, -⟩ := className_of_methodNamed hn
  have hinitY : kY.init = .initialized := Cond.initialized_spec (findClass_of_methodNamed hn) hkY h3
  have h : At U g.method c below := by rw [hg]; exact X.here
  have hlocals9 : W9 + (maxL + 11) + (headSpec ws rm).room.locals ≤ R.locals := hlocals
  have happ : (headSpec ws rm).appliesLoose y e.platform (U.calling g mk a) = true :=
    Spec.appliesLoose_calling (g := g) h hdg hn hkY hinitY
      (X.room_calling (g := g) (R' := (headSpec ws rm).room) hsize hmY hcY hframes (by rw [hlY]; omega) h4 h5) h1
  obtain ⟨mid, hmid⟩ := h.above
  have hfr : (U.setTop g).frames = (.java g :: mid) ++ below := by rw [State.frames_setTop' g h.top, hmid]; rfl
  obtain ⟨o, s₂, hsteps, -, hend, hq⟩ := Steps.callFree hM p X.admits X.cas X.clock (acts := []) hfr happ hPc trivial
  have hq' : vx_Q Qc XC mc ms free a (U.calling g mk a) o s₂ := hq
  rw [State.frames_setTop' g h.top] at hend
  obtain ⟨g₀, hg0⟩ := Option.isSome_iff_exists.mp h.top
  obtain ⟨r, hr⟩ := State.topJava?_eq_some.mp hg0
  have hr' : (({ U with heap := s₂.heap, slotsUsed := s₂.slotsUsed } : State).setVm s₂.vm).frames = .java g₀ :: r := hr
  rcases hq' with ⟨hqc, L, hfe, hL⟩ | ⟨q, rfl, E, ce, L, hx, hce, hcv, hcl, hW₂, hsm, hL⟩
  · obtain ⟨⟨v, rfl⟩, hW₂, e2, q2, q3, q4, q5, q6⟩ := id hfe
    have e3 : s₂ = ({ (U.calling g mk a).setFrames s₂.frames with heap := s₂.heap, slotsUsed := s₂.slotsUsed } : State).setVm s₂.vm := by
      have : s₂ = ({ s₂ with vm := (U.calling g mk a).vm } : State).setVm s₂.vm := rfl
      rw [e2] at this
      exact this
    obtain ⟨c₂, i₂, len₂, hc₂, hd₂, hf₂⟩ := hend
    have hW' : U.WarmedH s₂.vm := hW₂
    have hcc : c₂ = c := by
      have h1 : s₂.code? g.method = U.code? g.method := by
        rw [State.code?_eq, State.code?_eq, hW'.alike.method?]
      exact Option.some.inj (hc₂.symm.trans (h1.trans h.code))
    subst hcc
    have hlen : len₂ = len := by rw [hdg] at hd₂; cases hd₂; rfl
    subst hlen
    have hs₂ : s₂ = (({ U with heap := s₂.heap, slotsUsed := s₂.slotsUsed } : State).setVm s₂.vm).setTop { g with pc := g.pc + len₂, stack := v.toList ++ g.stack } := by
      refine e3.trans ?_
      rw [hf₂, State.calling_eq h.top, State.setFrames_setFrames, State.setTop_of_frames _ hr', hr]
      rfl
    have hsame : U.sameButNew ({ U with heap := s₂.heap, slotsUsed := s₂.slotsUsed } : State) L mc ms := by
      refine ⟨?_, q2, q3, q4, q5, q6⟩
      obtain ⟨t, ht, -⟩ := State.frames_cons hr
      show ({ U with heap := s₂.heap, slotsUsed := s₂.slotsUsed } : State) = { U.setFrames U.frames with heap := s₂.heap, slotsUsed := s₂.slotsUsed }
      rw [State.setFrames_self ht]
    subst hg
    refine Or.inl ⟨v, ⟨(({ U with heap := s₂.heap, slotsUsed := s₂.slotsUsed } : State).setVm s₂.vm), Ls ++ L, c0 + mc, s0 + ms⟩,
      ⟨X.admits, X.cas, X.clock, X.frames, X.room, X.hears, X.method, X.code, (X.here.setHeapUsed s₂.heap s₂.slotsUsed).setVm hW'.alike, X.tail, State.WarmedH.trans X.warmed hW', X.limits, X.bytes, X.same.trans (hsame.setVm s.vm)⟩,
      ⟨g, mk, s₂, L, rfl, rfl, hqc, rfl, hL, rfl, rfl⟩, ?_⟩
    show Steps p.tables e below _ ((({ U with heap := s₂.heap, slotsUsed := s₂.slotsUsed } : State).setVm s₂.vm).setTop { g with pc := g.pc + len₂, stack := v.toList ++ g.stack })
    rw [← hs₂]
    exact hsteps
  · obtain ⟨e2, q2, q3, q4, q5, q6⟩ := id hsm
    have e3 : s₂ = ({ (U.calling g mk a).setFrames s₂.frames with heap := s₂.heap, slotsUsed := s₂.slotsUsed } : State).setVm s₂.vm := by
      have : s₂ = ({ s₂ with vm := (U.calling g mk a).vm } : State).setVm s₂.vm := rfl
      rw [e2] at this
      exact this
    have hf₂ : s₂.frames = .throwing q :: .java g :: U.frames.tail := hend
    have hW' : U.WarmedH s₂.vm := hW₂
    have hs₂ : s₂ = ((({ U with heap := s₂.heap, slotsUsed := s₂.slotsUsed } : State).setVm s₂.vm).setTop g).pushFrame (.throwing q) := by
      refine e3.trans ?_
      rw [hf₂, State.calling_eq h.top, State.setFrames_setFrames, State.pushFrame, State.frames_setTop _ hr', State.setTop_of_frames _ hr', State.setFrames_setFrames, hr]
      rfl
    have hsame : U.sameButNew ({ U with heap := s₂.heap, slotsUsed := s₂.slotsUsed } : State) L mc ms := by
      refine ⟨?_, q2, q3, q4, q5, q6⟩
      obtain ⟨t, ht, -⟩ := State.frames_cons hr
      show ({ U with heap := s₂.heap, slotsUsed := s₂.slotsUsed } : State) = { U.setFrames U.frames with heap := s₂.heap, slotsUsed := s₂.slotsUsed }
      rw [State.setFrames_self ht]
    subst hg
    refine Or.inr ⟨q, ⟨(({ U with heap := s₂.heap, slotsUsed := s₂.slotsUsed } : State).setVm s₂.vm), Ls ++ L, c0 + mc, s0 + ms⟩,
      ⟨X.admits, X.cas, X.clock, X.frames, X.room, X.hears, X.method, X.code, (X.here.setHeapUsed s₂.heap s₂.slotsUsed).setVm hW'.alike, X.tail, State.WarmedH.trans X.warmed hW', X.limits, X.bytes, X.same.trans (hsame.setVm s.vm)⟩,
      ⟨g, mk, s₂, L, E, ce, rfl, rfl, hx, hce, hcv, hcl, rfl, hL, rfl, rfl⟩, ?_⟩
    show Steps p.tables e below _ (((({ U with heap := s₂.heap, slotsUsed := s₂.slotsUsed } : State).setVm s₂.vm).setTop g).pushFrame (.throwing q))
    rw [← hs₂]
    exact hsteps
end
variable {p : Program} {l : Launch} {e : Env} {R : Room} {s : State} {m : MethodId} {args : Array Value} {below : List Frame} {meth : Method} {c : Code} {T : State} {H : Heap} {locs : List Loc} {cells slots : Nat}
theorem vx_callVX (X : Stand p l e R s m args below meth c T locs cells slots) (hexec : p.tables.exec = Jvm.exec) {own C : String} {index : Nat} {y : MethodName} {bytes : ByteArray} {maxL : Nat} {ret : Option FieldType} {hh : List (Nat × Nat × Nat × Nat)}
    (hown : s.vm.findClass own = some m.cls) (hlink : (Cond.methodLink own index y).before args s = true) (hinst : (Cond.instanceMethod y).before args s = true) (hsel : (Cond.selects C y y).before args s = true)
    (hcode : (Cond.codeWith y bytes maxL ret hh).before args s = true) (hy : y.cls ≠ "java/lang/invoke/MethodHandle" ∧ y.cls ≠ "java/lang/invoke/VarHandle")
    {W9 : Nat} {Pre : Pt → Array Value → Prop} {Post : Pt → Array Value → Option Value → Pt → Prop} {PostX : Pt → Array Value → Addr → Pt → Prop} (hK : vx_Back l R p e below s args y 3 W9 Pre Post PostX)
    {b : Addr} {cellB : Cell} (hcell : T.heap[b]? = some cellB) (hobj : cellB.vm.isStatics = false) (hcls : s.vm.findClass C = some cellB.cls)
    {g : JFrame} (hg : g.method = m) (hsize : g.locals.size = c.maxLocals) {argsL rest : List Value} (hlen : ∀ sig, parseMethodDescriptor y.desc = some sig → argsL.length = sig.parameters.length)
    (hstack : g.stack = argsL.reverse ++ .ref b :: rest) (hW : 2 * g.monitorRoom + (rest.map fun v => v.category).sum ≤ W9) (hdg : decode c.code g.pc = .ok (.invokevirtual index, 3))
    (hpre : ∀ vm₁, s.WarmedH vm₁ → Pre ⟨T.setVm vm₁, locs, cells, slots⟩ (Value.ref b :: argsL).toArray) :
    (∃ (v : Option Value) (vm₁ : Vm) (B : Pt), s.WarmedH vm₁ ∧ Stand p l e R s m args below meth c B.U B.locs B.cells B.slots ∧ Post ⟨T.setVm vm₁, locs, cells, slots⟩ (Value.ref b :: argsL).toArray v B ∧
      ∀ target, Steps p.tables e below (B.U.setTop { g with pc := g.pc + 3, stack := v.toList ++ rest }) target → Steps p.tables e below (T.setTop g) target) ∨
    (∃ (q : Addr) (vm₁ : Vm) (B : Pt), s.WarmedH vm₁ ∧ Stand p l e R s m args below meth c B.U B.locs B.cells B.slots ∧ PostX ⟨T.setVm vm₁, locs, cells, slots⟩ (Value.ref b :: argsL).toArray q B ∧
      Steps p.tables e below (T.setTop g) ((B.U.setTop { g with stack := rest }).pushFrame (.throwing q))) := by
  obtain ⟨mk, methM, hnamed, hmethM, hstM, habM⟩ := Cond.instanceMethod_spec hinst
  obtain ⟨m8, methM', cM, hn8, hmethM', -, -, -, -, -, -, hsigM⟩ := Cond.codeWith_spec hcode
  cases Option.some.inj (hn8.symm.trans hnamed)
  cases hmethM.symm.trans hmethM'
  obtain ⟨c2, r2, m2, q1, q2, q3, q4, kP, hkP, hkPi⟩ := Cond.selects_spec hsel
  cases hcls.symm.trans q1
  cases (State.methodFound?_of_named hnamed hy).symm.trans q2
  cases hnamed.symm.trans q3
  have hselP : selectMethod e.platform s.vm cellB.cls mk = .method mk := by rw [Launch.admits_selectMethod X.admits]; exact q4
  obtain ⟨vm₁, X₁, hstep₁⟩ := X.invokevirtual hexec hown hlink hnamed hmethM hstM hkP hkPi hy (a := b) (cell := cellB) hcell
    (fun z h => by rw [h] at hobj; cases hobj) hselP hmethM habM hkP hkPi (g := g) hg (argsL := argsL) (rest := rest) (hlen _ hsigM) hstack hdg
  rcases hK m meth c ⟨T.setVm vm₁, locs, cells, slots⟩ { g with stack := rest } (.invokevirtual index) mk (Value.ref b :: argsL).toArray X₁ hg hsize hdg hW (X₁.named hnamed) (hpre vm₁ X₁.warmed) with ⟨v, B, X', hpost, hsteps⟩ | ⟨q, B, X', hpost, hsteps⟩
  · exact Or.inl ⟨v, vm₁, B, X₁.warmed, X', hpost, fun target h => hstep₁ _ fun acts => by rw [doInvoke_state]; exact hsteps.trans h⟩
  · exact Or.inr ⟨q, vm₁, B, X₁.warmed, X', hpost, hstep₁ _ fun acts => by rw [doInvoke_state]; exact hsteps⟩
theorem vx_callSX (X : Stand p l e R s m args below meth c T locs cells slots) (hexec : p.tables.exec = Jvm.exec) {own : String} {index : Nat} {y : MethodName} {bytes : ByteArray} {maxL : Nat} {ret : Option FieldType} {hh : List (Nat × Nat × Nat × Nat)}
    (hown : s.vm.findClass own = some m.cls) (hlink : (Cond.methodLink own index y).before args s = true) (hstat : (Cond.static y).before args s = true) (hinit : (Cond.initialized y.cls).before args s = true)
    (hcode : (Cond.codeWith y bytes maxL ret hh).before args s = true) (hy : y.cls ≠ "java/lang/invoke/MethodHandle" ∧ y.cls ≠ "java/lang/invoke/VarHandle")
    {W9 : Nat} {Pre : Pt → Array Value → Prop} {Post : Pt → Array Value → Option Value → Pt → Prop} {PostX : Pt → Array Value → Addr → Pt → Prop} (hK : vx_Back l R p e below s args y 3 W9 Pre Post PostX)
    {g : JFrame} (hg : g.method = m) (hsize : g.locals.size = c.maxLocals) {argsL rest : List Value} (hlen : ∀ sig, parseMethodDescriptor y.desc = some sig → argsL.length = sig.parameters.length)
    (hstack : g.stack = argsL.reverse ++ rest) (hW : 2 * g.monitorRoom + (rest.map fun v => v.category).sum ≤ W9) (hdg : decode c.code g.pc = .ok (.invokestatic index, 3))
    (hpre : ∀ vm₁, s.WarmedH vm₁ → Pre ⟨T.setVm vm₁, locs, cells, slots⟩ argsL.toArray) :
    (∃ (v : Option Value) (vm₁ : Vm) (B : Pt), s.WarmedH vm₁ ∧ Stand p l e R s m args below meth c B.U B.locs B.cells B.slots ∧ Post ⟨T.setVm vm₁, locs, cells, slots⟩ argsL.toArray v B ∧
      ∀ target, Steps p.tables e below (B.U.setTop { g with pc := g.pc + 3, stack := v.toList ++ rest }) target → Steps p.tables e below (T.setTop g) target) ∨
    (∃ (q : Addr) (vm₁ : Vm) (B : Pt), s.WarmedH vm₁ ∧ Stand p l e R s m args below meth c B.U B.locs B.cells B.slots ∧ PostX ⟨T.setVm vm₁, locs, cells, slots⟩ argsL.toArray q B ∧
      Steps p.tables e below (T.setTop g) ((B.U.setTop { g with stack := rest }).pushFrame (.throwing q))) := by
  obtain ⟨mk, methM, cM, hnamed, hmethM, -, -, -, -, -, -, hsigM⟩ := Cond.codeWith_spec hcode
  have hstatic : methM.isStatic = true := Cond.static_spec hnamed hmethM hstat
  obtain ⟨kP, hkP, -⟩ := className_of_methodNamed hnamed
  have hinitP : kP.init = .initialized := Cond.initialized_spec (findClass_of_methodNamed hnamed) hkP hinit
  obtain ⟨vm₁, X₁, hstep₁⟩ := X.invokestatic hexec hown hlink hnamed hmethM hstatic hkP hinitP hy (g := g) hg (argsL := argsL) (rest := rest) (hlen _ hsigM) hstack hdg
  rcases hK m meth c ⟨T.setVm vm₁, locs, cells, slots⟩ { g with stack := rest } (.invokestatic index) mk argsL.toArray X₁ hg hsize hdg hW (X₁.named hnamed) (hpre vm₁ X₁.warmed) with ⟨v, B, X', hpost, hsteps⟩ | ⟨q, B, X', hpost, hsteps⟩
  · exact Or.inl ⟨v, vm₁, B, X₁.warmed, X', hpost, fun target h => hstep₁ _ fun acts => by rw [doInvoke_state]; exact hsteps.trans h⟩
  · exact Or.inr ⟨q, vm₁, B, X₁.warmed, X', hpost, hstep₁ _ fun acts => by rw [doInvoke_state]; exact hsteps⟩
theorem vx_callVW (X : Stand p l e R s m args below meth c T locs cells slots) (hexec : p.tables.exec = Jvm.exec) {own C : String} {index : Nat} {y : MethodName} {bytes : ByteArray} {maxL : Nat} {ret : Option FieldType} {hh : List (Nat × Nat × Nat × Nat)}
    (hown : s.vm.findClass own = some m.cls) (hlink : (Cond.methodLink own index y).before args s = true) (hinst : (Cond.instanceMethod y).before args s = true) (hsel : (Cond.selects C y y).before args s = true)
    (hcode : (Cond.codeWith y bytes maxL ret hh).before args s = true) (hy : y.cls ≠ "java/lang/invoke/MethodHandle" ∧ y.cls ≠ "java/lang/invoke/VarHandle")
    {W9 : Nat} {Pre : Pt → Array Value → Prop} {Post : Pt → Array Value → Option Value → Pt → Prop} (hK : Back l R p e below s args y 3 W9 Pre Post)
    {b : Addr} {cellB : Cell} (hcell : T.heap[b]? = some cellB) (hobj : cellB.vm.isStatics = false) (hcls : s.vm.findClass C = some cellB.cls)
    {g : JFrame} (hg : g.method = m) (hsize : g.locals.size = c.maxLocals) {argsL rest : List Value} (hlen : ∀ sig, parseMethodDescriptor y.desc = some sig → argsL.length = sig.parameters.length)
    (hstack : g.stack = argsL.reverse ++ .ref b :: rest) (hW : 2 * g.monitorRoom + (rest.map fun v => v.category).sum ≤ W9) (hdg : decode c.code g.pc = .ok (.invokevirtual index, 3))
    (hpre : ∀ vm₁, s.WarmedH vm₁ → Pre ⟨T.setVm vm₁, locs, cells, slots⟩ (Value.ref b :: argsL).toArray) :
    ∃ (v : Option Value) (vm₁ : Vm) (B : Pt), s.WarmedH vm₁ ∧ Stand p l e R s m args below meth c B.U B.locs B.cells B.slots ∧ Post ⟨T.setVm vm₁, locs, cells, slots⟩ (Value.ref b :: argsL).toArray v B ∧
      ∀ target, Steps p.tables e below (B.U.setTop { g with pc := g.pc + 3, stack := v.toList ++ rest }) target → Steps p.tables e below (T.setTop g) target := by
  obtain ⟨mk, methM, hnamed, hmethM, hstM, habM⟩ := Cond.instanceMethod_spec hinst
  obtain ⟨m8, methM', cM, hn8, hmethM', -, -, -, -, -, -, hsigM⟩ := Cond.codeWith_spec hcode
  cases Option.some.inj (hn8.symm.trans hnamed)
  cases hmethM.symm.trans hmethM'
  obtain ⟨c2, r2, m2, q1, q2, q3, q4, kP, hkP, hkPi⟩ := Cond.selects_spec hsel
  cases hcls.symm.trans q1
  cases (State.methodFound?_of_named hnamed hy).symm.trans q2
  cases hnamed.symm.trans q3
  have hselP : selectMethod e.platform s.vm cellB.cls mk = .method mk := by rw [Launch.admits_selectMethod X.admits]; exact q4
  obtain ⟨vm₁, X₁, hstep₁⟩ := X.invokevirtual hexec hown hlink hnamed hmethM hstM hkP hkPi hy (a := b) (cell := cellB) hcell
    (fun z h => by rw [h] at hobj; cases hobj) hselP hmethM habM hkP hkPi (g := g) hg (argsL := argsL) (rest := rest) (hlen _ hsigM) hstack hdg
  obtain ⟨v, B, X', hpost, hsteps⟩ := hK m meth c ⟨T.setVm vm₁, locs, cells, slots⟩ { g with stack := rest } (.invokevirtual index) mk (Value.ref b :: argsL).toArray X₁ hg hsize hdg hW (X₁.named hnamed) (hpre vm₁ X₁.warmed)
  exact ⟨v, vm₁, B, X₁.warmed, X', hpost, fun target h => hstep₁ _ fun acts => by rw [doInvoke_state]; exact hsteps.trans h⟩
abbrev vx_CVW (R : Room) (s : State) (args : Array Value) (own C : String) (index : Nat) (y : MethodName) (bytes : ByteArray) (maxL : Nat) (ret : Option FieldType) (hh : List (Nat × Nat × Nat × Nat)) (ws : List Cond) (rm : Room) (mc ms n : Nat) : Prop :=
  (rm.cells = mc ∧ rm.slots = ms ∧ rm.frames + 1 ≤ R.frames ∧ 8 + (maxL + 11) + rm.locals ≤ R.locals ∧ (∀ w ∈ ws, ∀ (a' : Array Value) (U : State), s.WarmedH U.vm → w.before a' U = true) ∧ Cond.codeWith y bytes maxL ret hh ∈ ws) ∧
  (Cond.codeWith y bytes maxL ret hh).before args s = true ∧ (Cond.initialized y.cls).before args s = true ∧ (y.cls ≠ "java/lang/invoke/MethodHandle" ∧ y.cls ≠ "java/lang/invoke/VarHandle") ∧
  (∀ sig, parseMethodDescriptor y.desc = some sig → n = sig.parameters.length) ∧ (Cond.methodLink own index y).before args s = true ∧ (Cond.instanceMethod y).before args s = true ∧ (Cond.selects C y y).before args s = true
theorem vx_cwVW {own C : String} {index maxL mc ms : Nat} {y : MethodName} {bytes : ByteArray} {ret : Option FieldType} {hh : List (Nat × Nat × Nat × Nat)} {Ts ws ws' : List Cond} {rm : Room} (n : Nat) (ht : ∀ w ∈ Ts, w.before args s = true) (hT : GoodIn Ts (wsV own index C y ws)) (hw : ws = Cond.codeWith y bytes maxL ret hh :: ws') (hrc : rm.cells = mc) (hrs : rm.slots = ms)
    (hd : y.cls = C ∧ y.cls ≠ "java/lang/invoke/MethodHandle" ∧ y.cls ≠ "java/lang/invoke/VarHandle" ∧ (parseMethodDescriptor y.desc).map (fun d => d.parameters.length) = some n) (hR : rm.frames + 1 ≤ R.frames ∧ 8 + (maxL + 11) + rm.locals ≤ R.locals) :
    vx_CVW R s args own C index y bytes maxL ret hh ws rm mc ms n := by
  obtain ⟨hC, hd⟩ := hd
  subst hC
  have ok : ∀ w ∈ wsV own index y.cls y ws, w.before args s = true := fun w h => ht w (hT w h).1
  have hG : GoodIn Ts ws := fun w h => hT w (by unfold wsV; exact List.mem_append_right _ h)
  have hc : Cond.codeWith y bytes maxL ret hh ∈ ws := by rw [hw]; exact List.mem_cons_self
  refine ⟨⟨hrc, hrs, hR.1, hR.2, pay_in ht hG, hc⟩, ht _ (hG _ hc).1, ok _ (by simp [wsV]), ⟨hd.1, hd.2.1⟩, fun sig h => ?_, ok _ (by simp [wsV]), ok _ (by simp [wsV]), ok _ (by simp [wsV])⟩
  have h2 := hd.2.2
  rw [h] at h2
  exact (Option.some.inj h2).symm
theorem vx_runVW {y : MethodName} {bytes cc : ByteArray} {maxL nL mc ms n index : Nat} {ret : Option FieldType} {hh : List (Nat × Nat × Nat × Nat)} {ws : List Cond} {rm : Room} {Pc : Array Value → State → Prop} {Qc : Array Value → State → Outcome → State → Prop} {free : Addr → Prop} {Ts : List Cond} {own C : String} {b : Addr} {As rest : List Value} {g : JFrame}
    (S : CallFix p m c cc nL s args Ts own) (hM : Met l y ws rm Pc Qc mc ms free) (cw : vx_CVW R s args own C index y bytes maxL ret hh ws rm mc ms n) (hp : PreV s H C b Pc As)
    (hg : g.method = m) (hn : As.length = n) (hsize : g.locals.size = nL) (hstack : g.stack = As.reverse ++ .ref b :: rest) (hW : 2 * g.monitorRoom + (rest.map fun v => v.category).sum ≤ 8) (hdg : decode cc g.pc = .ok (.invokevirtual index, 3)) (hf : cells + mc ≤ R.cells ∧ slots + ms ≤ R.slots) :
    va_Run p l e R s m args below meth c H locs cells slots mc ms g rest (Qc (Value.ref b :: As).toArray) free := by
  obtain ⟨⟨hrc, hrs, hfr, hlo, hws, hcw⟩, hcode, hini, hy, hlen, hl, hin, hse⟩ := cw
  have hK : Back l R p e below s args y 3 8 (PreOf R mc ms Pc) (PostOf Qc mc ms free) := va_backW (hh := hh) (bytes := bytes) (maxL := maxL) (ret := ret) hM hp.1 hrc hrs hfr hlo hws hcw (fun a' U hW => word_at hW (Or.inl (by first | rfl | simp [Cond.onTables, Cond.keeps, Cond.steady])) hini)
  obtain ⟨hx, hb, hml, ho, -⟩ := S
  obtain ⟨-, ⟨cellB, hcB, hoB, hclB⟩, hPc⟩ := hp
  intro T hT X
  obtain ⟨v, vm₁, ⟨U', l2, c2, s2⟩, hW₁, X', ⟨g', mk, t, L, e1, e2, hq, h1, hL, h2, h3⟩, st⟩ := vx_callVW X hx (C := C) (hh := hh) (bytes := bytes) (maxL := maxL) (ret := ret) ho hl hin hse hcode hy hK (by rw [hT]; exact hcB) hoB hclB hg (hsize.trans hml.symm) (argsL := As) (rest := rest) (fun sig h => hn.trans (hlen sig h)) hstack hW (by rw [hb]; exact hdg)
    (fun vm₁ hW₁ => ⟨hf.1, hf.2, hPc (T.setVm vm₁) hT hW₁⟩)
  dsimp only [Pt.U, Pt.locs, Pt.cells, Pt.slots] at X' e1 e2 h1 h2 h3 st
  subst h1; subst h2; subst h3
  exact ⟨v, (T.setVm vm₁).calling g' mk (Value.ref b :: As).toArray, t, U', L, hT, X', hL, e1, e2, hq, st⟩
section
variable {y : MethodName} {bytes cc : ByteArray} {maxL nL mc ms n index : Nat} {ret : Option FieldType} {ws : List Cond} {rm : Room} {Pc : Array Value → State → Prop} {Qc : Array Value → State → Outcome → State → Prop} {XC : String → State → State → Prop} {free : Addr → Prop} {Ts : List Cond} {own C : String} {b : Addr} {As rest : List Value} {g : JFrame}
theorem vx_runVX {hh : List (Nat × Nat × Nat × Nat)} (S : CallFix p m c cc nL s args Ts own) (hM : vx_Met l y ws rm Pc Qc XC mc ms free) (cw : vx_CVW R s args own C index y bytes maxL ret hh ws rm mc ms n) (hp : PreV s H C b Pc As)
    (hg : g.method = m) (hn : As.length = n) (hsize : g.locals.size = nL) (hstack : g.stack = As.reverse ++ .ref b :: rest) (hW : 2 * g.monitorRoom + (rest.map fun v => v.category).sum ≤ 8) (hdg : decode cc g.pc = .ok (.invokevirtual index, 3)) (hf : cells + mc ≤ R.cells ∧ slots + ms ≤ R.slots) :
    vx_Run p l e R s m args below meth c H locs cells slots mc ms g rest (Qc (Value.ref b :: As).toArray) XC free := by
  obtain ⟨⟨hrc, hrs, hfr, hlo, hws, hcw⟩, hcode, hini, hy, hlen, hl, hin, hse⟩ := cw
  have hK : vx_Back l R p e below s args y 3 8 (PreOf R mc ms Pc) (PostOf Qc mc ms free) (vx_Post XC mc ms free) := vx_backW (hh := hh) (bytes := bytes) (maxL := maxL) (ret := ret) hM hp.1 hrc hrs hfr hlo hws hcw (fun a' U hW => word_at hW (Or.inl (by first | rfl | simp [Cond.onTables, Cond.keeps, Cond.steady])) hini)
  obtain ⟨hx, hb, hml, ho, -⟩ := S
  obtain ⟨-, ⟨cellB, hcB, hoB, hclB⟩, hPc⟩ := hp
  intro T hT X
  rcases vx_callVX X hx (C := C) (hh := hh) (bytes := bytes) (maxL := maxL) (ret := ret) ho hl hin hse hcode hy hK (by rw [hT]; exact hcB) hoB hclB hg (hsize.trans hml.symm) (argsL := As) (rest := rest) (fun sig h => hn.trans (hlen sig h)) hstack hW (by rw [hb]; exact hdg)
    (fun vm₁ hW₁ => ⟨hf.1, hf.2, hPc (T.setVm vm₁) hT hW₁⟩) with ⟨v, vm₁, ⟨U', l2, c2, s2⟩, hW₁, X', ⟨g', mk, t, L, e1, e2, hq, h1, hL, h2, h3⟩, st⟩ | ⟨q, vm₁, ⟨U', l2, c2, s2⟩, hW₁, X', ⟨g', mk, t, L, E, ce, e1, e2, hq, hce, hcv, hcl, h1, hL, h2, h3⟩, st⟩
  · dsimp only [Pt.U, Pt.locs, Pt.cells, Pt.slots] at X' e1 e2 h1 h2 h3 st
    subst h1; subst h2; subst h3
    exact Or.inl ⟨v, (T.setVm vm₁).calling g' mk (Value.ref b :: As).toArray, t, U', L, hT, X', hL, e1, e2, hq, st⟩
  · dsimp only [Pt.U, Pt.locs, Pt.cells, Pt.slots] at X' e1 e2 h1 h2 h3 st hcl
    subst h1; subst h2; subst h3
    exact Or.inr ⟨q, (T.setVm vm₁).calling g' mk (Value.ref b :: As).toArray, t, U', L, E, ce, hT, X', hL, e1, e2, hq, hce, hcv, vx_cls hW₁ hcl, st⟩
theorem vx_runSX {hh : List (Nat × Nat × Nat × Nat)} (S : CallFix p m c cc nL s args Ts own) (hM : vx_Met l y ws rm Pc Qc XC mc ms free) (cw : vx_CSW R s args own index y bytes maxL ret hh ws rm mc ms n) (hp : PreS s H Pc As)
    (hg : g.method = m) (hn : As.length = n) (hsize : g.locals.size = nL) (hstack : g.stack = As.reverse ++ rest) (hW : 2 * g.monitorRoom + (rest.map fun v => v.category).sum ≤ 8) (hdg : decode cc g.pc = .ok (.invokestatic index, 3)) (hf : cells + mc ≤ R.cells ∧ slots + ms ≤ R.slots) :
    vx_Run p l e R s m args below meth c H locs cells slots mc ms g rest (Qc As.toArray) XC free := by
  obtain ⟨⟨hrc, hrs, hfr, hlo, hws, hcw⟩, hcode, hini, hy, hlen, hl, hstt⟩ := cw
  have hK : vx_Back l R p e below s args y 3 8 (PreOf R mc ms Pc) (PostOf Qc mc ms free) (vx_Post XC mc ms free) := vx_backW (hh := hh) (bytes := bytes) (maxL := maxL) (ret := ret) hM hp.1 hrc hrs hfr hlo hws hcw (fun a' U hW => word_at hW (Or.inl (by first | rfl | simp [Cond.onTables, Cond.keeps, Cond.steady])) hini)
  obtain ⟨hx, hb, hml, ho, -⟩ := S
  intro T hT X
  rcases vx_callSX X hx (hh := hh) (bytes := bytes) (maxL := maxL) (ret := ret) ho hl hstt hini hcode hy hK hg (hsize.trans hml.symm) (argsL := As) (rest := rest) (fun sig h => hn.trans (hlen sig h)) hstack hW (by rw [hb]; exact hdg)
    (fun vm₁ hW₁ => ⟨hf.1, hf.2, hp.2 (T.setVm vm₁) hT hW₁⟩) with ⟨v, vm₁, ⟨U', l2, c2, s2⟩, hW₁, X', ⟨g', mk, t, L, e1, e2, hq, h1, hL, h2, h3⟩, st⟩ | ⟨q, vm₁, ⟨U', l2, c2, s2⟩, hW₁, X', ⟨g', mk, t, L, E, ce, e1, e2, hq, hce, hcv, hcl, h1, hL, h2, h3⟩, st⟩
  · dsimp only [Pt.U, Pt.locs, Pt.cells, Pt.slots] at X' e1 e2 h1 h2 h3 st
    subst h1; subst h2; subst h3
    exact Or.inl ⟨v, (T.setVm vm₁).calling g' mk As.toArray, t, U', L, hT, X', hL, e1, e2, hq, st⟩
  · dsimp only [Pt.U, Pt.locs, Pt.cells, Pt.slots] at X' e1 e2 h1 h2 h3 st hcl
    subst h1; subst h2; subst h3
    exact Or.inr ⟨q, (T.setVm vm₁).calling g' mk As.toArray, t, U', L, E, ce, hT, X', hL, e1, e2, hq, hce, hcv, vx_cls hW₁ hcl, st⟩
end
end VXH
theorem vx_ofWH {l : Launch} {y : MethodName} {ws ws' : List Cond} {rm : Room} {Pc : Array Value → State → Prop} {Qc : Array Value → State → Outcome → State → Prop} {XC : String → State → State → Prop} {mc ms : Nat} {free : Addr → Prop} {cc : ByteArray} {maxL : Nat} {ret : Option FieldType} {hh : List (Nat × Nat × Nat × Nat)}
    (hy : plainName y.cls = true) (hw : ws = Cond.codeWith y cc maxL ret hh :: ws')
    (body : ∀ p e s m args below meth c s₁, BodyLoose p l y (headSpec ws rm) cc maxL ret e s m args below meth c s₁ → c.maxLocals = maxL → Pc args s →
      W p l e (headSpec ws rm).room s m args below meth c s.heap [] 0 0 (vx_MQ below Qc XC args s mc ms free) (entryFrame m args maxL)) : vx_Met l y ws rm Pc Qc XC mc ms free := by
  refine MetFree.of_bodyS (code := cc) (maxLocals := maxL) (ret := ret) hy ?_ ?_
  · intro args s m h hn
    obtain ⟨m9, meth, c, hn9, h1, h2, h3, h4, -, h5, h6, -⟩ := Cond.codeWith_spec (atoms_spec (ws := ws) h _ (by rw [hw]; exact List.mem_cons_self))
    cases hn.symm.trans hn9
    exact ⟨meth, c, h1, h2, h3, h4, h5, h6⟩
  · intro p e s m args below meth c s₁ B hml hP _
    have hh0 : s₁.heap = s.heap := by rw [B.state]; rfl
    obtain ⟨t, a1, o, b1, b2, b3⟩ := body p e s m args below meth c s₁ B hml hP s₁ hh0 (Stand.of_body B)
    exact ⟨t, o, a1, b1, b2, b3⟩
/-! ===== END ===== -/

def RX0 : String := "BellHush"
def TX0 : u_T := fun k => match k with
  | 0 => ("BellHush", "loudness", "[I", true)
  | 1 => ("BellHush", "period", "[I", true)
  | 2 => ("BellHush", "silence", "[I", true)
  | 3 => ("BellHush", "untilStroke", "[I", true)
  | 4 => ("BellHush", "strokes", "[I", true)
  | 5 => ("BellHush", "purse", "[I", true)
  | 6 => ("BellHush", "held", "[[I", true)
  | 7 => ("BellHush", "second", "I", false)
  | 8 => ("BellHush", "towerCount", "I", false)
  | _ => ("BellHush", "traderCount", "I", false)
def tyX0 : Nat → FieldType := fun k => match k with
  | 0 => .array .int
  | 1 => .array .int
  | 2 => .array .int
  | 3 => .array .int
  | 4 => .array .int
  | 5 => .array .int
  | 6 => .array (.array .int)
  | 7 => .int
  | 8 => .int
  | _ => .int
abbrev wsX00 : List Cond := u_ws RX0 TX0 10
theorem nmX0 : ∀ a, a < 10 → ∀ b, b < 10 → a ≠ b → (TX0 a).2.1 ≠ (TX0 b).2.1 := by decide +kernel
theorem tyX0_ok : ∀ k, k < 10 → parseFieldDescriptor (TX0 k).2.2.1 = some (tyX0 k) := by decide +kernel
abbrev cX0_init : ByteArray := prog_1_method_1_code
def yX0_init : MethodName := ⟨RX0, "<init>", "()V"⟩
abbrev cX0_list : ByteArray := prog_1_method_2_code
def yX0_list : MethodName := ⟨RX0, "list", "(III)I"⟩
abbrev cX0_addTrader : ByteArray := prog_1_method_3_code
def yX0_addTrader : MethodName := ⟨RX0, "addTrader", "()I"⟩
abbrev cX0_buy : ByteArray := prog_1_method_4_code
def yX0_buy : MethodName := ⟨RX0, "buy", "(III)I"⟩
abbrev cX0_sell : ByteArray := prog_1_method_5_code
def yX0_sell : MethodName := ⟨RX0, "sell", "(III)I"⟩
abbrev cX0_pass : ByteArray := prog_1_method_6_code
def yX0_pass : MethodName := ⟨RX0, "pass", "(I)I"⟩
abbrev cX0_second : ByteArray := prog_1_method_7_code
def yX0_second : MethodName := ⟨RX0, "second", "()I"⟩
abbrev cX0_towers : ByteArray := prog_1_method_8_code
def yX0_towers : MethodName := ⟨RX0, "towers", "()I"⟩
abbrev cX0_silenceOf : ByteArray := prog_1_method_9_code
def yX0_silenceOf : MethodName := ⟨RX0, "silenceOf", "(I)I"⟩
abbrev cX0_dovesOn : ByteArray := prog_1_method_10_code
def yX0_dovesOn : MethodName := ⟨RX0, "dovesOn", "(I)I"⟩
abbrev cX0_priceOf : ByteArray := prog_1_method_11_code
def yX0_priceOf : MethodName := ⟨RX0, "priceOf", "(I)I"⟩
abbrev cX0_secondsUntilStroke : ByteArray := prog_1_method_12_code
def yX0_secondsUntilStroke : MethodName := ⟨RX0, "secondsUntilStroke", "(I)I"⟩
abbrev cX0_strokesOf : ByteArray := prog_1_method_13_code
def yX0_strokesOf : MethodName := ⟨RX0, "strokesOf", "(I)I"⟩
abbrev cX0_openSeconds : ByteArray := prog_1_method_14_code
def yX0_openSeconds : MethodName := ⟨RX0, "openSeconds", "(I)I"⟩
abbrev cX0_dearest : ByteArray := prog_1_method_15_code
def yX0_dearest : MethodName := ⟨RX0, "dearest", "()I"⟩
abbrev cX0_nextToStrike : ByteArray := prog_1_method_16_code
def yX0_nextToStrike : MethodName := ⟨RX0, "nextToStrike", "()I"⟩
abbrev cX0_traders : ByteArray := prog_1_method_17_code
def yX0_traders : MethodName := ⟨RX0, "traders", "()I"⟩
abbrev cX0_purseOf : ByteArray := prog_1_method_18_code
def yX0_purseOf : MethodName := ⟨RX0, "purseOf", "(I)I"⟩
abbrev cX0_holds : ByteArray := prog_1_method_19_code
def yX0_holds : MethodName := ⟨RX0, "holds", "(II)I"⟩
abbrev cX0_worthOf : ByteArray := prog_1_method_20_code
def yX0_worthOf : MethodName := ⟨RX0, "worthOf", "(I)I"⟩
abbrev cX0_richest : ByteArray := prog_1_method_21_code
def yX0_richest : MethodName := ⟨RX0, "richest", "()I"⟩
abbrev cX0_shortsOf : ByteArray := prog_1_method_22_code
def yX0_shortsOf : MethodName := ⟨RX0, "shortsOf", "(I)I"⟩
abbrev cX0_inDebt : ByteArray := prog_1_method_23_code
def yX0_inDebt : MethodName := ⟨RX0, "inDebt", "()I"⟩
abbrev cX0_closingPrice : ByteArray := prog_1_method_24_code
def yX0_closingPrice : MethodName := ⟨RX0, "closingPrice", "(I)I"⟩
abbrev cX0_bestToBuy : ByteArray := prog_1_method_27_code
def yX0_bestToBuy : MethodName := ⟨RX0, "bestToBuy", "()I"⟩
abbrev cX0_meanPrice : ByteArray := prog_1_method_30_code
def yX0_meanPrice : MethodName := ⟨RX0, "meanPrice", "()D"⟩
abbrev cX0_requireTower : ByteArray := prog_1_method_32_code
def yX0_requireTower : MethodName := ⟨RX0, "requireTower", "(I)V"⟩
abbrev cX0_requireTrader : ByteArray := prog_1_method_33_code
def yX0_requireTrader : MethodName := ⟨RX0, "requireTrader", "(I)V"⟩
abbrev cX0_requireTradable : ByteArray := prog_1_method_34_code
def yX0_requireTradable : MethodName := ⟨RX0, "requireTradable", "(I)V"⟩
abbrev cX0_requirePassable : ByteArray := prog_1_method_35_code
def yX0_requirePassable : MethodName := ⟨RX0, "requirePassable", "(I)V"⟩
abbrev cX0_goOneSecond : ByteArray := prog_1_method_36_code
def yX0_goOneSecond : MethodName := ⟨RX0, "goOneSecond", "()I"⟩
abbrev cX0_strike : ByteArray := prog_1_method_37_code
def yX0_strike : MethodName := ⟨RX0, "strike", "(I)V"⟩
abbrev cX0_price : ByteArray := prog_1_method_38_code
def yX0_price : MethodName := ⟨RX0, "price", "(III)I"⟩
abbrev cX0_dovesNow : ByteArray := prog_1_method_39_code
def yX0_dovesNow : MethodName := ⟨RX0, "dovesNow", "(I)I"⟩
abbrev cX0_dovesFor : ByteArray := prog_1_method_40_code
def yX0_dovesFor : MethodName := ⟨RX0, "dovesFor", "(I)I"⟩
abbrev cX0_priceNow : ByteArray := prog_1_method_41_code
def yX0_priceNow : MethodName := ⟨RX0, "priceNow", "(I)I"⟩
abbrev cX0_closing : ByteArray := prog_1_method_42_code
def yX0_closing : MethodName := ⟨RX0, "closing", "(I)I"⟩
abbrev cX0_closingWith : ByteArray := prog_1_method_43_code
def yX0_closingWith : MethodName := ⟨RX0, "closingWith", "(II)I"⟩
abbrev cX0_riseUntilStroke : ByteArray := prog_1_method_44_code
def yX0_riseUntilStroke : MethodName := ⟨RX0, "riseUntilStroke", "(I)I"⟩
abbrev cX0_priceBehind : ByteArray := prog_1_method_45_code
def yX0_priceBehind : MethodName := ⟨RX0, "priceBehind", "(II)I"⟩
abbrev cX0_heldByAll : ByteArray := prog_1_method_46_code
def yX0_heldByAll : MethodName := ⟨RX0, "heldByAll", "(I)I"⟩
abbrev cX0_shortTowers : ByteArray := prog_1_method_47_code
def yX0_shortTowers : MethodName := ⟨RX0, "shortTowers", "(I)I"⟩
abbrev cX0_worthBehind : ByteArray := prog_1_method_48_code
def yX0_worthBehind : MethodName := ⟨RX0, "worthBehind", "(II)I"⟩
def RX1 : String := "BellHushLaw$Sim"
def TX1 : u_T := fun k => match k with
  | 0 => ("BellHushLaw$Sim", "second", "I", false)
  | 1 => ("BellHushLaw$Sim", "towers", "[[I", false)
  | 2 => ("BellHushLaw$Sim", "purses", "[I", false)
  | _ => ("BellHushLaw$Sim", "held", "[[I", false)
def tyX1 : Nat → FieldType := fun k => match k with
  | 0 => .int
  | 1 => .array (.array .int)
  | 2 => .array .int
  | _ => .array (.array .int)
abbrev wsX10 : List Cond := u_ws RX1 TX1 4
theorem nmX1 : ∀ a, a < 4 → ∀ b, b < 4 → a ≠ b → (TX1 a).2.1 ≠ (TX1 b).2.1 := by decide +kernel
theorem tyX1_ok : ∀ k, k < 4 → parseFieldDescriptor (TX1 k).2.2.1 = some (tyX1 k) := by decide +kernel
abbrev cX1_init : ByteArray := prog_3_method_1_code
def yX1_init : MethodName := ⟨RX1, "<init>", "()V"⟩
abbrev cX1_with : ByteArray := prog_3_method_2_code
def yX1_with : MethodName := ⟨RX1, "with", "([[I[I)[[I"⟩
abbrev cX1_addTrader : ByteArray := prog_3_method_3_code
def yX1_addTrader : MethodName := ⟨RX1, "addTrader", "()V"⟩
abbrev cX1_doves : ByteArray := prog_3_method_4_code
def yX1_doves : MethodName := ⟨RX1, "doves", "(I)I"⟩
abbrev cX1_price : ByteArray := prog_3_method_5_code
def yX1_price : MethodName := ⟨RX1, "price", "(I)I"⟩
abbrev cX1_until : ByteArray := prog_3_method_6_code
def yX1_until : MethodName := ⟨RX1, "until", "(I)I"⟩
abbrev cX1_pass : ByteArray := prog_3_method_7_code
def yX1_pass : MethodName := ⟨RX1, "pass", "()I"⟩
abbrev cX1_behind : ByteArray := prog_3_method_8_code
def yX1_behind : MethodName := ⟨RX1, "behind", "(I)I"⟩
abbrev cX1_sell : ByteArray := prog_3_method_9_code
def yX1_sell : MethodName := ⟨RX1, "sell", "(III)V"⟩
abbrev cX1_worth : ByteArray := prog_3_method_10_code
def yX1_worth : MethodName := ⟨RX1, "worth", "(I)I"⟩
abbrev cX1_isSame : ByteArray := prog_3_method_12_code
def yX1_isSame : MethodName := ⟨RX1, "isSame", "(LBellHush;)Z"⟩
def RX2 : String := "BellHushModel"
def TX2 : u_T := fun k => match k with
  | _ => ("", "", "", false)
def tyX2 : Nat → FieldType := fun k => match k with
  | _ => .int
abbrev wsX20 : List Cond := u_ws RX2 TX2 0
theorem nmX2 : ∀ a, a < 0 → ∀ b, b < 0 → a ≠ b → (TX2 a).2.1 ≠ (TX2 b).2.1 := by decide +kernel
theorem tyX2_ok : ∀ k, k < 0 → parseFieldDescriptor (TX2 k).2.2.1 = some (tyX2 k) := by decide +kernel
def RJ9 : String := "java/lang/Math"
def TJ9 : u_T := fun k => match k with
  | _ => ("", "", "", false)
def tyJ9 : Nat → FieldType := fun k => match k with
  | _ => .int
abbrev wsJ90 : List Cond := u_ws RJ9 TJ9 0
theorem nmJ9 : ∀ a, a < 0 → ∀ b, b < 0 → a ≠ b → (TJ9 a).2.1 ≠ (TJ9 b).2.1 := by decide +kernel
theorem tyJ9_ok : ∀ k, k < 0 → parseFieldDescriptor (TJ9 k).2.2.1 = some (tyJ9 k) := by decide +kernel
abbrev cJ9_floorMod_7cf53 : ByteArray := prog_9_method_50_code
def yJ9_floorMod_7cf53 : MethodName := ⟨RJ9, "floorMod", "(II)I"⟩
abbrev cJ9_max_7cf53 : ByteArray := prog_9_method_65_code
def yJ9_max_7cf53 : MethodName := ⟨RJ9, "max", "(II)I"⟩
abbrev cJ9_min_7cf53 : ByteArray := prog_9_method_69_code
def yJ9_min_7cf53 : MethodName := ⟨RJ9, "min", "(II)I"⟩
def RJ0 : String := "java/lang/String"
def TJ0 : u_T := fun k => match k with
  | _ => ("", "", "", false)
def tyJ0 : Nat → FieldType := fun k => match k with
  | _ => .int
abbrev wsJ00 : List Cond := u_ws RJ0 TJ0 0
theorem nmJ0 : ∀ a, a < 0 → ∀ b, b < 0 → a ≠ b → (TJ0 a).2.1 ≠ (TJ0 b).2.1 := by decide +kernel
theorem tyJ0_ok : ∀ k, k < 0 → parseFieldDescriptor (TJ0 k).2.2.1 = some (tyJ0 k) := by decide +kernel
def RL : String := "BellHushLaw"
abbrev cL_below : ByteArray := method_2_code
def yL_below : MethodName := ⟨RL, "below", "(II)I"⟩
abbrev cL_cell : ByteArray := method_3_code
def yL_cell : MethodName := ⟨RL, "cell", "([II)I"⟩
abbrev cL_act : ByteArray := method_4_code
def yL_act : MethodName := ⟨RL, "act", "(LBellHush;LBellHushLaw$Sim;I)Z"⟩
abbrev cL_build : ByteArray := method_5_code
def yL_build : MethodName := ⟨RL, "build", "(LBellHush;[I)LBellHushLaw$Sim;"⟩
abbrev cL_law : ByteArray := code
def yL_law : MethodName := ⟨RL, "law", "([I)Z"⟩
def wsL_law0_r1 : List Cond := [Cond.classLink RL 30 RX0, Cond.instantiable RX0 10, Cond.initialized RX0, Cond.arrayClass .int, Cond.classLink RL 82 "[[I", Cond.fieldLink RL 9 "BellHushLaw$Sim" "towers" "[[I", Cond.methodLink RL 104 Lib.Math.max.name, Cond.static Lib.Math.max.name, Cond.initialized "java/lang/Math", Cond.code Lib.Math.max.name Lib.Math.max.code 2 (some .int), Cond.methodLink RL 112 Lib.Math.min.name, Cond.static Lib.Math.min.name, Cond.code Lib.Math.min.name Lib.Math.min.code 2 (some .int), Cond.methodLink RL 72 yX0_init, Cond.instanceMethod yX0_init, Cond.code yX0_init cX0_init 1 none, Cond.methodLink RX0 1 objectInit, Cond.instanceMethod objectInit, Cond.code objectInit ⟨#[0xb1]⟩ 1 none, Cond.fieldLink RX0 9 "BellHush" "loudness" "[I", Cond.fieldLink RX0 13 "BellHush" "period" "[I", Cond.fieldLink RX0 16 "BellHush" "silence" "[I", Cond.fieldLink RX0 19 "BellHush" "untilStroke" "[I", Cond.fieldLink RX0 22 "BellHush" "strokes" "[I"]
def wsL_law0_r2 : List Cond := [Cond.fieldLink RX0 25 "BellHush" "purse" "[I", Cond.classLink RX0 28 "[[I", Cond.fieldLink RX0 30 "BellHush" "held" "[[I", Cond.methodLink RL 73 yL_build, Cond.static yL_build, Cond.initialized RL, Cond.code yL_build cL_build 5 (some (.object "BellHushLaw$Sim")), Cond.classLink RL 10 RX1, Cond.instantiable RX1 4, Cond.initialized RX1, Cond.instanceMethod yX1_init, Cond.code yX1_init cX1_init 1 none, Cond.methodLink RX1 1 objectInit, Cond.classLink RX1 7 "[I", Cond.fieldLink RX1 9 "BellHushLaw$Sim" "towers" "[[I", Cond.fieldLink RX1 15 "BellHushLaw$Sim" "purses" "[I", Cond.classLink RX1 18 "[[I", Cond.fieldLink RX1 19 "BellHushLaw$Sim" "held" "[[I", Cond.methodLink RL 64 yL_cell, Cond.static yL_cell, Cond.code yL_cell cL_cell 2 (some .int), Cond.constant RL 8 (790386105), Cond.methodLink RL 19 yL_below, Cond.static yL_below]
def wsL_law0_r3 : List Cond := [Cond.code yL_below cL_below 2 (some .int), Cond.constant RL 7 (2147483647), Cond.methodLink RL 68 yL_act, Cond.static yL_act, Cond.code yL_act cL_act 11 (some .boolean), Cond.fieldLink RL 15 "BellHushLaw$Sim" "purses" "[I", Cond.fieldLink RL 45 "BellHushLaw$Sim" "held" "[[I", Cond.methodLink RL 25 yX1_with, Cond.static yX1_with, Cond.code yX1_with cX1_with 4 (some (.array (.array .int))), Cond.methodLink RL 29 yX0_list, Cond.instanceMethod yX0_list, Cond.selects RX0 yX0_list yX0_list, Cond.code yX0_list cX0_list 6 (some .int), Cond.classLink RX0 33 "java/lang/IllegalArgumentException", Cond.initialized "java/lang/IllegalArgumentException", Cond.classLink RX0 48 "java/lang/IllegalStateException", Cond.initialized "java/lang/IllegalStateException", Cond.fieldLink RX0 44 "BellHush" "towerCount" "I", Cond.fieldLink RX0 53 "BellHush" "second" "I", Cond.methodLink RX0 56 yJ9_floorMod_7cf53, Cond.static yJ9_floorMod_7cf53, Cond.initialized RJ9, Cond.code yJ9_floorMod_7cf53 cJ9_floorMod_7cf53 3 (some .int)]
def wsL_law0_r4 : List Cond := [Cond.methodLink RL 35 yX1_addTrader, Cond.instanceMethod yX1_addTrader, Cond.selects RX1 yX1_addTrader yX1_addTrader, Cond.code yX1_addTrader cX1_addTrader 3 none, Cond.methodLink RL 38 yX0_addTrader, Cond.instanceMethod yX0_addTrader, Cond.selects RX0 yX0_addTrader yX0_addTrader, Cond.code yX0_addTrader cX0_addTrader 2 (some .int), Cond.fieldLink RX0 62 "BellHush" "traderCount" "I", Cond.methodLink RL 41 yX1_price, Cond.instanceMethod yX1_price, Cond.selects RX1 yX1_price yX1_price, Cond.code yX1_price cX1_price 3 (some .int), Cond.methodLink RX1 22 yX1_doves, Cond.instanceMethod yX1_doves, Cond.selects RX1 yX1_doves yX1_doves, Cond.code yX1_doves cX1_doves 7 (some .int), Cond.methodLink RL 48 yX1_sell, Cond.instanceMethod yX1_sell, Cond.selects RX1 yX1_sell yX1_sell, Cond.code yX1_sell cX1_sell 4 none, Cond.methodLink RX1 30 yX1_price, Cond.methodLink RL 52 yX0_buy, Cond.instanceMethod yX0_buy]
def wsL_law0_r5 : List Cond := [Cond.selects RX0 yX0_buy yX0_buy, Cond.code yX0_buy cX0_buy 5 (some .int), Cond.methodLink RX0 67 yX0_requireTrader, Cond.instanceMethod yX0_requireTrader, Cond.selects RX0 yX0_requireTrader yX0_requireTrader, Cond.code yX0_requireTrader cX0_requireTrader 2 none, Cond.classLink RX0 152 "java/lang/IndexOutOfBoundsException", Cond.initialized "java/lang/IndexOutOfBoundsException", Cond.methodLink RX0 71 yX0_requireTower, Cond.instanceMethod yX0_requireTower, Cond.selects RX0 yX0_requireTower yX0_requireTower, Cond.code yX0_requireTower cX0_requireTower 2 none, Cond.methodLink RX0 74 yX0_requireTradable, Cond.static yX0_requireTradable, Cond.code yX0_requireTradable cX0_requireTradable 1 none, Cond.methodLink RX0 77 yX0_priceNow, Cond.instanceMethod yX0_priceNow, Cond.selects RX0 yX0_priceNow yX0_priceNow, Cond.code yX0_priceNow cX0_priceNow 2 (some .int), Cond.methodLink RX0 94 yX0_dovesNow, Cond.instanceMethod yX0_dovesNow, Cond.selects RX0 yX0_dovesNow yX0_dovesNow, Cond.code yX0_dovesNow cX0_dovesNow 4 (some .int), Cond.methodLink RX0 169 yX0_dovesFor]
def wsL_law0_r6 : List Cond := [Cond.static yX0_dovesFor, Cond.code yX0_dovesFor cX0_dovesFor 1 (some .int), Cond.methodLink RX0 166 Lib.Math.max.name, Cond.methodLink RX0 172 yX0_price, Cond.static yX0_price, Cond.code yX0_price cX0_price 3 (some .int), Cond.methodLink RL 55 yX0_sell, Cond.instanceMethod yX0_sell, Cond.selects RX0 yX0_sell yX0_sell, Cond.code yX0_sell cX0_sell 5 (some .int), Cond.methodLink RL 57 yX0_pass, Cond.instanceMethod yX0_pass, Cond.selects RX0 yX0_pass yX0_pass, Cond.code yX0_pass cX0_pass 4 (some .int), Cond.methodLink RX0 87 yX0_requirePassable, Cond.static yX0_requirePassable, Cond.code yX0_requirePassable cX0_requirePassable 1 none, Cond.methodLink RX0 90 yX0_goOneSecond, Cond.instanceMethod yX0_goOneSecond, Cond.selects RX0 yX0_goOneSecond yX0_goOneSecond, Cond.code yX0_goOneSecond cX0_goOneSecond 3 (some .int), Cond.methodLink RX0 163 yX0_strike, Cond.instanceMethod yX0_strike, Cond.selects RX0 yX0_strike yX0_strike]
def wsL_law0_r7 : List Cond := [Cond.code yX0_strike cX0_strike 4 none, Cond.methodLink RL 60 yX1_behind, Cond.instanceMethod yX1_behind, Cond.selects RX1 yX1_behind yX1_behind, Cond.code yX1_behind cX1_behind 4 (some .int), Cond.methodLink RX1 33 yX1_pass, Cond.instanceMethod yX1_pass, Cond.selects RX1 yX1_pass yX1_pass, Cond.code yX1_pass cX1_pass 6 (some .int), Cond.fieldLink RX1 26 "BellHushLaw$Sim" "second" "I", Cond.methodLink RL 77 yX0_towers, Cond.instanceMethod yX0_towers, Cond.selects RX0 yX0_towers yX0_towers, Cond.code yX0_towers cX0_towers 1 (some .int), Cond.methodLink RL 79 yX0_traders, Cond.instanceMethod yX0_traders, Cond.selects RX0 yX0_traders yX0_traders, Cond.code yX0_traders cX0_traders 1 (some .int), Cond.methodLink RL 83 yX0_silenceOf, Cond.instanceMethod yX0_silenceOf, Cond.selects RX0 yX0_silenceOf yX0_silenceOf, Cond.code yX0_silenceOf cX0_silenceOf 2 (some .int), Cond.methodLink RL 86 yX0_priceOf, Cond.instanceMethod yX0_priceOf]
def wsL_law0_r8 : List Cond := [Cond.selects RX0 yX0_priceOf yX0_priceOf, Cond.code yX0_priceOf cX0_priceOf 2 (some .int), Cond.methodLink RL 89 yX0_secondsUntilStroke, Cond.instanceMethod yX0_secondsUntilStroke, Cond.selects RX0 yX0_secondsUntilStroke yX0_secondsUntilStroke, Cond.code yX0_secondsUntilStroke cX0_secondsUntilStroke 2 (some .int), Cond.methodLink RL 92 yX0_strokesOf, Cond.instanceMethod yX0_strokesOf, Cond.selects RX0 yX0_strokesOf yX0_strokesOf, Cond.code yX0_strokesOf cX0_strokesOf 2 (some .int), Cond.methodLink RL 95 yX0_openSeconds, Cond.instanceMethod yX0_openSeconds, Cond.selects RX0 yX0_openSeconds yX0_openSeconds, Cond.code yX0_openSeconds cX0_openSeconds 2 (some .int), Cond.methodLink RX0 97 yX0_heldByAll, Cond.instanceMethod yX0_heldByAll, Cond.selects RX0 yX0_heldByAll yX0_heldByAll, Cond.code yX0_heldByAll cX0_heldByAll 4 (some .int), Cond.methodLink RL 98 yX0_holds, Cond.instanceMethod yX0_holds, Cond.selects RX0 yX0_holds yX0_holds, Cond.code yX0_holds cX0_holds 3 (some .int), Cond.methodLink RL 101 yX0_dovesOn, Cond.instanceMethod yX0_dovesOn]
def wsL_law0_r9 : List Cond := [Cond.selects RX0 yX0_dovesOn yX0_dovesOn, Cond.code yX0_dovesOn cX0_dovesOn 2 (some .int), Cond.methodLink RL 109 yX0_closingPrice, Cond.instanceMethod yX0_closingPrice, Cond.selects RX0 yX0_closingPrice yX0_closingPrice, Cond.code yX0_closingPrice cX0_closingPrice 2 (some .int), Cond.methodLink RX0 106 yX0_closing, Cond.instanceMethod yX0_closing, Cond.selects RX0 yX0_closing yX0_closing, Cond.code yX0_closing cX0_closing 2 (some .int), Cond.methodLink RX0 175 yX0_closingWith, Cond.instanceMethod yX0_closingWith, Cond.selects RX0 yX0_closingWith yX0_closingWith, Cond.code yX0_closingWith cX0_closingWith 3 (some .int), Cond.methodLink RL 115 yX0_purseOf, Cond.instanceMethod yX0_purseOf, Cond.selects RX0 yX0_purseOf yX0_purseOf, Cond.code yX0_purseOf cX0_purseOf 2 (some .int), Cond.methodLink RL 118 yX0_worthOf, Cond.instanceMethod yX0_worthOf, Cond.selects RX0 yX0_worthOf yX0_worthOf, Cond.code yX0_worthOf cX0_worthOf 2 (some .int), Cond.methodLink RX0 100 yX0_worthBehind, Cond.instanceMethod yX0_worthBehind]
def wsL_law0_r10 : List Cond := [Cond.selects RX0 yX0_worthBehind yX0_worthBehind, Cond.code yX0_worthBehind cX0_worthBehind 7 (some .int), Cond.methodLink RX0 109 yX0_priceBehind, Cond.instanceMethod yX0_priceBehind, Cond.selects RX0 yX0_priceBehind yX0_priceBehind, Cond.code yX0_priceBehind cX0_priceBehind 6 (some .int), Cond.methodLink RL 121 yX0_shortsOf, Cond.instanceMethod yX0_shortsOf, Cond.selects RX0 yX0_shortsOf yX0_shortsOf, Cond.code yX0_shortsOf cX0_shortsOf 2 (some .int), Cond.methodLink RX0 103 yX0_shortTowers, Cond.instanceMethod yX0_shortTowers, Cond.selects RX0 yX0_shortTowers yX0_shortTowers, Cond.code yX0_shortTowers cX0_shortTowers 4 (some .int), Cond.methodLink RL 124 yX0_richest, Cond.instanceMethod yX0_richest, Cond.selects RX0 yX0_richest yX0_richest, Cond.code yX0_richest cX0_richest 3 (some .int), Cond.methodLink RL 127 yX0_dearest, Cond.instanceMethod yX0_dearest, Cond.selects RX0 yX0_dearest yX0_dearest, Cond.code yX0_dearest cX0_dearest 3 (some .int), Cond.methodLink RL 130 yX0_nextToStrike, Cond.instanceMethod yX0_nextToStrike]
def wsL_law0_r11 : List Cond := [Cond.selects RX0 yX0_nextToStrike yX0_nextToStrike, Cond.code yX0_nextToStrike cX0_nextToStrike 3 (some .int), Cond.methodLink RL 133 yX0_inDebt, Cond.instanceMethod yX0_inDebt, Cond.selects RX0 yX0_inDebt yX0_inDebt, Cond.code yX0_inDebt cX0_inDebt 3 (some .int), Cond.methodLink RL 136 yX0_bestToBuy, Cond.instanceMethod yX0_bestToBuy, Cond.selects RX0 yX0_bestToBuy yX0_bestToBuy, Cond.code yX0_bestToBuy cX0_bestToBuy 4 (some .int), Cond.methodLink RX0 112 yX0_riseUntilStroke, Cond.instanceMethod yX0_riseUntilStroke, Cond.selects RX0 yX0_riseUntilStroke yX0_riseUntilStroke, Cond.code yX0_riseUntilStroke cX0_riseUntilStroke 2 (some .int), Cond.methodLink RL 139 yX0_second, Cond.instanceMethod yX0_second, Cond.selects RX0 yX0_second yX0_second, Cond.code yX0_second cX0_second 1 (some .int), Cond.methodLink RL 142 yX1_pass, Cond.methodLink RL 144 yX1_isSame, Cond.instanceMethod yX1_isSame, Cond.selects RX1 yX1_isSame yX1_isSame, Cond.code yX1_isSame cX1_isSame 13 (some .boolean), Cond.methodLink RX1 42 yX0_second]
def wsL_law0_r12 : List Cond := [Cond.methodLink RX1 46 yX0_towers, Cond.methodLink RX1 48 yX0_traders, Cond.methodLink RX1 51 yX0_silenceOf, Cond.methodLink RX1 54 yX0_dovesOn, Cond.methodLink RX1 57 yX0_priceOf, Cond.methodLink RX1 60 yX0_secondsUntilStroke, Cond.methodLink RX1 63 yX1_until, Cond.instanceMethod yX1_until, Cond.selects RX1 yX1_until yX1_until, Cond.code yX1_until cX1_until 3 (some .int), Cond.methodLink RX1 66 yX0_strokesOf, Cond.methodLink RX1 69 yX0_openSeconds, Cond.methodLink RX1 72 yX0_holds, Cond.methodLink RX1 76 yX1_worth, Cond.instanceMethod yX1_worth, Cond.selects RX1 yX1_worth yX1_worth, Cond.code yX1_worth cX1_worth 4 (some .int), Cond.methodLink RX1 79 yX0_purseOf, Cond.methodLink RX1 82 yX0_worthOf, Cond.methodLink RX1 85 yX0_shortsOf, Cond.methodLink RX1 88 yX0_dearest, Cond.methodLink RX1 91 yX0_nextToStrike, Cond.methodLink RX1 94 yX0_richest, Cond.methodLink RX1 97 yX0_inDebt]
def wsL_law0_r13 : List Cond := [Cond.methodLink RX1 100 yX0_meanPrice, Cond.instanceMethod yX0_meanPrice, Cond.selects RX0 yX0_meanPrice yX0_meanPrice, Cond.code yX0_meanPrice cX0_meanPrice 3 (some .double)]
def wsL_law0 : List Cond := (wsL_law0_r1 ++ (wsL_law0_r2 ++ (wsL_law0_r3 ++ (wsL_law0_r4 ++ (wsL_law0_r5 ++ (wsL_law0_r6 ++ (wsL_law0_r7 ++ (wsL_law0_r8 ++ (wsL_law0_r9 ++ (wsL_law0_r10 ++ (wsL_law0_r11 ++ (wsL_law0_r12 ++ wsL_law0_r13)))))))))))) ++ wsX00 ++ wsX10 ++ ([] : List Cond)
def wsL_law : List Cond := wsL_law0 ++ (vx_atS RX0 37 "java/lang/IllegalArgumentException" ["java/lang/RuntimeException", "java/lang/Exception"]).filter goodWord ++ (vx_atS RX0 52 "java/lang/IllegalStateException" ["java/lang/RuntimeException", "java/lang/Exception"]).filter goodWord ++ (vx_atS RX0 156 "java/lang/IndexOutOfBoundsException" ["java/lang/RuntimeException", "java/lang/Exception"]).filter goodWord
set_option maxRecDepth 20000 in
theorem wsL_law_b1 : ∀ w ∈ wsL_law0_r1, w ∈ lw_tbl := fun w h => (goodIn_p wsL_law0_r1 [162, 444, 28, 31] (by decide +kernel) (by decide +kernel) w h).1
set_option maxRecDepth 20000 in
theorem wsL_law_b2 : ∀ w ∈ wsL_law0_r2, w ∈ lw_tbl := fun w h => (goodIn_p wsL_law0_r2 [417, 422, 342] (by decide +kernel) (by decide +kernel) w h).1
set_option maxRecDepth 20000 in
theorem wsL_law_b3 : ∀ w ∈ wsL_law0_r3, w ∈ lw_tbl := fun w h => (goodIn_p wsL_law0_r3 [349, 346, 353, 358, 380] (by decide +kernel) (by decide +kernel) w h).1
set_option maxRecDepth 20000 in
theorem wsL_law_b4 : ∀ w ∈ wsL_law0_r4, w ∈ lw_tbl := fun w h => (goodIn_p wsL_law0_r4 [384, 388, 302, 306, 394] (by decide +kernel) (by decide +kernel) w h).1
set_option maxRecDepth 20000 in
theorem wsL_law_b5 : ∀ w ∈ wsL_law0_r5, w ∈ lw_tbl := fun w h => (goodIn_p wsL_law0_r5 [398, 241, 181, 401, 152, 156] (by decide +kernel) (by decide +kernel) w h).1
set_option maxRecDepth 20000 in
theorem wsL_law_b6 : ∀ w ∈ wsL_law0_r6, w ∈ lw_tbl := fun w h => (goodIn_p wsL_law0_r6 [159, 165, 408, 69, 72, 144] (by decide +kernel) (by decide +kernel) w h).1
set_option maxRecDepth 20000 in
theorem wsL_law_b7 : ∀ w ∈ wsL_law0_r7, w ∈ lw_tbl := fun w h => (goodIn_p wsL_law0_r7 [148, 413, 298, 173, 233, 177] (by decide +kernel) (by decide +kernel) w h).1
set_option maxRecDepth 20000 in
theorem wsL_law_b8 : ∀ w ∈ wsL_law0_r8, w ∈ lw_tbl := fun w h => (goodIn_p wsL_law0_r8 [205, 209, 213, 217, 221, 246] (by decide +kernel) (by decide +kernel) w h).1
set_option maxRecDepth 20000 in
theorem wsL_law_b9 : ∀ w ∈ wsL_law0_r9, w ∈ lw_tbl := fun w h => (goodIn_p wsL_law0_r9 [201, 286, 258, 262, 237, 250] (by decide +kernel) (by decide +kernel) w h).1
set_option maxRecDepth 20000 in
theorem wsL_law_b10 : ∀ w ∈ wsL_law0_r10, w ∈ lw_tbl := fun w h => (goodIn_p wsL_law0_r10 [254, 266, 274, 278, 270, 225] (by decide +kernel) (by decide +kernel) w h).1
set_option maxRecDepth 20000 in
theorem wsL_law_b11 : ∀ w ∈ wsL_law0_r11, w ∈ lw_tbl := fun w h => (goodIn_p wsL_law0_r11 [229, 282, 290, 294, 169, 310] (by decide +kernel) (by decide +kernel) w h).1
set_option maxRecDepth 20000 in
theorem wsL_law_b12 : ∀ w ∈ wsL_law0_r12, w ∈ lw_tbl := fun w h => (goodIn_p wsL_law0_r12 [321, 328] (by decide +kernel) (by decide +kernel) w h).1
set_option maxRecDepth 20000 in
theorem wsL_law_b13 : ∀ w ∈ wsL_law0_r13, w ∈ lw_tbl := fun w h => (goodIn_p wsL_law0_r13 [339] (by decide +kernel) (by decide +kernel) w h).1
theorem wsL_law_bx0 : ∀ w ∈ wsX00, w ∈ lw_tbl := by decide +kernel
theorem wsL_law_bx1 : ∀ w ∈ wsX10, w ∈ lw_tbl := by decide +kernel
theorem app_in {a b : List Cond} (ha : ∀ w ∈ a, w ∈ lw_tbl) (hb : ∀ w ∈ b, w ∈ lw_tbl) : ∀ w ∈ a ++ b, w ∈ lw_tbl := fun w h => (List.mem_append.mp h).elim (ha w) (hb w)
theorem wsL_law_in0 : ∀ w ∈ wsL_law0, w ∈ lw_tbl := app_in (app_in (app_in (app_in wsL_law_b1 (app_in wsL_law_b2 (app_in wsL_law_b3 (app_in wsL_law_b4 (app_in wsL_law_b5 (app_in wsL_law_b6 (app_in wsL_law_b7 (app_in wsL_law_b8 (app_in wsL_law_b9 (app_in wsL_law_b10 (app_in wsL_law_b11 (app_in wsL_law_b12 wsL_law_b13)))))))))))) wsL_law_bx0) wsL_law_bx1) (fun w h => nomatch h)
theorem wsL_law_x0 : ∀ w ∈ (vx_atS RX0 37 "java/lang/IllegalArgumentException" ["java/lang/RuntimeException", "java/lang/Exception"]).filter goodWord, w ∈ lw_tbl := by decide +kernel
theorem wsL_law_x1 : ∀ w ∈ (vx_atS RX0 52 "java/lang/IllegalStateException" ["java/lang/RuntimeException", "java/lang/Exception"]).filter goodWord, w ∈ lw_tbl := by decide +kernel
theorem wsL_law_x2 : ∀ w ∈ (vx_atS RX0 156 "java/lang/IndexOutOfBoundsException" ["java/lang/RuntimeException", "java/lang/Exception"]).filter goodWord, w ∈ lw_tbl := by decide +kernel
theorem wsL_law_in : ∀ w ∈ wsL_law, w ∈ lw_tbl := fun w h => (List.mem_append.mp h).elim (fun h => (List.mem_append.mp h).elim (fun h => (List.mem_append.mp h).elim (fun h => wsL_law_in0 w h) (fun h => wsL_law_x0 w h)) (fun h => wsL_law_x1 w h)) (fun h => wsL_law_x2 w h)
theorem inlX0 : ∀ w ∈ wsX00, w ∈ wsL_law := fun _ h => List.mem_append_left _ (List.mem_append_left _ (List.mem_append_left _ (List.mem_append_left _ (List.mem_append_left _ (List.mem_append_right _ h)))))
theorem inX0 : ∀ w ∈ wsX00, w ∈ lw_tbl := fun w h => wsL_law_in w (inlX0 w h)
theorem inlX1 : ∀ w ∈ wsX10, w ∈ wsL_law := fun _ h => List.mem_append_left _ (List.mem_append_left _ (List.mem_append_left _ (List.mem_append_left _ (List.mem_append_right _ h))))
theorem inX1 : ∀ w ∈ wsX10, w ∈ lw_tbl := fun w h => wsL_law_in w (inlX1 w h)
theorem inX2 : ∀ w ∈ wsX20, w ∈ lw_tbl := by decide +kernel
theorem inJ9 : ∀ w ∈ wsJ90, w ∈ lw_tbl := by decide +kernel
theorem inJ0 : ∀ w ∈ wsJ00, w ∈ lw_tbl := by decide +kernel
abbrev vwCl : List vw_C := [(RX0, TX0, 10), (RX1, TX1, 4)]
end
section
theorem dX0_init_0 : decode cX0_init 0 = .ok (.aload_n 0, 1) := by decide +kernel
theorem dX0_init_1 : decode cX0_init 1 = .ok (.invokespecial 1, 3) := by decide +kernel
theorem dX0_init_4 : decode cX0_init 4 = .ok (.aload_n 0, 1) := by decide +kernel
theorem dX0_init_5 : decode cX0_init 5 = .ok (.bipush 8, 2) := by decide +kernel
theorem dX0_init_7 : decode cX0_init 7 = .ok (.newarray .int, 2) := by decide +kernel
theorem dX0_init_9 : decode cX0_init 9 = .ok (.putfield 9, 3) := by decide +kernel
theorem dX0_init_12 : decode cX0_init 12 = .ok (.aload_n 0, 1) := by decide +kernel
theorem dX0_init_13 : decode cX0_init 13 = .ok (.bipush 8, 2) := by decide +kernel
theorem dX0_init_15 : decode cX0_init 15 = .ok (.newarray .int, 2) := by decide +kernel
theorem dX0_init_17 : decode cX0_init 17 = .ok (.putfield 13, 3) := by decide +kernel
theorem dX0_init_20 : decode cX0_init 20 = .ok (.aload_n 0, 1) := by decide +kernel
theorem dX0_init_21 : decode cX0_init 21 = .ok (.bipush 8, 2) := by decide +kernel
theorem dX0_init_23 : decode cX0_init 23 = .ok (.newarray .int, 2) := by decide +kernel
theorem dX0_init_25 : decode cX0_init 25 = .ok (.putfield 16, 3) := by decide +kernel
theorem dX0_init_28 : decode cX0_init 28 = .ok (.aload_n 0, 1) := by decide +kernel
theorem dX0_init_29 : decode cX0_init 29 = .ok (.bipush 8, 2) := by decide +kernel
theorem dX0_init_31 : decode cX0_init 31 = .ok (.newarray .int, 2) := by decide +kernel
theorem dX0_init_33 : decode cX0_init 33 = .ok (.putfield 19, 3) := by decide +kernel
theorem dX0_init_36 : decode cX0_init 36 = .ok (.aload_n 0, 1) := by decide +kernel
theorem dX0_init_37 : decode cX0_init 37 = .ok (.bipush 8, 2) := by decide +kernel
theorem dX0_init_39 : decode cX0_init 39 = .ok (.newarray .int, 2) := by decide +kernel
theorem dX0_init_41 : decode cX0_init 41 = .ok (.putfield 22, 3) := by decide +kernel
theorem dX0_init_44 : decode cX0_init 44 = .ok (.aload_n 0, 1) := by decide +kernel
theorem dX0_init_45 : decode cX0_init 45 = .ok (.bipush 6, 2) := by decide +kernel
theorem dX0_init_47 : decode cX0_init 47 = .ok (.newarray .int, 2) := by decide +kernel
theorem dX0_init_49 : decode cX0_init 49 = .ok (.putfield 25, 3) := by decide +kernel
theorem dX0_init_52 : decode cX0_init 52 = .ok (.aload_n 0, 1) := by decide +kernel
theorem dX0_init_53 : decode cX0_init 53 = .ok (.bipush 6, 2) := by decide +kernel
theorem dX0_init_55 : decode cX0_init 55 = .ok (.bipush 8, 2) := by decide +kernel
theorem dX0_init_57 : decode cX0_init 57 = .ok (.multianewarray 28 2, 4) := by decide +kernel
theorem dX0_init_61 : decode cX0_init 61 = .ok (.putfield 30, 3) := by decide +kernel
theorem dX0_init_64 : decode cX0_init 64 = .ok (.return_, 1) := by decide +kernel
theorem dX0_list_0 : decode cX0_list 0 = .ok (.iload_n 1, 1) := by decide +kernel
theorem dX0_list_1 : decode cX0_list 1 = .ok (.iconst 1, 1) := by decide +kernel
theorem dX0_list_2 : decode cX0_list 2 = .ok (.if_icmp .lt 9, 3) := by decide +kernel
theorem dX0_list_5 : decode cX0_list 5 = .ok (.iload_n 1, 1) := by decide +kernel
theorem dX0_list_6 : decode cX0_list 6 = .ok (.bipush 9, 2) := by decide +kernel
theorem dX0_list_8 : decode cX0_list 8 = .ok (.if_icmp .le 13, 3) := by decide +kernel
theorem dX0_list_11 : decode cX0_list 11 = .ok (.new 33, 3) := by decide +kernel
theorem dX0_list_14 : decode cX0_list 14 = .ok (.dup, 1) := by decide +kernel
theorem dX0_list_15 : decode cX0_list 15 = .ok (.ldc 35, 2) := by decide +kernel
theorem dX0_list_17 : decode cX0_list 17 = .ok (.invokespecial 37, 3) := by decide +kernel
theorem dX0_list_20 : decode cX0_list 20 = .ok (.athrow, 1) := by decide +kernel
theorem dX0_list_21 : decode cX0_list 21 = .ok (.iload_n 2, 1) := by decide +kernel
theorem dX0_list_22 : decode cX0_list 22 = .ok (.iconst 2, 1) := by decide +kernel
theorem dX0_list_23 : decode cX0_list 23 = .ok (.if_icmp .lt 9, 3) := by decide +kernel
theorem dX0_list_26 : decode cX0_list 26 = .ok (.iload_n 2, 1) := by decide +kernel
theorem dX0_list_27 : decode cX0_list 27 = .ok (.bipush 20, 2) := by decide +kernel
theorem dX0_list_29 : decode cX0_list 29 = .ok (.if_icmp .le 13, 3) := by decide +kernel
theorem dX0_list_32 : decode cX0_list 32 = .ok (.new 33, 3) := by decide +kernel
theorem dX0_list_35 : decode cX0_list 35 = .ok (.dup, 1) := by decide +kernel
theorem dX0_list_36 : decode cX0_list 36 = .ok (.ldc 40, 2) := by decide +kernel
theorem dX0_list_38 : decode cX0_list 38 = .ok (.invokespecial 37, 3) := by decide +kernel
theorem dX0_list_41 : decode cX0_list 41 = .ok (.athrow, 1) := by decide +kernel
theorem dX0_list_42 : decode cX0_list 42 = .ok (.iload_n 3, 1) := by decide +kernel
theorem dX0_list_43 : decode cX0_list 43 = .ok (.ifCond .lt 8, 3) := by decide +kernel
theorem dX0_list_46 : decode cX0_list 46 = .ok (.iload_n 3, 1) := by decide +kernel
theorem dX0_list_47 : decode cX0_list 47 = .ok (.iload_n 2, 1) := by decide +kernel
theorem dX0_list_48 : decode cX0_list 48 = .ok (.if_icmp .lt 13, 3) := by decide +kernel
theorem dX0_list_51 : decode cX0_list 51 = .ok (.new 33, 3) := by decide +kernel
theorem dX0_list_54 : decode cX0_list 54 = .ok (.dup, 1) := by decide +kernel
theorem dX0_list_55 : decode cX0_list 55 = .ok (.ldc 42, 2) := by decide +kernel
theorem dX0_list_57 : decode cX0_list 57 = .ok (.invokespecial 37, 3) := by decide +kernel
theorem dX0_list_60 : decode cX0_list 60 = .ok (.athrow, 1) := by decide +kernel
theorem dX0_list_61 : decode cX0_list 61 = .ok (.aload_n 0, 1) := by decide +kernel
theorem dX0_list_62 : decode cX0_list 62 = .ok (.getfield 44, 3) := by decide +kernel
theorem dX0_list_65 : decode cX0_list 65 = .ok (.bipush 8, 2) := by decide +kernel
theorem dX0_list_67 : decode cX0_list 67 = .ok (.if_icmp .lt 13, 3) := by decide +kernel
theorem dX0_list_70 : decode cX0_list 70 = .ok (.new 48, 3) := by decide +kernel
theorem dX0_list_73 : decode cX0_list 73 = .ok (.dup, 1) := by decide +kernel
theorem dX0_list_74 : decode cX0_list 74 = .ok (.ldc 50, 2) := by decide +kernel
theorem dX0_list_76 : decode cX0_list 76 = .ok (.invokespecial 52, 3) := by decide +kernel
theorem dX0_list_79 : decode cX0_list 79 = .ok (.athrow, 1) := by decide +kernel
theorem dX0_list_80 : decode cX0_list 80 = .ok (.aload_n 0, 1) := by decide +kernel
theorem dX0_list_81 : decode cX0_list 81 = .ok (.getfield 44, 3) := by decide +kernel
theorem dX0_list_84 : decode cX0_list 84 = .ok (.istore 4, 2) := by decide +kernel
theorem dX0_list_86 : decode cX0_list 86 = .ok (.iload_n 3, 1) := by decide +kernel
theorem dX0_list_87 : decode cX0_list 87 = .ok (.aload_n 0, 1) := by decide +kernel
theorem dX0_list_88 : decode cX0_list 88 = .ok (.getfield 53, 3) := by decide +kernel
theorem dX0_list_91 : decode cX0_list 91 = .ok (.isub, 1) := by decide +kernel
theorem dX0_list_92 : decode cX0_list 92 = .ok (.iload_n 2, 1) := by decide +kernel
theorem dX0_list_93 : decode cX0_list 93 = .ok (.invokestatic 56, 3) := by decide +kernel
theorem dX0_list_96 : decode cX0_list 96 = .ok (.istore 5, 2) := by decide +kernel
theorem dX0_list_98 : decode cX0_list 98 = .ok (.aload_n 0, 1) := by decide +kernel
theorem dX0_list_99 : decode cX0_list 99 = .ok (.getfield 9, 3) := by decide +kernel
theorem dX0_list_102 : decode cX0_list 102 = .ok (.iload 4, 2) := by decide +kernel
theorem dX0_list_104 : decode cX0_list 104 = .ok (.iload_n 1, 1) := by decide +kernel
theorem dX0_list_105 : decode cX0_list 105 = .ok (.iastore, 1) := by decide +kernel
theorem dX0_list_106 : decode cX0_list 106 = .ok (.aload_n 0, 1) := by decide +kernel
theorem dX0_list_107 : decode cX0_list 107 = .ok (.getfield 13, 3) := by decide +kernel
theorem dX0_list_110 : decode cX0_list 110 = .ok (.iload 4, 2) := by decide +kernel
theorem dX0_list_112 : decode cX0_list 112 = .ok (.iload_n 2, 1) := by decide +kernel
theorem dX0_list_113 : decode cX0_list 113 = .ok (.iastore, 1) := by decide +kernel
theorem dX0_list_114 : decode cX0_list 114 = .ok (.aload_n 0, 1) := by decide +kernel
theorem dX0_list_115 : decode cX0_list 115 = .ok (.getfield 19, 3) := by decide +kernel
theorem dX0_list_118 : decode cX0_list 118 = .ok (.iload 4, 2) := by decide +kernel
theorem dX0_list_120 : decode cX0_list 120 = .ok (.iload 5, 2) := by decide +kernel
theorem dX0_list_122 : decode cX0_list 122 = .ok (.ifCond .ne 7, 3) := by decide +kernel
theorem dX0_list_125 : decode cX0_list 125 = .ok (.iload_n 2, 1) := by decide +kernel
theorem dX0_list_126 : decode cX0_list 126 = .ok (.goto 5, 3) := by decide +kernel
theorem dX0_list_129 : decode cX0_list 129 = .ok (.iload 5, 2) := by decide +kernel
theorem dX0_list_131 : decode cX0_list 131 = .ok (.iastore, 1) := by decide +kernel
theorem dX0_list_132 : decode cX0_list 132 = .ok (.aload_n 0, 1) := by decide +kernel
theorem dX0_list_133 : decode cX0_list 133 = .ok (.iload 4, 2) := by decide +kernel
theorem dX0_list_135 : decode cX0_list 135 = .ok (.iconst 1, 1) := by decide +kernel
theorem dX0_list_136 : decode cX0_list 136 = .ok (.iadd, 1) := by decide +kernel
theorem dX0_list_137 : decode cX0_list 137 = .ok (.putfield 44, 3) := by decide +kernel
theorem dX0_list_140 : decode cX0_list 140 = .ok (.iload 4, 2) := by decide +kernel
theorem dX0_list_142 : decode cX0_list 142 = .ok (.ireturn, 1) := by decide +kernel
theorem dX0_addTrader_0 : decode cX0_addTrader 0 = .ok (.aload_n 0, 1) := by decide +kernel
theorem dX0_addTrader_1 : decode cX0_addTrader 1 = .ok (.getfield 62, 3) := by decide +kernel
theorem dX0_addTrader_4 : decode cX0_addTrader 4 = .ok (.bipush 6, 2) := by decide +kernel
theorem dX0_addTrader_6 : decode cX0_addTrader 6 = .ok (.if_icmp .lt 13, 3) := by decide +kernel
theorem dX0_addTrader_9 : decode cX0_addTrader 9 = .ok (.new 48, 3) := by decide +kernel
theorem dX0_addTrader_12 : decode cX0_addTrader 12 = .ok (.dup, 1) := by decide +kernel
theorem dX0_addTrader_13 : decode cX0_addTrader 13 = .ok (.ldc 65, 2) := by decide +kernel
theorem dX0_addTrader_15 : decode cX0_addTrader 15 = .ok (.invokespecial 52, 3) := by decide +kernel
theorem dX0_addTrader_18 : decode cX0_addTrader 18 = .ok (.athrow, 1) := by decide +kernel
theorem dX0_addTrader_19 : decode cX0_addTrader 19 = .ok (.aload_n 0, 1) := by decide +kernel
theorem dX0_addTrader_20 : decode cX0_addTrader 20 = .ok (.getfield 62, 3) := by decide +kernel
theorem dX0_addTrader_23 : decode cX0_addTrader 23 = .ok (.istore_n 1, 1) := by decide +kernel
theorem dX0_addTrader_24 : decode cX0_addTrader 24 = .ok (.aload_n 0, 1) := by decide +kernel
theorem dX0_addTrader_25 : decode cX0_addTrader 25 = .ok (.getfield 25, 3) := by decide +kernel
theorem dX0_addTrader_28 : decode cX0_addTrader 28 = .ok (.iload_n 1, 1) := by decide +kernel
theorem dX0_addTrader_29 : decode cX0_addTrader 29 = .ok (.bipush 100, 2) := by decide +kernel
theorem dX0_addTrader_31 : decode cX0_addTrader 31 = .ok (.iastore, 1) := by decide +kernel
theorem dX0_addTrader_32 : decode cX0_addTrader 32 = .ok (.aload_n 0, 1) := by decide +kernel
theorem dX0_addTrader_33 : decode cX0_addTrader 33 = .ok (.iload_n 1, 1) := by decide +kernel
theorem dX0_addTrader_34 : decode cX0_addTrader 34 = .ok (.iconst 1, 1) := by decide +kernel
theorem dX0_addTrader_35 : decode cX0_addTrader 35 = .ok (.iadd, 1) := by decide +kernel
theorem dX0_addTrader_36 : decode cX0_addTrader 36 = .ok (.putfield 62, 3) := by decide +kernel
theorem dX0_addTrader_39 : decode cX0_addTrader 39 = .ok (.iload_n 1, 1) := by decide +kernel
theorem dX0_addTrader_40 : decode cX0_addTrader 40 = .ok (.ireturn, 1) := by decide +kernel
theorem dX0_buy_0 : decode cX0_buy 0 = .ok (.aload_n 0, 1) := by decide +kernel
theorem dX0_buy_1 : decode cX0_buy 1 = .ok (.iload_n 1, 1) := by decide +kernel
theorem dX0_buy_2 : decode cX0_buy 2 = .ok (.invokevirtual 67, 3) := by decide +kernel
theorem dX0_buy_5 : decode cX0_buy 5 = .ok (.aload_n 0, 1) := by decide +kernel
theorem dX0_buy_6 : decode cX0_buy 6 = .ok (.iload_n 2, 1) := by decide +kernel
theorem dX0_buy_7 : decode cX0_buy 7 = .ok (.invokevirtual 71, 3) := by decide +kernel
theorem dX0_buy_10 : decode cX0_buy 10 = .ok (.iload_n 3, 1) := by decide +kernel
theorem dX0_buy_11 : decode cX0_buy 11 = .ok (.invokestatic 74, 3) := by decide +kernel
theorem dX0_buy_14 : decode cX0_buy 14 = .ok (.aload_n 0, 1) := by decide +kernel
theorem dX0_buy_15 : decode cX0_buy 15 = .ok (.iload_n 2, 1) := by decide +kernel
theorem dX0_buy_16 : decode cX0_buy 16 = .ok (.invokevirtual 77, 3) := by decide +kernel
theorem dX0_buy_19 : decode cX0_buy 19 = .ok (.iload_n 3, 1) := by decide +kernel
theorem dX0_buy_20 : decode cX0_buy 20 = .ok (.imul, 1) := by decide +kernel
theorem dX0_buy_21 : decode cX0_buy 21 = .ok (.istore 4, 2) := by decide +kernel
theorem dX0_buy_23 : decode cX0_buy 23 = .ok (.aload_n 0, 1) := by decide +kernel
theorem dX0_buy_24 : decode cX0_buy 24 = .ok (.getfield 30, 3) := by decide +kernel
theorem dX0_buy_27 : decode cX0_buy 27 = .ok (.iload_n 1, 1) := by decide +kernel
theorem dX0_buy_28 : decode cX0_buy 28 = .ok (.aaload, 1) := by decide +kernel
theorem dX0_buy_29 : decode cX0_buy 29 = .ok (.iload_n 2, 1) := by decide +kernel
theorem dX0_buy_30 : decode cX0_buy 30 = .ok (.iaload, 1) := by decide +kernel
theorem dX0_buy_31 : decode cX0_buy 31 = .ok (.iload_n 3, 1) := by decide +kernel
theorem dX0_buy_32 : decode cX0_buy 32 = .ok (.iadd, 1) := by decide +kernel
theorem dX0_buy_33 : decode cX0_buy 33 = .ok (.bipush 9, 2) := by decide +kernel
theorem dX0_buy_35 : decode cX0_buy 35 = .ok (.if_icmp .le 13, 3) := by decide +kernel
theorem dX0_buy_38 : decode cX0_buy 38 = .ok (.new 48, 3) := by decide +kernel
theorem dX0_buy_41 : decode cX0_buy 41 = .ok (.dup, 1) := by decide +kernel
theorem dX0_buy_42 : decode cX0_buy 42 = .ok (.ldc 81, 2) := by decide +kernel
theorem dX0_buy_44 : decode cX0_buy 44 = .ok (.invokespecial 52, 3) := by decide +kernel
theorem dX0_buy_47 : decode cX0_buy 47 = .ok (.athrow, 1) := by decide +kernel
theorem dX0_buy_48 : decode cX0_buy 48 = .ok (.aload_n 0, 1) := by decide +kernel
theorem dX0_buy_49 : decode cX0_buy 49 = .ok (.getfield 25, 3) := by decide +kernel
theorem dX0_buy_52 : decode cX0_buy 52 = .ok (.iload_n 1, 1) := by decide +kernel
theorem dX0_buy_53 : decode cX0_buy 53 = .ok (.iaload, 1) := by decide +kernel
theorem dX0_buy_54 : decode cX0_buy 54 = .ok (.iload 4, 2) := by decide +kernel
theorem dX0_buy_56 : decode cX0_buy 56 = .ok (.if_icmp .ge 13, 3) := by decide +kernel
theorem dX0_buy_59 : decode cX0_buy 59 = .ok (.new 48, 3) := by decide +kernel
theorem dX0_buy_62 : decode cX0_buy 62 = .ok (.dup, 1) := by decide +kernel
theorem dX0_buy_63 : decode cX0_buy 63 = .ok (.ldc 83, 2) := by decide +kernel
theorem dX0_buy_65 : decode cX0_buy 65 = .ok (.invokespecial 52, 3) := by decide +kernel
theorem dX0_buy_68 : decode cX0_buy 68 = .ok (.athrow, 1) := by decide +kernel
theorem dX0_buy_69 : decode cX0_buy 69 = .ok (.aload_n 0, 1) := by decide +kernel
theorem dX0_buy_70 : decode cX0_buy 70 = .ok (.getfield 25, 3) := by decide +kernel
theorem dX0_buy_73 : decode cX0_buy 73 = .ok (.iload_n 1, 1) := by decide +kernel
theorem dX0_buy_74 : decode cX0_buy 74 = .ok (.dup2, 1) := by decide +kernel
theorem dX0_buy_75 : decode cX0_buy 75 = .ok (.iaload, 1) := by decide +kernel
theorem dX0_buy_76 : decode cX0_buy 76 = .ok (.iload 4, 2) := by decide +kernel
theorem dX0_buy_78 : decode cX0_buy 78 = .ok (.isub, 1) := by decide +kernel
theorem dX0_buy_79 : decode cX0_buy 79 = .ok (.iastore, 1) := by decide +kernel
theorem dX0_buy_80 : decode cX0_buy 80 = .ok (.aload_n 0, 1) := by decide +kernel
theorem dX0_buy_81 : decode cX0_buy 81 = .ok (.getfield 30, 3) := by decide +kernel
theorem dX0_buy_84 : decode cX0_buy 84 = .ok (.iload_n 1, 1) := by decide +kernel
theorem dX0_buy_85 : decode cX0_buy 85 = .ok (.aaload, 1) := by decide +kernel
theorem dX0_buy_86 : decode cX0_buy 86 = .ok (.iload_n 2, 1) := by decide +kernel
theorem dX0_buy_87 : decode cX0_buy 87 = .ok (.dup2, 1) := by decide +kernel
theorem dX0_buy_88 : decode cX0_buy 88 = .ok (.iaload, 1) := by decide +kernel
theorem dX0_buy_89 : decode cX0_buy 89 = .ok (.iload_n 3, 1) := by decide +kernel
theorem dX0_buy_90 : decode cX0_buy 90 = .ok (.iadd, 1) := by decide +kernel
theorem dX0_buy_91 : decode cX0_buy 91 = .ok (.iastore, 1) := by decide +kernel
theorem dX0_buy_92 : decode cX0_buy 92 = .ok (.iload 4, 2) := by decide +kernel
theorem dX0_buy_94 : decode cX0_buy 94 = .ok (.ireturn, 1) := by decide +kernel
theorem dX0_sell_0 : decode cX0_sell 0 = .ok (.aload_n 0, 1) := by decide +kernel
theorem dX0_sell_1 : decode cX0_sell 1 = .ok (.iload_n 1, 1) := by decide +kernel
theorem dX0_sell_2 : decode cX0_sell 2 = .ok (.invokevirtual 67, 3) := by decide +kernel
theorem dX0_sell_5 : decode cX0_sell 5 = .ok (.aload_n 0, 1) := by decide +kernel
theorem dX0_sell_6 : decode cX0_sell 6 = .ok (.iload_n 2, 1) := by decide +kernel
theorem dX0_sell_7 : decode cX0_sell 7 = .ok (.invokevirtual 71, 3) := by decide +kernel
theorem dX0_sell_10 : decode cX0_sell 10 = .ok (.iload_n 3, 1) := by decide +kernel
theorem dX0_sell_11 : decode cX0_sell 11 = .ok (.invokestatic 74, 3) := by decide +kernel
theorem dX0_sell_14 : decode cX0_sell 14 = .ok (.aload_n 0, 1) := by decide +kernel
theorem dX0_sell_15 : decode cX0_sell 15 = .ok (.getfield 30, 3) := by decide +kernel
theorem dX0_sell_18 : decode cX0_sell 18 = .ok (.iload_n 1, 1) := by decide +kernel
theorem dX0_sell_19 : decode cX0_sell 19 = .ok (.aaload, 1) := by decide +kernel
theorem dX0_sell_20 : decode cX0_sell 20 = .ok (.iload_n 2, 1) := by decide +kernel
theorem dX0_sell_21 : decode cX0_sell 21 = .ok (.iaload, 1) := by decide +kernel
theorem dX0_sell_22 : decode cX0_sell 22 = .ok (.iload_n 3, 1) := by decide +kernel
theorem dX0_sell_23 : decode cX0_sell 23 = .ok (.isub, 1) := by decide +kernel
theorem dX0_sell_24 : decode cX0_sell 24 = .ok (.bipush (-9), 2) := by decide +kernel
theorem dX0_sell_26 : decode cX0_sell 26 = .ok (.if_icmp .ge 13, 3) := by decide +kernel
theorem dX0_sell_29 : decode cX0_sell 29 = .ok (.new 48, 3) := by decide +kernel
theorem dX0_sell_32 : decode cX0_sell 32 = .ok (.dup, 1) := by decide +kernel
theorem dX0_sell_33 : decode cX0_sell 33 = .ok (.ldc 85, 2) := by decide +kernel
theorem dX0_sell_35 : decode cX0_sell 35 = .ok (.invokespecial 52, 3) := by decide +kernel
theorem dX0_sell_38 : decode cX0_sell 38 = .ok (.athrow, 1) := by decide +kernel
theorem dX0_sell_39 : decode cX0_sell 39 = .ok (.aload_n 0, 1) := by decide +kernel
theorem dX0_sell_40 : decode cX0_sell 40 = .ok (.iload_n 2, 1) := by decide +kernel
theorem dX0_sell_41 : decode cX0_sell 41 = .ok (.invokevirtual 77, 3) := by decide +kernel
theorem dX0_sell_44 : decode cX0_sell 44 = .ok (.iload_n 3, 1) := by decide +kernel
theorem dX0_sell_45 : decode cX0_sell 45 = .ok (.imul, 1) := by decide +kernel
theorem dX0_sell_46 : decode cX0_sell 46 = .ok (.istore 4, 2) := by decide +kernel
theorem dX0_sell_48 : decode cX0_sell 48 = .ok (.aload_n 0, 1) := by decide +kernel
theorem dX0_sell_49 : decode cX0_sell 49 = .ok (.getfield 25, 3) := by decide +kernel
theorem dX0_sell_52 : decode cX0_sell 52 = .ok (.iload_n 1, 1) := by decide +kernel
theorem dX0_sell_53 : decode cX0_sell 53 = .ok (.dup2, 1) := by decide +kernel
theorem dX0_sell_54 : decode cX0_sell 54 = .ok (.iaload, 1) := by decide +kernel
theorem dX0_sell_55 : decode cX0_sell 55 = .ok (.iload 4, 2) := by decide +kernel
theorem dX0_sell_57 : decode cX0_sell 57 = .ok (.iadd, 1) := by decide +kernel
theorem dX0_sell_58 : decode cX0_sell 58 = .ok (.iastore, 1) := by decide +kernel
theorem dX0_sell_59 : decode cX0_sell 59 = .ok (.aload_n 0, 1) := by decide +kernel
theorem dX0_sell_60 : decode cX0_sell 60 = .ok (.getfield 30, 3) := by decide +kernel
theorem dX0_sell_63 : decode cX0_sell 63 = .ok (.iload_n 1, 1) := by decide +kernel
theorem dX0_sell_64 : decode cX0_sell 64 = .ok (.aaload, 1) := by decide +kernel
theorem dX0_sell_65 : decode cX0_sell 65 = .ok (.iload_n 2, 1) := by decide +kernel
theorem dX0_sell_66 : decode cX0_sell 66 = .ok (.dup2, 1) := by decide +kernel
theorem dX0_sell_67 : decode cX0_sell 67 = .ok (.iaload, 1) := by decide +kernel
theorem dX0_sell_68 : decode cX0_sell 68 = .ok (.iload_n 3, 1) := by decide +kernel
theorem dX0_sell_69 : decode cX0_sell 69 = .ok (.isub, 1) := by decide +kernel
theorem dX0_sell_70 : decode cX0_sell 70 = .ok (.iastore, 1) := by decide +kernel
theorem dX0_sell_71 : decode cX0_sell 71 = .ok (.iload 4, 2) := by decide +kernel
theorem dX0_sell_73 : decode cX0_sell 73 = .ok (.ireturn, 1) := by decide +kernel
theorem dX0_pass_0 : decode cX0_pass 0 = .ok (.iload_n 1, 1) := by decide +kernel
theorem dX0_pass_1 : decode cX0_pass 1 = .ok (.invokestatic 87, 3) := by decide +kernel
theorem dX0_pass_4 : decode cX0_pass 4 = .ok (.iconst 0, 1) := by decide +kernel
theorem dX0_pass_5 : decode cX0_pass 5 = .ok (.istore_n 2, 1) := by decide +kernel
theorem dX0_pass_6 : decode cX0_pass 6 = .ok (.iconst 0, 1) := by decide +kernel
theorem dX0_pass_7 : decode cX0_pass 7 = .ok (.istore_n 3, 1) := by decide +kernel
theorem dX0_pass_8 : decode cX0_pass 8 = .ok (.iload_n 3, 1) := by decide +kernel
theorem dX0_pass_9 : decode cX0_pass 9 = .ok (.iload_n 1, 1) := by decide +kernel
theorem dX0_pass_10 : decode cX0_pass 10 = .ok (.if_icmp .ge 16, 3) := by decide +kernel
theorem dX0_pass_13 : decode cX0_pass 13 = .ok (.iload_n 2, 1) := by decide +kernel
theorem dX0_pass_14 : decode cX0_pass 14 = .ok (.aload_n 0, 1) := by decide +kernel
theorem dX0_pass_15 : decode cX0_pass 15 = .ok (.invokevirtual 90, 3) := by decide +kernel
theorem dX0_pass_18 : decode cX0_pass 18 = .ok (.iadd, 1) := by decide +kernel
theorem dX0_pass_19 : decode cX0_pass 19 = .ok (.istore_n 2, 1) := by decide +kernel
theorem dX0_pass_20 : decode cX0_pass 20 = .ok (.iinc 3 1, 3) := by decide +kernel
theorem dX0_pass_23 : decode cX0_pass 23 = .ok (.goto (-15), 3) := by decide +kernel
theorem dX0_pass_26 : decode cX0_pass 26 = .ok (.iload_n 2, 1) := by decide +kernel
theorem dX0_pass_27 : decode cX0_pass 27 = .ok (.ireturn, 1) := by decide +kernel
theorem dX0_second_0 : decode cX0_second 0 = .ok (.aload_n 0, 1) := by decide +kernel
theorem dX0_second_1 : decode cX0_second 1 = .ok (.getfield 53, 3) := by decide +kernel
theorem dX0_second_4 : decode cX0_second 4 = .ok (.ireturn, 1) := by decide +kernel
theorem dX0_towers_0 : decode cX0_towers 0 = .ok (.aload_n 0, 1) := by decide +kernel
theorem dX0_towers_1 : decode cX0_towers 1 = .ok (.getfield 44, 3) := by decide +kernel
theorem dX0_towers_4 : decode cX0_towers 4 = .ok (.ireturn, 1) := by decide +kernel
theorem dX0_silenceOf_0 : decode cX0_silenceOf 0 = .ok (.aload_n 0, 1) := by decide +kernel
theorem dX0_silenceOf_1 : decode cX0_silenceOf 1 = .ok (.iload_n 1, 1) := by decide +kernel
theorem dX0_silenceOf_2 : decode cX0_silenceOf 2 = .ok (.invokevirtual 71, 3) := by decide +kernel
theorem dX0_silenceOf_5 : decode cX0_silenceOf 5 = .ok (.aload_n 0, 1) := by decide +kernel
theorem dX0_silenceOf_6 : decode cX0_silenceOf 6 = .ok (.getfield 16, 3) := by decide +kernel
theorem dX0_silenceOf_9 : decode cX0_silenceOf 9 = .ok (.iload_n 1, 1) := by decide +kernel
theorem dX0_silenceOf_10 : decode cX0_silenceOf 10 = .ok (.iaload, 1) := by decide +kernel
theorem dX0_silenceOf_11 : decode cX0_silenceOf 11 = .ok (.ireturn, 1) := by decide +kernel
theorem dX0_dovesOn_0 : decode cX0_dovesOn 0 = .ok (.aload_n 0, 1) := by decide +kernel
theorem dX0_dovesOn_1 : decode cX0_dovesOn 1 = .ok (.iload_n 1, 1) := by decide +kernel
theorem dX0_dovesOn_2 : decode cX0_dovesOn 2 = .ok (.invokevirtual 71, 3) := by decide +kernel
theorem dX0_dovesOn_5 : decode cX0_dovesOn 5 = .ok (.aload_n 0, 1) := by decide +kernel
theorem dX0_dovesOn_6 : decode cX0_dovesOn 6 = .ok (.iload_n 1, 1) := by decide +kernel
theorem dX0_dovesOn_7 : decode cX0_dovesOn 7 = .ok (.invokevirtual 94, 3) := by decide +kernel
theorem dX0_dovesOn_10 : decode cX0_dovesOn 10 = .ok (.ireturn, 1) := by decide +kernel
theorem dX0_priceOf_0 : decode cX0_priceOf 0 = .ok (.aload_n 0, 1) := by decide +kernel
theorem dX0_priceOf_1 : decode cX0_priceOf 1 = .ok (.iload_n 1, 1) := by decide +kernel
theorem dX0_priceOf_2 : decode cX0_priceOf 2 = .ok (.invokevirtual 71, 3) := by decide +kernel
theorem dX0_priceOf_5 : decode cX0_priceOf 5 = .ok (.aload_n 0, 1) := by decide +kernel
theorem dX0_priceOf_6 : decode cX0_priceOf 6 = .ok (.iload_n 1, 1) := by decide +kernel
theorem dX0_priceOf_7 : decode cX0_priceOf 7 = .ok (.invokevirtual 77, 3) := by decide +kernel
theorem dX0_priceOf_10 : decode cX0_priceOf 10 = .ok (.ireturn, 1) := by decide +kernel
theorem dX0_secondsUntilStroke_0 : decode cX0_secondsUntilStroke 0 = .ok (.aload_n 0, 1) := by decide +kernel
theorem dX0_secondsUntilStroke_1 : decode cX0_secondsUntilStroke 1 = .ok (.iload_n 1, 1) := by decide +kernel
theorem dX0_secondsUntilStroke_2 : decode cX0_secondsUntilStroke 2 = .ok (.invokevirtual 71, 3) := by decide +kernel
theorem dX0_secondsUntilStroke_5 : decode cX0_secondsUntilStroke 5 = .ok (.aload_n 0, 1) := by decide +kernel
theorem dX0_secondsUntilStroke_6 : decode cX0_secondsUntilStroke 6 = .ok (.getfield 19, 3) := by decide +kernel
theorem dX0_secondsUntilStroke_9 : decode cX0_secondsUntilStroke 9 = .ok (.iload_n 1, 1) := by decide +kernel
theorem dX0_secondsUntilStroke_10 : decode cX0_secondsUntilStroke 10 = .ok (.iaload, 1) := by decide +kernel
theorem dX0_secondsUntilStroke_11 : decode cX0_secondsUntilStroke 11 = .ok (.ireturn, 1) := by decide +kernel
theorem dX0_strokesOf_0 : decode cX0_strokesOf 0 = .ok (.aload_n 0, 1) := by decide +kernel
theorem dX0_strokesOf_1 : decode cX0_strokesOf 1 = .ok (.iload_n 1, 1) := by decide +kernel
theorem dX0_strokesOf_2 : decode cX0_strokesOf 2 = .ok (.invokevirtual 71, 3) := by decide +kernel
theorem dX0_strokesOf_5 : decode cX0_strokesOf 5 = .ok (.aload_n 0, 1) := by decide +kernel
theorem dX0_strokesOf_6 : decode cX0_strokesOf 6 = .ok (.getfield 22, 3) := by decide +kernel
theorem dX0_strokesOf_9 : decode cX0_strokesOf 9 = .ok (.iload_n 1, 1) := by decide +kernel
theorem dX0_strokesOf_10 : decode cX0_strokesOf 10 = .ok (.iaload, 1) := by decide +kernel
theorem dX0_strokesOf_11 : decode cX0_strokesOf 11 = .ok (.ireturn, 1) := by decide +kernel
theorem dX0_openSeconds_0 : decode cX0_openSeconds 0 = .ok (.aload_n 0, 1) := by decide +kernel
theorem dX0_openSeconds_1 : decode cX0_openSeconds 1 = .ok (.iload_n 1, 1) := by decide +kernel
theorem dX0_openSeconds_2 : decode cX0_openSeconds 2 = .ok (.invokevirtual 71, 3) := by decide +kernel
theorem dX0_openSeconds_5 : decode cX0_openSeconds 5 = .ok (.aload_n 0, 1) := by decide +kernel
theorem dX0_openSeconds_6 : decode cX0_openSeconds 6 = .ok (.iload_n 1, 1) := by decide +kernel
theorem dX0_openSeconds_7 : decode cX0_openSeconds 7 = .ok (.invokevirtual 97, 3) := by decide +kernel
theorem dX0_openSeconds_10 : decode cX0_openSeconds 10 = .ok (.ireturn, 1) := by decide +kernel
theorem dX0_dearest_0 : decode cX0_dearest 0 = .ok (.iconst (-1), 1) := by decide +kernel
theorem dX0_dearest_1 : decode cX0_dearest 1 = .ok (.istore_n 1, 1) := by decide +kernel
theorem dX0_dearest_2 : decode cX0_dearest 2 = .ok (.iconst 0, 1) := by decide +kernel
theorem dX0_dearest_3 : decode cX0_dearest 3 = .ok (.istore_n 2, 1) := by decide +kernel
theorem dX0_dearest_4 : decode cX0_dearest 4 = .ok (.iload_n 2, 1) := by decide +kernel
theorem dX0_dearest_5 : decode cX0_dearest 5 = .ok (.aload_n 0, 1) := by decide +kernel
theorem dX0_dearest_6 : decode cX0_dearest 6 = .ok (.getfield 44, 3) := by decide +kernel
theorem dX0_dearest_9 : decode cX0_dearest 9 = .ok (.if_icmp .ge 28, 3) := by decide +kernel
theorem dX0_dearest_12 : decode cX0_dearest 12 = .ok (.iload_n 1, 1) := by decide +kernel
theorem dX0_dearest_13 : decode cX0_dearest 13 = .ok (.ifCond .lt 16, 3) := by decide +kernel
theorem dX0_dearest_16 : decode cX0_dearest 16 = .ok (.aload_n 0, 1) := by decide +kernel
theorem dX0_dearest_17 : decode cX0_dearest 17 = .ok (.iload_n 2, 1) := by decide +kernel
theorem dX0_dearest_18 : decode cX0_dearest 18 = .ok (.invokevirtual 77, 3) := by decide +kernel
theorem dX0_dearest_21 : decode cX0_dearest 21 = .ok (.aload_n 0, 1) := by decide +kernel
theorem dX0_dearest_22 : decode cX0_dearest 22 = .ok (.iload_n 1, 1) := by decide +kernel
theorem dX0_dearest_23 : decode cX0_dearest 23 = .ok (.invokevirtual 77, 3) := by decide +kernel
theorem dX0_dearest_26 : decode cX0_dearest 26 = .ok (.if_icmp .le 5, 3) := by decide +kernel
theorem dX0_dearest_29 : decode cX0_dearest 29 = .ok (.iload_n 2, 1) := by decide +kernel
theorem dX0_dearest_30 : decode cX0_dearest 30 = .ok (.istore_n 1, 1) := by decide +kernel
theorem dX0_dearest_31 : decode cX0_dearest 31 = .ok (.iinc 2 1, 3) := by decide +kernel
theorem dX0_dearest_34 : decode cX0_dearest 34 = .ok (.goto (-30), 3) := by decide +kernel
theorem dX0_dearest_37 : decode cX0_dearest 37 = .ok (.iload_n 1, 1) := by decide +kernel
theorem dX0_dearest_38 : decode cX0_dearest 38 = .ok (.ireturn, 1) := by decide +kernel
theorem dX0_nextToStrike_0 : decode cX0_nextToStrike 0 = .ok (.iconst (-1), 1) := by decide +kernel
theorem dX0_nextToStrike_1 : decode cX0_nextToStrike 1 = .ok (.istore_n 1, 1) := by decide +kernel
theorem dX0_nextToStrike_2 : decode cX0_nextToStrike 2 = .ok (.iconst 0, 1) := by decide +kernel
theorem dX0_nextToStrike_3 : decode cX0_nextToStrike 3 = .ok (.istore_n 2, 1) := by decide +kernel
theorem dX0_nextToStrike_4 : decode cX0_nextToStrike 4 = .ok (.iload_n 2, 1) := by decide +kernel
theorem dX0_nextToStrike_5 : decode cX0_nextToStrike 5 = .ok (.aload_n 0, 1) := by decide +kernel
theorem dX0_nextToStrike_6 : decode cX0_nextToStrike 6 = .ok (.getfield 44, 3) := by decide +kernel
theorem dX0_nextToStrike_9 : decode cX0_nextToStrike 9 = .ok (.if_icmp .ge 30, 3) := by decide +kernel
theorem dX0_nextToStrike_12 : decode cX0_nextToStrike 12 = .ok (.iload_n 1, 1) := by decide +kernel
theorem dX0_nextToStrike_13 : decode cX0_nextToStrike 13 = .ok (.ifCond .lt 18, 3) := by decide +kernel
theorem dX0_nextToStrike_16 : decode cX0_nextToStrike 16 = .ok (.aload_n 0, 1) := by decide +kernel
theorem dX0_nextToStrike_17 : decode cX0_nextToStrike 17 = .ok (.getfield 19, 3) := by decide +kernel
theorem dX0_nextToStrike_20 : decode cX0_nextToStrike 20 = .ok (.iload_n 2, 1) := by decide +kernel
theorem dX0_nextToStrike_21 : decode cX0_nextToStrike 21 = .ok (.iaload, 1) := by decide +kernel
theorem dX0_nextToStrike_22 : decode cX0_nextToStrike 22 = .ok (.aload_n 0, 1) := by decide +kernel
theorem dX0_nextToStrike_23 : decode cX0_nextToStrike 23 = .ok (.getfield 19, 3) := by decide +kernel
theorem dX0_nextToStrike_26 : decode cX0_nextToStrike 26 = .ok (.iload_n 1, 1) := by decide +kernel
theorem dX0_nextToStrike_27 : decode cX0_nextToStrike 27 = .ok (.iaload, 1) := by decide +kernel
theorem dX0_nextToStrike_28 : decode cX0_nextToStrike 28 = .ok (.if_icmp .ge 5, 3) := by decide +kernel
theorem dX0_nextToStrike_31 : decode cX0_nextToStrike 31 = .ok (.iload_n 2, 1) := by decide +kernel
theorem dX0_nextToStrike_32 : decode cX0_nextToStrike 32 = .ok (.istore_n 1, 1) := by decide +kernel
theorem dX0_nextToStrike_33 : decode cX0_nextToStrike 33 = .ok (.iinc 2 1, 3) := by decide +kernel
theorem dX0_nextToStrike_36 : decode cX0_nextToStrike 36 = .ok (.goto (-32), 3) := by decide +kernel
theorem dX0_nextToStrike_39 : decode cX0_nextToStrike 39 = .ok (.iload_n 1, 1) := by decide +kernel
theorem dX0_nextToStrike_40 : decode cX0_nextToStrike 40 = .ok (.ireturn, 1) := by decide +kernel
theorem dX0_traders_0 : decode cX0_traders 0 = .ok (.aload_n 0, 1) := by decide +kernel
theorem dX0_traders_1 : decode cX0_traders 1 = .ok (.getfield 62, 3) := by decide +kernel
theorem dX0_traders_4 : decode cX0_traders 4 = .ok (.ireturn, 1) := by decide +kernel
theorem dX0_purseOf_0 : decode cX0_purseOf 0 = .ok (.aload_n 0, 1) := by decide +kernel
theorem dX0_purseOf_1 : decode cX0_purseOf 1 = .ok (.iload_n 1, 1) := by decide +kernel
theorem dX0_purseOf_2 : decode cX0_purseOf 2 = .ok (.invokevirtual 67, 3) := by decide +kernel
theorem dX0_purseOf_5 : decode cX0_purseOf 5 = .ok (.aload_n 0, 1) := by decide +kernel
theorem dX0_purseOf_6 : decode cX0_purseOf 6 = .ok (.getfield 25, 3) := by decide +kernel
theorem dX0_purseOf_9 : decode cX0_purseOf 9 = .ok (.iload_n 1, 1) := by decide +kernel
theorem dX0_purseOf_10 : decode cX0_purseOf 10 = .ok (.iaload, 1) := by decide +kernel
theorem dX0_purseOf_11 : decode cX0_purseOf 11 = .ok (.ireturn, 1) := by decide +kernel
theorem dX0_holds_0 : decode cX0_holds 0 = .ok (.aload_n 0, 1) := by decide +kernel
theorem dX0_holds_1 : decode cX0_holds 1 = .ok (.iload_n 1, 1) := by decide +kernel
theorem dX0_holds_2 : decode cX0_holds 2 = .ok (.invokevirtual 67, 3) := by decide +kernel
theorem dX0_holds_5 : decode cX0_holds 5 = .ok (.aload_n 0, 1) := by decide +kernel
theorem dX0_holds_6 : decode cX0_holds 6 = .ok (.iload_n 2, 1) := by decide +kernel
theorem dX0_holds_7 : decode cX0_holds 7 = .ok (.invokevirtual 71, 3) := by decide +kernel
theorem dX0_holds_10 : decode cX0_holds 10 = .ok (.aload_n 0, 1) := by decide +kernel
theorem dX0_holds_11 : decode cX0_holds 11 = .ok (.getfield 30, 3) := by decide +kernel
theorem dX0_holds_14 : decode cX0_holds 14 = .ok (.iload_n 1, 1) := by decide +kernel
theorem dX0_holds_15 : decode cX0_holds 15 = .ok (.aaload, 1) := by decide +kernel
theorem dX0_holds_16 : decode cX0_holds 16 = .ok (.iload_n 2, 1) := by decide +kernel
theorem dX0_holds_17 : decode cX0_holds 17 = .ok (.iaload, 1) := by decide +kernel
theorem dX0_holds_18 : decode cX0_holds 18 = .ok (.ireturn, 1) := by decide +kernel
theorem dX0_worthOf_0 : decode cX0_worthOf 0 = .ok (.aload_n 0, 1) := by decide +kernel
theorem dX0_worthOf_1 : decode cX0_worthOf 1 = .ok (.iload_n 1, 1) := by decide +kernel
theorem dX0_worthOf_2 : decode cX0_worthOf 2 = .ok (.invokevirtual 67, 3) := by decide +kernel
theorem dX0_worthOf_5 : decode cX0_worthOf 5 = .ok (.aload_n 0, 1) := by decide +kernel
theorem dX0_worthOf_6 : decode cX0_worthOf 6 = .ok (.iload_n 1, 1) := by decide +kernel
theorem dX0_worthOf_7 : decode cX0_worthOf 7 = .ok (.iconst 0, 1) := by decide +kernel
theorem dX0_worthOf_8 : decode cX0_worthOf 8 = .ok (.invokevirtual 100, 3) := by decide +kernel
theorem dX0_worthOf_11 : decode cX0_worthOf 11 = .ok (.ireturn, 1) := by decide +kernel
theorem dX0_richest_0 : decode cX0_richest 0 = .ok (.iconst (-1), 1) := by decide +kernel
theorem dX0_richest_1 : decode cX0_richest 1 = .ok (.istore_n 1, 1) := by decide +kernel
theorem dX0_richest_2 : decode cX0_richest 2 = .ok (.iconst 0, 1) := by decide +kernel
theorem dX0_richest_3 : decode cX0_richest 3 = .ok (.istore_n 2, 1) := by decide +kernel
theorem dX0_richest_4 : decode cX0_richest 4 = .ok (.iload_n 2, 1) := by decide +kernel
theorem dX0_richest_5 : decode cX0_richest 5 = .ok (.aload_n 0, 1) := by decide +kernel
theorem dX0_richest_6 : decode cX0_richest 6 = .ok (.getfield 62, 3) := by decide +kernel
theorem dX0_richest_9 : decode cX0_richest 9 = .ok (.if_icmp .ge 30, 3) := by decide +kernel
theorem dX0_richest_12 : decode cX0_richest 12 = .ok (.iload_n 1, 1) := by decide +kernel
theorem dX0_richest_13 : decode cX0_richest 13 = .ok (.ifCond .lt 18, 3) := by decide +kernel
theorem dX0_richest_16 : decode cX0_richest 16 = .ok (.aload_n 0, 1) := by decide +kernel
theorem dX0_richest_17 : decode cX0_richest 17 = .ok (.iload_n 2, 1) := by decide +kernel
theorem dX0_richest_18 : decode cX0_richest 18 = .ok (.iconst 0, 1) := by decide +kernel
theorem dX0_richest_19 : decode cX0_richest 19 = .ok (.invokevirtual 100, 3) := by decide +kernel
theorem dX0_richest_22 : decode cX0_richest 22 = .ok (.aload_n 0, 1) := by decide +kernel
theorem dX0_richest_23 : decode cX0_richest 23 = .ok (.iload_n 1, 1) := by decide +kernel
theorem dX0_richest_24 : decode cX0_richest 24 = .ok (.iconst 0, 1) := by decide +kernel
theorem dX0_richest_25 : decode cX0_richest 25 = .ok (.invokevirtual 100, 3) := by decide +kernel
theorem dX0_richest_28 : decode cX0_richest 28 = .ok (.if_icmp .le 5, 3) := by decide +kernel
theorem dX0_richest_31 : decode cX0_richest 31 = .ok (.iload_n 2, 1) := by decide +kernel
theorem dX0_richest_32 : decode cX0_richest 32 = .ok (.istore_n 1, 1) := by decide +kernel
theorem dX0_richest_33 : decode cX0_richest 33 = .ok (.iinc 2 1, 3) := by decide +kernel
theorem dX0_richest_36 : decode cX0_richest 36 = .ok (.goto (-32), 3) := by decide +kernel
theorem dX0_richest_39 : decode cX0_richest 39 = .ok (.iload_n 1, 1) := by decide +kernel
theorem dX0_richest_40 : decode cX0_richest 40 = .ok (.ireturn, 1) := by decide +kernel
theorem dX0_shortsOf_0 : decode cX0_shortsOf 0 = .ok (.aload_n 0, 1) := by decide +kernel
theorem dX0_shortsOf_1 : decode cX0_shortsOf 1 = .ok (.iload_n 1, 1) := by decide +kernel
theorem dX0_shortsOf_2 : decode cX0_shortsOf 2 = .ok (.invokevirtual 67, 3) := by decide +kernel
theorem dX0_shortsOf_5 : decode cX0_shortsOf 5 = .ok (.aload_n 0, 1) := by decide +kernel
theorem dX0_shortsOf_6 : decode cX0_shortsOf 6 = .ok (.iload_n 1, 1) := by decide +kernel
theorem dX0_shortsOf_7 : decode cX0_shortsOf 7 = .ok (.invokevirtual 103, 3) := by decide +kernel
theorem dX0_shortsOf_10 : decode cX0_shortsOf 10 = .ok (.ireturn, 1) := by decide +kernel
theorem dX0_inDebt_0 : decode cX0_inDebt 0 = .ok (.iconst 0, 1) := by decide +kernel
theorem dX0_inDebt_1 : decode cX0_inDebt 1 = .ok (.istore_n 1, 1) := by decide +kernel
theorem dX0_inDebt_2 : decode cX0_inDebt 2 = .ok (.iconst 0, 1) := by decide +kernel
theorem dX0_inDebt_3 : decode cX0_inDebt 3 = .ok (.istore_n 2, 1) := by decide +kernel
theorem dX0_inDebt_4 : decode cX0_inDebt 4 = .ok (.iload_n 2, 1) := by decide +kernel
theorem dX0_inDebt_5 : decode cX0_inDebt 5 = .ok (.aload_n 0, 1) := by decide +kernel
theorem dX0_inDebt_6 : decode cX0_inDebt 6 = .ok (.getfield 62, 3) := by decide +kernel
theorem dX0_inDebt_9 : decode cX0_inDebt 9 = .ok (.if_icmp .ge 21, 3) := by decide +kernel
theorem dX0_inDebt_12 : decode cX0_inDebt 12 = .ok (.aload_n 0, 1) := by decide +kernel
theorem dX0_inDebt_13 : decode cX0_inDebt 13 = .ok (.getfield 25, 3) := by decide +kernel
theorem dX0_inDebt_16 : decode cX0_inDebt 16 = .ok (.iload_n 2, 1) := by decide +kernel
theorem dX0_inDebt_17 : decode cX0_inDebt 17 = .ok (.iaload, 1) := by decide +kernel
theorem dX0_inDebt_18 : decode cX0_inDebt 18 = .ok (.ifCond .ge 6, 3) := by decide +kernel
theorem dX0_inDebt_21 : decode cX0_inDebt 21 = .ok (.iinc 1 1, 3) := by decide +kernel
theorem dX0_inDebt_24 : decode cX0_inDebt 24 = .ok (.iinc 2 1, 3) := by decide +kernel
theorem dX0_inDebt_27 : decode cX0_inDebt 27 = .ok (.goto (-23), 3) := by decide +kernel
theorem dX0_inDebt_30 : decode cX0_inDebt 30 = .ok (.iload_n 1, 1) := by decide +kernel
theorem dX0_inDebt_31 : decode cX0_inDebt 31 = .ok (.ireturn, 1) := by decide +kernel
theorem dX0_closingPrice_0 : decode cX0_closingPrice 0 = .ok (.aload_n 0, 1) := by decide +kernel
theorem dX0_closingPrice_1 : decode cX0_closingPrice 1 = .ok (.iload_n 1, 1) := by decide +kernel
theorem dX0_closingPrice_2 : decode cX0_closingPrice 2 = .ok (.invokevirtual 71, 3) := by decide +kernel
theorem dX0_closingPrice_5 : decode cX0_closingPrice 5 = .ok (.aload_n 0, 1) := by decide +kernel
theorem dX0_closingPrice_6 : decode cX0_closingPrice 6 = .ok (.iload_n 1, 1) := by decide +kernel
theorem dX0_closingPrice_7 : decode cX0_closingPrice 7 = .ok (.invokevirtual 106, 3) := by decide +kernel
theorem dX0_closingPrice_10 : decode cX0_closingPrice 10 = .ok (.ireturn, 1) := by decide +kernel
theorem dX0_bestToBuy_0 : decode cX0_bestToBuy 0 = .ok (.iconst (-1), 1) := by decide +kernel
theorem dX0_bestToBuy_1 : decode cX0_bestToBuy 1 = .ok (.istore_n 1, 1) := by decide +kernel
theorem dX0_bestToBuy_2 : decode cX0_bestToBuy 2 = .ok (.iconst 0, 1) := by decide +kernel
theorem dX0_bestToBuy_3 : decode cX0_bestToBuy 3 = .ok (.istore_n 2, 1) := by decide +kernel
theorem dX0_bestToBuy_4 : decode cX0_bestToBuy 4 = .ok (.iload_n 2, 1) := by decide +kernel
theorem dX0_bestToBuy_5 : decode cX0_bestToBuy 5 = .ok (.aload_n 0, 1) := by decide +kernel
theorem dX0_bestToBuy_6 : decode cX0_bestToBuy 6 = .ok (.getfield 44, 3) := by decide +kernel
theorem dX0_bestToBuy_9 : decode cX0_bestToBuy 9 = .ok (.if_icmp .ge 34, 3) := by decide +kernel
theorem dX0_bestToBuy_12 : decode cX0_bestToBuy 12 = .ok (.aload_n 0, 1) := by decide +kernel
theorem dX0_bestToBuy_13 : decode cX0_bestToBuy 13 = .ok (.iload_n 2, 1) := by decide +kernel
theorem dX0_bestToBuy_14 : decode cX0_bestToBuy 14 = .ok (.invokevirtual 112, 3) := by decide +kernel
theorem dX0_bestToBuy_17 : decode cX0_bestToBuy 17 = .ok (.istore_n 3, 1) := by decide +kernel
theorem dX0_bestToBuy_18 : decode cX0_bestToBuy 18 = .ok (.iload_n 3, 1) := by decide +kernel
theorem dX0_bestToBuy_19 : decode cX0_bestToBuy 19 = .ok (.ifCond .le 18, 3) := by decide +kernel
theorem dX0_bestToBuy_22 : decode cX0_bestToBuy 22 = .ok (.iload_n 1, 1) := by decide +kernel
theorem dX0_bestToBuy_23 : decode cX0_bestToBuy 23 = .ok (.ifCond .lt 12, 3) := by decide +kernel
theorem dX0_bestToBuy_26 : decode cX0_bestToBuy 26 = .ok (.iload_n 3, 1) := by decide +kernel
theorem dX0_bestToBuy_27 : decode cX0_bestToBuy 27 = .ok (.aload_n 0, 1) := by decide +kernel
theorem dX0_bestToBuy_28 : decode cX0_bestToBuy 28 = .ok (.iload_n 1, 1) := by decide +kernel
theorem dX0_bestToBuy_29 : decode cX0_bestToBuy 29 = .ok (.invokevirtual 112, 3) := by decide +kernel
theorem dX0_bestToBuy_32 : decode cX0_bestToBuy 32 = .ok (.if_icmp .le 5, 3) := by decide +kernel
theorem dX0_bestToBuy_35 : decode cX0_bestToBuy 35 = .ok (.iload_n 2, 1) := by decide +kernel
theorem dX0_bestToBuy_36 : decode cX0_bestToBuy 36 = .ok (.istore_n 1, 1) := by decide +kernel
theorem dX0_bestToBuy_37 : decode cX0_bestToBuy 37 = .ok (.iinc 2 1, 3) := by decide +kernel
theorem dX0_bestToBuy_40 : decode cX0_bestToBuy 40 = .ok (.goto (-36), 3) := by decide +kernel
theorem dX0_bestToBuy_43 : decode cX0_bestToBuy 43 = .ok (.iload_n 1, 1) := by decide +kernel
theorem dX0_bestToBuy_44 : decode cX0_bestToBuy 44 = .ok (.ireturn, 1) := by decide +kernel
theorem dX0_meanPrice_0 : decode cX0_meanPrice 0 = .ok (.aload_n 0, 1) := by decide +kernel
theorem dX0_meanPrice_1 : decode cX0_meanPrice 1 = .ok (.getfield 44, 3) := by decide +kernel
theorem dX0_meanPrice_4 : decode cX0_meanPrice 4 = .ok (.iconst 1, 1) := by decide +kernel
theorem dX0_meanPrice_5 : decode cX0_meanPrice 5 = .ok (.if_icmp .ge 5, 3) := by decide +kernel
theorem dX0_meanPrice_8 : decode cX0_meanPrice 8 = .ok (.dconst 0, 1) := by decide +kernel
theorem dX0_meanPrice_9 : decode cX0_meanPrice 9 = .ok (.dreturn, 1) := by decide +kernel
theorem dX0_meanPrice_10 : decode cX0_meanPrice 10 = .ok (.iconst 0, 1) := by decide +kernel
theorem dX0_meanPrice_11 : decode cX0_meanPrice 11 = .ok (.istore_n 1, 1) := by decide +kernel
theorem dX0_meanPrice_12 : decode cX0_meanPrice 12 = .ok (.iconst 0, 1) := by decide +kernel
theorem dX0_meanPrice_13 : decode cX0_meanPrice 13 = .ok (.istore_n 2, 1) := by decide +kernel
theorem dX0_meanPrice_14 : decode cX0_meanPrice 14 = .ok (.iload_n 2, 1) := by decide +kernel
theorem dX0_meanPrice_15 : decode cX0_meanPrice 15 = .ok (.aload_n 0, 1) := by decide +kernel
theorem dX0_meanPrice_16 : decode cX0_meanPrice 16 = .ok (.getfield 44, 3) := by decide +kernel
theorem dX0_meanPrice_19 : decode cX0_meanPrice 19 = .ok (.if_icmp .ge 17, 3) := by decide +kernel
theorem dX0_meanPrice_22 : decode cX0_meanPrice 22 = .ok (.iload_n 1, 1) := by decide +kernel
theorem dX0_meanPrice_23 : decode cX0_meanPrice 23 = .ok (.aload_n 0, 1) := by decide +kernel
theorem dX0_meanPrice_24 : decode cX0_meanPrice 24 = .ok (.iload_n 2, 1) := by decide +kernel
theorem dX0_meanPrice_25 : decode cX0_meanPrice 25 = .ok (.invokevirtual 77, 3) := by decide +kernel
theorem dX0_meanPrice_28 : decode cX0_meanPrice 28 = .ok (.iadd, 1) := by decide +kernel
theorem dX0_meanPrice_29 : decode cX0_meanPrice 29 = .ok (.istore_n 1, 1) := by decide +kernel
theorem dX0_meanPrice_30 : decode cX0_meanPrice 30 = .ok (.iinc 2 1, 3) := by decide +kernel
theorem dX0_meanPrice_33 : decode cX0_meanPrice 33 = .ok (.goto (-19), 3) := by decide +kernel
theorem dX0_meanPrice_36 : decode cX0_meanPrice 36 = .ok (.iload_n 1, 1) := by decide +kernel
theorem dX0_meanPrice_37 : decode cX0_meanPrice 37 = .ok (.i2d, 1) := by decide +kernel
theorem dX0_meanPrice_38 : decode cX0_meanPrice 38 = .ok (.aload_n 0, 1) := by decide +kernel
theorem dX0_meanPrice_39 : decode cX0_meanPrice 39 = .ok (.getfield 44, 3) := by decide +kernel
theorem dX0_meanPrice_42 : decode cX0_meanPrice 42 = .ok (.i2d, 1) := by decide +kernel
theorem dX0_meanPrice_43 : decode cX0_meanPrice 43 = .ok (.ddiv, 1) := by decide +kernel
theorem dX0_meanPrice_44 : decode cX0_meanPrice 44 = .ok (.dreturn, 1) := by decide +kernel
theorem dX0_requireTower_0 : decode cX0_requireTower 0 = .ok (.iload_n 1, 1) := by decide +kernel
theorem dX0_requireTower_1 : decode cX0_requireTower 1 = .ok (.ifCond .lt 11, 3) := by decide +kernel
theorem dX0_requireTower_4 : decode cX0_requireTower 4 = .ok (.iload_n 1, 1) := by decide +kernel
theorem dX0_requireTower_5 : decode cX0_requireTower 5 = .ok (.aload_n 0, 1) := by decide +kernel
theorem dX0_requireTower_6 : decode cX0_requireTower 6 = .ok (.getfield 44, 3) := by decide +kernel
theorem dX0_requireTower_9 : decode cX0_requireTower 9 = .ok (.if_icmp .lt 13, 3) := by decide +kernel
theorem dX0_requireTower_12 : decode cX0_requireTower 12 = .ok (.new 152, 3) := by decide +kernel
theorem dX0_requireTower_15 : decode cX0_requireTower 15 = .ok (.dup, 1) := by decide +kernel
theorem dX0_requireTower_16 : decode cX0_requireTower 16 = .ok (.ldc 154, 2) := by decide +kernel
theorem dX0_requireTower_18 : decode cX0_requireTower 18 = .ok (.invokespecial 156, 3) := by decide +kernel
theorem dX0_requireTower_21 : decode cX0_requireTower 21 = .ok (.athrow, 1) := by decide +kernel
theorem dX0_requireTower_22 : decode cX0_requireTower 22 = .ok (.return_, 1) := by decide +kernel
theorem dX0_requireTrader_0 : decode cX0_requireTrader 0 = .ok (.iload_n 1, 1) := by decide +kernel
theorem dX0_requireTrader_1 : decode cX0_requireTrader 1 = .ok (.ifCond .lt 11, 3) := by decide +kernel
theorem dX0_requireTrader_4 : decode cX0_requireTrader 4 = .ok (.iload_n 1, 1) := by decide +kernel
theorem dX0_requireTrader_5 : decode cX0_requireTrader 5 = .ok (.aload_n 0, 1) := by decide +kernel
theorem dX0_requireTrader_6 : decode cX0_requireTrader 6 = .ok (.getfield 62, 3) := by decide +kernel
theorem dX0_requireTrader_9 : decode cX0_requireTrader 9 = .ok (.if_icmp .lt 13, 3) := by decide +kernel
theorem dX0_requireTrader_12 : decode cX0_requireTrader 12 = .ok (.new 152, 3) := by decide +kernel
theorem dX0_requireTrader_15 : decode cX0_requireTrader 15 = .ok (.dup, 1) := by decide +kernel
theorem dX0_requireTrader_16 : decode cX0_requireTrader 16 = .ok (.ldc 157, 2) := by decide +kernel
theorem dX0_requireTrader_18 : decode cX0_requireTrader 18 = .ok (.invokespecial 156, 3) := by decide +kernel
theorem dX0_requireTrader_21 : decode cX0_requireTrader 21 = .ok (.athrow, 1) := by decide +kernel
theorem dX0_requireTrader_22 : decode cX0_requireTrader 22 = .ok (.return_, 1) := by decide +kernel
theorem dX0_requireTradable_0 : decode cX0_requireTradable 0 = .ok (.iload_n 0, 1) := by decide +kernel
theorem dX0_requireTradable_1 : decode cX0_requireTradable 1 = .ok (.iconst 1, 1) := by decide +kernel
theorem dX0_requireTradable_2 : decode cX0_requireTradable 2 = .ok (.if_icmp .lt 9, 3) := by decide +kernel
theorem dX0_requireTradable_5 : decode cX0_requireTradable 5 = .ok (.iload_n 0, 1) := by decide +kernel
theorem dX0_requireTradable_6 : decode cX0_requireTradable 6 = .ok (.bipush 9, 2) := by decide +kernel
theorem dX0_requireTradable_8 : decode cX0_requireTradable 8 = .ok (.if_icmp .le 13, 3) := by decide +kernel
theorem dX0_requireTradable_11 : decode cX0_requireTradable 11 = .ok (.new 33, 3) := by decide +kernel
theorem dX0_requireTradable_14 : decode cX0_requireTradable 14 = .ok (.dup, 1) := by decide +kernel
theorem dX0_requireTradable_15 : decode cX0_requireTradable 15 = .ok (.ldc 159, 2) := by decide +kernel
theorem dX0_requireTradable_17 : decode cX0_requireTradable 17 = .ok (.invokespecial 37, 3) := by decide +kernel
theorem dX0_requireTradable_20 : decode cX0_requireTradable 20 = .ok (.athrow, 1) := by decide +kernel
theorem dX0_requireTradable_21 : decode cX0_requireTradable 21 = .ok (.return_, 1) := by decide +kernel
theorem dX0_requirePassable_0 : decode cX0_requirePassable 0 = .ok (.iload_n 0, 1) := by decide +kernel
theorem dX0_requirePassable_1 : decode cX0_requirePassable 1 = .ok (.iconst 1, 1) := by decide +kernel
theorem dX0_requirePassable_2 : decode cX0_requirePassable 2 = .ok (.if_icmp .lt 9, 3) := by decide +kernel
theorem dX0_requirePassable_5 : decode cX0_requirePassable 5 = .ok (.iload_n 0, 1) := by decide +kernel
theorem dX0_requirePassable_6 : decode cX0_requirePassable 6 = .ok (.bipush 60, 2) := by decide +kernel
theorem dX0_requirePassable_8 : decode cX0_requirePassable 8 = .ok (.if_icmp .le 13, 3) := by decide +kernel
theorem dX0_requirePassable_11 : decode cX0_requirePassable 11 = .ok (.new 33, 3) := by decide +kernel
theorem dX0_requirePassable_14 : decode cX0_requirePassable 14 = .ok (.dup, 1) := by decide +kernel
theorem dX0_requirePassable_15 : decode cX0_requirePassable 15 = .ok (.ldc 161, 2) := by decide +kernel
theorem dX0_requirePassable_17 : decode cX0_requirePassable 17 = .ok (.invokespecial 37, 3) := by decide +kernel
theorem dX0_requirePassable_20 : decode cX0_requirePassable 20 = .ok (.athrow, 1) := by decide +kernel
theorem dX0_requirePassable_21 : decode cX0_requirePassable 21 = .ok (.return_, 1) := by decide +kernel
theorem dX0_goOneSecond_0 : decode cX0_goOneSecond 0 = .ok (.aload_n 0, 1) := by decide +kernel
theorem dX0_goOneSecond_1 : decode cX0_goOneSecond 1 = .ok (.dup, 1) := by decide +kernel
theorem dX0_goOneSecond_2 : decode cX0_goOneSecond 2 = .ok (.getfield 53, 3) := by decide +kernel
theorem dX0_goOneSecond_5 : decode cX0_goOneSecond 5 = .ok (.iconst 1, 1) := by decide +kernel
theorem dX0_goOneSecond_6 : decode cX0_goOneSecond 6 = .ok (.iadd, 1) := by decide +kernel
theorem dX0_goOneSecond_7 : decode cX0_goOneSecond 7 = .ok (.putfield 53, 3) := by decide +kernel
theorem dX0_goOneSecond_10 : decode cX0_goOneSecond 10 = .ok (.iconst 0, 1) := by decide +kernel
theorem dX0_goOneSecond_11 : decode cX0_goOneSecond 11 = .ok (.istore_n 1, 1) := by decide +kernel
theorem dX0_goOneSecond_12 : decode cX0_goOneSecond 12 = .ok (.iconst 0, 1) := by decide +kernel
theorem dX0_goOneSecond_13 : decode cX0_goOneSecond 13 = .ok (.istore_n 2, 1) := by decide +kernel
theorem dX0_goOneSecond_14 : decode cX0_goOneSecond 14 = .ok (.iload_n 2, 1) := by decide +kernel
theorem dX0_goOneSecond_15 : decode cX0_goOneSecond 15 = .ok (.aload_n 0, 1) := by decide +kernel
theorem dX0_goOneSecond_16 : decode cX0_goOneSecond 16 = .ok (.getfield 44, 3) := by decide +kernel
theorem dX0_goOneSecond_19 : decode cX0_goOneSecond 19 = .ok (.if_icmp .ge 50, 3) := by decide +kernel
theorem dX0_goOneSecond_22 : decode cX0_goOneSecond 22 = .ok (.aload_n 0, 1) := by decide +kernel
theorem dX0_goOneSecond_23 : decode cX0_goOneSecond 23 = .ok (.getfield 19, 3) := by decide +kernel
theorem dX0_goOneSecond_26 : decode cX0_goOneSecond 26 = .ok (.iload_n 2, 1) := by decide +kernel
theorem dX0_goOneSecond_27 : decode cX0_goOneSecond 27 = .ok (.iaload, 1) := by decide +kernel
theorem dX0_goOneSecond_28 : decode cX0_goOneSecond 28 = .ok (.iconst 1, 1) := by decide +kernel
theorem dX0_goOneSecond_29 : decode cX0_goOneSecond 29 = .ok (.if_icmp .gt 14, 3) := by decide +kernel
theorem dX0_goOneSecond_32 : decode cX0_goOneSecond 32 = .ok (.aload_n 0, 1) := by decide +kernel
theorem dX0_goOneSecond_33 : decode cX0_goOneSecond 33 = .ok (.iload_n 2, 1) := by decide +kernel
theorem dX0_goOneSecond_34 : decode cX0_goOneSecond 34 = .ok (.invokevirtual 163, 3) := by decide +kernel
theorem dX0_goOneSecond_37 : decode cX0_goOneSecond 37 = .ok (.iinc 1 1, 3) := by decide +kernel
theorem dX0_goOneSecond_40 : decode cX0_goOneSecond 40 = .ok (.goto 23, 3) := by decide +kernel
theorem dX0_goOneSecond_43 : decode cX0_goOneSecond 43 = .ok (.aload_n 0, 1) := by decide +kernel
theorem dX0_goOneSecond_44 : decode cX0_goOneSecond 44 = .ok (.getfield 19, 3) := by decide +kernel
theorem dX0_goOneSecond_47 : decode cX0_goOneSecond 47 = .ok (.iload_n 2, 1) := by decide +kernel
theorem dX0_goOneSecond_48 : decode cX0_goOneSecond 48 = .ok (.dup2, 1) := by decide +kernel
theorem dX0_goOneSecond_49 : decode cX0_goOneSecond 49 = .ok (.iaload, 1) := by decide +kernel
theorem dX0_goOneSecond_50 : decode cX0_goOneSecond 50 = .ok (.iconst 1, 1) := by decide +kernel
theorem dX0_goOneSecond_51 : decode cX0_goOneSecond 51 = .ok (.isub, 1) := by decide +kernel
theorem dX0_goOneSecond_52 : decode cX0_goOneSecond 52 = .ok (.iastore, 1) := by decide +kernel
theorem dX0_goOneSecond_53 : decode cX0_goOneSecond 53 = .ok (.aload_n 0, 1) := by decide +kernel
theorem dX0_goOneSecond_54 : decode cX0_goOneSecond 54 = .ok (.getfield 16, 3) := by decide +kernel
theorem dX0_goOneSecond_57 : decode cX0_goOneSecond 57 = .ok (.iload_n 2, 1) := by decide +kernel
theorem dX0_goOneSecond_58 : decode cX0_goOneSecond 58 = .ok (.dup2, 1) := by decide +kernel
theorem dX0_goOneSecond_59 : decode cX0_goOneSecond 59 = .ok (.iaload, 1) := by decide +kernel
theorem dX0_goOneSecond_60 : decode cX0_goOneSecond 60 = .ok (.iconst 1, 1) := by decide +kernel
theorem dX0_goOneSecond_61 : decode cX0_goOneSecond 61 = .ok (.iadd, 1) := by decide +kernel
theorem dX0_goOneSecond_62 : decode cX0_goOneSecond 62 = .ok (.iastore, 1) := by decide +kernel
theorem dX0_goOneSecond_63 : decode cX0_goOneSecond 63 = .ok (.iinc 2 1, 3) := by decide +kernel
theorem dX0_goOneSecond_66 : decode cX0_goOneSecond 66 = .ok (.goto (-52), 3) := by decide +kernel
theorem dX0_goOneSecond_69 : decode cX0_goOneSecond 69 = .ok (.iload_n 1, 1) := by decide +kernel
theorem dX0_goOneSecond_70 : decode cX0_goOneSecond 70 = .ok (.ireturn, 1) := by decide +kernel
theorem dX0_strike_0 : decode cX0_strike 0 = .ok (.aload_n 0, 1) := by decide +kernel
theorem dX0_strike_1 : decode cX0_strike 1 = .ok (.iload_n 1, 1) := by decide +kernel
theorem dX0_strike_2 : decode cX0_strike 2 = .ok (.invokevirtual 77, 3) := by decide +kernel
theorem dX0_strike_5 : decode cX0_strike 5 = .ok (.istore_n 2, 1) := by decide +kernel
theorem dX0_strike_6 : decode cX0_strike 6 = .ok (.iconst 0, 1) := by decide +kernel
theorem dX0_strike_7 : decode cX0_strike 7 = .ok (.istore_n 3, 1) := by decide +kernel
theorem dX0_strike_8 : decode cX0_strike 8 = .ok (.iload_n 3, 1) := by decide +kernel
theorem dX0_strike_9 : decode cX0_strike 9 = .ok (.aload_n 0, 1) := by decide +kernel
theorem dX0_strike_10 : decode cX0_strike 10 = .ok (.getfield 62, 3) := by decide +kernel
theorem dX0_strike_13 : decode cX0_strike 13 = .ok (.if_icmp .ge 37, 3) := by decide +kernel
theorem dX0_strike_16 : decode cX0_strike 16 = .ok (.aload_n 0, 1) := by decide +kernel
theorem dX0_strike_17 : decode cX0_strike 17 = .ok (.getfield 25, 3) := by decide +kernel
theorem dX0_strike_20 : decode cX0_strike 20 = .ok (.iload_n 3, 1) := by decide +kernel
theorem dX0_strike_21 : decode cX0_strike 21 = .ok (.dup2, 1) := by decide +kernel
theorem dX0_strike_22 : decode cX0_strike 22 = .ok (.iaload, 1) := by decide +kernel
theorem dX0_strike_23 : decode cX0_strike 23 = .ok (.iload_n 2, 1) := by decide +kernel
theorem dX0_strike_24 : decode cX0_strike 24 = .ok (.aload_n 0, 1) := by decide +kernel
theorem dX0_strike_25 : decode cX0_strike 25 = .ok (.getfield 30, 3) := by decide +kernel
theorem dX0_strike_28 : decode cX0_strike 28 = .ok (.iload_n 3, 1) := by decide +kernel
theorem dX0_strike_29 : decode cX0_strike 29 = .ok (.aaload, 1) := by decide +kernel
theorem dX0_strike_30 : decode cX0_strike 30 = .ok (.iload_n 1, 1) := by decide +kernel
theorem dX0_strike_31 : decode cX0_strike 31 = .ok (.iaload, 1) := by decide +kernel
theorem dX0_strike_32 : decode cX0_strike 32 = .ok (.imul, 1) := by decide +kernel
theorem dX0_strike_33 : decode cX0_strike 33 = .ok (.iadd, 1) := by decide +kernel
theorem dX0_strike_34 : decode cX0_strike 34 = .ok (.iastore, 1) := by decide +kernel
theorem dX0_strike_35 : decode cX0_strike 35 = .ok (.aload_n 0, 1) := by decide +kernel
theorem dX0_strike_36 : decode cX0_strike 36 = .ok (.getfield 30, 3) := by decide +kernel
theorem dX0_strike_39 : decode cX0_strike 39 = .ok (.iload_n 3, 1) := by decide +kernel
theorem dX0_strike_40 : decode cX0_strike 40 = .ok (.aaload, 1) := by decide +kernel
theorem dX0_strike_41 : decode cX0_strike 41 = .ok (.iload_n 1, 1) := by decide +kernel
theorem dX0_strike_42 : decode cX0_strike 42 = .ok (.iconst 0, 1) := by decide +kernel
theorem dX0_strike_43 : decode cX0_strike 43 = .ok (.iastore, 1) := by decide +kernel
theorem dX0_strike_44 : decode cX0_strike 44 = .ok (.iinc 3 1, 3) := by decide +kernel
theorem dX0_strike_47 : decode cX0_strike 47 = .ok (.goto (-39), 3) := by decide +kernel
theorem dX0_strike_50 : decode cX0_strike 50 = .ok (.aload_n 0, 1) := by decide +kernel
theorem dX0_strike_51 : decode cX0_strike 51 = .ok (.getfield 16, 3) := by decide +kernel
theorem dX0_strike_54 : decode cX0_strike 54 = .ok (.iload_n 1, 1) := by decide +kernel
theorem dX0_strike_55 : decode cX0_strike 55 = .ok (.iconst 0, 1) := by decide +kernel
theorem dX0_strike_56 : decode cX0_strike 56 = .ok (.iastore, 1) := by decide +kernel
theorem dX0_strike_57 : decode cX0_strike 57 = .ok (.aload_n 0, 1) := by decide +kernel
theorem dX0_strike_58 : decode cX0_strike 58 = .ok (.getfield 22, 3) := by decide +kernel
theorem dX0_strike_61 : decode cX0_strike 61 = .ok (.iload_n 1, 1) := by decide +kernel
theorem dX0_strike_62 : decode cX0_strike 62 = .ok (.dup2, 1) := by decide +kernel
theorem dX0_strike_63 : decode cX0_strike 63 = .ok (.iaload, 1) := by decide +kernel
theorem dX0_strike_64 : decode cX0_strike 64 = .ok (.iconst 1, 1) := by decide +kernel
theorem dX0_strike_65 : decode cX0_strike 65 = .ok (.iadd, 1) := by decide +kernel
theorem dX0_strike_66 : decode cX0_strike 66 = .ok (.iastore, 1) := by decide +kernel
theorem dX0_strike_67 : decode cX0_strike 67 = .ok (.aload_n 0, 1) := by decide +kernel
theorem dX0_strike_68 : decode cX0_strike 68 = .ok (.getfield 19, 3) := by decide +kernel
theorem dX0_strike_71 : decode cX0_strike 71 = .ok (.iload_n 1, 1) := by decide +kernel
theorem dX0_strike_72 : decode cX0_strike 72 = .ok (.aload_n 0, 1) := by decide +kernel
theorem dX0_strike_73 : decode cX0_strike 73 = .ok (.getfield 13, 3) := by decide +kernel
theorem dX0_strike_76 : decode cX0_strike 76 = .ok (.iload_n 1, 1) := by decide +kernel
theorem dX0_strike_77 : decode cX0_strike 77 = .ok (.iaload, 1) := by decide +kernel
theorem dX0_strike_78 : decode cX0_strike 78 = .ok (.iastore, 1) := by decide +kernel
theorem dX0_strike_79 : decode cX0_strike 79 = .ok (.return_, 1) := by decide +kernel
theorem dX0_price_0 : decode cX0_price 0 = .ok (.iconst 0, 1) := by decide +kernel
theorem dX0_price_1 : decode cX0_price 1 = .ok (.iload_n 0, 1) := by decide +kernel
theorem dX0_price_2 : decode cX0_price 2 = .ok (.iload_n 1, 1) := by decide +kernel
theorem dX0_price_3 : decode cX0_price 3 = .ok (.imul, 1) := by decide +kernel
theorem dX0_price_4 : decode cX0_price 4 = .ok (.iconst 2, 1) := by decide +kernel
theorem dX0_price_5 : decode cX0_price 5 = .ok (.iload_n 2, 1) := by decide +kernel
theorem dX0_price_6 : decode cX0_price 6 = .ok (.imul, 1) := by decide +kernel
theorem dX0_price_7 : decode cX0_price 7 = .ok (.isub, 1) := by decide +kernel
theorem dX0_price_8 : decode cX0_price 8 = .ok (.invokestatic 166, 3) := by decide +kernel
theorem dX0_price_11 : decode cX0_price 11 = .ok (.ireturn, 1) := by decide +kernel
theorem dX0_dovesNow_0 : decode cX0_dovesNow 0 = .ok (.iconst 0, 1) := by decide +kernel
theorem dX0_dovesNow_1 : decode cX0_dovesNow 1 = .ok (.istore_n 2, 1) := by decide +kernel
theorem dX0_dovesNow_2 : decode cX0_dovesNow 2 = .ok (.iconst 0, 1) := by decide +kernel
theorem dX0_dovesNow_3 : decode cX0_dovesNow 3 = .ok (.istore_n 3, 1) := by decide +kernel
theorem dX0_dovesNow_4 : decode cX0_dovesNow 4 = .ok (.iload_n 3, 1) := by decide +kernel
theorem dX0_dovesNow_5 : decode cX0_dovesNow 5 = .ok (.aload_n 0, 1) := by decide +kernel
theorem dX0_dovesNow_6 : decode cX0_dovesNow 6 = .ok (.getfield 62, 3) := by decide +kernel
theorem dX0_dovesNow_9 : decode cX0_dovesNow 9 = .ok (.if_icmp .ge 23, 3) := by decide +kernel
theorem dX0_dovesNow_12 : decode cX0_dovesNow 12 = .ok (.iload_n 2, 1) := by decide +kernel
theorem dX0_dovesNow_13 : decode cX0_dovesNow 13 = .ok (.aload_n 0, 1) := by decide +kernel
theorem dX0_dovesNow_14 : decode cX0_dovesNow 14 = .ok (.getfield 30, 3) := by decide +kernel
theorem dX0_dovesNow_17 : decode cX0_dovesNow 17 = .ok (.iload_n 3, 1) := by decide +kernel
theorem dX0_dovesNow_18 : decode cX0_dovesNow 18 = .ok (.aaload, 1) := by decide +kernel
theorem dX0_dovesNow_19 : decode cX0_dovesNow 19 = .ok (.iload_n 1, 1) := by decide +kernel
theorem dX0_dovesNow_20 : decode cX0_dovesNow 20 = .ok (.iaload, 1) := by decide +kernel
theorem dX0_dovesNow_21 : decode cX0_dovesNow 21 = .ok (.invokestatic 169, 3) := by decide +kernel
theorem dX0_dovesNow_24 : decode cX0_dovesNow 24 = .ok (.iadd, 1) := by decide +kernel
theorem dX0_dovesNow_25 : decode cX0_dovesNow 25 = .ok (.istore_n 2, 1) := by decide +kernel
theorem dX0_dovesNow_26 : decode cX0_dovesNow 26 = .ok (.iinc 3 1, 3) := by decide +kernel
theorem dX0_dovesNow_29 : decode cX0_dovesNow 29 = .ok (.goto (-25), 3) := by decide +kernel
theorem dX0_dovesNow_32 : decode cX0_dovesNow 32 = .ok (.iload_n 2, 1) := by decide +kernel
theorem dX0_dovesNow_33 : decode cX0_dovesNow 33 = .ok (.ireturn, 1) := by decide +kernel
theorem dX0_dovesFor_0 : decode cX0_dovesFor 0 = .ok (.iconst 0, 1) := by decide +kernel
theorem dX0_dovesFor_1 : decode cX0_dovesFor 1 = .ok (.iload_n 0, 1) := by decide +kernel
theorem dX0_dovesFor_2 : decode cX0_dovesFor 2 = .ok (.ineg, 1) := by decide +kernel
theorem dX0_dovesFor_3 : decode cX0_dovesFor 3 = .ok (.invokestatic 166, 3) := by decide +kernel
theorem dX0_dovesFor_6 : decode cX0_dovesFor 6 = .ok (.ireturn, 1) := by decide +kernel
theorem dX0_priceNow_0 : decode cX0_priceNow 0 = .ok (.aload_n 0, 1) := by decide +kernel
theorem dX0_priceNow_1 : decode cX0_priceNow 1 = .ok (.getfield 16, 3) := by decide +kernel
theorem dX0_priceNow_4 : decode cX0_priceNow 4 = .ok (.iload_n 1, 1) := by decide +kernel
theorem dX0_priceNow_5 : decode cX0_priceNow 5 = .ok (.iaload, 1) := by decide +kernel
theorem dX0_priceNow_6 : decode cX0_priceNow 6 = .ok (.aload_n 0, 1) := by decide +kernel
theorem dX0_priceNow_7 : decode cX0_priceNow 7 = .ok (.getfield 9, 3) := by decide +kernel
theorem dX0_priceNow_10 : decode cX0_priceNow 10 = .ok (.iload_n 1, 1) := by decide +kernel
theorem dX0_priceNow_11 : decode cX0_priceNow 11 = .ok (.iaload, 1) := by decide +kernel
theorem dX0_priceNow_12 : decode cX0_priceNow 12 = .ok (.aload_n 0, 1) := by decide +kernel
theorem dX0_priceNow_13 : decode cX0_priceNow 13 = .ok (.iload_n 1, 1) := by decide +kernel
theorem dX0_priceNow_14 : decode cX0_priceNow 14 = .ok (.invokevirtual 94, 3) := by decide +kernel
theorem dX0_priceNow_17 : decode cX0_priceNow 17 = .ok (.invokestatic 172, 3) := by decide +kernel
theorem dX0_priceNow_20 : decode cX0_priceNow 20 = .ok (.ireturn, 1) := by decide +kernel
theorem dX0_closing_0 : decode cX0_closing 0 = .ok (.aload_n 0, 1) := by decide +kernel
theorem dX0_closing_1 : decode cX0_closing 1 = .ok (.iload_n 1, 1) := by decide +kernel
theorem dX0_closing_2 : decode cX0_closing 2 = .ok (.aload_n 0, 1) := by decide +kernel
theorem dX0_closing_3 : decode cX0_closing 3 = .ok (.iload_n 1, 1) := by decide +kernel
theorem dX0_closing_4 : decode cX0_closing 4 = .ok (.invokevirtual 94, 3) := by decide +kernel
theorem dX0_closing_7 : decode cX0_closing 7 = .ok (.invokevirtual 175, 3) := by decide +kernel
theorem dX0_closing_10 : decode cX0_closing 10 = .ok (.ireturn, 1) := by decide +kernel
theorem dX0_closingWith_0 : decode cX0_closingWith 0 = .ok (.aload_n 0, 1) := by decide +kernel
theorem dX0_closingWith_1 : decode cX0_closingWith 1 = .ok (.getfield 16, 3) := by decide +kernel
theorem dX0_closingWith_4 : decode cX0_closingWith 4 = .ok (.iload_n 1, 1) := by decide +kernel
theorem dX0_closingWith_5 : decode cX0_closingWith 5 = .ok (.iaload, 1) := by decide +kernel
theorem dX0_closingWith_6 : decode cX0_closingWith 6 = .ok (.aload_n 0, 1) := by decide +kernel
theorem dX0_closingWith_7 : decode cX0_closingWith 7 = .ok (.getfield 19, 3) := by decide +kernel
theorem dX0_closingWith_10 : decode cX0_closingWith 10 = .ok (.iload_n 1, 1) := by decide +kernel
theorem dX0_closingWith_11 : decode cX0_closingWith 11 = .ok (.iaload, 1) := by decide +kernel
theorem dX0_closingWith_12 : decode cX0_closingWith 12 = .ok (.iadd, 1) := by decide +kernel
theorem dX0_closingWith_13 : decode cX0_closingWith 13 = .ok (.iconst 1, 1) := by decide +kernel
theorem dX0_closingWith_14 : decode cX0_closingWith 14 = .ok (.isub, 1) := by decide +kernel
theorem dX0_closingWith_15 : decode cX0_closingWith 15 = .ok (.aload_n 0, 1) := by decide +kernel
theorem dX0_closingWith_16 : decode cX0_closingWith 16 = .ok (.getfield 9, 3) := by decide +kernel
theorem dX0_closingWith_19 : decode cX0_closingWith 19 = .ok (.iload_n 1, 1) := by decide +kernel
theorem dX0_closingWith_20 : decode cX0_closingWith 20 = .ok (.iaload, 1) := by decide +kernel
theorem dX0_closingWith_21 : decode cX0_closingWith 21 = .ok (.iload_n 2, 1) := by decide +kernel
theorem dX0_closingWith_22 : decode cX0_closingWith 22 = .ok (.invokestatic 172, 3) := by decide +kernel
theorem dX0_closingWith_25 : decode cX0_closingWith 25 = .ok (.ireturn, 1) := by decide +kernel
theorem dX0_riseUntilStroke_0 : decode cX0_riseUntilStroke 0 = .ok (.aload_n 0, 1) := by decide +kernel
theorem dX0_riseUntilStroke_1 : decode cX0_riseUntilStroke 1 = .ok (.iload_n 1, 1) := by decide +kernel
theorem dX0_riseUntilStroke_2 : decode cX0_riseUntilStroke 2 = .ok (.invokevirtual 106, 3) := by decide +kernel
theorem dX0_riseUntilStroke_5 : decode cX0_riseUntilStroke 5 = .ok (.aload_n 0, 1) := by decide +kernel
theorem dX0_riseUntilStroke_6 : decode cX0_riseUntilStroke 6 = .ok (.iload_n 1, 1) := by decide +kernel
theorem dX0_riseUntilStroke_7 : decode cX0_riseUntilStroke 7 = .ok (.invokevirtual 77, 3) := by decide +kernel
theorem dX0_riseUntilStroke_10 : decode cX0_riseUntilStroke 10 = .ok (.isub, 1) := by decide +kernel
theorem dX0_riseUntilStroke_11 : decode cX0_riseUntilStroke 11 = .ok (.ireturn, 1) := by decide +kernel
theorem dX0_priceBehind_0 : decode cX0_priceBehind 0 = .ok (.iload_n 2, 1) := by decide +kernel
theorem dX0_priceBehind_1 : decode cX0_priceBehind 1 = .ok (.aload_n 0, 1) := by decide +kernel
theorem dX0_priceBehind_2 : decode cX0_priceBehind 2 = .ok (.getfield 19, 3) := by decide +kernel
theorem dX0_priceBehind_5 : decode cX0_priceBehind 5 = .ok (.iload_n 1, 1) := by decide +kernel
theorem dX0_priceBehind_6 : decode cX0_priceBehind 6 = .ok (.iaload, 1) := by decide +kernel
theorem dX0_priceBehind_7 : decode cX0_priceBehind 7 = .ok (.isub, 1) := by decide +kernel
theorem dX0_priceBehind_8 : decode cX0_priceBehind 8 = .ok (.istore_n 3, 1) := by decide +kernel
theorem dX0_priceBehind_9 : decode cX0_priceBehind 9 = .ok (.iload_n 3, 1) := by decide +kernel
theorem dX0_priceBehind_10 : decode cX0_priceBehind 10 = .ok (.ifCond .ge 26, 3) := by decide +kernel
theorem dX0_priceBehind_13 : decode cX0_priceBehind 13 = .ok (.aload_n 0, 1) := by decide +kernel
theorem dX0_priceBehind_14 : decode cX0_priceBehind 14 = .ok (.getfield 16, 3) := by decide +kernel
theorem dX0_priceBehind_17 : decode cX0_priceBehind 17 = .ok (.iload_n 1, 1) := by decide +kernel
theorem dX0_priceBehind_18 : decode cX0_priceBehind 18 = .ok (.iaload, 1) := by decide +kernel
theorem dX0_priceBehind_19 : decode cX0_priceBehind 19 = .ok (.iload_n 2, 1) := by decide +kernel
theorem dX0_priceBehind_20 : decode cX0_priceBehind 20 = .ok (.iadd, 1) := by decide +kernel
theorem dX0_priceBehind_21 : decode cX0_priceBehind 21 = .ok (.aload_n 0, 1) := by decide +kernel
theorem dX0_priceBehind_22 : decode cX0_priceBehind 22 = .ok (.getfield 9, 3) := by decide +kernel
theorem dX0_priceBehind_25 : decode cX0_priceBehind 25 = .ok (.iload_n 1, 1) := by decide +kernel
theorem dX0_priceBehind_26 : decode cX0_priceBehind 26 = .ok (.iaload, 1) := by decide +kernel
theorem dX0_priceBehind_27 : decode cX0_priceBehind 27 = .ok (.aload_n 0, 1) := by decide +kernel
theorem dX0_priceBehind_28 : decode cX0_priceBehind 28 = .ok (.iload_n 1, 1) := by decide +kernel
theorem dX0_priceBehind_29 : decode cX0_priceBehind 29 = .ok (.invokevirtual 94, 3) := by decide +kernel
theorem dX0_priceBehind_32 : decode cX0_priceBehind 32 = .ok (.invokestatic 172, 3) := by decide +kernel
theorem dX0_priceBehind_35 : decode cX0_priceBehind 35 = .ok (.ireturn, 1) := by decide +kernel
theorem dX0_priceBehind_36 : decode cX0_priceBehind 36 = .ok (.aload_n 0, 1) := by decide +kernel
theorem dX0_priceBehind_37 : decode cX0_priceBehind 37 = .ok (.getfield 13, 3) := by decide +kernel
theorem dX0_priceBehind_40 : decode cX0_priceBehind 40 = .ok (.iload_n 1, 1) := by decide +kernel
theorem dX0_priceBehind_41 : decode cX0_priceBehind 41 = .ok (.iaload, 1) := by decide +kernel
theorem dX0_priceBehind_42 : decode cX0_priceBehind 42 = .ok (.istore 4, 2) := by decide +kernel
theorem dX0_priceBehind_44 : decode cX0_priceBehind 44 = .ok (.iload 4, 2) := by decide +kernel
theorem dX0_priceBehind_46 : decode cX0_priceBehind 46 = .ok (.iconst 2, 1) := by decide +kernel
theorem dX0_priceBehind_47 : decode cX0_priceBehind 47 = .ok (.if_icmp .ge 7, 3) := by decide +kernel
theorem dX0_priceBehind_50 : decode cX0_priceBehind 50 = .ok (.iconst 0, 1) := by decide +kernel
theorem dX0_priceBehind_51 : decode cX0_priceBehind 51 = .ok (.goto 7, 3) := by decide +kernel
theorem dX0_priceBehind_54 : decode cX0_priceBehind 54 = .ok (.iload_n 3, 1) := by decide +kernel
theorem dX0_priceBehind_55 : decode cX0_priceBehind 55 = .ok (.iload 4, 2) := by decide +kernel
theorem dX0_priceBehind_57 : decode cX0_priceBehind 57 = .ok (.irem, 1) := by decide +kernel
theorem dX0_priceBehind_58 : decode cX0_priceBehind 58 = .ok (.istore 5, 2) := by decide +kernel
theorem dX0_priceBehind_60 : decode cX0_priceBehind 60 = .ok (.iload 5, 2) := by decide +kernel
theorem dX0_priceBehind_62 : decode cX0_priceBehind 62 = .ok (.aload_n 0, 1) := by decide +kernel
theorem dX0_priceBehind_63 : decode cX0_priceBehind 63 = .ok (.getfield 9, 3) := by decide +kernel
theorem dX0_priceBehind_66 : decode cX0_priceBehind 66 = .ok (.iload_n 1, 1) := by decide +kernel
theorem dX0_priceBehind_67 : decode cX0_priceBehind 67 = .ok (.iaload, 1) := by decide +kernel
theorem dX0_priceBehind_68 : decode cX0_priceBehind 68 = .ok (.iconst 0, 1) := by decide +kernel
theorem dX0_priceBehind_69 : decode cX0_priceBehind 69 = .ok (.invokestatic 172, 3) := by decide +kernel
theorem dX0_priceBehind_72 : decode cX0_priceBehind 72 = .ok (.ireturn, 1) := by decide +kernel
theorem dX0_heldByAll_0 : decode cX0_heldByAll 0 = .ok (.iconst 0, 1) := by decide +kernel
theorem dX0_heldByAll_1 : decode cX0_heldByAll 1 = .ok (.istore_n 2, 1) := by decide +kernel
theorem dX0_heldByAll_2 : decode cX0_heldByAll 2 = .ok (.iconst 0, 1) := by decide +kernel
theorem dX0_heldByAll_3 : decode cX0_heldByAll 3 = .ok (.istore_n 3, 1) := by decide +kernel
theorem dX0_heldByAll_4 : decode cX0_heldByAll 4 = .ok (.iload_n 3, 1) := by decide +kernel
theorem dX0_heldByAll_5 : decode cX0_heldByAll 5 = .ok (.aload_n 0, 1) := by decide +kernel
theorem dX0_heldByAll_6 : decode cX0_heldByAll 6 = .ok (.getfield 62, 3) := by decide +kernel
theorem dX0_heldByAll_9 : decode cX0_heldByAll 9 = .ok (.if_icmp .ge 20, 3) := by decide +kernel
theorem dX0_heldByAll_12 : decode cX0_heldByAll 12 = .ok (.iload_n 2, 1) := by decide +kernel
theorem dX0_heldByAll_13 : decode cX0_heldByAll 13 = .ok (.aload_n 0, 1) := by decide +kernel
theorem dX0_heldByAll_14 : decode cX0_heldByAll 14 = .ok (.getfield 30, 3) := by decide +kernel
theorem dX0_heldByAll_17 : decode cX0_heldByAll 17 = .ok (.iload_n 3, 1) := by decide +kernel
theorem dX0_heldByAll_18 : decode cX0_heldByAll 18 = .ok (.aaload, 1) := by decide +kernel
theorem dX0_heldByAll_19 : decode cX0_heldByAll 19 = .ok (.iload_n 1, 1) := by decide +kernel
theorem dX0_heldByAll_20 : decode cX0_heldByAll 20 = .ok (.iaload, 1) := by decide +kernel
theorem dX0_heldByAll_21 : decode cX0_heldByAll 21 = .ok (.iadd, 1) := by decide +kernel
theorem dX0_heldByAll_22 : decode cX0_heldByAll 22 = .ok (.istore_n 2, 1) := by decide +kernel
theorem dX0_heldByAll_23 : decode cX0_heldByAll 23 = .ok (.iinc 3 1, 3) := by decide +kernel
theorem dX0_heldByAll_26 : decode cX0_heldByAll 26 = .ok (.goto (-22), 3) := by decide +kernel
theorem dX0_heldByAll_29 : decode cX0_heldByAll 29 = .ok (.iload_n 2, 1) := by decide +kernel
theorem dX0_heldByAll_30 : decode cX0_heldByAll 30 = .ok (.ireturn, 1) := by decide +kernel
theorem dX0_shortTowers_0 : decode cX0_shortTowers 0 = .ok (.iconst 0, 1) := by decide +kernel
theorem dX0_shortTowers_1 : decode cX0_shortTowers 1 = .ok (.istore_n 2, 1) := by decide +kernel
theorem dX0_shortTowers_2 : decode cX0_shortTowers 2 = .ok (.iconst 0, 1) := by decide +kernel
theorem dX0_shortTowers_3 : decode cX0_shortTowers 3 = .ok (.istore_n 3, 1) := by decide +kernel
theorem dX0_shortTowers_4 : decode cX0_shortTowers 4 = .ok (.iload_n 3, 1) := by decide +kernel
theorem dX0_shortTowers_5 : decode cX0_shortTowers 5 = .ok (.aload_n 0, 1) := by decide +kernel
theorem dX0_shortTowers_6 : decode cX0_shortTowers 6 = .ok (.getfield 44, 3) := by decide +kernel
theorem dX0_shortTowers_9 : decode cX0_shortTowers 9 = .ok (.if_icmp .ge 23, 3) := by decide +kernel
theorem dX0_shortTowers_12 : decode cX0_shortTowers 12 = .ok (.aload_n 0, 1) := by decide +kernel
theorem dX0_shortTowers_13 : decode cX0_shortTowers 13 = .ok (.getfield 30, 3) := by decide +kernel
theorem dX0_shortTowers_16 : decode cX0_shortTowers 16 = .ok (.iload_n 1, 1) := by decide +kernel
theorem dX0_shortTowers_17 : decode cX0_shortTowers 17 = .ok (.aaload, 1) := by decide +kernel
theorem dX0_shortTowers_18 : decode cX0_shortTowers 18 = .ok (.iload_n 3, 1) := by decide +kernel
theorem dX0_shortTowers_19 : decode cX0_shortTowers 19 = .ok (.iaload, 1) := by decide +kernel
theorem dX0_shortTowers_20 : decode cX0_shortTowers 20 = .ok (.ifCond .ge 6, 3) := by decide +kernel
theorem dX0_shortTowers_23 : decode cX0_shortTowers 23 = .ok (.iinc 2 1, 3) := by decide +kernel
theorem dX0_shortTowers_26 : decode cX0_shortTowers 26 = .ok (.iinc 3 1, 3) := by decide +kernel
theorem dX0_shortTowers_29 : decode cX0_shortTowers 29 = .ok (.goto (-25), 3) := by decide +kernel
theorem dX0_shortTowers_32 : decode cX0_shortTowers 32 = .ok (.iload_n 2, 1) := by decide +kernel
theorem dX0_shortTowers_33 : decode cX0_shortTowers 33 = .ok (.ireturn, 1) := by decide +kernel
theorem dX0_worthBehind_0 : decode cX0_worthBehind 0 = .ok (.aload_n 0, 1) := by decide +kernel
theorem dX0_worthBehind_1 : decode cX0_worthBehind 1 = .ok (.getfield 25, 3) := by decide +kernel
theorem dX0_worthBehind_4 : decode cX0_worthBehind 4 = .ok (.iload_n 1, 1) := by decide +kernel
theorem dX0_worthBehind_5 : decode cX0_worthBehind 5 = .ok (.iaload, 1) := by decide +kernel
theorem dX0_worthBehind_6 : decode cX0_worthBehind 6 = .ok (.istore_n 3, 1) := by decide +kernel
theorem dX0_worthBehind_7 : decode cX0_worthBehind 7 = .ok (.iconst 0, 1) := by decide +kernel
theorem dX0_worthBehind_8 : decode cX0_worthBehind 8 = .ok (.istore 4, 2) := by decide +kernel
theorem dX0_worthBehind_10 : decode cX0_worthBehind 10 = .ok (.iload 4, 2) := by decide +kernel
theorem dX0_worthBehind_12 : decode cX0_worthBehind 12 = .ok (.aload_n 0, 1) := by decide +kernel
theorem dX0_worthBehind_13 : decode cX0_worthBehind 13 = .ok (.getfield 44, 3) := by decide +kernel
theorem dX0_worthBehind_16 : decode cX0_worthBehind 16 = .ok (.if_icmp .ge 65, 3) := by decide +kernel
theorem dX0_worthBehind_19 : decode cX0_worthBehind 19 = .ok (.aload_n 0, 1) := by decide +kernel
theorem dX0_worthBehind_20 : decode cX0_worthBehind 20 = .ok (.getfield 19, 3) := by decide +kernel
theorem dX0_worthBehind_23 : decode cX0_worthBehind 23 = .ok (.iload 4, 2) := by decide +kernel
theorem dX0_worthBehind_25 : decode cX0_worthBehind 25 = .ok (.iaload, 1) := by decide +kernel
theorem dX0_worthBehind_26 : decode cX0_worthBehind 26 = .ok (.iload_n 2, 1) := by decide +kernel
theorem dX0_worthBehind_27 : decode cX0_worthBehind 27 = .ok (.if_icmp .gt 7, 3) := by decide +kernel
theorem dX0_worthBehind_30 : decode cX0_worthBehind 30 = .ok (.iconst 1, 1) := by decide +kernel
theorem dX0_worthBehind_31 : decode cX0_worthBehind 31 = .ok (.goto 4, 3) := by decide +kernel
theorem dX0_worthBehind_34 : decode cX0_worthBehind 34 = .ok (.iconst 0, 1) := by decide +kernel
theorem dX0_worthBehind_35 : decode cX0_worthBehind 35 = .ok (.istore 5, 2) := by decide +kernel
theorem dX0_worthBehind_37 : decode cX0_worthBehind 37 = .ok (.iload 5, 2) := by decide +kernel
theorem dX0_worthBehind_39 : decode cX0_worthBehind 39 = .ok (.ifCond .eq 12, 3) := by decide +kernel
theorem dX0_worthBehind_42 : decode cX0_worthBehind 42 = .ok (.aload_n 0, 1) := by decide +kernel
theorem dX0_worthBehind_43 : decode cX0_worthBehind 43 = .ok (.iload 4, 2) := by decide +kernel
theorem dX0_worthBehind_45 : decode cX0_worthBehind 45 = .ok (.invokevirtual 106, 3) := by decide +kernel
theorem dX0_worthBehind_48 : decode cX0_worthBehind 48 = .ok (.goto 10, 3) := by decide +kernel
theorem dX0_worthBehind_51 : decode cX0_worthBehind 51 = .ok (.aload_n 0, 1) := by decide +kernel
theorem dX0_worthBehind_52 : decode cX0_worthBehind 52 = .ok (.iload 4, 2) := by decide +kernel
theorem dX0_worthBehind_54 : decode cX0_worthBehind 54 = .ok (.iload_n 2, 1) := by decide +kernel
theorem dX0_worthBehind_55 : decode cX0_worthBehind 55 = .ok (.invokevirtual 109, 3) := by decide +kernel
theorem dX0_worthBehind_58 : decode cX0_worthBehind 58 = .ok (.istore 6, 2) := by decide +kernel
theorem dX0_worthBehind_60 : decode cX0_worthBehind 60 = .ok (.iload_n 3, 1) := by decide +kernel
theorem dX0_worthBehind_61 : decode cX0_worthBehind 61 = .ok (.iload 6, 2) := by decide +kernel
theorem dX0_worthBehind_63 : decode cX0_worthBehind 63 = .ok (.aload_n 0, 1) := by decide +kernel
theorem dX0_worthBehind_64 : decode cX0_worthBehind 64 = .ok (.getfield 30, 3) := by decide +kernel
theorem dX0_worthBehind_67 : decode cX0_worthBehind 67 = .ok (.iload_n 1, 1) := by decide +kernel
theorem dX0_worthBehind_68 : decode cX0_worthBehind 68 = .ok (.aaload, 1) := by decide +kernel
theorem dX0_worthBehind_69 : decode cX0_worthBehind 69 = .ok (.iload 4, 2) := by decide +kernel
theorem dX0_worthBehind_71 : decode cX0_worthBehind 71 = .ok (.iaload, 1) := by decide +kernel
theorem dX0_worthBehind_72 : decode cX0_worthBehind 72 = .ok (.imul, 1) := by decide +kernel
theorem dX0_worthBehind_73 : decode cX0_worthBehind 73 = .ok (.iadd, 1) := by decide +kernel
theorem dX0_worthBehind_74 : decode cX0_worthBehind 74 = .ok (.istore_n 3, 1) := by decide +kernel
theorem dX0_worthBehind_75 : decode cX0_worthBehind 75 = .ok (.iinc 4 1, 3) := by decide +kernel
theorem dX0_worthBehind_78 : decode cX0_worthBehind 78 = .ok (.goto (-68), 3) := by decide +kernel
theorem dX0_worthBehind_81 : decode cX0_worthBehind 81 = .ok (.iload_n 3, 1) := by decide +kernel
theorem dX0_worthBehind_82 : decode cX0_worthBehind 82 = .ok (.ireturn, 1) := by decide +kernel
end
section
theorem dX1_init_0 : decode cX1_init 0 = .ok (.aload_n 0, 1) := by decide +kernel
theorem dX1_init_1 : decode cX1_init 1 = .ok (.invokespecial 1, 3) := by decide +kernel
theorem dX1_init_4 : decode cX1_init 4 = .ok (.aload_n 0, 1) := by decide +kernel
theorem dX1_init_5 : decode cX1_init 5 = .ok (.iconst 0, 1) := by decide +kernel
theorem dX1_init_6 : decode cX1_init 6 = .ok (.anewarray 7, 3) := by decide +kernel
theorem dX1_init_9 : decode cX1_init 9 = .ok (.putfield 9, 3) := by decide +kernel
theorem dX1_init_12 : decode cX1_init 12 = .ok (.aload_n 0, 1) := by decide +kernel
theorem dX1_init_13 : decode cX1_init 13 = .ok (.iconst 0, 1) := by decide +kernel
theorem dX1_init_14 : decode cX1_init 14 = .ok (.newarray .int, 2) := by decide +kernel
theorem dX1_init_16 : decode cX1_init 16 = .ok (.putfield 15, 3) := by decide +kernel
theorem dX1_init_19 : decode cX1_init 19 = .ok (.aload_n 0, 1) := by decide +kernel
theorem dX1_init_20 : decode cX1_init 20 = .ok (.bipush 6, 2) := by decide +kernel
theorem dX1_init_22 : decode cX1_init 22 = .ok (.bipush 8, 2) := by decide +kernel
theorem dX1_init_24 : decode cX1_init 24 = .ok (.multianewarray 18 2, 4) := by decide +kernel
theorem dX1_init_28 : decode cX1_init 28 = .ok (.putfield 19, 3) := by decide +kernel
theorem dX1_init_31 : decode cX1_init 31 = .ok (.return_, 1) := by decide +kernel
theorem dX1_with_0 : decode cX1_with 0 = .ok (.aload_n 0, 1) := by decide +kernel
theorem dX1_with_1 : decode cX1_with 1 = .ok (.arraylength, 1) := by decide +kernel
theorem dX1_with_2 : decode cX1_with 2 = .ok (.iconst 1, 1) := by decide +kernel
theorem dX1_with_3 : decode cX1_with 3 = .ok (.iadd, 1) := by decide +kernel
theorem dX1_with_4 : decode cX1_with 4 = .ok (.anewarray 7, 3) := by decide +kernel
theorem dX1_with_7 : decode cX1_with 7 = .ok (.astore_n 2, 1) := by decide +kernel
theorem dX1_with_8 : decode cX1_with 8 = .ok (.iconst 0, 1) := by decide +kernel
theorem dX1_with_9 : decode cX1_with 9 = .ok (.istore_n 3, 1) := by decide +kernel
theorem dX1_with_10 : decode cX1_with 10 = .ok (.iload_n 3, 1) := by decide +kernel
theorem dX1_with_11 : decode cX1_with 11 = .ok (.aload_n 0, 1) := by decide +kernel
theorem dX1_with_12 : decode cX1_with 12 = .ok (.arraylength, 1) := by decide +kernel
theorem dX1_with_13 : decode cX1_with 13 = .ok (.if_icmp .ge 15, 3) := by decide +kernel
theorem dX1_with_16 : decode cX1_with 16 = .ok (.aload_n 2, 1) := by decide +kernel
theorem dX1_with_17 : decode cX1_with 17 = .ok (.iload_n 3, 1) := by decide +kernel
theorem dX1_with_18 : decode cX1_with 18 = .ok (.aload_n 0, 1) := by decide +kernel
theorem dX1_with_19 : decode cX1_with 19 = .ok (.iload_n 3, 1) := by decide +kernel
theorem dX1_with_20 : decode cX1_with 20 = .ok (.aaload, 1) := by decide +kernel
theorem dX1_with_21 : decode cX1_with 21 = .ok (.aastore, 1) := by decide +kernel
theorem dX1_with_22 : decode cX1_with 22 = .ok (.iinc 3 1, 3) := by decide +kernel
theorem dX1_with_25 : decode cX1_with 25 = .ok (.goto (-15), 3) := by decide +kernel
theorem dX1_with_28 : decode cX1_with 28 = .ok (.aload_n 2, 1) := by decide +kernel
theorem dX1_with_29 : decode cX1_with 29 = .ok (.aload_n 0, 1) := by decide +kernel
theorem dX1_with_30 : decode cX1_with 30 = .ok (.arraylength, 1) := by decide +kernel
theorem dX1_with_31 : decode cX1_with 31 = .ok (.aload_n 1, 1) := by decide +kernel
theorem dX1_with_32 : decode cX1_with 32 = .ok (.aastore, 1) := by decide +kernel
theorem dX1_with_33 : decode cX1_with 33 = .ok (.aload_n 2, 1) := by decide +kernel
theorem dX1_with_34 : decode cX1_with 34 = .ok (.areturn, 1) := by decide +kernel
theorem dX1_addTrader_0 : decode cX1_addTrader 0 = .ok (.aload_n 0, 1) := by decide +kernel
theorem dX1_addTrader_1 : decode cX1_addTrader 1 = .ok (.getfield 15, 3) := by decide +kernel
theorem dX1_addTrader_4 : decode cX1_addTrader 4 = .ok (.arraylength, 1) := by decide +kernel
theorem dX1_addTrader_5 : decode cX1_addTrader 5 = .ok (.iconst 1, 1) := by decide +kernel
theorem dX1_addTrader_6 : decode cX1_addTrader 6 = .ok (.iadd, 1) := by decide +kernel
theorem dX1_addTrader_7 : decode cX1_addTrader 7 = .ok (.newarray .int, 2) := by decide +kernel
theorem dX1_addTrader_9 : decode cX1_addTrader 9 = .ok (.astore_n 1, 1) := by decide +kernel
theorem dX1_addTrader_10 : decode cX1_addTrader 10 = .ok (.iconst 0, 1) := by decide +kernel
theorem dX1_addTrader_11 : decode cX1_addTrader 11 = .ok (.istore_n 2, 1) := by decide +kernel
theorem dX1_addTrader_12 : decode cX1_addTrader 12 = .ok (.iload_n 2, 1) := by decide +kernel
theorem dX1_addTrader_13 : decode cX1_addTrader 13 = .ok (.aload_n 0, 1) := by decide +kernel
theorem dX1_addTrader_14 : decode cX1_addTrader 14 = .ok (.getfield 15, 3) := by decide +kernel
theorem dX1_addTrader_17 : decode cX1_addTrader 17 = .ok (.arraylength, 1) := by decide +kernel
theorem dX1_addTrader_18 : decode cX1_addTrader 18 = .ok (.if_icmp .ge 18, 3) := by decide +kernel
theorem dX1_addTrader_21 : decode cX1_addTrader 21 = .ok (.aload_n 1, 1) := by decide +kernel
theorem dX1_addTrader_22 : decode cX1_addTrader 22 = .ok (.iload_n 2, 1) := by decide +kernel
theorem dX1_addTrader_23 : decode cX1_addTrader 23 = .ok (.aload_n 0, 1) := by decide +kernel
theorem dX1_addTrader_24 : decode cX1_addTrader 24 = .ok (.getfield 15, 3) := by decide +kernel
theorem dX1_addTrader_27 : decode cX1_addTrader 27 = .ok (.iload_n 2, 1) := by decide +kernel
theorem dX1_addTrader_28 : decode cX1_addTrader 28 = .ok (.iaload, 1) := by decide +kernel
theorem dX1_addTrader_29 : decode cX1_addTrader 29 = .ok (.iastore, 1) := by decide +kernel
theorem dX1_addTrader_30 : decode cX1_addTrader 30 = .ok (.iinc 2 1, 3) := by decide +kernel
theorem dX1_addTrader_33 : decode cX1_addTrader 33 = .ok (.goto (-21), 3) := by decide +kernel
theorem dX1_addTrader_36 : decode cX1_addTrader 36 = .ok (.aload_n 1, 1) := by decide +kernel
theorem dX1_addTrader_37 : decode cX1_addTrader 37 = .ok (.aload_n 0, 1) := by decide +kernel
theorem dX1_addTrader_38 : decode cX1_addTrader 38 = .ok (.getfield 15, 3) := by decide +kernel
theorem dX1_addTrader_41 : decode cX1_addTrader 41 = .ok (.arraylength, 1) := by decide +kernel
theorem dX1_addTrader_42 : decode cX1_addTrader 42 = .ok (.bipush 100, 2) := by decide +kernel
theorem dX1_addTrader_44 : decode cX1_addTrader 44 = .ok (.iastore, 1) := by decide +kernel
theorem dX1_addTrader_45 : decode cX1_addTrader 45 = .ok (.aload_n 0, 1) := by decide +kernel
theorem dX1_addTrader_46 : decode cX1_addTrader 46 = .ok (.aload_n 1, 1) := by decide +kernel
theorem dX1_addTrader_47 : decode cX1_addTrader 47 = .ok (.putfield 15, 3) := by decide +kernel
theorem dX1_addTrader_50 : decode cX1_addTrader 50 = .ok (.return_, 1) := by decide +kernel
theorem dX1_doves_0 : decode cX1_doves 0 = .ok (.iconst 0, 1) := by decide +kernel
theorem dX1_doves_1 : decode cX1_doves 1 = .ok (.istore_n 2, 1) := by decide +kernel
theorem dX1_doves_2 : decode cX1_doves 2 = .ok (.aload_n 0, 1) := by decide +kernel
theorem dX1_doves_3 : decode cX1_doves 3 = .ok (.getfield 19, 3) := by decide +kernel
theorem dX1_doves_6 : decode cX1_doves 6 = .ok (.astore_n 3, 1) := by decide +kernel
theorem dX1_doves_7 : decode cX1_doves 7 = .ok (.aload_n 3, 1) := by decide +kernel
theorem dX1_doves_8 : decode cX1_doves 8 = .ok (.arraylength, 1) := by decide +kernel
theorem dX1_doves_9 : decode cX1_doves 9 = .ok (.istore 4, 2) := by decide +kernel
theorem dX1_doves_11 : decode cX1_doves 11 = .ok (.iconst 0, 1) := by decide +kernel
theorem dX1_doves_12 : decode cX1_doves 12 = .ok (.istore 5, 2) := by decide +kernel
theorem dX1_doves_14 : decode cX1_doves 14 = .ok (.iload 5, 2) := by decide +kernel
theorem dX1_doves_16 : decode cX1_doves 16 = .ok (.iload 4, 2) := by decide +kernel
theorem dX1_doves_18 : decode cX1_doves 18 = .ok (.if_icmp .ge 34, 3) := by decide +kernel
theorem dX1_doves_21 : decode cX1_doves 21 = .ok (.aload_n 3, 1) := by decide +kernel
theorem dX1_doves_22 : decode cX1_doves 22 = .ok (.iload 5, 2) := by decide +kernel
theorem dX1_doves_24 : decode cX1_doves 24 = .ok (.aaload, 1) := by decide +kernel
theorem dX1_doves_25 : decode cX1_doves 25 = .ok (.astore 6, 2) := by decide +kernel
theorem dX1_doves_27 : decode cX1_doves 27 = .ok (.iload_n 2, 1) := by decide +kernel
theorem dX1_doves_28 : decode cX1_doves 28 = .ok (.aload 6, 2) := by decide +kernel
theorem dX1_doves_30 : decode cX1_doves 30 = .ok (.iload_n 1, 1) := by decide +kernel
theorem dX1_doves_31 : decode cX1_doves 31 = .ok (.iaload, 1) := by decide +kernel
theorem dX1_doves_32 : decode cX1_doves 32 = .ok (.ifCond .ge 11, 3) := by decide +kernel
theorem dX1_doves_35 : decode cX1_doves 35 = .ok (.aload 6, 2) := by decide +kernel
theorem dX1_doves_37 : decode cX1_doves 37 = .ok (.iload_n 1, 1) := by decide +kernel
theorem dX1_doves_38 : decode cX1_doves 38 = .ok (.iaload, 1) := by decide +kernel
theorem dX1_doves_39 : decode cX1_doves 39 = .ok (.ineg, 1) := by decide +kernel
theorem dX1_doves_40 : decode cX1_doves 40 = .ok (.goto 4, 3) := by decide +kernel
theorem dX1_doves_43 : decode cX1_doves 43 = .ok (.iconst 0, 1) := by decide +kernel
theorem dX1_doves_44 : decode cX1_doves 44 = .ok (.iadd, 1) := by decide +kernel
theorem dX1_doves_45 : decode cX1_doves 45 = .ok (.istore_n 2, 1) := by decide +kernel
theorem dX1_doves_46 : decode cX1_doves 46 = .ok (.iinc 5 1, 3) := by decide +kernel
theorem dX1_doves_49 : decode cX1_doves 49 = .ok (.goto (-35), 3) := by decide +kernel
theorem dX1_doves_52 : decode cX1_doves 52 = .ok (.iload_n 2, 1) := by decide +kernel
theorem dX1_doves_53 : decode cX1_doves 53 = .ok (.ireturn, 1) := by decide +kernel
theorem dX1_price_0 : decode cX1_price 0 = .ok (.aload_n 0, 1) := by decide +kernel
theorem dX1_price_1 : decode cX1_price 1 = .ok (.getfield 9, 3) := by decide +kernel
theorem dX1_price_4 : decode cX1_price 4 = .ok (.iload_n 1, 1) := by decide +kernel
theorem dX1_price_5 : decode cX1_price 5 = .ok (.aaload, 1) := by decide +kernel
theorem dX1_price_6 : decode cX1_price 6 = .ok (.iconst 3, 1) := by decide +kernel
theorem dX1_price_7 : decode cX1_price 7 = .ok (.iaload, 1) := by decide +kernel
theorem dX1_price_8 : decode cX1_price 8 = .ok (.aload_n 0, 1) := by decide +kernel
theorem dX1_price_9 : decode cX1_price 9 = .ok (.getfield 9, 3) := by decide +kernel
theorem dX1_price_12 : decode cX1_price 12 = .ok (.iload_n 1, 1) := by decide +kernel
theorem dX1_price_13 : decode cX1_price 13 = .ok (.aaload, 1) := by decide +kernel
theorem dX1_price_14 : decode cX1_price 14 = .ok (.iconst 0, 1) := by decide +kernel
theorem dX1_price_15 : decode cX1_price 15 = .ok (.iaload, 1) := by decide +kernel
theorem dX1_price_16 : decode cX1_price 16 = .ok (.imul, 1) := by decide +kernel
theorem dX1_price_17 : decode cX1_price 17 = .ok (.aload_n 0, 1) := by decide +kernel
theorem dX1_price_18 : decode cX1_price 18 = .ok (.iload_n 1, 1) := by decide +kernel
theorem dX1_price_19 : decode cX1_price 19 = .ok (.invokevirtual 22, 3) := by decide +kernel
theorem dX1_price_22 : decode cX1_price 22 = .ok (.isub, 1) := by decide +kernel
theorem dX1_price_23 : decode cX1_price 23 = .ok (.aload_n 0, 1) := by decide +kernel
theorem dX1_price_24 : decode cX1_price 24 = .ok (.iload_n 1, 1) := by decide +kernel
theorem dX1_price_25 : decode cX1_price 25 = .ok (.invokevirtual 22, 3) := by decide +kernel
theorem dX1_price_28 : decode cX1_price 28 = .ok (.isub, 1) := by decide +kernel
theorem dX1_price_29 : decode cX1_price 29 = .ok (.istore_n 2, 1) := by decide +kernel
theorem dX1_price_30 : decode cX1_price 30 = .ok (.iload_n 2, 1) := by decide +kernel
theorem dX1_price_31 : decode cX1_price 31 = .ok (.ifCond .ge 7, 3) := by decide +kernel
theorem dX1_price_34 : decode cX1_price 34 = .ok (.iconst 0, 1) := by decide +kernel
theorem dX1_price_35 : decode cX1_price 35 = .ok (.goto 4, 3) := by decide +kernel
theorem dX1_price_38 : decode cX1_price 38 = .ok (.iload_n 2, 1) := by decide +kernel
theorem dX1_price_39 : decode cX1_price 39 = .ok (.ireturn, 1) := by decide +kernel
theorem dX1_until_0 : decode cX1_until 0 = .ok (.aload_n 0, 1) := by decide +kernel
theorem dX1_until_1 : decode cX1_until 1 = .ok (.getfield 9, 3) := by decide +kernel
theorem dX1_until_4 : decode cX1_until 4 = .ok (.iload_n 1, 1) := by decide +kernel
theorem dX1_until_5 : decode cX1_until 5 = .ok (.aaload, 1) := by decide +kernel
theorem dX1_until_6 : decode cX1_until 6 = .ok (.iconst 2, 1) := by decide +kernel
theorem dX1_until_7 : decode cX1_until 7 = .ok (.iaload, 1) := by decide +kernel
theorem dX1_until_8 : decode cX1_until 8 = .ok (.aload_n 0, 1) := by decide +kernel
theorem dX1_until_9 : decode cX1_until 9 = .ok (.getfield 26, 3) := by decide +kernel
theorem dX1_until_12 : decode cX1_until 12 = .ok (.isub, 1) := by decide +kernel
theorem dX1_until_13 : decode cX1_until 13 = .ok (.aload_n 0, 1) := by decide +kernel
theorem dX1_until_14 : decode cX1_until 14 = .ok (.getfield 9, 3) := by decide +kernel
theorem dX1_until_17 : decode cX1_until 17 = .ok (.iload_n 1, 1) := by decide +kernel
theorem dX1_until_18 : decode cX1_until 18 = .ok (.aaload, 1) := by decide +kernel
theorem dX1_until_19 : decode cX1_until 19 = .ok (.iconst 1, 1) := by decide +kernel
theorem dX1_until_20 : decode cX1_until 20 = .ok (.iaload, 1) := by decide +kernel
theorem dX1_until_21 : decode cX1_until 21 = .ok (.irem, 1) := by decide +kernel
theorem dX1_until_22 : decode cX1_until 22 = .ok (.istore_n 2, 1) := by decide +kernel
theorem dX1_until_23 : decode cX1_until 23 = .ok (.iload_n 2, 1) := by decide +kernel
theorem dX1_until_24 : decode cX1_until 24 = .ok (.ifCond .le 7, 3) := by decide +kernel
theorem dX1_until_27 : decode cX1_until 27 = .ok (.iload_n 2, 1) := by decide +kernel
theorem dX1_until_28 : decode cX1_until 28 = .ok (.goto 13, 3) := by decide +kernel
theorem dX1_until_31 : decode cX1_until 31 = .ok (.iload_n 2, 1) := by decide +kernel
theorem dX1_until_32 : decode cX1_until 32 = .ok (.aload_n 0, 1) := by decide +kernel
theorem dX1_until_33 : decode cX1_until 33 = .ok (.getfield 9, 3) := by decide +kernel
theorem dX1_until_36 : decode cX1_until 36 = .ok (.iload_n 1, 1) := by decide +kernel
theorem dX1_until_37 : decode cX1_until 37 = .ok (.aaload, 1) := by decide +kernel
theorem dX1_until_38 : decode cX1_until 38 = .ok (.iconst 1, 1) := by decide +kernel
theorem dX1_until_39 : decode cX1_until 39 = .ok (.iaload, 1) := by decide +kernel
theorem dX1_until_40 : decode cX1_until 40 = .ok (.iadd, 1) := by decide +kernel
theorem dX1_until_41 : decode cX1_until 41 = .ok (.ireturn, 1) := by decide +kernel
theorem dX1_pass_0 : decode cX1_pass 0 = .ok (.iconst 0, 1) := by decide +kernel
theorem dX1_pass_1 : decode cX1_pass 1 = .ok (.istore_n 1, 1) := by decide +kernel
theorem dX1_pass_2 : decode cX1_pass 2 = .ok (.aload_n 0, 1) := by decide +kernel
theorem dX1_pass_3 : decode cX1_pass 3 = .ok (.getfield 9, 3) := by decide +kernel
theorem dX1_pass_6 : decode cX1_pass 6 = .ok (.arraylength, 1) := by decide +kernel
theorem dX1_pass_7 : decode cX1_pass 7 = .ok (.newarray .int, 2) := by decide +kernel
theorem dX1_pass_9 : decode cX1_pass 9 = .ok (.astore_n 2, 1) := by decide +kernel
theorem dX1_pass_10 : decode cX1_pass 10 = .ok (.iconst 0, 1) := by decide +kernel
theorem dX1_pass_11 : decode cX1_pass 11 = .ok (.istore_n 3, 1) := by decide +kernel
theorem dX1_pass_12 : decode cX1_pass 12 = .ok (.iload_n 3, 1) := by decide +kernel
theorem dX1_pass_13 : decode cX1_pass 13 = .ok (.aload_n 0, 1) := by decide +kernel
theorem dX1_pass_14 : decode cX1_pass 14 = .ok (.getfield 9, 3) := by decide +kernel
theorem dX1_pass_17 : decode cX1_pass 17 = .ok (.arraylength, 1) := by decide +kernel
theorem dX1_pass_18 : decode cX1_pass 18 = .ok (.if_icmp .ge 17, 3) := by decide +kernel
theorem dX1_pass_21 : decode cX1_pass 21 = .ok (.aload_n 2, 1) := by decide +kernel
theorem dX1_pass_22 : decode cX1_pass 22 = .ok (.iload_n 3, 1) := by decide +kernel
theorem dX1_pass_23 : decode cX1_pass 23 = .ok (.aload_n 0, 1) := by decide +kernel
theorem dX1_pass_24 : decode cX1_pass 24 = .ok (.iload_n 3, 1) := by decide +kernel
theorem dX1_pass_25 : decode cX1_pass 25 = .ok (.invokevirtual 30, 3) := by decide +kernel
theorem dX1_pass_28 : decode cX1_pass 28 = .ok (.iastore, 1) := by decide +kernel
theorem dX1_pass_29 : decode cX1_pass 29 = .ok (.iinc 3 1, 3) := by decide +kernel
theorem dX1_pass_32 : decode cX1_pass 32 = .ok (.goto (-20), 3) := by decide +kernel
theorem dX1_pass_35 : decode cX1_pass 35 = .ok (.aload_n 0, 1) := by decide +kernel
theorem dX1_pass_36 : decode cX1_pass 36 = .ok (.dup, 1) := by decide +kernel
theorem dX1_pass_37 : decode cX1_pass 37 = .ok (.getfield 26, 3) := by decide +kernel
theorem dX1_pass_40 : decode cX1_pass 40 = .ok (.iconst 1, 1) := by decide +kernel
theorem dX1_pass_41 : decode cX1_pass 41 = .ok (.iadd, 1) := by decide +kernel
theorem dX1_pass_42 : decode cX1_pass 42 = .ok (.putfield 26, 3) := by decide +kernel
theorem dX1_pass_45 : decode cX1_pass 45 = .ok (.iconst 0, 1) := by decide +kernel
theorem dX1_pass_46 : decode cX1_pass 46 = .ok (.istore_n 3, 1) := by decide +kernel
theorem dX1_pass_47 : decode cX1_pass 47 = .ok (.iload_n 3, 1) := by decide +kernel
theorem dX1_pass_48 : decode cX1_pass 48 = .ok (.aload_n 0, 1) := by decide +kernel
theorem dX1_pass_49 : decode cX1_pass 49 = .ok (.getfield 9, 3) := by decide +kernel
theorem dX1_pass_52 : decode cX1_pass 52 = .ok (.arraylength, 1) := by decide +kernel
theorem dX1_pass_53 : decode cX1_pass 53 = .ok (.if_icmp .ge 113, 3) := by decide +kernel
theorem dX1_pass_56 : decode cX1_pass 56 = .ok (.aload_n 0, 1) := by decide +kernel
theorem dX1_pass_57 : decode cX1_pass 57 = .ok (.getfield 9, 3) := by decide +kernel
theorem dX1_pass_60 : decode cX1_pass 60 = .ok (.iload_n 3, 1) := by decide +kernel
theorem dX1_pass_61 : decode cX1_pass 61 = .ok (.aaload, 1) := by decide +kernel
theorem dX1_pass_62 : decode cX1_pass 62 = .ok (.astore 4, 2) := by decide +kernel
theorem dX1_pass_64 : decode cX1_pass 64 = .ok (.aload 4, 2) := by decide +kernel
theorem dX1_pass_66 : decode cX1_pass 66 = .ok (.iconst 3, 1) := by decide +kernel
theorem dX1_pass_67 : decode cX1_pass 67 = .ok (.dup2, 1) := by decide +kernel
theorem dX1_pass_68 : decode cX1_pass 68 = .ok (.iaload, 1) := by decide +kernel
theorem dX1_pass_69 : decode cX1_pass 69 = .ok (.iconst 1, 1) := by decide +kernel
theorem dX1_pass_70 : decode cX1_pass 70 = .ok (.iadd, 1) := by decide +kernel
theorem dX1_pass_71 : decode cX1_pass 71 = .ok (.iastore, 1) := by decide +kernel
theorem dX1_pass_72 : decode cX1_pass 72 = .ok (.aload_n 0, 1) := by decide +kernel
theorem dX1_pass_73 : decode cX1_pass 73 = .ok (.getfield 26, 3) := by decide +kernel
theorem dX1_pass_76 : decode cX1_pass 76 = .ok (.aload 4, 2) := by decide +kernel
theorem dX1_pass_78 : decode cX1_pass 78 = .ok (.iconst 2, 1) := by decide +kernel
theorem dX1_pass_79 : decode cX1_pass 79 = .ok (.iaload, 1) := by decide +kernel
theorem dX1_pass_80 : decode cX1_pass 80 = .ok (.isub, 1) := by decide +kernel
theorem dX1_pass_81 : decode cX1_pass 81 = .ok (.aload 4, 2) := by decide +kernel
theorem dX1_pass_83 : decode cX1_pass 83 = .ok (.iconst 1, 1) := by decide +kernel
theorem dX1_pass_84 : decode cX1_pass 84 = .ok (.iaload, 1) := by decide +kernel
theorem dX1_pass_85 : decode cX1_pass 85 = .ok (.irem, 1) := by decide +kernel
theorem dX1_pass_86 : decode cX1_pass 86 = .ok (.ifCond .eq 6, 3) := by decide +kernel
theorem dX1_pass_89 : decode cX1_pass 89 = .ok (.goto 71, 3) := by decide +kernel
theorem dX1_pass_92 : decode cX1_pass 92 = .ok (.aload 4, 2) := by decide +kernel
theorem dX1_pass_94 : decode cX1_pass 94 = .ok (.iconst 3, 1) := by decide +kernel
theorem dX1_pass_95 : decode cX1_pass 95 = .ok (.iconst 0, 1) := by decide +kernel
theorem dX1_pass_96 : decode cX1_pass 96 = .ok (.iastore, 1) := by decide +kernel
theorem dX1_pass_97 : decode cX1_pass 97 = .ok (.aload 4, 2) := by decide +kernel
theorem dX1_pass_99 : decode cX1_pass 99 = .ok (.iconst 4, 1) := by decide +kernel
theorem dX1_pass_100 : decode cX1_pass 100 = .ok (.dup2, 1) := by decide +kernel
theorem dX1_pass_101 : decode cX1_pass 101 = .ok (.iaload, 1) := by decide +kernel
theorem dX1_pass_102 : decode cX1_pass 102 = .ok (.iconst 1, 1) := by decide +kernel
theorem dX1_pass_103 : decode cX1_pass 103 = .ok (.iadd, 1) := by decide +kernel
theorem dX1_pass_104 : decode cX1_pass 104 = .ok (.iastore, 1) := by decide +kernel
theorem dX1_pass_105 : decode cX1_pass 105 = .ok (.iinc 1 1, 3) := by decide +kernel
theorem dX1_pass_108 : decode cX1_pass 108 = .ok (.iconst 0, 1) := by decide +kernel
theorem dX1_pass_109 : decode cX1_pass 109 = .ok (.istore 5, 2) := by decide +kernel
theorem dX1_pass_111 : decode cX1_pass 111 = .ok (.iload 5, 2) := by decide +kernel
theorem dX1_pass_113 : decode cX1_pass 113 = .ok (.aload_n 0, 1) := by decide +kernel
theorem dX1_pass_114 : decode cX1_pass 114 = .ok (.getfield 15, 3) := by decide +kernel
theorem dX1_pass_117 : decode cX1_pass 117 = .ok (.arraylength, 1) := by decide +kernel
theorem dX1_pass_118 : decode cX1_pass 118 = .ok (.if_icmp .ge 42, 3) := by decide +kernel
theorem dX1_pass_121 : decode cX1_pass 121 = .ok (.aload_n 0, 1) := by decide +kernel
theorem dX1_pass_122 : decode cX1_pass 122 = .ok (.getfield 15, 3) := by decide +kernel
theorem dX1_pass_125 : decode cX1_pass 125 = .ok (.iload 5, 2) := by decide +kernel
theorem dX1_pass_127 : decode cX1_pass 127 = .ok (.dup2, 1) := by decide +kernel
theorem dX1_pass_128 : decode cX1_pass 128 = .ok (.iaload, 1) := by decide +kernel
theorem dX1_pass_129 : decode cX1_pass 129 = .ok (.aload_n 2, 1) := by decide +kernel
theorem dX1_pass_130 : decode cX1_pass 130 = .ok (.iload_n 3, 1) := by decide +kernel
theorem dX1_pass_131 : decode cX1_pass 131 = .ok (.iaload, 1) := by decide +kernel
theorem dX1_pass_132 : decode cX1_pass 132 = .ok (.aload_n 0, 1) := by decide +kernel
theorem dX1_pass_133 : decode cX1_pass 133 = .ok (.getfield 19, 3) := by decide +kernel
theorem dX1_pass_136 : decode cX1_pass 136 = .ok (.iload 5, 2) := by decide +kernel
theorem dX1_pass_138 : decode cX1_pass 138 = .ok (.aaload, 1) := by decide +kernel
theorem dX1_pass_139 : decode cX1_pass 139 = .ok (.iload_n 3, 1) := by decide +kernel
theorem dX1_pass_140 : decode cX1_pass 140 = .ok (.iaload, 1) := by decide +kernel
theorem dX1_pass_141 : decode cX1_pass 141 = .ok (.imul, 1) := by decide +kernel
theorem dX1_pass_142 : decode cX1_pass 142 = .ok (.iadd, 1) := by decide +kernel
theorem dX1_pass_143 : decode cX1_pass 143 = .ok (.iastore, 1) := by decide +kernel
theorem dX1_pass_144 : decode cX1_pass 144 = .ok (.aload_n 0, 1) := by decide +kernel
theorem dX1_pass_145 : decode cX1_pass 145 = .ok (.getfield 19, 3) := by decide +kernel
theorem dX1_pass_148 : decode cX1_pass 148 = .ok (.iload 5, 2) := by decide +kernel
theorem dX1_pass_150 : decode cX1_pass 150 = .ok (.aaload, 1) := by decide +kernel
theorem dX1_pass_151 : decode cX1_pass 151 = .ok (.iload_n 3, 1) := by decide +kernel
theorem dX1_pass_152 : decode cX1_pass 152 = .ok (.iconst 0, 1) := by decide +kernel
theorem dX1_pass_153 : decode cX1_pass 153 = .ok (.iastore, 1) := by decide +kernel
theorem dX1_pass_154 : decode cX1_pass 154 = .ok (.iinc 5 1, 3) := by decide +kernel
theorem dX1_pass_157 : decode cX1_pass 157 = .ok (.goto (-46), 3) := by decide +kernel
theorem dX1_pass_160 : decode cX1_pass 160 = .ok (.iinc 3 1, 3) := by decide +kernel
theorem dX1_pass_163 : decode cX1_pass 163 = .ok (.goto (-116), 3) := by decide +kernel
theorem dX1_pass_166 : decode cX1_pass 166 = .ok (.iload_n 1, 1) := by decide +kernel
theorem dX1_pass_167 : decode cX1_pass 167 = .ok (.ireturn, 1) := by decide +kernel
theorem dX1_behind_0 : decode cX1_behind 0 = .ok (.iconst 0, 1) := by decide +kernel
theorem dX1_behind_1 : decode cX1_behind 1 = .ok (.istore_n 2, 1) := by decide +kernel
theorem dX1_behind_2 : decode cX1_behind 2 = .ok (.iconst 0, 1) := by decide +kernel
theorem dX1_behind_3 : decode cX1_behind 3 = .ok (.istore_n 3, 1) := by decide +kernel
theorem dX1_behind_4 : decode cX1_behind 4 = .ok (.iload_n 3, 1) := by decide +kernel
theorem dX1_behind_5 : decode cX1_behind 5 = .ok (.iload_n 1, 1) := by decide +kernel
theorem dX1_behind_6 : decode cX1_behind 6 = .ok (.if_icmp .ge 16, 3) := by decide +kernel
theorem dX1_behind_9 : decode cX1_behind 9 = .ok (.iload_n 2, 1) := by decide +kernel
theorem dX1_behind_10 : decode cX1_behind 10 = .ok (.aload_n 0, 1) := by decide +kernel
theorem dX1_behind_11 : decode cX1_behind 11 = .ok (.invokevirtual 33, 3) := by decide +kernel
theorem dX1_behind_14 : decode cX1_behind 14 = .ok (.iadd, 1) := by decide +kernel
theorem dX1_behind_15 : decode cX1_behind 15 = .ok (.istore_n 2, 1) := by decide +kernel
theorem dX1_behind_16 : decode cX1_behind 16 = .ok (.iinc 3 1, 3) := by decide +kernel
theorem dX1_behind_19 : decode cX1_behind 19 = .ok (.goto (-15), 3) := by decide +kernel
theorem dX1_behind_22 : decode cX1_behind 22 = .ok (.iload_n 2, 1) := by decide +kernel
theorem dX1_behind_23 : decode cX1_behind 23 = .ok (.ireturn, 1) := by decide +kernel
theorem dX1_sell_0 : decode cX1_sell 0 = .ok (.aload_n 0, 1) := by decide +kernel
theorem dX1_sell_1 : decode cX1_sell 1 = .ok (.getfield 15, 3) := by decide +kernel
theorem dX1_sell_4 : decode cX1_sell 4 = .ok (.iload_n 1, 1) := by decide +kernel
theorem dX1_sell_5 : decode cX1_sell 5 = .ok (.dup2, 1) := by decide +kernel
theorem dX1_sell_6 : decode cX1_sell 6 = .ok (.iaload, 1) := by decide +kernel
theorem dX1_sell_7 : decode cX1_sell 7 = .ok (.iload_n 3, 1) := by decide +kernel
theorem dX1_sell_8 : decode cX1_sell 8 = .ok (.aload_n 0, 1) := by decide +kernel
theorem dX1_sell_9 : decode cX1_sell 9 = .ok (.iload_n 2, 1) := by decide +kernel
theorem dX1_sell_10 : decode cX1_sell 10 = .ok (.invokevirtual 30, 3) := by decide +kernel
theorem dX1_sell_13 : decode cX1_sell 13 = .ok (.imul, 1) := by decide +kernel
theorem dX1_sell_14 : decode cX1_sell 14 = .ok (.iadd, 1) := by decide +kernel
theorem dX1_sell_15 : decode cX1_sell 15 = .ok (.iastore, 1) := by decide +kernel
theorem dX1_sell_16 : decode cX1_sell 16 = .ok (.aload_n 0, 1) := by decide +kernel
theorem dX1_sell_17 : decode cX1_sell 17 = .ok (.getfield 19, 3) := by decide +kernel
theorem dX1_sell_20 : decode cX1_sell 20 = .ok (.iload_n 1, 1) := by decide +kernel
theorem dX1_sell_21 : decode cX1_sell 21 = .ok (.aaload, 1) := by decide +kernel
theorem dX1_sell_22 : decode cX1_sell 22 = .ok (.iload_n 2, 1) := by decide +kernel
theorem dX1_sell_23 : decode cX1_sell 23 = .ok (.dup2, 1) := by decide +kernel
theorem dX1_sell_24 : decode cX1_sell 24 = .ok (.iaload, 1) := by decide +kernel
theorem dX1_sell_25 : decode cX1_sell 25 = .ok (.iload_n 3, 1) := by decide +kernel
theorem dX1_sell_26 : decode cX1_sell 26 = .ok (.isub, 1) := by decide +kernel
theorem dX1_sell_27 : decode cX1_sell 27 = .ok (.iastore, 1) := by decide +kernel
theorem dX1_sell_28 : decode cX1_sell 28 = .ok (.return_, 1) := by decide +kernel
theorem dX1_worth_0 : decode cX1_worth 0 = .ok (.aload_n 0, 1) := by decide +kernel
theorem dX1_worth_1 : decode cX1_worth 1 = .ok (.getfield 15, 3) := by decide +kernel
theorem dX1_worth_4 : decode cX1_worth 4 = .ok (.iload_n 1, 1) := by decide +kernel
theorem dX1_worth_5 : decode cX1_worth 5 = .ok (.iaload, 1) := by decide +kernel
theorem dX1_worth_6 : decode cX1_worth 6 = .ok (.istore_n 2, 1) := by decide +kernel
theorem dX1_worth_7 : decode cX1_worth 7 = .ok (.iconst 0, 1) := by decide +kernel
theorem dX1_worth_8 : decode cX1_worth 8 = .ok (.istore_n 3, 1) := by decide +kernel
theorem dX1_worth_9 : decode cX1_worth 9 = .ok (.iload_n 3, 1) := by decide +kernel
theorem dX1_worth_10 : decode cX1_worth 10 = .ok (.aload_n 0, 1) := by decide +kernel
theorem dX1_worth_11 : decode cX1_worth 11 = .ok (.getfield 9, 3) := by decide +kernel
theorem dX1_worth_14 : decode cX1_worth 14 = .ok (.arraylength, 1) := by decide +kernel
theorem dX1_worth_15 : decode cX1_worth 15 = .ok (.if_icmp .ge 26, 3) := by decide +kernel
theorem dX1_worth_18 : decode cX1_worth 18 = .ok (.iload_n 2, 1) := by decide +kernel
theorem dX1_worth_19 : decode cX1_worth 19 = .ok (.aload_n 0, 1) := by decide +kernel
theorem dX1_worth_20 : decode cX1_worth 20 = .ok (.getfield 19, 3) := by decide +kernel
theorem dX1_worth_23 : decode cX1_worth 23 = .ok (.iload_n 1, 1) := by decide +kernel
theorem dX1_worth_24 : decode cX1_worth 24 = .ok (.aaload, 1) := by decide +kernel
theorem dX1_worth_25 : decode cX1_worth 25 = .ok (.iload_n 3, 1) := by decide +kernel
theorem dX1_worth_26 : decode cX1_worth 26 = .ok (.iaload, 1) := by decide +kernel
theorem dX1_worth_27 : decode cX1_worth 27 = .ok (.aload_n 0, 1) := by decide +kernel
theorem dX1_worth_28 : decode cX1_worth 28 = .ok (.iload_n 3, 1) := by decide +kernel
theorem dX1_worth_29 : decode cX1_worth 29 = .ok (.invokevirtual 30, 3) := by decide +kernel
theorem dX1_worth_32 : decode cX1_worth 32 = .ok (.imul, 1) := by decide +kernel
theorem dX1_worth_33 : decode cX1_worth 33 = .ok (.iadd, 1) := by decide +kernel
theorem dX1_worth_34 : decode cX1_worth 34 = .ok (.istore_n 2, 1) := by decide +kernel
theorem dX1_worth_35 : decode cX1_worth 35 = .ok (.iinc 3 1, 3) := by decide +kernel
theorem dX1_worth_38 : decode cX1_worth 38 = .ok (.goto (-29), 3) := by decide +kernel
theorem dX1_worth_41 : decode cX1_worth 41 = .ok (.iload_n 2, 1) := by decide +kernel
theorem dX1_worth_42 : decode cX1_worth 42 = .ok (.ireturn, 1) := by decide +kernel
theorem dX1_isSame_0 : decode cX1_isSame 0 = .ok (.aload_n 0, 1) := by decide +kernel
theorem dX1_isSame_1 : decode cX1_isSame 1 = .ok (.getfield 9, 3) := by decide +kernel
theorem dX1_isSame_4 : decode cX1_isSame 4 = .ok (.arraylength, 1) := by decide +kernel
theorem dX1_isSame_5 : decode cX1_isSame 5 = .ok (.istore_n 2, 1) := by decide +kernel
theorem dX1_isSame_6 : decode cX1_isSame 6 = .ok (.aload_n 0, 1) := by decide +kernel
theorem dX1_isSame_7 : decode cX1_isSame 7 = .ok (.getfield 15, 3) := by decide +kernel
theorem dX1_isSame_10 : decode cX1_isSame 10 = .ok (.arraylength, 1) := by decide +kernel
theorem dX1_isSame_11 : decode cX1_isSame 11 = .ok (.istore_n 3, 1) := by decide +kernel
theorem dX1_isSame_12 : decode cX1_isSame 12 = .ok (.aload_n 1, 1) := by decide +kernel
theorem dX1_isSame_13 : decode cX1_isSame 13 = .ok (.invokevirtual 42, 3) := by decide +kernel
theorem dX1_isSame_16 : decode cX1_isSame 16 = .ok (.aload_n 0, 1) := by decide +kernel
theorem dX1_isSame_17 : decode cX1_isSame 17 = .ok (.getfield 26, 3) := by decide +kernel
theorem dX1_isSame_20 : decode cX1_isSame 20 = .ok (.if_icmp .ne 19, 3) := by decide +kernel
theorem dX1_isSame_23 : decode cX1_isSame 23 = .ok (.aload_n 1, 1) := by decide +kernel
theorem dX1_isSame_24 : decode cX1_isSame 24 = .ok (.invokevirtual 46, 3) := by decide +kernel
theorem dX1_isSame_27 : decode cX1_isSame 27 = .ok (.iload_n 2, 1) := by decide +kernel
theorem dX1_isSame_28 : decode cX1_isSame 28 = .ok (.if_icmp .ne 11, 3) := by decide +kernel
theorem dX1_isSame_31 : decode cX1_isSame 31 = .ok (.aload_n 1, 1) := by decide +kernel
theorem dX1_isSame_32 : decode cX1_isSame 32 = .ok (.invokevirtual 48, 3) := by decide +kernel
theorem dX1_isSame_35 : decode cX1_isSame 35 = .ok (.iload_n 3, 1) := by decide +kernel
theorem dX1_isSame_36 : decode cX1_isSame 36 = .ok (.if_icmp .eq 5, 3) := by decide +kernel
theorem dX1_isSame_39 : decode cX1_isSame 39 = .ok (.iconst 0, 1) := by decide +kernel
theorem dX1_isSame_40 : decode cX1_isSame 40 = .ok (.ireturn, 1) := by decide +kernel
theorem dX1_isSame_41 : decode cX1_isSame 41 = .ok (.iconst (-1), 1) := by decide +kernel
theorem dX1_isSame_42 : decode cX1_isSame 42 = .ok (.istore 4, 2) := by decide +kernel
theorem dX1_isSame_44 : decode cX1_isSame 44 = .ok (.iconst (-1), 1) := by decide +kernel
theorem dX1_isSame_45 : decode cX1_isSame 45 = .ok (.istore 5, 2) := by decide +kernel
theorem dX1_isSame_47 : decode cX1_isSame 47 = .ok (.iconst 0, 1) := by decide +kernel
theorem dX1_isSame_48 : decode cX1_isSame 48 = .ok (.istore 6, 2) := by decide +kernel
theorem dX1_isSame_50 : decode cX1_isSame 50 = .ok (.iconst 0, 1) := by decide +kernel
theorem dX1_isSame_51 : decode cX1_isSame 51 = .ok (.istore 7, 2) := by decide +kernel
theorem dX1_isSame_53 : decode cX1_isSame 53 = .ok (.iload 7, 2) := by decide +kernel
theorem dX1_isSame_55 : decode cX1_isSame 55 = .ok (.iload_n 2, 1) := by decide +kernel
theorem dX1_isSame_56 : decode cX1_isSame 56 = .ok (.if_icmp .ge 209, 3) := by decide +kernel
theorem dX1_isSame_59 : decode cX1_isSame 59 = .ok (.iconst 0, 1) := by decide +kernel
theorem dX1_isSame_60 : decode cX1_isSame 60 = .ok (.istore 8, 2) := by decide +kernel
theorem dX1_isSame_62 : decode cX1_isSame 62 = .ok (.aload_n 0, 1) := by decide +kernel
theorem dX1_isSame_63 : decode cX1_isSame 63 = .ok (.getfield 19, 3) := by decide +kernel
theorem dX1_isSame_66 : decode cX1_isSame 66 = .ok (.astore 9, 2) := by decide +kernel
theorem dX1_isSame_68 : decode cX1_isSame 68 = .ok (.aload 9, 2) := by decide +kernel
theorem dX1_isSame_70 : decode cX1_isSame 70 = .ok (.arraylength, 1) := by decide +kernel
theorem dX1_isSame_71 : decode cX1_isSame 71 = .ok (.istore 10, 2) := by decide +kernel
theorem dX1_isSame_73 : decode cX1_isSame 73 = .ok (.iconst 0, 1) := by decide +kernel
theorem dX1_isSame_74 : decode cX1_isSame 74 = .ok (.istore 11, 2) := by decide +kernel
theorem dX1_isSame_76 : decode cX1_isSame 76 = .ok (.iload 11, 2) := by decide +kernel
theorem dX1_isSame_78 : decode cX1_isSame 78 = .ok (.iload 10, 2) := by decide +kernel
theorem dX1_isSame_80 : decode cX1_isSame 80 = .ok (.if_icmp .ge 26, 3) := by decide +kernel
theorem dX1_isSame_83 : decode cX1_isSame 83 = .ok (.aload 9, 2) := by decide +kernel
theorem dX1_isSame_85 : decode cX1_isSame 85 = .ok (.iload 11, 2) := by decide +kernel
theorem dX1_isSame_87 : decode cX1_isSame 87 = .ok (.aaload, 1) := by decide +kernel
theorem dX1_isSame_88 : decode cX1_isSame 88 = .ok (.astore 12, 2) := by decide +kernel
theorem dX1_isSame_90 : decode cX1_isSame 90 = .ok (.iload 8, 2) := by decide +kernel
theorem dX1_isSame_92 : decode cX1_isSame 92 = .ok (.aload 12, 2) := by decide +kernel
theorem dX1_isSame_94 : decode cX1_isSame 94 = .ok (.iload 7, 2) := by decide +kernel
theorem dX1_isSame_96 : decode cX1_isSame 96 = .ok (.iaload, 1) := by decide +kernel
theorem dX1_isSame_97 : decode cX1_isSame 97 = .ok (.iadd, 1) := by decide +kernel
theorem dX1_isSame_98 : decode cX1_isSame 98 = .ok (.istore 8, 2) := by decide +kernel
theorem dX1_isSame_100 : decode cX1_isSame 100 = .ok (.iinc 11 1, 3) := by decide +kernel
theorem dX1_isSame_103 : decode cX1_isSame 103 = .ok (.goto (-27), 3) := by decide +kernel
theorem dX1_isSame_106 : decode cX1_isSame 106 = .ok (.aload_n 1, 1) := by decide +kernel
theorem dX1_isSame_107 : decode cX1_isSame 107 = .ok (.iload 7, 2) := by decide +kernel
theorem dX1_isSame_109 : decode cX1_isSame 109 = .ok (.invokevirtual 51, 3) := by decide +kernel
theorem dX1_isSame_112 : decode cX1_isSame 112 = .ok (.aload_n 0, 1) := by decide +kernel
theorem dX1_isSame_113 : decode cX1_isSame 113 = .ok (.getfield 9, 3) := by decide +kernel
theorem dX1_isSame_116 : decode cX1_isSame 116 = .ok (.iload 7, 2) := by decide +kernel
theorem dX1_isSame_118 : decode cX1_isSame 118 = .ok (.aaload, 1) := by decide +kernel
theorem dX1_isSame_119 : decode cX1_isSame 119 = .ok (.iconst 3, 1) := by decide +kernel
theorem dX1_isSame_120 : decode cX1_isSame 120 = .ok (.iaload, 1) := by decide +kernel
theorem dX1_isSame_121 : decode cX1_isSame 121 = .ok (.if_icmp .ne 77, 3) := by decide +kernel
theorem dX1_isSame_124 : decode cX1_isSame 124 = .ok (.aload_n 1, 1) := by decide +kernel
theorem dX1_isSame_125 : decode cX1_isSame 125 = .ok (.iload 7, 2) := by decide +kernel
theorem dX1_isSame_127 : decode cX1_isSame 127 = .ok (.invokevirtual 54, 3) := by decide +kernel
theorem dX1_isSame_130 : decode cX1_isSame 130 = .ok (.aload_n 0, 1) := by decide +kernel
theorem dX1_isSame_131 : decode cX1_isSame 131 = .ok (.iload 7, 2) := by decide +kernel
theorem dX1_isSame_133 : decode cX1_isSame 133 = .ok (.invokevirtual 22, 3) := by decide +kernel
theorem dX1_isSame_136 : decode cX1_isSame 136 = .ok (.if_icmp .ne 62, 3) := by decide +kernel
theorem dX1_isSame_139 : decode cX1_isSame 139 = .ok (.aload_n 1, 1) := by decide +kernel
theorem dX1_isSame_140 : decode cX1_isSame 140 = .ok (.iload 7, 2) := by decide +kernel
theorem dX1_isSame_142 : decode cX1_isSame 142 = .ok (.invokevirtual 57, 3) := by decide +kernel
theorem dX1_isSame_145 : decode cX1_isSame 145 = .ok (.aload_n 0, 1) := by decide +kernel
theorem dX1_isSame_146 : decode cX1_isSame 146 = .ok (.iload 7, 2) := by decide +kernel
theorem dX1_isSame_148 : decode cX1_isSame 148 = .ok (.invokevirtual 30, 3) := by decide +kernel
theorem dX1_isSame_151 : decode cX1_isSame 151 = .ok (.if_icmp .ne 47, 3) := by decide +kernel
theorem dX1_isSame_154 : decode cX1_isSame 154 = .ok (.aload_n 1, 1) := by decide +kernel
theorem dX1_isSame_155 : decode cX1_isSame 155 = .ok (.iload 7, 2) := by decide +kernel
theorem dX1_isSame_157 : decode cX1_isSame 157 = .ok (.invokevirtual 60, 3) := by decide +kernel
theorem dX1_isSame_160 : decode cX1_isSame 160 = .ok (.aload_n 0, 1) := by decide +kernel
theorem dX1_isSame_161 : decode cX1_isSame 161 = .ok (.iload 7, 2) := by decide +kernel
theorem dX1_isSame_163 : decode cX1_isSame 163 = .ok (.invokevirtual 63, 3) := by decide +kernel
theorem dX1_isSame_166 : decode cX1_isSame 166 = .ok (.if_icmp .ne 32, 3) := by decide +kernel
theorem dX1_isSame_169 : decode cX1_isSame 169 = .ok (.aload_n 1, 1) := by decide +kernel
theorem dX1_isSame_170 : decode cX1_isSame 170 = .ok (.iload 7, 2) := by decide +kernel
theorem dX1_isSame_172 : decode cX1_isSame 172 = .ok (.invokevirtual 66, 3) := by decide +kernel
theorem dX1_isSame_175 : decode cX1_isSame 175 = .ok (.aload_n 0, 1) := by decide +kernel
theorem dX1_isSame_176 : decode cX1_isSame 176 = .ok (.getfield 9, 3) := by decide +kernel
theorem dX1_isSame_179 : decode cX1_isSame 179 = .ok (.iload 7, 2) := by decide +kernel
theorem dX1_isSame_181 : decode cX1_isSame 181 = .ok (.aaload, 1) := by decide +kernel
theorem dX1_isSame_182 : decode cX1_isSame 182 = .ok (.iconst 4, 1) := by decide +kernel
theorem dX1_isSame_183 : decode cX1_isSame 183 = .ok (.iaload, 1) := by decide +kernel
theorem dX1_isSame_184 : decode cX1_isSame 184 = .ok (.if_icmp .ne 14, 3) := by decide +kernel
theorem dX1_isSame_187 : decode cX1_isSame 187 = .ok (.aload_n 1, 1) := by decide +kernel
theorem dX1_isSame_188 : decode cX1_isSame 188 = .ok (.iload 7, 2) := by decide +kernel
theorem dX1_isSame_190 : decode cX1_isSame 190 = .ok (.invokevirtual 69, 3) := by decide +kernel
theorem dX1_isSame_193 : decode cX1_isSame 193 = .ok (.iload 8, 2) := by decide +kernel
theorem dX1_isSame_195 : decode cX1_isSame 195 = .ok (.if_icmp .eq 5, 3) := by decide +kernel
theorem dX1_isSame_198 : decode cX1_isSame 198 = .ok (.iconst 0, 1) := by decide +kernel
theorem dX1_isSame_199 : decode cX1_isSame 199 = .ok (.ireturn, 1) := by decide +kernel
theorem dX1_isSame_200 : decode cX1_isSame 200 = .ok (.iload 4, 2) := by decide +kernel
theorem dX1_isSame_202 : decode cX1_isSame 202 = .ok (.ifCond .lt 18, 3) := by decide +kernel
theorem dX1_isSame_205 : decode cX1_isSame 205 = .ok (.aload_n 0, 1) := by decide +kernel
theorem dX1_isSame_206 : decode cX1_isSame 206 = .ok (.iload 7, 2) := by decide +kernel
theorem dX1_isSame_208 : decode cX1_isSame 208 = .ok (.invokevirtual 30, 3) := by decide +kernel
theorem dX1_isSame_211 : decode cX1_isSame 211 = .ok (.aload_n 0, 1) := by decide +kernel
theorem dX1_isSame_212 : decode cX1_isSame 212 = .ok (.iload 4, 2) := by decide +kernel
theorem dX1_isSame_214 : decode cX1_isSame 214 = .ok (.invokevirtual 30, 3) := by decide +kernel
theorem dX1_isSame_217 : decode cX1_isSame 217 = .ok (.if_icmp .le 7, 3) := by decide +kernel
theorem dX1_isSame_220 : decode cX1_isSame 220 = .ok (.iload 7, 2) := by decide +kernel
theorem dX1_isSame_222 : decode cX1_isSame 222 = .ok (.istore 4, 2) := by decide +kernel
theorem dX1_isSame_224 : decode cX1_isSame 224 = .ok (.iload 5, 2) := by decide +kernel
theorem dX1_isSame_226 : decode cX1_isSame 226 = .ok (.ifCond .lt 18, 3) := by decide +kernel
theorem dX1_isSame_229 : decode cX1_isSame 229 = .ok (.aload_n 0, 1) := by decide +kernel
theorem dX1_isSame_230 : decode cX1_isSame 230 = .ok (.iload 7, 2) := by decide +kernel
theorem dX1_isSame_232 : decode cX1_isSame 232 = .ok (.invokevirtual 63, 3) := by decide +kernel
theorem dX1_isSame_235 : decode cX1_isSame 235 = .ok (.aload_n 0, 1) := by decide +kernel
theorem dX1_isSame_236 : decode cX1_isSame 236 = .ok (.iload 5, 2) := by decide +kernel
theorem dX1_isSame_238 : decode cX1_isSame 238 = .ok (.invokevirtual 63, 3) := by decide +kernel
theorem dX1_isSame_241 : decode cX1_isSame 241 = .ok (.if_icmp .ge 7, 3) := by decide +kernel
theorem dX1_isSame_244 : decode cX1_isSame 244 = .ok (.iload 7, 2) := by decide +kernel
theorem dX1_isSame_246 : decode cX1_isSame 246 = .ok (.istore 5, 2) := by decide +kernel
theorem dX1_isSame_248 : decode cX1_isSame 248 = .ok (.iload 6, 2) := by decide +kernel
theorem dX1_isSame_250 : decode cX1_isSame 250 = .ok (.aload_n 0, 1) := by decide +kernel
theorem dX1_isSame_251 : decode cX1_isSame 251 = .ok (.iload 7, 2) := by decide +kernel
theorem dX1_isSame_253 : decode cX1_isSame 253 = .ok (.invokevirtual 30, 3) := by decide +kernel
theorem dX1_isSame_256 : decode cX1_isSame 256 = .ok (.iadd, 1) := by decide +kernel
theorem dX1_isSame_257 : decode cX1_isSame 257 = .ok (.istore 6, 2) := by decide +kernel
theorem dX1_isSame_259 : decode cX1_isSame 259 = .ok (.iinc 7 1, 3) := by decide +kernel
theorem dX1_isSame_262 : decode cX1_isSame 262 = .ok (.goto (-209), 3) := by decide +kernel
theorem dX1_isSame_265 : decode cX1_isSame 265 = .ok (.iconst (-1), 1) := by decide +kernel
theorem dX1_isSame_266 : decode cX1_isSame 266 = .ok (.istore 7, 2) := by decide +kernel
theorem dX1_isSame_268 : decode cX1_isSame 268 = .ok (.iconst 0, 1) := by decide +kernel
theorem dX1_isSame_269 : decode cX1_isSame 269 = .ok (.istore 8, 2) := by decide +kernel
theorem dX1_isSame_271 : decode cX1_isSame 271 = .ok (.iconst 0, 1) := by decide +kernel
theorem dX1_isSame_272 : decode cX1_isSame 272 = .ok (.istore 9, 2) := by decide +kernel
theorem dX1_isSame_274 : decode cX1_isSame 274 = .ok (.iload 9, 2) := by decide +kernel
theorem dX1_isSame_276 : decode cX1_isSame 276 = .ok (.iload_n 3, 1) := by decide +kernel
theorem dX1_isSame_277 : decode cX1_isSame 277 = .ok (.if_icmp .ge 161, 3) := by decide +kernel
theorem dX1_isSame_280 : decode cX1_isSame 280 = .ok (.iconst 0, 1) := by decide +kernel
theorem dX1_isSame_281 : decode cX1_isSame 281 = .ok (.istore 10, 2) := by decide +kernel
theorem dX1_isSame_283 : decode cX1_isSame 283 = .ok (.iconst 0, 1) := by decide +kernel
theorem dX1_isSame_284 : decode cX1_isSame 284 = .ok (.istore 11, 2) := by decide +kernel
theorem dX1_isSame_286 : decode cX1_isSame 286 = .ok (.iload 11, 2) := by decide +kernel
theorem dX1_isSame_288 : decode cX1_isSame 288 = .ok (.iload_n 2, 1) := by decide +kernel
theorem dX1_isSame_289 : decode cX1_isSame 289 = .ok (.if_icmp .ge 55, 3) := by decide +kernel
theorem dX1_isSame_292 : decode cX1_isSame 292 = .ok (.iload 10, 2) := by decide +kernel
theorem dX1_isSame_294 : decode cX1_isSame 294 = .ok (.aload_n 0, 1) := by decide +kernel
theorem dX1_isSame_295 : decode cX1_isSame 295 = .ok (.getfield 19, 3) := by decide +kernel
theorem dX1_isSame_298 : decode cX1_isSame 298 = .ok (.iload 9, 2) := by decide +kernel
theorem dX1_isSame_300 : decode cX1_isSame 300 = .ok (.aaload, 1) := by decide +kernel
theorem dX1_isSame_301 : decode cX1_isSame 301 = .ok (.iload 11, 2) := by decide +kernel
theorem dX1_isSame_303 : decode cX1_isSame 303 = .ok (.iaload, 1) := by decide +kernel
theorem dX1_isSame_304 : decode cX1_isSame 304 = .ok (.ifCond .ge 7, 3) := by decide +kernel
theorem dX1_isSame_307 : decode cX1_isSame 307 = .ok (.iconst 1, 1) := by decide +kernel
theorem dX1_isSame_308 : decode cX1_isSame 308 = .ok (.goto 4, 3) := by decide +kernel
theorem dX1_isSame_311 : decode cX1_isSame 311 = .ok (.iconst 0, 1) := by decide +kernel
theorem dX1_isSame_312 : decode cX1_isSame 312 = .ok (.iadd, 1) := by decide +kernel
theorem dX1_isSame_313 : decode cX1_isSame 313 = .ok (.istore 10, 2) := by decide +kernel
theorem dX1_isSame_315 : decode cX1_isSame 315 = .ok (.aload_n 1, 1) := by decide +kernel
theorem dX1_isSame_316 : decode cX1_isSame 316 = .ok (.iload 9, 2) := by decide +kernel
theorem dX1_isSame_318 : decode cX1_isSame 318 = .ok (.iload 11, 2) := by decide +kernel
theorem dX1_isSame_320 : decode cX1_isSame 320 = .ok (.invokevirtual 72, 3) := by decide +kernel
theorem dX1_isSame_323 : decode cX1_isSame 323 = .ok (.aload_n 0, 1) := by decide +kernel
theorem dX1_isSame_324 : decode cX1_isSame 324 = .ok (.getfield 19, 3) := by decide +kernel
theorem dX1_isSame_327 : decode cX1_isSame 327 = .ok (.iload 9, 2) := by decide +kernel
theorem dX1_isSame_329 : decode cX1_isSame 329 = .ok (.aaload, 1) := by decide +kernel
theorem dX1_isSame_330 : decode cX1_isSame 330 = .ok (.iload 11, 2) := by decide +kernel
theorem dX1_isSame_332 : decode cX1_isSame 332 = .ok (.iaload, 1) := by decide +kernel
theorem dX1_isSame_333 : decode cX1_isSame 333 = .ok (.if_icmp .eq 5, 3) := by decide +kernel
theorem dX1_isSame_336 : decode cX1_isSame 336 = .ok (.iconst 0, 1) := by decide +kernel
theorem dX1_isSame_337 : decode cX1_isSame 337 = .ok (.ireturn, 1) := by decide +kernel
theorem dX1_isSame_338 : decode cX1_isSame 338 = .ok (.iinc 11 1, 3) := by decide +kernel
theorem dX1_isSame_341 : decode cX1_isSame 341 = .ok (.goto (-55), 3) := by decide +kernel
theorem dX1_isSame_344 : decode cX1_isSame 344 = .ok (.iload 8, 2) := by decide +kernel
theorem dX1_isSame_346 : decode cX1_isSame 346 = .ok (.aload_n 0, 1) := by decide +kernel
theorem dX1_isSame_347 : decode cX1_isSame 347 = .ok (.getfield 15, 3) := by decide +kernel
theorem dX1_isSame_350 : decode cX1_isSame 350 = .ok (.iload 9, 2) := by decide +kernel
theorem dX1_isSame_352 : decode cX1_isSame 352 = .ok (.iaload, 1) := by decide +kernel
theorem dX1_isSame_353 : decode cX1_isSame 353 = .ok (.ifCond .ge 7, 3) := by decide +kernel
theorem dX1_isSame_356 : decode cX1_isSame 356 = .ok (.iconst 1, 1) := by decide +kernel
theorem dX1_isSame_357 : decode cX1_isSame 357 = .ok (.goto 4, 3) := by decide +kernel
theorem dX1_isSame_360 : decode cX1_isSame 360 = .ok (.iconst 0, 1) := by decide +kernel
theorem dX1_isSame_361 : decode cX1_isSame 361 = .ok (.iadd, 1) := by decide +kernel
theorem dX1_isSame_362 : decode cX1_isSame 362 = .ok (.istore 8, 2) := by decide +kernel
theorem dX1_isSame_364 : decode cX1_isSame 364 = .ok (.iload 7, 2) := by decide +kernel
theorem dX1_isSame_366 : decode cX1_isSame 366 = .ok (.ifCond .lt 18, 3) := by decide +kernel
theorem dX1_isSame_369 : decode cX1_isSame 369 = .ok (.aload_n 0, 1) := by decide +kernel
theorem dX1_isSame_370 : decode cX1_isSame 370 = .ok (.iload 9, 2) := by decide +kernel
theorem dX1_isSame_372 : decode cX1_isSame 372 = .ok (.invokevirtual 76, 3) := by decide +kernel
theorem dX1_isSame_375 : decode cX1_isSame 375 = .ok (.aload_n 0, 1) := by decide +kernel
theorem dX1_isSame_376 : decode cX1_isSame 376 = .ok (.iload 7, 2) := by decide +kernel
theorem dX1_isSame_378 : decode cX1_isSame 378 = .ok (.invokevirtual 76, 3) := by decide +kernel
theorem dX1_isSame_381 : decode cX1_isSame 381 = .ok (.if_icmp .le 7, 3) := by decide +kernel
theorem dX1_isSame_384 : decode cX1_isSame 384 = .ok (.iload 9, 2) := by decide +kernel
theorem dX1_isSame_386 : decode cX1_isSame 386 = .ok (.istore 7, 2) := by decide +kernel
theorem dX1_isSame_388 : decode cX1_isSame 388 = .ok (.aload_n 1, 1) := by decide +kernel
theorem dX1_isSame_389 : decode cX1_isSame 389 = .ok (.iload 9, 2) := by decide +kernel
theorem dX1_isSame_391 : decode cX1_isSame 391 = .ok (.invokevirtual 79, 3) := by decide +kernel
theorem dX1_isSame_394 : decode cX1_isSame 394 = .ok (.aload_n 0, 1) := by decide +kernel
theorem dX1_isSame_395 : decode cX1_isSame 395 = .ok (.getfield 15, 3) := by decide +kernel
theorem dX1_isSame_398 : decode cX1_isSame 398 = .ok (.iload 9, 2) := by decide +kernel
theorem dX1_isSame_400 : decode cX1_isSame 400 = .ok (.iaload, 1) := by decide +kernel
theorem dX1_isSame_401 : decode cX1_isSame 401 = .ok (.if_icmp .ne 29, 3) := by decide +kernel
theorem dX1_isSame_404 : decode cX1_isSame 404 = .ok (.aload_n 1, 1) := by decide +kernel
theorem dX1_isSame_405 : decode cX1_isSame 405 = .ok (.iload 9, 2) := by decide +kernel
theorem dX1_isSame_407 : decode cX1_isSame 407 = .ok (.invokevirtual 82, 3) := by decide +kernel
theorem dX1_isSame_410 : decode cX1_isSame 410 = .ok (.aload_n 0, 1) := by decide +kernel
theorem dX1_isSame_411 : decode cX1_isSame 411 = .ok (.iload 9, 2) := by decide +kernel
theorem dX1_isSame_413 : decode cX1_isSame 413 = .ok (.invokevirtual 76, 3) := by decide +kernel
theorem dX1_isSame_416 : decode cX1_isSame 416 = .ok (.if_icmp .ne 14, 3) := by decide +kernel
theorem dX1_isSame_419 : decode cX1_isSame 419 = .ok (.aload_n 1, 1) := by decide +kernel
theorem dX1_isSame_420 : decode cX1_isSame 420 = .ok (.iload 9, 2) := by decide +kernel
theorem dX1_isSame_422 : decode cX1_isSame 422 = .ok (.invokevirtual 85, 3) := by decide +kernel
theorem dX1_isSame_425 : decode cX1_isSame 425 = .ok (.iload 10, 2) := by decide +kernel
theorem dX1_isSame_427 : decode cX1_isSame 427 = .ok (.if_icmp .eq 5, 3) := by decide +kernel
theorem dX1_isSame_430 : decode cX1_isSame 430 = .ok (.iconst 0, 1) := by decide +kernel
theorem dX1_isSame_431 : decode cX1_isSame 431 = .ok (.ireturn, 1) := by decide +kernel
theorem dX1_isSame_432 : decode cX1_isSame 432 = .ok (.iinc 9 1, 3) := by decide +kernel
theorem dX1_isSame_435 : decode cX1_isSame 435 = .ok (.goto (-161), 3) := by decide +kernel
theorem dX1_isSame_438 : decode cX1_isSame 438 = .ok (.aload_n 1, 1) := by decide +kernel
theorem dX1_isSame_439 : decode cX1_isSame 439 = .ok (.invokevirtual 88, 3) := by decide +kernel
theorem dX1_isSame_442 : decode cX1_isSame 442 = .ok (.iload 4, 2) := by decide +kernel
theorem dX1_isSame_444 : decode cX1_isSame 444 = .ok (.if_icmp .ne 56, 3) := by decide +kernel
theorem dX1_isSame_447 : decode cX1_isSame 447 = .ok (.aload_n 1, 1) := by decide +kernel
theorem dX1_isSame_448 : decode cX1_isSame 448 = .ok (.invokevirtual 91, 3) := by decide +kernel
theorem dX1_isSame_451 : decode cX1_isSame 451 = .ok (.iload 5, 2) := by decide +kernel
theorem dX1_isSame_453 : decode cX1_isSame 453 = .ok (.if_icmp .ne 47, 3) := by decide +kernel
theorem dX1_isSame_456 : decode cX1_isSame 456 = .ok (.aload_n 1, 1) := by decide +kernel
theorem dX1_isSame_457 : decode cX1_isSame 457 = .ok (.invokevirtual 94, 3) := by decide +kernel
theorem dX1_isSame_460 : decode cX1_isSame 460 = .ok (.iload 7, 2) := by decide +kernel
theorem dX1_isSame_462 : decode cX1_isSame 462 = .ok (.if_icmp .ne 38, 3) := by decide +kernel
theorem dX1_isSame_465 : decode cX1_isSame 465 = .ok (.aload_n 1, 1) := by decide +kernel
theorem dX1_isSame_466 : decode cX1_isSame 466 = .ok (.invokevirtual 97, 3) := by decide +kernel
theorem dX1_isSame_469 : decode cX1_isSame 469 = .ok (.iload 8, 2) := by decide +kernel
theorem dX1_isSame_471 : decode cX1_isSame 471 = .ok (.if_icmp .ne 29, 3) := by decide +kernel
theorem dX1_isSame_474 : decode cX1_isSame 474 = .ok (.aload_n 1, 1) := by decide +kernel
theorem dX1_isSame_475 : decode cX1_isSame 475 = .ok (.invokevirtual 100, 3) := by decide +kernel
theorem dX1_isSame_478 : decode cX1_isSame 478 = .ok (.iload_n 2, 1) := by decide +kernel
theorem dX1_isSame_479 : decode cX1_isSame 479 = .ok (.ifCond .ne 7, 3) := by decide +kernel
theorem dX1_isSame_482 : decode cX1_isSame 482 = .ok (.dconst 0, 1) := by decide +kernel
theorem dX1_isSame_483 : decode cX1_isSame 483 = .ok (.goto 9, 3) := by decide +kernel
theorem dX1_isSame_486 : decode cX1_isSame 486 = .ok (.iload 6, 2) := by decide +kernel
theorem dX1_isSame_488 : decode cX1_isSame 488 = .ok (.i2d, 1) := by decide +kernel
theorem dX1_isSame_489 : decode cX1_isSame 489 = .ok (.iload_n 2, 1) := by decide +kernel
theorem dX1_isSame_490 : decode cX1_isSame 490 = .ok (.i2d, 1) := by decide +kernel
theorem dX1_isSame_491 : decode cX1_isSame 491 = .ok (.ddiv, 1) := by decide +kernel
theorem dX1_isSame_492 : decode cX1_isSame 492 = .ok (.dcmp .l, 1) := by decide +kernel
theorem dX1_isSame_493 : decode cX1_isSame 493 = .ok (.ifCond .ne 7, 3) := by decide +kernel
theorem dX1_isSame_496 : decode cX1_isSame 496 = .ok (.iconst 1, 1) := by decide +kernel
theorem dX1_isSame_497 : decode cX1_isSame 497 = .ok (.goto 4, 3) := by decide +kernel
theorem dX1_isSame_500 : decode cX1_isSame 500 = .ok (.iconst 0, 1) := by decide +kernel
theorem dX1_isSame_501 : decode cX1_isSame 501 = .ok (.ireturn, 1) := by decide +kernel
theorem dJ9_floorMod_7cf53_0 : decode cJ9_floorMod_7cf53 0 = .ok (.iload_n 0, 1) := by decide +kernel
theorem dJ9_floorMod_7cf53_1 : decode cJ9_floorMod_7cf53 1 = .ok (.iload_n 1, 1) := by decide +kernel
theorem dJ9_floorMod_7cf53_2 : decode cJ9_floorMod_7cf53 2 = .ok (.irem, 1) := by decide +kernel
theorem dJ9_floorMod_7cf53_3 : decode cJ9_floorMod_7cf53 3 = .ok (.istore_n 2, 1) := by decide +kernel
theorem dJ9_floorMod_7cf53_4 : decode cJ9_floorMod_7cf53 4 = .ok (.iload_n 0, 1) := by decide +kernel
theorem dJ9_floorMod_7cf53_5 : decode cJ9_floorMod_7cf53 5 = .ok (.iload_n 1, 1) := by decide +kernel
theorem dJ9_floorMod_7cf53_6 : decode cJ9_floorMod_7cf53 6 = .ok (.ixor, 1) := by decide +kernel
theorem dJ9_floorMod_7cf53_7 : decode cJ9_floorMod_7cf53 7 = .ok (.ifCond .ge 11, 3) := by decide +kernel
theorem dJ9_floorMod_7cf53_10 : decode cJ9_floorMod_7cf53 10 = .ok (.iload_n 2, 1) := by decide +kernel
theorem dJ9_floorMod_7cf53_11 : decode cJ9_floorMod_7cf53 11 = .ok (.ifCond .eq 7, 3) := by decide +kernel
theorem dJ9_floorMod_7cf53_14 : decode cJ9_floorMod_7cf53 14 = .ok (.iload_n 2, 1) := by decide +kernel
theorem dJ9_floorMod_7cf53_15 : decode cJ9_floorMod_7cf53 15 = .ok (.iload_n 1, 1) := by decide +kernel
theorem dJ9_floorMod_7cf53_16 : decode cJ9_floorMod_7cf53 16 = .ok (.iadd, 1) := by decide +kernel
theorem dJ9_floorMod_7cf53_17 : decode cJ9_floorMod_7cf53 17 = .ok (.ireturn, 1) := by decide +kernel
theorem dJ9_floorMod_7cf53_18 : decode cJ9_floorMod_7cf53 18 = .ok (.iload_n 2, 1) := by decide +kernel
theorem dJ9_floorMod_7cf53_19 : decode cJ9_floorMod_7cf53 19 = .ok (.ireturn, 1) := by decide +kernel
theorem dJ9_max_7cf53_0 : decode cJ9_max_7cf53 0 = .ok (.iload_n 0, 1) := by decide +kernel
theorem dJ9_max_7cf53_1 : decode cJ9_max_7cf53 1 = .ok (.iload_n 1, 1) := by decide +kernel
theorem dJ9_max_7cf53_2 : decode cJ9_max_7cf53 2 = .ok (.if_icmp .lt 7, 3) := by decide +kernel
theorem dJ9_max_7cf53_5 : decode cJ9_max_7cf53 5 = .ok (.iload_n 0, 1) := by decide +kernel
theorem dJ9_max_7cf53_6 : decode cJ9_max_7cf53 6 = .ok (.goto 4, 3) := by decide +kernel
theorem dJ9_max_7cf53_9 : decode cJ9_max_7cf53 9 = .ok (.iload_n 1, 1) := by decide +kernel
theorem dJ9_max_7cf53_10 : decode cJ9_max_7cf53 10 = .ok (.ireturn, 1) := by decide +kernel
theorem dJ9_min_7cf53_0 : decode cJ9_min_7cf53 0 = .ok (.iload_n 0, 1) := by decide +kernel
theorem dJ9_min_7cf53_1 : decode cJ9_min_7cf53 1 = .ok (.iload_n 1, 1) := by decide +kernel
theorem dJ9_min_7cf53_2 : decode cJ9_min_7cf53 2 = .ok (.if_icmp .gt 7, 3) := by decide +kernel
theorem dJ9_min_7cf53_5 : decode cJ9_min_7cf53 5 = .ok (.iload_n 0, 1) := by decide +kernel
theorem dJ9_min_7cf53_6 : decode cJ9_min_7cf53 6 = .ok (.goto 4, 3) := by decide +kernel
theorem dJ9_min_7cf53_9 : decode cJ9_min_7cf53 9 = .ok (.iload_n 1, 1) := by decide +kernel
theorem dJ9_min_7cf53_10 : decode cJ9_min_7cf53 10 = .ok (.ireturn, 1) := by decide +kernel
end
section
/-! ===== my own words for the two objects' cells, and one row an instruction over them ===== -/
/-- what an object holds: row k, place j -/
abbrev bS : Type := Nat → Nat → Int32
def up2 (S : bS) (k j : Nat) (v : Int32) : bS := fun k' => if k' = k then upd (S k') j v else S k'
/-- BellHush: rows 0 loudness, 1 period, 2 silence, 3 untilStroke, 4 strokes, 5 purse, 6 the numbers second, towerCount, traderCount, 7 + r what trader r holds; a 13 is the object -/
abbrev vwB (cI cQ : ClassId) (a : Nat → Nat) (S : bS) : va_W := [(a 13, .inr (0, [.ref (a 0), .ref (a 1), .ref (a 2), .ref (a 3), .ref (a 4), .ref (a 5), .ref (a 6), .int (S 6 0), .int (S 6 1), .int (S 6 2)])), (a 0, .inl (cI, 8, .inl (S 0))), (a 1, .inl (cI, 8, .inl (S 1))), (a 2, .inl (cI, 8, .inl (S 2))), (a 3, .inl (cI, 8, .inl (S 3))), (a 4, .inl (cI, 8, .inl (S 4))), (a 5, .inl (cI, 6, .inl (S 5))), (a 6, .inl (cQ, 6, .inr (.inr (.inr (.inr (fun i => if i < 6 then some (a (7 + i)) else none)))))), (a 7, .inl (cI, 8, .inl (S 7))), (a 8, .inl (cI, 8, .inl (S 8))), (a 9, .inl (cI, 8, .inl (S 9))), (a 10, .inl (cI, 8, .inl (S 10))), (a 11, .inl (cI, 8, .inl (S 11))), (a 12, .inl (cI, 8, .inl (S 12)))]
abbrev tyB (cI cQ : ClassId) : List (ClassId × FieldType) := [(cI, .int), (cQ, .array .int)]
def BW (D : va_G) (cI cQ : ClassId) (a : Nat → Nat) (S : bS) (U : State) (H : Heap) : Prop := va_K D vwCl (tyB cI cQ) U ∧ va_P D vwCl (vwB cI cQ a S) H ∧ ∀ i j : Nat, i < 14 → j < 14 → a i = a j → i = j
def inB (a : Nat → Nat) : Nat → Prop := fun q => ∃ k : Nat, k < 14 ∧ q = a k
theorem up2_eq (S : bS) (k j : Nat) (v : Int32) : up2 S k j v k j = v := by simp [up2, upd]
theorem up2_ne (S : bS) {k j k' j' : Nat} (v : Int32) (h : k' ≠ k ∨ j' ≠ j) : up2 S k j v k' j' = S k' j' := by
  unfold up2 upd
  by_cases h1 : k' = k
  · rcases h with h | h
    · exact absurd h1 h
    · rw [if_pos h1, if_neg h]
  · rw [if_neg h1]
theorem vwB_at {cI cQ : ClassId} {a : Nat → Nat} {S : bS} : ∀ (i : Nat) (q : Nat × va_E), (vwB cI cQ a S)[i]? = some q → i < 14 ∧ q.1 = a ((i + 13) % 14)
  | 0, q, h => by cases h; exact ⟨by decide, rfl⟩
  | 1, q, h => by cases h; exact ⟨by decide, rfl⟩
  | 2, q, h => by cases h; exact ⟨by decide, rfl⟩
  | 3, q, h => by cases h; exact ⟨by decide, rfl⟩
  | 4, q, h => by cases h; exact ⟨by decide, rfl⟩
  | 5, q, h => by cases h; exact ⟨by decide, rfl⟩
  | 6, q, h => by cases h; exact ⟨by decide, rfl⟩
  | 7, q, h => by cases h; exact ⟨by decide, rfl⟩
  | 8, q, h => by cases h; exact ⟨by decide, rfl⟩
  | 9, q, h => by cases h; exact ⟨by decide, rfl⟩
  | 10, q, h => by cases h; exact ⟨by decide, rfl⟩
  | 11, q, h => by cases h; exact ⟨by decide, rfl⟩
  | 12, q, h => by cases h; exact ⟨by decide, rfl⟩
  | 13, q, h => by cases h; exact ⟨by decide, rfl⟩
  | i + 14, q, h => by simp at h
theorem BW.D {D : va_G} {cI cQ : ClassId} {a : Nat → Nat} {S : bS} {U : State} {H : Heap} (h : BW D cI cQ a S U H) : va_D (inB a) (vwB cI cQ a S) := by
  refine ⟨fun i j p q hi hj hpq => ?_, fun k q hk => ?_⟩
  · obtain ⟨h1, h2⟩ := vwB_at i p hi
    obtain ⟨h3, h4⟩ := vwB_at j q hj
    have h5 := h.2.2 ((i + 13) % 14) ((j + 13) % 14) (Nat.mod_lt _ (by decide)) (Nat.mod_lt _ (by decide)) (by rw [← h2, ← h4]; exact hpq)
    omega
  · obtain ⟨h1, h2⟩ := vwB_at k q hk
    exact ⟨_, Nat.mod_lt _ (by decide), h2⟩
theorem vwB_row {cI cQ : ClassId} {a : Nat → Nat} {S : bS} : ∀ r : Nat, r < 6 → (vwB cI cQ a S)[8 + r]? = some (a (7 + r), .inl (cI, 8, .inl (S (7 + r))))
  | 0, _ => rfl
  | 1, _ => rfl
  | 2, _ => rfl
  | 3, _ => rfl
  | 4, _ => rfl
  | 5, _ => rfl
  | r + 6, h => absurd h (by omega)
theorem vwB_setrow {cI cQ : ClassId} {a : Nat → Nat} {S : bS} {j : Nat} {x : Int32} : ∀ r : Nat, r < 6 → (vwB cI cQ a S).set (8 + r) (a (7 + r), .inl (cI, 8, .inl (upd (S (7 + r)) j x))) = vwB cI cQ a (up2 S (7 + r) j x)
  | 0, _ => rfl
  | 1, _ => rfl
  | 2, _ => rfl
  | 3, _ => rfl
  | 4, _ => rfl
  | 5, _ => rfl
  | r + 6, h => absurd h (by omega)
theorem BW.moved {D : va_G} {cI cQ : ClassId} {a : Nat → Nat} {S : bS} {u U : State} {H : Heap} (hvm : u.vm.Alike U.vm) (h : BW D cI cQ a S u H) : BW D cI cQ a S U H := ⟨va_K.moved hvm h.1, h.2⟩
theorem BW.kept {D : va_G} {cI cQ : ClassId} {a : Nat → Nat} {S : bS} {U : State} {H H1 : Heap} (h : BW D cI cQ a S U H) (hq : ∀ k : Nat, k < 14 → H1[a k]? = H[a k]?) : BW D cI cQ a S U H1 := ⟨h.1, h.2.1.kept (fun k q hk => by obtain ⟨-, h2⟩ := vwB_at k q hk; rw [h2]; exact hq _ (Nat.mod_lt _ (by decide))), h.2.2⟩
theorem BW.lt {D : va_G} {cI cQ : ClassId} {a : Nat → Nat} {S : bS} {U : State} {H : Heap} (h : BW D cI cQ a S U H) : ∀ k : Nat, k < 14 → a k < H.size := by
  intro k hk
  have hl : ((k + 1) % 14) < (vwB cI cQ a S).length := by show _ < 14; omega
  have h1 := h.2.1 ((k + 1) % 14) _ (List.getElem?_eq_getElem hl)
  have h2 := (vwB_at ((k + 1) % 14) _ (List.getElem?_eq_getElem hl)).2
  have h3 := h1.lt
  rw [h2, show ((k + 1) % 14 + 13) % 14 = k by omega] at h3
  exact h3
theorem nI_0' : (0 : Int32) = nI 0 := nI_0.symm
theorem nadd {x y : Int32} {i j : Nat} (hx : x = nI i) (hy : y = nI j) : x + y = nI (i + j) := by rw [hx, hy, nI_add]
theorem nmul {x y : Int32} {i j : Nat} (hx : x = nI i) (hy : y = nI j) : x * y = nI (i * j) := by rw [hx, hy, pk_mul]
theorem ninc (i : Nat) : nI i + Int32.ofInt 1 = nI (i + 1) := nI_1 i
theorem ncl {i : Nat} (h : i < 8) : (nI i).toNatClampNeg = i := nI_clamp (by omega)
theorem nin {i n : Nat} (h : i < n) (hn : n ≤ 71) : vp_in (nI i) n := vp_in_nI h (by omega)
theorem good_all : wsL_law.all goodWord = true := by decide +kernel
theorem good_in {ws : List Cond} (h : ∀ w ∈ ws, w ∈ wsL_law) : GoodIn wsL_law ws := fun w hw => ⟨h w hw, good_of_word (List.all_eq_true.mp good_all w (h w hw))⟩
/-- the words of a method: its own code, and all words -/
abbrev wq (y : MethodName) (bytes : ByteArray) (n : Nat) (ret : Option FieldType) : List Cond := .code y bytes n ret :: wsL_law
theorem good_V {own C : String} {idx n : Nat} {y : MethodName} {bytes : ByteArray} {ret : Option FieldType} (h1 : Cond.methodLink own idx y ∈ wsL_law) (h2 : Cond.instanceMethod y ∈ wsL_law) (h3 : Cond.selects C y y ∈ wsL_law) (h4 : Cond.initialized C ∈ wsL_law) (h5 : Cond.code y bytes n ret ∈ wsL_law) : GoodIn wsL_law (wsV own idx C y (wq y bytes n ret)) := by
  refine good_in fun w hw => ?_
  simp only [wsV, wq, List.cons_append, List.nil_append, List.mem_cons] at hw
  rcases hw with rfl | rfl | rfl | rfl | rfl | h
  · exact h1
  · exact h2
  · exact h3
  · exact h4
  · exact h5
  · exact h
theorem good_S {own : String} {idx n : Nat} {y : MethodName} {bytes : ByteArray} {ret : Option FieldType} (h1 : Cond.methodLink own idx y ∈ wsL_law) (h2 : Cond.static y ∈ wsL_law) (h4 : Cond.initialized y.cls ∈ wsL_law) (h5 : Cond.code y bytes n ret ∈ wsL_law) : GoodIn wsL_law (va_wsS own idx y (wq y bytes n ret)) := by
  refine good_in fun w hw => ?_
  simp only [va_wsS, wq, List.cons_append, List.nil_append, List.mem_cons] at hw
  rcases hw with rfl | rfl | rfl | rfl | h
  · exact h1
  · exact h2
  · exact h4
  · exact h5
  · exact h
/-- a method that returns v and changes nothing -/
def Rd (l : Launch) (y : MethodName) (bytes : ByteArray) (n : Nat) (ret : Option FieldType) (rm : Room) (Wd : State → Heap → Prop) (As : List Value) (v : Value) : Prop := Met l y (wq y bytes n ret) rm (va_Pc As (fun U => Wd U U.heap)) (k2_QcV v) 0 0 (fun _ => False)
/-- a method that returns nothing and changes nothing -/
def Rn (l : Launch) (y : MethodName) (bytes : ByteArray) (n : Nat) (ret : Option FieldType) (rm : Room) (Wd : State → Heap → Prop) (As : List Value) : Prop := Met l y (wq y bytes n ret) rm (va_Pc As (fun U => Wd U U.heap)) (va_Sv (fun _ => True)) 0 0 (fun _ => False)
/-- a method that returns v and leaves the world Wd', changing cells of A alone -/
def qW (v : Option Value) (Wd : State → Heap → Prop) (A : Nat → Prop) : Array Value → State → Outcome → State → Prop := fun _ st oc t => oc = .returned v ∧ Wd t t.heap ∧ va_F A st t
def Wr (l : Launch) (y : MethodName) (bytes : ByteArray) (n : Nat) (ret : Option FieldType) (rm : Room) (Wd Wd' : State → Heap → Prop) (A : Nat → Prop) (As : List Value) (v : Option Value) (mc ms : Nat) : Prop := Met l y (wq y bytes n ret) rm (va_Pc As (fun U => Wd U U.heap)) (qW v Wd' A) mc ms A
/-- a world that a table's warming doesn't change -/
def Mov (Wd : State → Heap → Prop) : Prop := ∀ (u U : State) (H : Heap), u.vm.Alike U.vm → Wd u H → Wd U H
theorem mov_B {D : va_G} {cI cQ : ClassId} {a : Nat → Nat} {S : bS} : Mov (BW D cI cQ a S) := fun _ _ _ hvm h => h.moved hvm
theorem mov_T : Mov (fun _ _ => True) := fun _ _ _ _ _ => trivial
theorem blind {Wd : State → Heap → Prop} {As : List Value} (hm : Mov Wd) : FrameBlind (va_Pc As (fun U => Wd U U.heap)) := fun a U g mk h => ⟨h.1, hm U (U.calling g mk a) U.heap (Vm.Alike.refl U.vm) h.2⟩
theorem Rd.of {l : Launch} {y : MethodName} {bytes : ByteArray} {n : Nat} {ret : Option FieldType} {rm : Room} {Wd : State → Heap → Prop} {As : List Value} {v : Value} (hy : plainName y.cls = true) (hn : (lg_sl As).length ≤ n)
    (body : ∀ (p : Program) (e : Env) (s : State) (m : MethodId) (args : Array Value) (below : List Frame) (meth : Method) (c : Code) (ls : Array Slot), CallFix p m c bytes n s args wsL_law y.cls → meth.sig.returnType = ret → meth.locks = false → Wd s s.heap → lv_has ls n (lv_args 0 As) →
      W p l e rm s m args below meth c s.heap [] 0 0 (MQ below (k2_QcV v) args s 0 0 (fun _ => False)) (F0 m 0 ls [])) : Rd l y bytes n ret rm Wd As v := by
  refine Met.ofW (cc := bytes) (maxL := n) (ret := ret) hy rfl ?_
  intro p e s m args below meth c s₁ B hml hv
  obtain ⟨rfl, hw⟩ := hv
  have hl := lv_entry As (n := n) hn
  rw [lg_entry_eq]
  exact body p e s m _ below meth c _ ⟨B.exec, B.bytes, hml, findClass_of_methodNamed B.named, fun w h => atoms_spec (ws := wq y bytes n ret) B.pre w (List.mem_cons_of_mem _ h)⟩ B.returns B.notSynchronized hw hl
theorem Rn.of {l : Launch} {y : MethodName} {bytes : ByteArray} {n : Nat} {ret : Option FieldType} {rm : Room} {Wd : State → Heap → Prop} {As : List Value} (hy : plainName y.cls = true) (hn : (lg_sl As).length ≤ n)
    (body : ∀ (p : Program) (e : Env) (s : State) (m : MethodId) (args : Array Value) (below : List Frame) (meth : Method) (c : Code) (ls : Array Slot), CallFix p m c bytes n s args wsL_law y.cls → meth.sig.returnType = ret → meth.locks = false → Wd s s.heap → lv_has ls n (lv_args 0 As) →
      W p l e rm s m args below meth c s.heap [] 0 0 (MQ below (va_Sv (fun _ => True)) args s 0 0 (fun _ => False)) (F0 m 0 ls [])) : Rn l y bytes n ret rm Wd As := by
  refine Met.ofW (cc := bytes) (maxL := n) (ret := ret) hy rfl ?_
  intro p e s m args below meth c s₁ B hml hv
  obtain ⟨rfl, hw⟩ := hv
  have hl := lv_entry As (n := n) hn
  rw [lg_entry_eq]
  exact body p e s m _ below meth c _ ⟨B.exec, B.bytes, hml, findClass_of_methodNamed B.named, fun w h => atoms_spec (ws := wq y bytes n ret) B.pre w (List.mem_cons_of_mem _ h)⟩ B.returns B.notSynchronized hw hl
theorem Wr.of {l : Launch} {y : MethodName} {bytes : ByteArray} {n : Nat} {ret : Option FieldType} {rm : Room} {Wd Wd' : State → Heap → Prop} {A : Nat → Prop} {As : List Value} {v : Option Value} {mc ms : Nat} (hy : plainName y.cls = true) (hn : (lg_sl As).length ≤ n)
    (body : ∀ (p : Program) (e : Env) (s : State) (m : MethodId) (args : Array Value) (below : List Frame) (meth : Method) (c : Code) (ls : Array Slot), CallFix p m c bytes n s args wsL_law y.cls → meth.sig.returnType = ret → meth.locks = false → Wd s s.heap → va_S A s.heap s.heap [] → lv_has ls n (lv_args 0 As) →
      W p l e rm s m args below meth c s.heap [] 0 0 (MQ below (qW v Wd' A) args s mc ms A) (F0 m 0 ls [])) : Wr l y bytes n ret rm Wd Wd' A As v mc ms := by
  refine Met.ofW (cc := bytes) (maxL := n) (ret := ret) hy rfl ?_
  intro p e s m args below meth c s₁ B hml hv
  obtain ⟨rfl, hw⟩ := hv
  have hl := lv_entry As (n := n) hn
  rw [lg_entry_eq]
  exact body p e s m _ below meth c _ ⟨B.exec, B.bytes, hml, findClass_of_methodNamed B.named, fun w h => atoms_spec (ws := wq y bytes n ret) B.pre w (List.mem_cons_of_mem _ h)⟩ B.returns B.notSynchronized hw va_S.rf hl
section BK
variable {p : Program} {l : Launch} {e : Env} {R : Room} {s : State} {m : MethodId} {args : Array Value} {below : List Frame} {meth : Method} {c : Code} {H : Heap} {locs : List Loc} {cells slots : Nat} {Q : State → Prop}
variable {cc bytes : ByteArray} {pc nL n index : Nat} {ls : Array Slot} {rest st0 : List Value} {y : MethodName} {ret : Option FieldType} {rm : Room} {own C : String} {As : List Value} {b0 : Nat} {A A0 : Nat → Prop} {H0 : Heap}
/-- a call of a method of an object that changes nothing -/
theorem kV {Wd : State → Heap → Prop} {v : Value} (hC : CallFix p m c cc nL s args wsL_law own) (hM : Rd l y bytes n ret rm Wd (.ref b0 :: As) v) (hm : Mov Wd) (hW : Wd s H) (hrec : ∃ cell : Cell, H[b0]? = some cell ∧ cell.vm.isStatics = false ∧ s.vm.findClass C = some cell.cls) (hG : GoodIn wsL_law (wsV own index C y (wq y bytes n ret))) (hrc : rm.cells = 0) (hrs : rm.slots = 0)
    (hd : y.cls = C ∧ y.cls ≠ "java/lang/invoke/MethodHandle" ∧ y.cls ≠ "java/lang/invoke/VarHandle" ∧ (parseMethodDescriptor y.desc).map (fun d => d.parameters.length) = some As.length) (hR : rm.frames + 1 ≤ R.frames ∧ 8 + (n + 11) + rm.locals ≤ R.locals) (hf : cells ≤ R.cells ∧ slots ≤ R.slots) (hls : ls.size = nL) (hst : st0 = As.reverse ++ .ref b0 :: rest) (hr8 : (rest.map fun v => v.category).sum ≤ 8) (hdg : decode cc pc = .ok (.invokevirtual index, 3))
    (kk : W p l e R s m args below meth c H locs cells slots Q (F0 m (pc + 3) ls (v :: rest))) : W p l e R s m args below meth c H locs cells slots Q (F0 m pc ls st0) :=
  W.callV (W.runV (As := As) (rest := rest) hC hM (cwV As.length hC.2.2.2.2 hG rfl hrc hrs hd hR) ⟨blind hm, hrec, fun U hU hW1 => ⟨rfl, by show Wd U U.heap; rw [hU]; exact hm s U H hW1.alike hW⟩⟩ rfl rfl hls hst (lv_room hr8) hdg hf) kk
theorem kS {Wd : State → Heap → Prop} {v : Value} (hC : CallFix p m c cc nL s args wsL_law own) (hM : Rd l y bytes n ret rm Wd As v) (hm : Mov Wd) (hW : Wd s H) (hG : GoodIn wsL_law (va_wsS own index y (wq y bytes n ret))) (hrc : rm.cells = 0) (hrs : rm.slots = 0)
    (hd : y.cls ≠ "java/lang/invoke/MethodHandle" ∧ y.cls ≠ "java/lang/invoke/VarHandle" ∧ (parseMethodDescriptor y.desc).map (fun d => d.parameters.length) = some As.length) (hR : rm.frames + 1 ≤ R.frames ∧ 8 + (n + 11) + rm.locals ≤ R.locals) (hf : cells ≤ R.cells ∧ slots ≤ R.slots) (hls : ls.size = nL) (hst : st0 = As.reverse ++ rest) (hr8 : (rest.map fun v => v.category).sum ≤ 8) (hdg : decode cc pc = .ok (.invokestatic index, 3))
    (kk : W p l e R s m args below meth c H locs cells slots Q (F0 m (pc + 3) ls (v :: rest))) : W p l e R s m args below meth c H locs cells slots Q (F0 m pc ls st0) :=
  W.callV (W.runS (As := As) (rest := rest) hC hM (va_cwS As.length hC.2.2.2.2 hG rfl hrc hrs hd hR) ⟨blind hm, fun U hU hW1 => ⟨rfl, by show Wd U U.heap; rw [hU]; exact hm s U H hW1.alike hW⟩⟩ rfl rfl hls hst (lv_room hr8) hdg hf) kk
theorem kVn {Wd : State → Heap → Prop} (hC : CallFix p m c cc nL s args wsL_law own) (hM : Rn l y bytes n ret rm Wd (.ref b0 :: As)) (hm : Mov Wd) (hW : Wd s H) (hrec : ∃ cell : Cell, H[b0]? = some cell ∧ cell.vm.isStatics = false ∧ s.vm.findClass C = some cell.cls) (hG : GoodIn wsL_law (wsV own index C y (wq y bytes n ret))) (hrc : rm.cells = 0) (hrs : rm.slots = 0)
    (hd : y.cls = C ∧ y.cls ≠ "java/lang/invoke/MethodHandle" ∧ y.cls ≠ "java/lang/invoke/VarHandle" ∧ (parseMethodDescriptor y.desc).map (fun d => d.parameters.length) = some As.length) (hR : rm.frames + 1 ≤ R.frames ∧ 8 + (n + 11) + rm.locals ≤ R.locals) (hf : cells ≤ R.cells ∧ slots ≤ R.slots) (hls : ls.size = nL) (hst : st0 = As.reverse ++ .ref b0 :: rest) (hr8 : (rest.map fun v => v.category).sum ≤ 8) (hdg : decode cc pc = .ok (.invokevirtual index, 3))
    (kk : W p l e R s m args below meth c H locs cells slots Q (F0 m (pc + 3) ls rest)) : W p l e R s m args below meth c H locs cells slots Q (F0 m pc ls st0) :=
  va_csv (W.runV (As := As) (rest := rest) hC hM (cwV As.length hC.2.2.2.2 hG rfl hrc hrs hd hR) ⟨blind hm, hrec, fun U hU hW1 => ⟨rfl, by show Wd U U.heap; rw [hU]; exact hm s U H hW1.alike hW⟩⟩ rfl rfl hls hst (lv_room hr8) hdg hf) (fun _ => kk)
theorem kSn {Wd : State → Heap → Prop} (hC : CallFix p m c cc nL s args wsL_law own) (hM : Rn l y bytes n ret rm Wd As) (hm : Mov Wd) (hW : Wd s H) (hG : GoodIn wsL_law (va_wsS own index y (wq y bytes n ret))) (hrc : rm.cells = 0) (hrs : rm.slots = 0)
    (hd : y.cls ≠ "java/lang/invoke/MethodHandle" ∧ y.cls ≠ "java/lang/invoke/VarHandle" ∧ (parseMethodDescriptor y.desc).map (fun d => d.parameters.length) = some As.length) (hR : rm.frames + 1 ≤ R.frames ∧ 8 + (n + 11) + rm.locals ≤ R.locals) (hf : cells ≤ R.cells ∧ slots ≤ R.slots) (hls : ls.size = nL) (hst : st0 = As.reverse ++ rest) (hr8 : (rest.map fun v => v.category).sum ≤ 8) (hdg : decode cc pc = .ok (.invokestatic index, 3))
    (kk : W p l e R s m args below meth c H locs cells slots Q (F0 m (pc + 3) ls rest)) : W p l e R s m args below meth c H locs cells slots Q (F0 m pc ls st0) :=
  va_csv (W.runS (As := As) (rest := rest) hC hM (va_cwS As.length hC.2.2.2.2 hG rfl hrc hrs hd hR) ⟨blind hm, fun U hU hW1 => ⟨rfl, by show Wd U U.heap; rw [hU]; exact hm s U H hW1.alike hW⟩⟩ rfl rfl hls hst (lv_room hr8) hdg hf) (fun _ => kk)
/-- a call of a method of an object that may change its cells -/
theorem kVw {Wd Wd' : State → Heap → Prop} {v : Option Value} {mc ms : Nat} (hC : CallFix p m c cc nL s args wsL_law own) (hM : Wr l y bytes n ret rm Wd Wd' A (.ref b0 :: As) v mc ms) (hm : Mov Wd) (hm' : Mov Wd') (hW : Wd s H) (hrec : ∃ cell : Cell, H[b0]? = some cell ∧ cell.vm.isStatics = false ∧ s.vm.findClass C = some cell.cls) (hG : GoodIn wsL_law (wsV own index C y (wq y bytes n ret))) (hrc : rm.cells = mc) (hrs : rm.slots = ms)
    (hd : y.cls = C ∧ y.cls ≠ "java/lang/invoke/MethodHandle" ∧ y.cls ≠ "java/lang/invoke/VarHandle" ∧ (parseMethodDescriptor y.desc).map (fun d => d.parameters.length) = some As.length) (hR : rm.frames + 1 ≤ R.frames ∧ 8 + (n + 11) + rm.locals ≤ R.locals) (hf : cells + mc ≤ R.cells ∧ slots + ms ≤ R.slots) (hS : va_S A0 H0 H locs) (hA : ∀ q, A q → A0 q) (hls : ls.size = nL) (hst : st0 = As.reverse ++ .ref b0 :: rest) (hr8 : (rest.map fun v => v.category).sum ≤ 8) (hdg : decode cc pc = .ok (.invokevirtual index, 3))
    (kk : ∀ (H1 : Heap) (locs1 : List Loc), Wd' s H1 → va_S A0 H0 H1 locs1 → H.size ≤ H1.size → (∀ q : Nat, q < H.size → ¬ A q → H1[q]? = H[q]?) → W p l e R s m args below meth c H1 locs1 (cells + mc) (slots + ms) Q (F0 m (pc + 3) ls (v.toList ++ rest))) : W p l e R s m args below meth c H locs cells slots Q (F0 m pc ls st0) := by
  have hr := va_runV (e := e) (As := As) (rest := rest) (locs := locs) (cells := cells) (slots := slots) (below := below) (meth := meth) hC hM (cwV As.length hC.2.2.2.2 hG rfl hrc hrs hd hR) ⟨blind hm, hrec, fun U hU hW1 => ⟨rfl, by show Wd U U.heap; rw [hU]; exact hm s U H hW1.alike hW⟩⟩ (g := F0 m pc ls st0) rfl rfl hls hst (lv_room hr8) hdg hf
  intro T hT X
  obtain ⟨v', st₀, t, T', L, h0, X', hL, e1, e2, ⟨hv, hb, hz, hk⟩, st⟩ := hr T hT X
  cases hv
  rw [h0] at hz hk
  obtain ⟨t2, a1, b1⟩ := kk T'.heap (locs ++ L) (by rw [e1]; exact hm' t s t.heap (by rw [← e2]; exact X'.warmed.alike.symm) hb)
    ⟨Nat.le_trans hS.1 (by rw [e1]; exact hz), fun q h1 h2 => by rw [e1, hk q (Nat.lt_of_lt_of_le h1 hS.1) (fun z => h2 (hA q z))]; exact hS.2.1 q h1 h2, fun q hq => by
      rcases List.mem_append.mp hq with h | h
      · exact hS.2.2 q h
      · exact hA _ (hL q h)⟩ (by rw [e1]; exact hz) (fun q h1 h2 => by rw [e1]; exact hk q h1 h2) T' rfl X'
  exact ⟨t2, st t2 a1, b1⟩
theorem rd_i {v v' : Int32} (hC : CallFix p m c cc nL s args wsL_law own) (hr : meth.sig.returnType = some .int) (hlocks : meth.locks = false) (hdg : decode cc pc = .ok (.ireturn, 1)) (hv : v' = v) : W p l e R s m args below meth c s.heap [] 0 0 (MQ below (k2_QcV (.int v)) args s 0 0 (fun _ => False)) (F0 m pc ls [.int v']) := by
  subst hv
  exact W.iret hC.1 hC.2.1 hr (fun t ht hW => ⟨rfl, ht⟩) (fun q hq => absurd hq List.not_mem_nil) hdg hlocks
theorem rd_z {v v' : Int32} (hC : CallFix p m c cc nL s args wsL_law own) (hr : meth.sig.returnType = some .boolean) (hlocks : meth.locks = false) (hn : narrow .boolean (.int v') = .int v') (hdg : decode cc pc = .ok (.ireturn, 1)) (hv : v' = v) : W p l e R s m args below meth c s.heap [] 0 0 (MQ below (k2_QcV (.int v)) args s 0 0 (fun _ => False)) (F0 m pc ls [.int v']) := by
  subst hv
  exact W.zret hC.1 hC.2.1 hr hn (fun t ht hW => ⟨rfl, ht⟩) (fun q hq => absurd hq List.not_mem_nil) hdg hlocks
theorem rd_l {v v' : Int64} (hC : CallFix p m c cc nL s args wsL_law own) (hr : meth.sig.returnType = some .long) (hlocks : meth.locks = false) (hdg : decode cc pc = .ok (.lreturn, 1)) (hv : v' = v) : W p l e R s m args below meth c s.heap [] 0 0 (MQ below (k2_QcV (.long v)) args s 0 0 (fun _ => False)) (F0 m pc ls [.long v']) := by
  subst hv
  exact W.lret hC.1 hC.2.1 hr (fun t ht hW => ⟨rfl, ht⟩) (fun q hq => absurd hq List.not_mem_nil) hdg hlocks
theorem rd_d {v v' : UInt64} (hC : CallFix p m c cc nL s args wsL_law own) (hr : meth.sig.returnType = some .double) (hlocks : meth.locks = false) (hdg : decode cc pc = .ok (.dreturn, 1)) (hv : v' = v) : W p l e R s m args below meth c s.heap [] 0 0 (MQ below (k2_QcV (.double v)) args s 0 0 (fun _ => False)) (F0 m pc ls [.double v']) := by
  subst hv
  exact W.dret hC.1 hC.2.1 hr (fun t ht hW => ⟨rfl, ht⟩) (fun q hq => absurd hq List.not_mem_nil) hdg hlocks
theorem rd_v (hC : CallFix p m c cc nL s args wsL_law own) (hr : meth.sig.returnType = none) (hlocks : meth.locks = false) (hdg : decode cc pc = .ok (.return_, 1)) : W p l e R s m args below meth c s.heap [] 0 0 (MQ below (va_Sv (fun _ => True)) args s 0 0 (fun _ => False)) (F0 m pc ls []) :=
  W.vret hC.1 hC.2.1 hr (fun t ht hW => ⟨rfl, trivial, ht⟩) (fun q hq => absurd hq List.not_mem_nil) hdg hlocks
theorem wr_i {Wd : State → Heap → Prop} {v v' : Int32} {mc ms : Nat} (hC : CallFix p m c cc nL s args wsL_law own) (hr : meth.sig.returnType = some .int) (hlocks : meth.locks = false) (hm : Mov Wd) (hW : Wd s H) (hS : va_S A s.heap H locs) (hdg : decode cc pc = .ok (.ireturn, 1)) (hv : v' = v) : W p l e R s m args below meth c H locs mc ms (MQ below (qW (some (.int v)) Wd A) args s mc ms A) (F0 m pc ls [.int v']) := by
  subst hv
  exact W.iret hC.1 hC.2.1 hr (fun t ht hW1 => ⟨rfl, by rw [ht]; exact hm s t H hW1.alike hW, hS.F ht⟩) hS.2.2 hdg hlocks
theorem wr_z {Wd : State → Heap → Prop} {v v' : Int32} {mc ms : Nat} (hC : CallFix p m c cc nL s args wsL_law own) (hr : meth.sig.returnType = some .boolean) (hlocks : meth.locks = false) (hm : Mov Wd) (hW : Wd s H) (hS : va_S A s.heap H locs) (hn : narrow .boolean (.int v') = .int v') (hdg : decode cc pc = .ok (.ireturn, 1)) (hv : v' = v) : W p l e R s m args below meth c H locs mc ms (MQ below (qW (some (.int v)) Wd A) args s mc ms A) (F0 m pc ls [.int v']) := by
  subst hv
  exact W.zret hC.1 hC.2.1 hr hn (fun t ht hW1 => ⟨rfl, by rw [ht]; exact hm s t H hW1.alike hW, hS.F ht⟩) hS.2.2 hdg hlocks
theorem wr_l {Wd : State → Heap → Prop} {v v' : Int64} {mc ms : Nat} (hC : CallFix p m c cc nL s args wsL_law own) (hr : meth.sig.returnType = some .long) (hlocks : meth.locks = false) (hm : Mov Wd) (hW : Wd s H) (hS : va_S A s.heap H locs) (hdg : decode cc pc = .ok (.lreturn, 1)) (hv : v' = v) : W p l e R s m args below meth c H locs mc ms (MQ below (qW (some (.long v)) Wd A) args s mc ms A) (F0 m pc ls [.long v']) := by
  subst hv
  exact W.lret hC.1 hC.2.1 hr (fun t ht hW1 => ⟨rfl, by rw [ht]; exact hm s t H hW1.alike hW, hS.F ht⟩) hS.2.2 hdg hlocks
theorem wr_d {Wd : State → Heap → Prop} {v v' : UInt64} {mc ms : Nat} (hC : CallFix p m c cc nL s args wsL_law own) (hr : meth.sig.returnType = some .double) (hlocks : meth.locks = false) (hm : Mov Wd) (hW : Wd s H) (hS : va_S A s.heap H locs) (hdg : decode cc pc = .ok (.dreturn, 1)) (hv : v' = v) : W p l e R s m args below meth c H locs mc ms (MQ below (qW (some (.double v)) Wd A) args s mc ms A) (F0 m pc ls [.double v']) := by
  subst hv
  exact W.dret hC.1 hC.2.1 hr (fun t ht hW1 => ⟨rfl, by rw [ht]; exact hm s t H hW1.alike hW, hS.F ht⟩) hS.2.2 hdg hlocks
theorem wr_v {Wd : State → Heap → Prop} {mc ms : Nat} (hC : CallFix p m c cc nL s args wsL_law own) (hr : meth.sig.returnType = none) (hlocks : meth.locks = false) (hm : Mov Wd) (hW : Wd s H) (hS : va_S A s.heap H locs) (hdg : decode cc pc = .ok (.return_, 1)) : W p l e R s m args below meth c H locs mc ms (MQ below (qW none Wd A) args s mc ms A) (F0 m pc ls []) :=
  W.vret hC.1 hC.2.1 hr (fun t ht hW1 => ⟨rfl, by rw [ht]; exact hm s t H hW1.alike hW, hS.F ht⟩) hS.2.2 hdg hlocks
/-- branches over numbers -/
theorem jge {i j : Nat} {x y : Int32} {off : Int} {tgt : Nat} (hC : CallFix p m c cc nL s args wsL_law own) (hdg : decode cc pc = .ok (.if_icmp .ge off, 3)) (ht : (pc : Int) + off = (tgt : Int)) (hx : x = nI i) (hy : y = nI j) (hi : i < 2 ^ 31) (hj : j < 2 ^ 31)
    (kt : j ≤ i → W p l e R s m args below meth c H locs cells slots Q (F0 m tgt ls rest)) (kf : i < j → W p l e R s m args below meth c H locs cells slots Q (F0 m (pc + 3) ls rest)) : W p l e R s m args below meth c H locs cells slots Q (F0 m pc ls (.int y :: .int x :: rest)) := by
  subst hx
  subst hy
  exact lv_icmp_ge hC.1 hC.2.1 hdg ht (fun h => kt ((nI_leI hj hi).mp h)) (fun h => kf (Nat.lt_of_not_le fun q => h ((nI_leI hj hi).mpr q)))
theorem jlt {i j : Nat} {x y : Int32} {off : Int} {tgt : Nat} (hC : CallFix p m c cc nL s args wsL_law own) (hdg : decode cc pc = .ok (.if_icmp .lt off, 3)) (ht : (pc : Int) + off = (tgt : Int)) (hx : x = nI i) (hy : y = nI j) (hi : i < 2 ^ 31) (hj : j < 2 ^ 31)
    (kt : i < j → W p l e R s m args below meth c H locs cells slots Q (F0 m tgt ls rest)) (kf : j ≤ i → W p l e R s m args below meth c H locs cells slots Q (F0 m (pc + 3) ls rest)) : W p l e R s m args below meth c H locs cells slots Q (F0 m pc ls (.int y :: .int x :: rest)) := by
  subst hx
  subst hy
  exact lv_icmp_lt hC.1 hC.2.1 hdg ht (fun h => kt ((nI_ltI hi hj).mp h)) (fun h => kf (Nat.le_of_not_lt fun q => h ((nI_ltI hi hj).mpr q)))
theorem jgt {i j : Nat} {x y : Int32} {off : Int} {tgt : Nat} (hC : CallFix p m c cc nL s args wsL_law own) (hdg : decode cc pc = .ok (.if_icmp .gt off, 3)) (ht : (pc : Int) + off = (tgt : Int)) (hx : x = nI i) (hy : y = nI j) (hi : i < 2 ^ 31) (hj : j < 2 ^ 31)
    (kt : j < i → W p l e R s m args below meth c H locs cells slots Q (F0 m tgt ls rest)) (kf : i ≤ j → W p l e R s m args below meth c H locs cells slots Q (F0 m (pc + 3) ls rest)) : W p l e R s m args below meth c H locs cells slots Q (F0 m pc ls (.int y :: .int x :: rest)) := by
  subst hx
  subst hy
  exact lv_icmp_gt hC.1 hC.2.1 hdg ht (fun h => kt ((nI_ltI hj hi).mp h)) (fun h => kf (Nat.le_of_not_lt fun q => h ((nI_ltI hj hi).mpr q)))
theorem jle {i j : Nat} {x y : Int32} {off : Int} {tgt : Nat} (hC : CallFix p m c cc nL s args wsL_law own) (hdg : decode cc pc = .ok (.if_icmp .le off, 3)) (ht : (pc : Int) + off = (tgt : Int)) (hx : x = nI i) (hy : y = nI j) (hi : i < 2 ^ 31) (hj : j < 2 ^ 31)
    (kt : i ≤ j → W p l e R s m args below meth c H locs cells slots Q (F0 m tgt ls rest)) (kf : j < i → W p l e R s m args below meth c H locs cells slots Q (F0 m (pc + 3) ls rest)) : W p l e R s m args below meth c H locs cells slots Q (F0 m pc ls (.int y :: .int x :: rest)) := by
  subst hx
  subst hy
  exact lv_icmp_le hC.1 hC.2.1 hdg ht (fun h => kt ((nI_leI hi hj).mp h)) (fun h => kf (Nat.lt_of_not_le fun q => h ((nI_leI hi hj).mpr q)))
theorem xadd {x y v : Int32} (hC : CallFix p m c cc nL s args wsL_law own) (hdg : decode cc pc = .ok (.iadd, 1)) (hv : x + y = v) (k : W p l e R s m args below meth c H locs cells slots Q (F0 m (pc + 1) ls (.int v :: rest))) : W p l e R s m args below meth c H locs cells slots Q (F0 m pc ls (.int y :: .int x :: rest)) := by
  subst hv
  exact lv_iadd hC.1 hC.2.1 hdg k
theorem xsub {x y v : Int32} (hC : CallFix p m c cc nL s args wsL_law own) (hdg : decode cc pc = .ok (.isub, 1)) (hv : x - y = v) (k : W p l e R s m args below meth c H locs cells slots Q (F0 m (pc + 1) ls (.int v :: rest))) : W p l e R s m args below meth c H locs cells slots Q (F0 m pc ls (.int y :: .int x :: rest)) := by
  subst hv
  exact lv_isub hC.1 hC.2.1 hdg k
theorem xmul {x y v : Int32} (hC : CallFix p m c cc nL s args wsL_law own) (hdg : decode cc pc = .ok (.imul, 1)) (hv : x * y = v) (k : W p l e R s m args below meth c H locs cells slots Q (F0 m (pc + 1) ls (.int v :: rest))) : W p l e R s m args below meth c H locs cells slots Q (F0 m pc ls (.int y :: .int x :: rest)) := by
  subst hv
  exact lv_imul hC.1 hC.2.1 hdg k
end BK
theorem rec_B {D : va_G} {cI cQ : ClassId} {a : Nat → Nat} {S : bS} {s : State} {H : Heap} (h : BW D cI cQ a S s H) : ∃ cell : Cell, H[a 13]? = some cell ∧ cell.vm.isStatics = false ∧ s.vm.findClass RX0 = some cell.cls := va_recv h.1 h.2.1 (ci := 0) (q0 := 0) rfl rfl
/-! ===== cells by number: Sim's own, the law's arrays ===== -/
def GW (D : va_G) (cI cQ : ClassId) (K : Nat) (b : Nat → Nat) (E : Nat → va_E) (U : State) (H : Heap) : Prop := va_K D vwCl (tyB cI cQ) U ∧ (∀ k : Nat, k < K → va_at D vwCl (b k, E k) H) ∧ ∀ i j : Nat, i < K → j < K → b i = b j → i = j
def inG (K : Nat) (b : Nat → Nat) : Nat → Prop := fun q => ∃ k : Nat, k < K ∧ q = b k
theorem at1 {D : va_G} {cl : List vw_C} {q : Nat × va_E} {H : Heap} (h : va_at D cl q H) : va_P D cl [q] H := fun k x hk => by
  match k, hk with
  | 0, hk => cases hk; exact h
  | k + 1, hk => simp at hk
theorem AOA_mv {s U : State} (hW : s.vm.Alike U.vm) (h : va_AOA .int s) : va_AOA .int U := by
  have h1 : (Cond.arrayOver (.array .int)).before #[] (s.setVm U.vm) = true := by rw [Cond.arrayOver_setVmC hW]; exact h
  exact h1
section GWs
variable {D : va_G} {cI cQ : ClassId} {K : Nat} {b : Nat → Nat} {E E' : Nat → va_E} {u U : State} {H H1 : Heap}
theorem GW.moved (hvm : u.vm.Alike U.vm) (h : GW D cI cQ K b E u H) : GW D cI cQ K b E U H := ⟨va_K.moved hvm h.1, h.2⟩
theorem GW.kept (h : GW D cI cQ K b E U H) (hq : ∀ k : Nat, k < K → H1[b k]? = H[b k]?) : GW D cI cQ K b E U H1 := ⟨h.1, fun k hk => va_at.kept (h.2.1 k hk) (hq k hk), h.2.2⟩
theorem GW.lt (h : GW D cI cQ K b E U H) : ∀ k : Nat, k < K → b k < H.size := fun k hk => va_at.lt (h.2.1 k hk)
theorem GW.cg (h : GW D cI cQ K b E U H) (e : ∀ k : Nat, k < K → E k = E' k) : GW D cI cQ K b E' U H := ⟨h.1, fun k hk => by rw [← e k hk]; exact h.2.1 k hk, h.2.2⟩
end GWs
abbrev eI (cI : ClassId) (n : Nat) (F : Nat → Int32) : va_E := .inl (cI, n, .inl F)
abbrev eQ (cQ : ClassId) (n : Nat) (f : Nat → Option Nat) : va_E := .inl (cQ, n, .inr (.inr (.inr (.inr f))))
def eU (E : Nat → va_E) (k : Nat) (x : va_E) : Nat → va_E := fun k' => if k' = k then x else E k'
theorem eU_self (E : Nat → va_E) (k : Nat) (x : va_E) : eU E k x k = x := if_pos rfl
theorem eU_ne (E : Nat → va_E) {k k' : Nat} (x : va_E) (h : k' ≠ k) : eU E k x k' = E k' := if_neg h
theorem GW.put {D : va_G} {cI cQ : ClassId} {K k : Nat} {b : Nat → Nat} {E : Nat → va_E} {U : State} {H H1 : Heap} {x : va_E} (h : GW D cI cQ K b E U H) (hk : k < K) (hx : va_at D vwCl (b k, x) H1) (oq : ∀ q : Nat, q ≠ b k → H1[q]? = H[q]?) : GW D cI cQ K b (eU E k x) U H1 := by
  refine ⟨h.1, fun k' hk' => ?_, h.2.2⟩
  by_cases e : k' = k
  · rw [e, eU_self]
    exact hx
  · rw [eU_ne _ _ e]
    exact va_at.kept (h.2.1 k' hk') (oq _ (fun z => e (h.2.2 k' k hk' hk z)))
section GR
variable {p : Program} {l : Launch} {e : Env} {R : Room} {s : State} {m : MethodId} {args : Array Value} {below : List Frame} {meth : Method} {c : Code} {H : Heap} {locs : List Loc} {cells slots : Nat} {Q : State → Prop}
variable {cc : ByteArray} {pc nL : Nat} {ls : Array Slot} {rest : List Value} {D : va_G} {cI cQ : ClassId} {b : Nat → Nat} {A0 : Nat → Prop} {H0 : Heap} {own : String} {K k n : Nat} {E : Nat → va_E} {F : Nat → Int32} {f : Nat → Option Nat} {x v : Int32}
theorem ldG (i : Nat) (hC : CallFix p m c cc nL s args wsL_law own) (hG : GW D cI cQ K b E s H) (hk : k < K) (hE : E k = eI cI n F) (hx : x = nI i) (hi : i < n) (hn : n ≤ 71) (hv : F i = v) (hdg : decode cc pc = .ok (.iaload, 1)) (kk : W p l e R s m args below meth c H locs cells slots Q (F0 m (pc + 1) ls (.int v :: rest))) : W p l e R s m args below meth c H locs cells slots Q (F0 m pc ls (.int x :: .ref (b k) :: rest)) := by
  subst hx
  subst hv
  have h1 := hG.2.1 k hk
  rw [hE] at h1
  refine va_iald hC.1 hC.2.1 hG.1 (at1 h1) 0 0 (f := F) rfl rfl (nin hi hn) hdg ?_
  rw [nI_clamp (by omega)]
  exact kk
theorem lnG (hC : CallFix p m c cc nL s args wsL_law own) (hG : GW D cI cQ K b E s H) (hk : k < K) (hE : E k = eI cI n F) (hdg : decode cc pc = .ok (.arraylength, 1)) (kk : W p l e R s m args below meth c H locs cells slots Q (F0 m (pc + 1) ls (.int (nI n) :: rest))) : W p l e R s m args below meth c H locs cells slots Q (F0 m pc ls (.ref (b k) :: rest)) := by
  have h1 := hG.2.1 k hk
  rw [hE] at h1
  exact va_alen hC.1 hC.2.1 hG.1 (at1 h1) 0 0 rfl rfl rfl hdg kk
theorem lqG (hC : CallFix p m c cc nL s args wsL_law own) (hG : GW D cI cQ K b E s H) (hk : k < K) (hE : E k = eQ cQ n f) (hdg : decode cc pc = .ok (.arraylength, 1)) (kk : W p l e R s m args below meth c H locs cells slots Q (F0 m (pc + 1) ls (.int (nI n) :: rest))) : W p l e R s m args below meth c H locs cells slots Q (F0 m pc ls (.ref (b k) :: rest)) := by
  have h1 := hG.2.1 k hk
  rw [hE] at h1
  exact va_alen hC.1 hC.2.1 hG.1 (at1 h1) 0 1 rfl rfl rfl hdg kk
theorem aaG (i : Nat) {q : Nat} (hC : CallFix p m c cc nL s args wsL_law own) (hG : GW D cI cQ K b E s H) (hk : k < K) (hE : E k = eQ cQ n f) (hx : x = nI i) (hi : i < n) (hn : n ≤ 71) (hv : f i = some q) (hdg : decode cc pc = .ok (.aaload, 1)) (kk : W p l e R s m args below meth c H locs cells slots Q (F0 m (pc + 1) ls (.ref q :: rest))) : W p l e R s m args below meth c H locs cells slots Q (F0 m pc ls (.int x :: .ref (b k) :: rest)) := by
  subst hx
  have h1 := hG.2.1 k hk
  rw [hE] at h1
  have hin : vp_in (nI i) n := nin hi hn
  have hlt : (nI i).toNatClampNeg < n := Nat.not_le.mp fun q => hin (Or.inr q)
  have e1 : va_rf (f i) = .ref q := by rw [hv]; rfl
  refine W.aald (v := .ref q) (ty := .array .int) hC.1 hC.2.1 h1 ((hG.1.2 1 _ rfl).1 n (fun j => va_rf (f j))) rfl (fun q => by cases q) (by show ¬ (nI i < 0 ∨ (arrV _ _ _).slots.size ≤ _); rw [arrV_size]; exact hin) (by show (arrV _ _ _).slots[_]? = _; rw [arrV_read _ _ hlt]; rw [nI_clamp (by omega)]; exact congrArg some e1) rfl rfl hdg kk
theorem stG (i : Nat) (hC : CallFix p m c cc nL s args wsL_law own) (hG : GW D cI cQ K b E s H) (hk : k < K) (hE : E k = eI cI n F) (hx : x = nI i) (hi : i < n) (hn : n ≤ 71) (hS : va_S A0 H0 H locs) (hA : A0 (b k)) (hdg : decode cc pc = .ok (.iastore, 1)) (kk : ∀ (H1 : Heap) (locs1 : List Loc), GW D cI cQ K b (eU E k (eI cI n (upd F i v))) s H1 → va_S A0 H0 H1 locs1 → H1.size = H.size → (∀ q : Nat, q ≠ b k → H1[q]? = H[q]?) → W p l e R s m args below meth c H1 locs1 cells slots Q (F0 m (pc + 1) ls rest)) : W p l e R s m args below meth c H locs cells slots Q (F0 m pc ls (.int v :: .int x :: .ref (b k) :: rest)) := by
  subst hx
  have h1 := hG.2.1 k hk
  rw [hE] at h1
  have hin : vp_in (nI i) n := nin hi hn
  refine W.iast hC.1 hC.2.1 h1 ((hG.1.2 0 _ rfl).1 n (fun j => .int (F j))) (fun q => by cases q) (by show ¬ (nI i < 0 ∨ (arrV _ _ _).slots.size ≤ _); rw [arrV_size]; exact hin) rfl rfl hdg fun H1 e z oq => ?_
  refine kk H1 _ (hG.put hk ?_ oq) (hS.put z oq hA) z oq
  show H1[b k]? = some (vp_cell _ _)
  rw [e]
  rw [vp_cell_i, vp_cell_i, arrV_store, nI_clamp (by omega)]
  refine congrArg some (congrArg (arrV cI n) (funext fun q => ?_))
  by_cases hq : q = i
  · subst hq
    simp [updV, upd]
  · simp [updV, upd, hq]
theorem ptG {g index : Nat} {fs : List Value} {w : Value} {ty : FieldType} (hC : CallFix p m c cc nL s args wsL_law own) (hG : GW D cI cQ K b E s H) (hk : k < K) (hE : E k = .inr (1, fs)) (hS : va_S A0 H0 H locs) (hA : A0 (b k)) (hg : g < 4) (hlink : Cond.fieldLink own index RX1 (TX1 g).2.1 (TX1 g).2.2.1 ∈ wsL_law) (hfin : (TX1 g).2.2.2 = false) (hown : ∀ x, s.fieldFound? (TX1 g).1 (TX1 g).2.1 (TX1 g).2.2.1 = some x → s.fieldFound? RX1 (TX1 g).2.1 (TX1 g).2.2.1 = some x) (hd : parseFieldDescriptor (TX1 g).2.2.1 = some ty) (hn : narrow ty w = w) (hfit : fits ty w = true) (hl : g < fs.length) (hdg : decode cc pc = .ok (.putfield index, 3))
    (kk : ∀ (H1 : Heap) (locs1 : List Loc), GW D cI cQ K b (eU E k (.inr (1, fs.set g w))) s H1 → va_S A0 H0 H1 locs1 → H1.size = H.size → (∀ q : Nat, q ≠ b k → H1[q]? = H[q]?) → W p l e R s m args below meth c H1 locs1 cells slots Q (F0 m (pc + 3) ls rest)) : W p l e R s m args below meth c H locs cells slots Q (F0 m pc ls (w :: .ref (b k) :: rest)) := by
  have h1 := hG.2.1 k hk
  rw [hE] at h1
  have hap := va_apart (own := own) hC.2.2.2.2 inlX1 tyX1 tyX1_ok nmX1 hG.1 (rfl : vwCl[1]? = some (RX1, TX1, 4))
  obtain ⟨r, g1, cell, q1, q2, q3, q4⟩ := h1
  have hr : r = (RX1, TX1, 4) := Option.some.inj (g1.symm.trans rfl)
  subst hr
  obtain ⟨hSl, hfc, kC, hkC, hkind⟩ := hG.1.1 1 _ rfl
  obtain ⟨cf, kf, fi, fo, hi, hsl⟩ := hSl g hg
  have hlay := hC.2.2.2.2 _ (inlX1 _ (u_in_lay hg))
  unfold u_lay at hlay
  rw [if_neg (by rw [hfin]; decide)] at hlay
  have hst := (u_facts hfc hkC (u_lays hC.2.2.2.2 inlX1 hg) hi).1
  have h6 := u_store hfc hkC hkind hlay hi hd hn hfit
  refine W.putK hC.1 hC.2.1 (f := fo) ⟨hC.2.2.2.1, hC.2.2.2.2 _ hlink, ⟨_, _, _, hown _ hi⟩, hst⟩ (by rw [q2]; exact h6) q1 q3 (by rw [hsl]; exact k2_hasslot (q4 g hg)) rfl rfl hdg fun H' e1 e2 e3 => ?_
  rw [hsl] at e1 ⊢
  exact kk H' _ (hG.put hk ⟨_, rfl, t_OB.to (V := updV (vp_V fs) g w) ⟨_, e1, q2, q3, t_set q4 hap hg w⟩ (fun j _ => vp_updV_set hl w j)⟩ e3) (hS.put e2 e3 hA) e2 e3
end GR
/-- Sim: b 0 the object, b 1 towers, b 2 purses, b 3 held, b (4 + r) what trader r holds, b (10 + t) tower t's row; rows of N: 5 purses, 6 the second, 7 + r held, 20 + t tower t -/
def sE (cI cQ : ClassId) (b : Nat → Nat) (N : bS) (T R : Nat) : Nat → va_E
  | 0 => .inr (1, [.int (N 6 0), .ref (b 1), .ref (b 2), .ref (b 3)])
  | 1 => eQ cQ T (fun i => if i < T then some (b (10 + i)) else none)
  | 2 => eI cI R (N 5)
  | 3 => eQ cQ 6 (fun i => if i < 6 then some (b (4 + i)) else none)
  | k + 4 => if k < 6 then eI cI 8 (N (7 + k)) else eI cI 5 (N (14 + k))
theorem sE_h {cI cQ : ClassId} {b : Nat → Nat} {N : bS} {T R r : Nat} (h : r < 6) : sE cI cQ b N T R (4 + r) = eI cI 8 (N (7 + r)) := by
  rw [Nat.add_comm 4 r]
  exact if_pos h
theorem sE_t {cI cQ : ClassId} {b : Nat → Nat} {N : bS} {T R t : Nat} : sE cI cQ b N T R (10 + t) = eI cI 5 (N (20 + t)) := by
  have e : sE cI cQ b N T R (6 + t + 4) = eI cI 5 (N (14 + (6 + t))) := if_neg (by omega)
  rw [show 10 + t = 6 + t + 4 by omega, e, show 14 + (6 + t) = 20 + t by omega]
theorem up2_row {S : bS} {k j k' : Nat} {v : Int32} (h : k' ≠ k) : up2 S k j v k' = S k' := if_neg h
theorem up2_at {S : bS} {k j : Nat} {v : Int32} : up2 S k j v k = upd (S k) j v := if_pos rfl
theorem sE_up {cI cQ : ClassId} {b : Nat → Nat} {N : bS} {T R k0 j : Nat} {v : Int32} : ∀ k : Nat, (k = 0 → k0 ≠ 6) → (k = 2 → k0 ≠ 5) → (∀ r, r < 6 → k = 4 + r → k0 ≠ 7 + r) → (∀ t, k = 10 + t → k0 ≠ 20 + t) → sE cI cQ b N T R k = sE cI cQ b (up2 N k0 j v) T R k
  | 0, h, _, _, _ => by
    show (Sum.inr (1, [.int (N 6 0), _, _, _]) : va_E) = Sum.inr (1, [.int (up2 N k0 j v 6 0), _, _, _])
    rw [up2_ne _ _ (Or.inl (fun z => h rfl z.symm))]
  | 1, _, _, _, _ => rfl
  | 2, _, h, _, _ => by
    show eI cI R (N 5) = eI cI R (up2 N k0 j v 5)
    rw [up2_row (fun z => h rfl z.symm)]
  | 3, _, _, _, _ => rfl
  | k + 4, _, _, h1, h2 => by
    show (if k < 6 then eI cI 8 (N (7 + k)) else eI cI 5 (N (14 + k))) = if k < 6 then eI cI 8 (up2 N k0 j v (7 + k)) else eI cI 5 (up2 N k0 j v (14 + k))
    by_cases c : k < 6
    · rw [if_pos c, if_pos c, up2_row (fun z => h1 k c (by omega) z.symm)]
    · rw [if_neg c, if_neg c, up2_row (fun z => h2 (k - 6) (by omega) (by omega))]
def SW (D : va_G) (cI cQ : ClassId) (b : Nat → Nat) (N : bS) (T R : Nat) (U : State) (H : Heap) : Prop := GW D cI cQ (10 + T) b (sE cI cQ b N T R) U H ∧ va_AOA .int U
theorem SW.moved {D : va_G} {cI cQ : ClassId} {b : Nat → Nat} {N : bS} {T R : Nat} {u U : State} {H : Heap} (hvm : u.vm.Alike U.vm) (h : SW D cI cQ b N T R u H) : SW D cI cQ b N T R U H := ⟨h.1.moved hvm, AOA_mv hvm h.2⟩
theorem SW.kept {D : va_G} {cI cQ : ClassId} {b : Nat → Nat} {N : bS} {T R : Nat} {U : State} {H H1 : Heap} (h : SW D cI cQ b N T R U H) (hq : ∀ k : Nat, k < 10 + T → H1[b k]? = H[b k]?) : SW D cI cQ b N T R U H1 := ⟨h.1.kept hq, h.2⟩
theorem mov_S {D : va_G} {cI cQ : ClassId} {b : Nat → Nat} {N : bS} {T R : Nat} : Mov (SW D cI cQ b N T R) := fun _ _ _ hvm h => h.moved hvm
theorem rec_S {D : va_G} {cI cQ : ClassId} {b : Nat → Nat} {N : bS} {T R : Nat} {s : State} {H : Heap} (h : SW D cI cQ b N T R s H) : ∃ cell : Cell, H[b 0]? = some cell ∧ cell.vm.isStatics = false ∧ s.vm.findClass RX1 = some cell.cls := va_recv h.1.1 (at1 (h.1.2.1 0 (by omega))) (ci := 1) (q0 := 0) rfl rfl
/-- the law's arrays: x 0 .. x 4 of n ints, x 5 the m rows x (6 + r) -/
def xE (cI cQ : ClassId) (x : Nat → Nat) (F : bS) (n m : Nat) : Nat → va_E := fun k => if k = 5 then eQ cQ m (fun i => if i < m then some (x (6 + i)) else none) else eI cI n (F k)
def XW (D : va_G) (cI cQ : ClassId) (x : Nat → Nat) (F : bS) (n m : Nat) (U : State) (H : Heap) : Prop := GW D cI cQ (6 + m) x (xE cI cQ x F n m) U H
theorem xE_5 {cI cQ : ClassId} {x : Nat → Nat} {F : bS} {n m : Nat} : xE cI cQ x F n m 5 = eQ cQ m (fun i => if i < m then some (x (6 + i)) else none) := if_pos rfl
theorem xE_n {cI cQ : ClassId} {x : Nat → Nat} {F : bS} {n m k : Nat} (h : k ≠ 5) : xE cI cQ x F n m k = eI cI n (F k) := if_neg h
theorem xE_up {cI cQ : ClassId} {x : Nat → Nat} {F : bS} {n m k j : Nat} {v : Int32} (h : k ≠ 5) (k' : Nat) : eU (xE cI cQ x F n m) k (eI cI n (upd (F k) j v)) k' = xE cI cQ x (up2 F k j v) n m k' := by
  by_cases e : k' = k
  · rw [e, eU_self, xE_n h, up2_at]
  · rw [eU_ne _ _ e]
    by_cases e2 : k' = 5
    · rw [e2, xE_5, xE_5]
    · rw [xE_n e2, xE_n e2, up2_row e]
theorem XW.moved {D : va_G} {cI cQ : ClassId} {x : Nat → Nat} {F : bS} {n m : Nat} {u U : State} {H : Heap} (hvm : u.vm.Alike U.vm) (h : XW D cI cQ x F n m u H) : XW D cI cQ x F n m U H := GW.moved hvm h
end
section
/-- Math.max, Math.min of two ints -/
def mx (x y : Int32) : Int32 := if x < y then y else x
def mn (x y : Int32) : Int32 := if y < x then y else x
theorem mw_19 : Cond.fieldLink RX0 9 "BellHush" "loudness" "[I" ∈ wsL_law := List.mem_of_getElem? (i := 19) (by decide +kernel)
theorem mw_20 : Cond.fieldLink RX0 13 "BellHush" "period" "[I" ∈ wsL_law := List.mem_of_getElem? (i := 20) (by decide +kernel)
theorem mw_21 : Cond.fieldLink RX0 16 "BellHush" "silence" "[I" ∈ wsL_law := List.mem_of_getElem? (i := 21) (by decide +kernel)
theorem mw_22 : Cond.fieldLink RX0 19 "BellHush" "untilStroke" "[I" ∈ wsL_law := List.mem_of_getElem? (i := 22) (by decide +kernel)
theorem mw_23 : Cond.fieldLink RX0 22 "BellHush" "strokes" "[I" ∈ wsL_law := List.mem_of_getElem? (i := 23) (by decide +kernel)
theorem mw_24 : Cond.fieldLink RX0 25 "BellHush" "purse" "[I" ∈ wsL_law := List.mem_of_getElem? (i := 24) (by decide +kernel)
theorem mw_26 : Cond.fieldLink RX0 30 "BellHush" "held" "[[I" ∈ wsL_law := List.mem_of_getElem? (i := 26) (by decide +kernel)
theorem mw_67 : Cond.fieldLink RX0 53 "BellHush" "second" "I" ∈ wsL_law := List.mem_of_getElem? (i := 67) (by decide +kernel)
theorem mw_66 : Cond.fieldLink RX0 44 "BellHush" "towerCount" "I" ∈ wsL_law := List.mem_of_getElem? (i := 66) (by decide +kernel)
theorem mw_80 : Cond.fieldLink RX0 62 "BellHush" "traderCount" "I" ∈ wsL_law := List.mem_of_getElem? (i := 80) (by decide +kernel)
theorem mw_153 : Cond.fieldLink RX1 26 "BellHushLaw$Sim" "second" "I" ∈ wsL_law := List.mem_of_getElem? (i := 153) (by decide +kernel)
theorem mw_38 : Cond.fieldLink RX1 9 "BellHushLaw$Sim" "towers" "[[I" ∈ wsL_law := List.mem_of_getElem? (i := 38) (by decide +kernel)
theorem mw_39 : Cond.fieldLink RX1 15 "BellHushLaw$Sim" "purses" "[I" ∈ wsL_law := List.mem_of_getElem? (i := 39) (by decide +kernel)
theorem mw_41 : Cond.fieldLink RX1 19 "BellHushLaw$Sim" "held" "[[I" ∈ wsL_law := List.mem_of_getElem? (i := 41) (by decide +kernel)
theorem mw_5 : Cond.fieldLink RL 9 "BellHushLaw$Sim" "towers" "[[I" ∈ wsL_law := List.mem_of_getElem? (i := 5) (by decide +kernel)
theorem mw_53 : Cond.fieldLink RL 15 "BellHushLaw$Sim" "purses" "[I" ∈ wsL_law := List.mem_of_getElem? (i := 53) (by decide +kernel)
theorem mw_54 : Cond.fieldLink RL 45 "BellHushLaw$Sim" "held" "[[I" ∈ wsL_law := List.mem_of_getElem? (i := 54) (by decide +kernel)
theorem mw_42 : Cond.methodLink RL 64 yL_cell ∈ wsL_law := List.mem_of_getElem? (i := 42) (by decide +kernel)
theorem mw_43 : Cond.static yL_cell ∈ wsL_law := List.mem_of_getElem? (i := 43) (by decide +kernel)
theorem mw_29 : Cond.initialized RL ∈ wsL_law := List.mem_of_getElem? (i := 29) (by decide +kernel)
theorem mw_44 : Cond.code yL_cell cL_cell 2 (some .int) ∈ wsL_law := List.mem_of_getElem? (i := 44) (by decide +kernel)
theorem mw_46 : Cond.methodLink RL 19 yL_below ∈ wsL_law := List.mem_of_getElem? (i := 46) (by decide +kernel)
theorem mw_47 : Cond.static yL_below ∈ wsL_law := List.mem_of_getElem? (i := 47) (by decide +kernel)
theorem mw_48 : Cond.code yL_below cL_below 2 (some .int) ∈ wsL_law := List.mem_of_getElem? (i := 48) (by decide +kernel)
theorem mw_58 : Cond.methodLink RL 29 yX0_list ∈ wsL_law := List.mem_of_getElem? (i := 58) (by decide +kernel)
theorem mw_59 : Cond.instanceMethod yX0_list ∈ wsL_law := List.mem_of_getElem? (i := 59) (by decide +kernel)
theorem mw_60 : Cond.selects RX0 yX0_list yX0_list ∈ wsL_law := List.mem_of_getElem? (i := 60) (by decide +kernel)
theorem mw_2 : Cond.initialized RX0 ∈ wsL_law := List.mem_of_getElem? (i := 2) (by decide +kernel)
theorem mw_61 : Cond.code yX0_list cX0_list 6 (some .int) ∈ wsL_law := List.mem_of_getElem? (i := 61) (by decide +kernel)
theorem mw_72 : Cond.methodLink RL 35 yX1_addTrader ∈ wsL_law := List.mem_of_getElem? (i := 72) (by decide +kernel)
theorem mw_73 : Cond.instanceMethod yX1_addTrader ∈ wsL_law := List.mem_of_getElem? (i := 73) (by decide +kernel)
theorem mw_74 : Cond.selects RX1 yX1_addTrader yX1_addTrader ∈ wsL_law := List.mem_of_getElem? (i := 74) (by decide +kernel)
theorem mw_33 : Cond.initialized RX1 ∈ wsL_law := List.mem_of_getElem? (i := 33) (by decide +kernel)
theorem mw_75 : Cond.code yX1_addTrader cX1_addTrader 3 none ∈ wsL_law := List.mem_of_getElem? (i := 75) (by decide +kernel)
theorem mw_76 : Cond.methodLink RL 38 yX0_addTrader ∈ wsL_law := List.mem_of_getElem? (i := 76) (by decide +kernel)
theorem mw_77 : Cond.instanceMethod yX0_addTrader ∈ wsL_law := List.mem_of_getElem? (i := 77) (by decide +kernel)
theorem mw_78 : Cond.selects RX0 yX0_addTrader yX0_addTrader ∈ wsL_law := List.mem_of_getElem? (i := 78) (by decide +kernel)
theorem mw_79 : Cond.code yX0_addTrader cX0_addTrader 2 (some .int) ∈ wsL_law := List.mem_of_getElem? (i := 79) (by decide +kernel)
theorem mw_81 : Cond.methodLink RL 41 yX1_price ∈ wsL_law := List.mem_of_getElem? (i := 81) (by decide +kernel)
theorem mw_82 : Cond.instanceMethod yX1_price ∈ wsL_law := List.mem_of_getElem? (i := 82) (by decide +kernel)
theorem mw_83 : Cond.selects RX1 yX1_price yX1_price ∈ wsL_law := List.mem_of_getElem? (i := 83) (by decide +kernel)
theorem mw_84 : Cond.code yX1_price cX1_price 3 (some .int) ∈ wsL_law := List.mem_of_getElem? (i := 84) (by decide +kernel)
theorem mw_85 : Cond.methodLink RX1 22 yX1_doves ∈ wsL_law := List.mem_of_getElem? (i := 85) (by decide +kernel)
theorem mw_86 : Cond.instanceMethod yX1_doves ∈ wsL_law := List.mem_of_getElem? (i := 86) (by decide +kernel)
theorem mw_87 : Cond.selects RX1 yX1_doves yX1_doves ∈ wsL_law := List.mem_of_getElem? (i := 87) (by decide +kernel)
theorem mw_88 : Cond.code yX1_doves cX1_doves 7 (some .int) ∈ wsL_law := List.mem_of_getElem? (i := 88) (by decide +kernel)
theorem mw_89 : Cond.methodLink RL 48 yX1_sell ∈ wsL_law := List.mem_of_getElem? (i := 89) (by decide +kernel)
theorem mw_90 : Cond.instanceMethod yX1_sell ∈ wsL_law := List.mem_of_getElem? (i := 90) (by decide +kernel)
theorem mw_91 : Cond.selects RX1 yX1_sell yX1_sell ∈ wsL_law := List.mem_of_getElem? (i := 91) (by decide +kernel)
theorem mw_92 : Cond.code yX1_sell cX1_sell 4 none ∈ wsL_law := List.mem_of_getElem? (i := 92) (by decide +kernel)
theorem mw_93 : Cond.methodLink RX1 30 yX1_price ∈ wsL_law := List.mem_of_getElem? (i := 93) (by decide +kernel)
theorem mw_94 : Cond.methodLink RL 52 yX0_buy ∈ wsL_law := List.mem_of_getElem? (i := 94) (by decide +kernel)
theorem mw_95 : Cond.instanceMethod yX0_buy ∈ wsL_law := List.mem_of_getElem? (i := 95) (by decide +kernel)
theorem mw_96 : Cond.selects RX0 yX0_buy yX0_buy ∈ wsL_law := List.mem_of_getElem? (i := 96) (by decide +kernel)
theorem mw_97 : Cond.code yX0_buy cX0_buy 5 (some .int) ∈ wsL_law := List.mem_of_getElem? (i := 97) (by decide +kernel)
theorem mw_98 : Cond.methodLink RX0 67 yX0_requireTrader ∈ wsL_law := List.mem_of_getElem? (i := 98) (by decide +kernel)
theorem mw_99 : Cond.instanceMethod yX0_requireTrader ∈ wsL_law := List.mem_of_getElem? (i := 99) (by decide +kernel)
theorem mw_100 : Cond.selects RX0 yX0_requireTrader yX0_requireTrader ∈ wsL_law := List.mem_of_getElem? (i := 100) (by decide +kernel)
theorem mw_101 : Cond.code yX0_requireTrader cX0_requireTrader 2 none ∈ wsL_law := List.mem_of_getElem? (i := 101) (by decide +kernel)
theorem mw_104 : Cond.methodLink RX0 71 yX0_requireTower ∈ wsL_law := List.mem_of_getElem? (i := 104) (by decide +kernel)
theorem mw_105 : Cond.instanceMethod yX0_requireTower ∈ wsL_law := List.mem_of_getElem? (i := 105) (by decide +kernel)
theorem mw_106 : Cond.selects RX0 yX0_requireTower yX0_requireTower ∈ wsL_law := List.mem_of_getElem? (i := 106) (by decide +kernel)
theorem mw_107 : Cond.code yX0_requireTower cX0_requireTower 2 none ∈ wsL_law := List.mem_of_getElem? (i := 107) (by decide +kernel)
theorem mw_108 : Cond.methodLink RX0 74 yX0_requireTradable ∈ wsL_law := List.mem_of_getElem? (i := 108) (by decide +kernel)
theorem mw_109 : Cond.static yX0_requireTradable ∈ wsL_law := List.mem_of_getElem? (i := 109) (by decide +kernel)
theorem mw_110 : Cond.code yX0_requireTradable cX0_requireTradable 1 none ∈ wsL_law := List.mem_of_getElem? (i := 110) (by decide +kernel)
theorem mw_111 : Cond.methodLink RX0 77 yX0_priceNow ∈ wsL_law := List.mem_of_getElem? (i := 111) (by decide +kernel)
theorem mw_112 : Cond.instanceMethod yX0_priceNow ∈ wsL_law := List.mem_of_getElem? (i := 112) (by decide +kernel)
theorem mw_113 : Cond.selects RX0 yX0_priceNow yX0_priceNow ∈ wsL_law := List.mem_of_getElem? (i := 113) (by decide +kernel)
theorem mw_114 : Cond.code yX0_priceNow cX0_priceNow 2 (some .int) ∈ wsL_law := List.mem_of_getElem? (i := 114) (by decide +kernel)
theorem mw_115 : Cond.methodLink RX0 94 yX0_dovesNow ∈ wsL_law := List.mem_of_getElem? (i := 115) (by decide +kernel)
theorem mw_116 : Cond.instanceMethod yX0_dovesNow ∈ wsL_law := List.mem_of_getElem? (i := 116) (by decide +kernel)
theorem mw_117 : Cond.selects RX0 yX0_dovesNow yX0_dovesNow ∈ wsL_law := List.mem_of_getElem? (i := 117) (by decide +kernel)
theorem mw_118 : Cond.code yX0_dovesNow cX0_dovesNow 4 (some .int) ∈ wsL_law := List.mem_of_getElem? (i := 118) (by decide +kernel)
theorem mw_119 : Cond.methodLink RX0 169 yX0_dovesFor ∈ wsL_law := List.mem_of_getElem? (i := 119) (by decide +kernel)
theorem mw_120 : Cond.static yX0_dovesFor ∈ wsL_law := List.mem_of_getElem? (i := 120) (by decide +kernel)
theorem mw_121 : Cond.code yX0_dovesFor cX0_dovesFor 1 (some .int) ∈ wsL_law := List.mem_of_getElem? (i := 121) (by decide +kernel)
theorem mw_123 : Cond.methodLink RX0 172 yX0_price ∈ wsL_law := List.mem_of_getElem? (i := 123) (by decide +kernel)
theorem mw_124 : Cond.static yX0_price ∈ wsL_law := List.mem_of_getElem? (i := 124) (by decide +kernel)
theorem mw_125 : Cond.code yX0_price cX0_price 3 (some .int) ∈ wsL_law := List.mem_of_getElem? (i := 125) (by decide +kernel)
theorem mw_126 : Cond.methodLink RL 55 yX0_sell ∈ wsL_law := List.mem_of_getElem? (i := 126) (by decide +kernel)
theorem mw_127 : Cond.instanceMethod yX0_sell ∈ wsL_law := List.mem_of_getElem? (i := 127) (by decide +kernel)
theorem mw_128 : Cond.selects RX0 yX0_sell yX0_sell ∈ wsL_law := List.mem_of_getElem? (i := 128) (by decide +kernel)
theorem mw_129 : Cond.code yX0_sell cX0_sell 5 (some .int) ∈ wsL_law := List.mem_of_getElem? (i := 129) (by decide +kernel)
theorem mw_130 : Cond.methodLink RL 57 yX0_pass ∈ wsL_law := List.mem_of_getElem? (i := 130) (by decide +kernel)
theorem mw_131 : Cond.instanceMethod yX0_pass ∈ wsL_law := List.mem_of_getElem? (i := 131) (by decide +kernel)
theorem mw_132 : Cond.selects RX0 yX0_pass yX0_pass ∈ wsL_law := List.mem_of_getElem? (i := 132) (by decide +kernel)
theorem mw_133 : Cond.code yX0_pass cX0_pass 4 (some .int) ∈ wsL_law := List.mem_of_getElem? (i := 133) (by decide +kernel)
theorem mw_134 : Cond.methodLink RX0 87 yX0_requirePassable ∈ wsL_law := List.mem_of_getElem? (i := 134) (by decide +kernel)
theorem mw_135 : Cond.static yX0_requirePassable ∈ wsL_law := List.mem_of_getElem? (i := 135) (by decide +kernel)
theorem mw_136 : Cond.code yX0_requirePassable cX0_requirePassable 1 none ∈ wsL_law := List.mem_of_getElem? (i := 136) (by decide +kernel)
theorem mw_137 : Cond.methodLink RX0 90 yX0_goOneSecond ∈ wsL_law := List.mem_of_getElem? (i := 137) (by decide +kernel)
theorem mw_138 : Cond.instanceMethod yX0_goOneSecond ∈ wsL_law := List.mem_of_getElem? (i := 138) (by decide +kernel)
theorem mw_139 : Cond.selects RX0 yX0_goOneSecond yX0_goOneSecond ∈ wsL_law := List.mem_of_getElem? (i := 139) (by decide +kernel)
theorem mw_140 : Cond.code yX0_goOneSecond cX0_goOneSecond 3 (some .int) ∈ wsL_law := List.mem_of_getElem? (i := 140) (by decide +kernel)
theorem mw_141 : Cond.methodLink RX0 163 yX0_strike ∈ wsL_law := List.mem_of_getElem? (i := 141) (by decide +kernel)
theorem mw_142 : Cond.instanceMethod yX0_strike ∈ wsL_law := List.mem_of_getElem? (i := 142) (by decide +kernel)
theorem mw_143 : Cond.selects RX0 yX0_strike yX0_strike ∈ wsL_law := List.mem_of_getElem? (i := 143) (by decide +kernel)
theorem mw_144 : Cond.code yX0_strike cX0_strike 4 none ∈ wsL_law := List.mem_of_getElem? (i := 144) (by decide +kernel)
theorem mw_145 : Cond.methodLink RL 60 yX1_behind ∈ wsL_law := List.mem_of_getElem? (i := 145) (by decide +kernel)
theorem mw_146 : Cond.instanceMethod yX1_behind ∈ wsL_law := List.mem_of_getElem? (i := 146) (by decide +kernel)
theorem mw_147 : Cond.selects RX1 yX1_behind yX1_behind ∈ wsL_law := List.mem_of_getElem? (i := 147) (by decide +kernel)
theorem mw_148 : Cond.code yX1_behind cX1_behind 4 (some .int) ∈ wsL_law := List.mem_of_getElem? (i := 148) (by decide +kernel)
theorem mw_149 : Cond.methodLink RX1 33 yX1_pass ∈ wsL_law := List.mem_of_getElem? (i := 149) (by decide +kernel)
theorem mw_150 : Cond.instanceMethod yX1_pass ∈ wsL_law := List.mem_of_getElem? (i := 150) (by decide +kernel)
theorem mw_151 : Cond.selects RX1 yX1_pass yX1_pass ∈ wsL_law := List.mem_of_getElem? (i := 151) (by decide +kernel)
theorem mw_152 : Cond.code yX1_pass cX1_pass 6 (some .int) ∈ wsL_law := List.mem_of_getElem? (i := 152) (by decide +kernel)
theorem mw_154 : Cond.methodLink RL 77 yX0_towers ∈ wsL_law := List.mem_of_getElem? (i := 154) (by decide +kernel)
theorem mw_155 : Cond.instanceMethod yX0_towers ∈ wsL_law := List.mem_of_getElem? (i := 155) (by decide +kernel)
theorem mw_156 : Cond.selects RX0 yX0_towers yX0_towers ∈ wsL_law := List.mem_of_getElem? (i := 156) (by decide +kernel)
theorem mw_157 : Cond.code yX0_towers cX0_towers 1 (some .int) ∈ wsL_law := List.mem_of_getElem? (i := 157) (by decide +kernel)
theorem mw_158 : Cond.methodLink RL 79 yX0_traders ∈ wsL_law := List.mem_of_getElem? (i := 158) (by decide +kernel)
theorem mw_159 : Cond.instanceMethod yX0_traders ∈ wsL_law := List.mem_of_getElem? (i := 159) (by decide +kernel)
theorem mw_160 : Cond.selects RX0 yX0_traders yX0_traders ∈ wsL_law := List.mem_of_getElem? (i := 160) (by decide +kernel)
theorem mw_161 : Cond.code yX0_traders cX0_traders 1 (some .int) ∈ wsL_law := List.mem_of_getElem? (i := 161) (by decide +kernel)
theorem mw_162 : Cond.methodLink RL 83 yX0_silenceOf ∈ wsL_law := List.mem_of_getElem? (i := 162) (by decide +kernel)
theorem mw_163 : Cond.instanceMethod yX0_silenceOf ∈ wsL_law := List.mem_of_getElem? (i := 163) (by decide +kernel)
theorem mw_164 : Cond.selects RX0 yX0_silenceOf yX0_silenceOf ∈ wsL_law := List.mem_of_getElem? (i := 164) (by decide +kernel)
theorem mw_165 : Cond.code yX0_silenceOf cX0_silenceOf 2 (some .int) ∈ wsL_law := List.mem_of_getElem? (i := 165) (by decide +kernel)
theorem mw_166 : Cond.methodLink RL 86 yX0_priceOf ∈ wsL_law := List.mem_of_getElem? (i := 166) (by decide +kernel)
theorem mw_167 : Cond.instanceMethod yX0_priceOf ∈ wsL_law := List.mem_of_getElem? (i := 167) (by decide +kernel)
theorem mw_168 : Cond.selects RX0 yX0_priceOf yX0_priceOf ∈ wsL_law := List.mem_of_getElem? (i := 168) (by decide +kernel)
theorem mw_169 : Cond.code yX0_priceOf cX0_priceOf 2 (some .int) ∈ wsL_law := List.mem_of_getElem? (i := 169) (by decide +kernel)
theorem mw_170 : Cond.methodLink RL 89 yX0_secondsUntilStroke ∈ wsL_law := List.mem_of_getElem? (i := 170) (by decide +kernel)
theorem mw_171 : Cond.instanceMethod yX0_secondsUntilStroke ∈ wsL_law := List.mem_of_getElem? (i := 171) (by decide +kernel)
theorem mw_172 : Cond.selects RX0 yX0_secondsUntilStroke yX0_secondsUntilStroke ∈ wsL_law := List.mem_of_getElem? (i := 172) (by decide +kernel)
theorem mw_173 : Cond.code yX0_secondsUntilStroke cX0_secondsUntilStroke 2 (some .int) ∈ wsL_law := List.mem_of_getElem? (i := 173) (by decide +kernel)
theorem mw_174 : Cond.methodLink RL 92 yX0_strokesOf ∈ wsL_law := List.mem_of_getElem? (i := 174) (by decide +kernel)
theorem mw_175 : Cond.instanceMethod yX0_strokesOf ∈ wsL_law := List.mem_of_getElem? (i := 175) (by decide +kernel)
theorem mw_176 : Cond.selects RX0 yX0_strokesOf yX0_strokesOf ∈ wsL_law := List.mem_of_getElem? (i := 176) (by decide +kernel)
theorem mw_177 : Cond.code yX0_strokesOf cX0_strokesOf 2 (some .int) ∈ wsL_law := List.mem_of_getElem? (i := 177) (by decide +kernel)
theorem mw_178 : Cond.methodLink RL 95 yX0_openSeconds ∈ wsL_law := List.mem_of_getElem? (i := 178) (by decide +kernel)
theorem mw_179 : Cond.instanceMethod yX0_openSeconds ∈ wsL_law := List.mem_of_getElem? (i := 179) (by decide +kernel)
theorem mw_180 : Cond.selects RX0 yX0_openSeconds yX0_openSeconds ∈ wsL_law := List.mem_of_getElem? (i := 180) (by decide +kernel)
theorem mw_181 : Cond.code yX0_openSeconds cX0_openSeconds 2 (some .int) ∈ wsL_law := List.mem_of_getElem? (i := 181) (by decide +kernel)
theorem mw_182 : Cond.methodLink RX0 97 yX0_heldByAll ∈ wsL_law := List.mem_of_getElem? (i := 182) (by decide +kernel)
theorem mw_183 : Cond.instanceMethod yX0_heldByAll ∈ wsL_law := List.mem_of_getElem? (i := 183) (by decide +kernel)
theorem mw_184 : Cond.selects RX0 yX0_heldByAll yX0_heldByAll ∈ wsL_law := List.mem_of_getElem? (i := 184) (by decide +kernel)
theorem mw_185 : Cond.code yX0_heldByAll cX0_heldByAll 4 (some .int) ∈ wsL_law := List.mem_of_getElem? (i := 185) (by decide +kernel)
theorem mw_186 : Cond.methodLink RL 98 yX0_holds ∈ wsL_law := List.mem_of_getElem? (i := 186) (by decide +kernel)
theorem mw_187 : Cond.instanceMethod yX0_holds ∈ wsL_law := List.mem_of_getElem? (i := 187) (by decide +kernel)
theorem mw_188 : Cond.selects RX0 yX0_holds yX0_holds ∈ wsL_law := List.mem_of_getElem? (i := 188) (by decide +kernel)
theorem mw_189 : Cond.code yX0_holds cX0_holds 3 (some .int) ∈ wsL_law := List.mem_of_getElem? (i := 189) (by decide +kernel)
theorem mw_190 : Cond.methodLink RL 101 yX0_dovesOn ∈ wsL_law := List.mem_of_getElem? (i := 190) (by decide +kernel)
theorem mw_191 : Cond.instanceMethod yX0_dovesOn ∈ wsL_law := List.mem_of_getElem? (i := 191) (by decide +kernel)
theorem mw_192 : Cond.selects RX0 yX0_dovesOn yX0_dovesOn ∈ wsL_law := List.mem_of_getElem? (i := 192) (by decide +kernel)
theorem mw_193 : Cond.code yX0_dovesOn cX0_dovesOn 2 (some .int) ∈ wsL_law := List.mem_of_getElem? (i := 193) (by decide +kernel)
theorem mw_194 : Cond.methodLink RL 109 yX0_closingPrice ∈ wsL_law := List.mem_of_getElem? (i := 194) (by decide +kernel)
theorem mw_195 : Cond.instanceMethod yX0_closingPrice ∈ wsL_law := List.mem_of_getElem? (i := 195) (by decide +kernel)
theorem mw_196 : Cond.selects RX0 yX0_closingPrice yX0_closingPrice ∈ wsL_law := List.mem_of_getElem? (i := 196) (by decide +kernel)
theorem mw_197 : Cond.code yX0_closingPrice cX0_closingPrice 2 (some .int) ∈ wsL_law := List.mem_of_getElem? (i := 197) (by decide +kernel)
theorem mw_198 : Cond.methodLink RX0 106 yX0_closing ∈ wsL_law := List.mem_of_getElem? (i := 198) (by decide +kernel)
theorem mw_199 : Cond.instanceMethod yX0_closing ∈ wsL_law := List.mem_of_getElem? (i := 199) (by decide +kernel)
theorem mw_200 : Cond.selects RX0 yX0_closing yX0_closing ∈ wsL_law := List.mem_of_getElem? (i := 200) (by decide +kernel)
theorem mw_201 : Cond.code yX0_closing cX0_closing 2 (some .int) ∈ wsL_law := List.mem_of_getElem? (i := 201) (by decide +kernel)
theorem mw_202 : Cond.methodLink RX0 175 yX0_closingWith ∈ wsL_law := List.mem_of_getElem? (i := 202) (by decide +kernel)
theorem mw_203 : Cond.instanceMethod yX0_closingWith ∈ wsL_law := List.mem_of_getElem? (i := 203) (by decide +kernel)
theorem mw_204 : Cond.selects RX0 yX0_closingWith yX0_closingWith ∈ wsL_law := List.mem_of_getElem? (i := 204) (by decide +kernel)
theorem mw_205 : Cond.code yX0_closingWith cX0_closingWith 3 (some .int) ∈ wsL_law := List.mem_of_getElem? (i := 205) (by decide +kernel)
theorem mw_206 : Cond.methodLink RL 115 yX0_purseOf ∈ wsL_law := List.mem_of_getElem? (i := 206) (by decide +kernel)
theorem mw_207 : Cond.instanceMethod yX0_purseOf ∈ wsL_law := List.mem_of_getElem? (i := 207) (by decide +kernel)
theorem mw_208 : Cond.selects RX0 yX0_purseOf yX0_purseOf ∈ wsL_law := List.mem_of_getElem? (i := 208) (by decide +kernel)
theorem mw_209 : Cond.code yX0_purseOf cX0_purseOf 2 (some .int) ∈ wsL_law := List.mem_of_getElem? (i := 209) (by decide +kernel)
theorem mw_210 : Cond.methodLink RL 118 yX0_worthOf ∈ wsL_law := List.mem_of_getElem? (i := 210) (by decide +kernel)
theorem mw_211 : Cond.instanceMethod yX0_worthOf ∈ wsL_law := List.mem_of_getElem? (i := 211) (by decide +kernel)
theorem mw_212 : Cond.selects RX0 yX0_worthOf yX0_worthOf ∈ wsL_law := List.mem_of_getElem? (i := 212) (by decide +kernel)
theorem mw_213 : Cond.code yX0_worthOf cX0_worthOf 2 (some .int) ∈ wsL_law := List.mem_of_getElem? (i := 213) (by decide +kernel)
theorem mw_214 : Cond.methodLink RX0 100 yX0_worthBehind ∈ wsL_law := List.mem_of_getElem? (i := 214) (by decide +kernel)
theorem mw_215 : Cond.instanceMethod yX0_worthBehind ∈ wsL_law := List.mem_of_getElem? (i := 215) (by decide +kernel)
theorem mw_216 : Cond.selects RX0 yX0_worthBehind yX0_worthBehind ∈ wsL_law := List.mem_of_getElem? (i := 216) (by decide +kernel)
theorem mw_217 : Cond.code yX0_worthBehind cX0_worthBehind 7 (some .int) ∈ wsL_law := List.mem_of_getElem? (i := 217) (by decide +kernel)
theorem mw_218 : Cond.methodLink RX0 109 yX0_priceBehind ∈ wsL_law := List.mem_of_getElem? (i := 218) (by decide +kernel)
theorem mw_219 : Cond.instanceMethod yX0_priceBehind ∈ wsL_law := List.mem_of_getElem? (i := 219) (by decide +kernel)
theorem mw_220 : Cond.selects RX0 yX0_priceBehind yX0_priceBehind ∈ wsL_law := List.mem_of_getElem? (i := 220) (by decide +kernel)
theorem mw_221 : Cond.code yX0_priceBehind cX0_priceBehind 6 (some .int) ∈ wsL_law := List.mem_of_getElem? (i := 221) (by decide +kernel)
theorem mw_222 : Cond.methodLink RL 121 yX0_shortsOf ∈ wsL_law := List.mem_of_getElem? (i := 222) (by decide +kernel)
theorem mw_223 : Cond.instanceMethod yX0_shortsOf ∈ wsL_law := List.mem_of_getElem? (i := 223) (by decide +kernel)
theorem mw_224 : Cond.selects RX0 yX0_shortsOf yX0_shortsOf ∈ wsL_law := List.mem_of_getElem? (i := 224) (by decide +kernel)
theorem mw_225 : Cond.code yX0_shortsOf cX0_shortsOf 2 (some .int) ∈ wsL_law := List.mem_of_getElem? (i := 225) (by decide +kernel)
theorem mw_226 : Cond.methodLink RX0 103 yX0_shortTowers ∈ wsL_law := List.mem_of_getElem? (i := 226) (by decide +kernel)
theorem mw_227 : Cond.instanceMethod yX0_shortTowers ∈ wsL_law := List.mem_of_getElem? (i := 227) (by decide +kernel)
theorem mw_228 : Cond.selects RX0 yX0_shortTowers yX0_shortTowers ∈ wsL_law := List.mem_of_getElem? (i := 228) (by decide +kernel)
theorem mw_229 : Cond.code yX0_shortTowers cX0_shortTowers 4 (some .int) ∈ wsL_law := List.mem_of_getElem? (i := 229) (by decide +kernel)
theorem mw_230 : Cond.methodLink RL 124 yX0_richest ∈ wsL_law := List.mem_of_getElem? (i := 230) (by decide +kernel)
theorem mw_231 : Cond.instanceMethod yX0_richest ∈ wsL_law := List.mem_of_getElem? (i := 231) (by decide +kernel)
theorem mw_232 : Cond.selects RX0 yX0_richest yX0_richest ∈ wsL_law := List.mem_of_getElem? (i := 232) (by decide +kernel)
theorem mw_233 : Cond.code yX0_richest cX0_richest 3 (some .int) ∈ wsL_law := List.mem_of_getElem? (i := 233) (by decide +kernel)
theorem mw_234 : Cond.methodLink RL 127 yX0_dearest ∈ wsL_law := List.mem_of_getElem? (i := 234) (by decide +kernel)
theorem mw_235 : Cond.instanceMethod yX0_dearest ∈ wsL_law := List.mem_of_getElem? (i := 235) (by decide +kernel)
theorem mw_236 : Cond.selects RX0 yX0_dearest yX0_dearest ∈ wsL_law := List.mem_of_getElem? (i := 236) (by decide +kernel)
theorem mw_237 : Cond.code yX0_dearest cX0_dearest 3 (some .int) ∈ wsL_law := List.mem_of_getElem? (i := 237) (by decide +kernel)
theorem mw_238 : Cond.methodLink RL 130 yX0_nextToStrike ∈ wsL_law := List.mem_of_getElem? (i := 238) (by decide +kernel)
theorem mw_239 : Cond.instanceMethod yX0_nextToStrike ∈ wsL_law := List.mem_of_getElem? (i := 239) (by decide +kernel)
theorem mw_240 : Cond.selects RX0 yX0_nextToStrike yX0_nextToStrike ∈ wsL_law := List.mem_of_getElem? (i := 240) (by decide +kernel)
theorem mw_241 : Cond.code yX0_nextToStrike cX0_nextToStrike 3 (some .int) ∈ wsL_law := List.mem_of_getElem? (i := 241) (by decide +kernel)
theorem mw_242 : Cond.methodLink RL 133 yX0_inDebt ∈ wsL_law := List.mem_of_getElem? (i := 242) (by decide +kernel)
theorem mw_243 : Cond.instanceMethod yX0_inDebt ∈ wsL_law := List.mem_of_getElem? (i := 243) (by decide +kernel)
theorem mw_244 : Cond.selects RX0 yX0_inDebt yX0_inDebt ∈ wsL_law := List.mem_of_getElem? (i := 244) (by decide +kernel)
theorem mw_245 : Cond.code yX0_inDebt cX0_inDebt 3 (some .int) ∈ wsL_law := List.mem_of_getElem? (i := 245) (by decide +kernel)
theorem mw_246 : Cond.methodLink RL 136 yX0_bestToBuy ∈ wsL_law := List.mem_of_getElem? (i := 246) (by decide +kernel)
theorem mw_247 : Cond.instanceMethod yX0_bestToBuy ∈ wsL_law := List.mem_of_getElem? (i := 247) (by decide +kernel)
theorem mw_248 : Cond.selects RX0 yX0_bestToBuy yX0_bestToBuy ∈ wsL_law := List.mem_of_getElem? (i := 248) (by decide +kernel)
theorem mw_249 : Cond.code yX0_bestToBuy cX0_bestToBuy 4 (some .int) ∈ wsL_law := List.mem_of_getElem? (i := 249) (by decide +kernel)
theorem mw_250 : Cond.methodLink RX0 112 yX0_riseUntilStroke ∈ wsL_law := List.mem_of_getElem? (i := 250) (by decide +kernel)
theorem mw_251 : Cond.instanceMethod yX0_riseUntilStroke ∈ wsL_law := List.mem_of_getElem? (i := 251) (by decide +kernel)
theorem mw_252 : Cond.selects RX0 yX0_riseUntilStroke yX0_riseUntilStroke ∈ wsL_law := List.mem_of_getElem? (i := 252) (by decide +kernel)
theorem mw_253 : Cond.code yX0_riseUntilStroke cX0_riseUntilStroke 2 (some .int) ∈ wsL_law := List.mem_of_getElem? (i := 253) (by decide +kernel)
theorem mw_254 : Cond.methodLink RL 139 yX0_second ∈ wsL_law := List.mem_of_getElem? (i := 254) (by decide +kernel)
theorem mw_255 : Cond.instanceMethod yX0_second ∈ wsL_law := List.mem_of_getElem? (i := 255) (by decide +kernel)
theorem mw_256 : Cond.selects RX0 yX0_second yX0_second ∈ wsL_law := List.mem_of_getElem? (i := 256) (by decide +kernel)
theorem mw_257 : Cond.code yX0_second cX0_second 1 (some .int) ∈ wsL_law := List.mem_of_getElem? (i := 257) (by decide +kernel)
theorem mw_258 : Cond.methodLink RL 142 yX1_pass ∈ wsL_law := List.mem_of_getElem? (i := 258) (by decide +kernel)
theorem mw_259 : Cond.methodLink RL 144 yX1_isSame ∈ wsL_law := List.mem_of_getElem? (i := 259) (by decide +kernel)
theorem mw_260 : Cond.instanceMethod yX1_isSame ∈ wsL_law := List.mem_of_getElem? (i := 260) (by decide +kernel)
theorem mw_261 : Cond.selects RX1 yX1_isSame yX1_isSame ∈ wsL_law := List.mem_of_getElem? (i := 261) (by decide +kernel)
theorem mw_262 : Cond.code yX1_isSame cX1_isSame 13 (some .boolean) ∈ wsL_law := List.mem_of_getElem? (i := 262) (by decide +kernel)
theorem mw_263 : Cond.methodLink RX1 42 yX0_second ∈ wsL_law := List.mem_of_getElem? (i := 263) (by decide +kernel)
theorem mw_264 : Cond.methodLink RX1 46 yX0_towers ∈ wsL_law := List.mem_of_getElem? (i := 264) (by decide +kernel)
theorem mw_265 : Cond.methodLink RX1 48 yX0_traders ∈ wsL_law := List.mem_of_getElem? (i := 265) (by decide +kernel)
theorem mw_266 : Cond.methodLink RX1 51 yX0_silenceOf ∈ wsL_law := List.mem_of_getElem? (i := 266) (by decide +kernel)
theorem mw_267 : Cond.methodLink RX1 54 yX0_dovesOn ∈ wsL_law := List.mem_of_getElem? (i := 267) (by decide +kernel)
theorem mw_268 : Cond.methodLink RX1 57 yX0_priceOf ∈ wsL_law := List.mem_of_getElem? (i := 268) (by decide +kernel)
theorem mw_269 : Cond.methodLink RX1 60 yX0_secondsUntilStroke ∈ wsL_law := List.mem_of_getElem? (i := 269) (by decide +kernel)
theorem mw_270 : Cond.methodLink RX1 63 yX1_until ∈ wsL_law := List.mem_of_getElem? (i := 270) (by decide +kernel)
theorem mw_271 : Cond.instanceMethod yX1_until ∈ wsL_law := List.mem_of_getElem? (i := 271) (by decide +kernel)
theorem mw_272 : Cond.selects RX1 yX1_until yX1_until ∈ wsL_law := List.mem_of_getElem? (i := 272) (by decide +kernel)
theorem mw_273 : Cond.code yX1_until cX1_until 3 (some .int) ∈ wsL_law := List.mem_of_getElem? (i := 273) (by decide +kernel)
theorem mw_274 : Cond.methodLink RX1 66 yX0_strokesOf ∈ wsL_law := List.mem_of_getElem? (i := 274) (by decide +kernel)
theorem mw_275 : Cond.methodLink RX1 69 yX0_openSeconds ∈ wsL_law := List.mem_of_getElem? (i := 275) (by decide +kernel)
theorem mw_276 : Cond.methodLink RX1 72 yX0_holds ∈ wsL_law := List.mem_of_getElem? (i := 276) (by decide +kernel)
theorem mw_277 : Cond.methodLink RX1 76 yX1_worth ∈ wsL_law := List.mem_of_getElem? (i := 277) (by decide +kernel)
theorem mw_278 : Cond.instanceMethod yX1_worth ∈ wsL_law := List.mem_of_getElem? (i := 278) (by decide +kernel)
theorem mw_279 : Cond.selects RX1 yX1_worth yX1_worth ∈ wsL_law := List.mem_of_getElem? (i := 279) (by decide +kernel)
theorem mw_280 : Cond.code yX1_worth cX1_worth 4 (some .int) ∈ wsL_law := List.mem_of_getElem? (i := 280) (by decide +kernel)
theorem mw_281 : Cond.methodLink RX1 79 yX0_purseOf ∈ wsL_law := List.mem_of_getElem? (i := 281) (by decide +kernel)
theorem mw_282 : Cond.methodLink RX1 82 yX0_worthOf ∈ wsL_law := List.mem_of_getElem? (i := 282) (by decide +kernel)
theorem mw_283 : Cond.methodLink RX1 85 yX0_shortsOf ∈ wsL_law := List.mem_of_getElem? (i := 283) (by decide +kernel)
theorem mw_284 : Cond.methodLink RX1 88 yX0_dearest ∈ wsL_law := List.mem_of_getElem? (i := 284) (by decide +kernel)
theorem mw_285 : Cond.methodLink RX1 91 yX0_nextToStrike ∈ wsL_law := List.mem_of_getElem? (i := 285) (by decide +kernel)
theorem mw_286 : Cond.methodLink RX1 94 yX0_richest ∈ wsL_law := List.mem_of_getElem? (i := 286) (by decide +kernel)
theorem mw_287 : Cond.methodLink RX1 97 yX0_inDebt ∈ wsL_law := List.mem_of_getElem? (i := 287) (by decide +kernel)
theorem mw_288 : Cond.methodLink RX1 100 yX0_meanPrice ∈ wsL_law := List.mem_of_getElem? (i := 288) (by decide +kernel)
theorem mw_289 : Cond.instanceMethod yX0_meanPrice ∈ wsL_law := List.mem_of_getElem? (i := 289) (by decide +kernel)
theorem mw_290 : Cond.selects RX0 yX0_meanPrice yX0_meanPrice ∈ wsL_law := List.mem_of_getElem? (i := 290) (by decide +kernel)
theorem mw_291 : Cond.code yX0_meanPrice cX0_meanPrice 3 (some .double) ∈ wsL_law := List.mem_of_getElem? (i := 291) (by decide +kernel)
theorem mw_68 : Cond.methodLink RX0 56 yJ9_floorMod_7cf53 ∈ wsL_law := List.mem_of_getElem? (i := 68) (by decide +kernel)
theorem mw_69 : Cond.static yJ9_floorMod_7cf53 ∈ wsL_law := List.mem_of_getElem? (i := 69) (by decide +kernel)
theorem mw_70 : Cond.initialized RJ9 ∈ wsL_law := List.mem_of_getElem? (i := 70) (by decide +kernel)
theorem mw_71 : Cond.code yJ9_floorMod_7cf53 cJ9_floorMod_7cf53 3 (some .int) ∈ wsL_law := List.mem_of_getElem? (i := 71) (by decide +kernel)
theorem mw_6 : Cond.methodLink RL 104 Lib.Math.max.name ∈ wsL_law := List.mem_of_getElem? (i := 6) (by decide +kernel)
theorem mw_7 : Cond.static Lib.Math.max.name ∈ wsL_law := List.mem_of_getElem? (i := 7) (by decide +kernel)
theorem mw_8 : Cond.initialized "java/lang/Math" ∈ wsL_law := List.mem_of_getElem? (i := 8) (by decide +kernel)
theorem mw_9 : Cond.code Lib.Math.max.name Lib.Math.max.code 2 (some .int) ∈ wsL_law := List.mem_of_getElem? (i := 9) (by decide +kernel)
theorem mw_10 : Cond.methodLink RL 112 Lib.Math.min.name ∈ wsL_law := List.mem_of_getElem? (i := 10) (by decide +kernel)
theorem mw_11 : Cond.static Lib.Math.min.name ∈ wsL_law := List.mem_of_getElem? (i := 11) (by decide +kernel)
theorem mw_12 : Cond.code Lib.Math.min.name Lib.Math.min.code 2 (some .int) ∈ wsL_law := List.mem_of_getElem? (i := 12) (by decide +kernel)
theorem mw_122 : Cond.methodLink RX0 166 Lib.Math.max.name ∈ wsL_law := List.mem_of_getElem? (i := 122) (by decide +kernel)
section BR
variable {p : Program} {l : Launch} {e : Env} {R : Room} {s : State} {m : MethodId} {args : Array Value} {below : List Frame} {meth : Method} {c : Code} {H : Heap} {locs : List Loc} {cells slots : Nat} {Q : State → Prop}
variable {cc : ByteArray} {pc nL : Nat} {ls : Array Slot} {rest st0 : List Value} {D : va_G} {cI cQ : ClassId} {a b : Nat → Nat} {S N : bS} {A0 : Nat → Prop} {H0 : Heap} {rm : Room} {As : List Value} {T R9 n9 : Nat} {own : String} {F : bS}
theorem gB_loudness (hC : CallFix p m c cc nL s args wsL_law RX0) (hB : BW D cI cQ a S s H) (hdg : decode cc pc = .ok (.getfield 9, 3)) (kk : W p l e R s m args below meth c H locs cells slots Q (F0 m (pc + 3) ls (.ref (a 0) :: rest))) : W p l e R s m args below meth c H locs cells slots Q (F0 m pc ls (.ref (a 13) :: rest)) :=
  va_get (D := D) (ci := 0) (v := .ref (a 0)) (C := RX0) (T := TX0) (N := 10) hC.1 hC.2.1 hC.2.2.2.2 inlX0 hC.2.2.2.1 hB.1 hB.2.1 0 rfl rfl 0 (by decide) (hC.2.2.2.2 _ mw_19) (fun _ h9 => h9) rfl hdg kk
theorem gB_period (hC : CallFix p m c cc nL s args wsL_law RX0) (hB : BW D cI cQ a S s H) (hdg : decode cc pc = .ok (.getfield 13, 3)) (kk : W p l e R s m args below meth c H locs cells slots Q (F0 m (pc + 3) ls (.ref (a 1) :: rest))) : W p l e R s m args below meth c H locs cells slots Q (F0 m pc ls (.ref (a 13) :: rest)) :=
  va_get (D := D) (ci := 0) (v := .ref (a 1)) (C := RX0) (T := TX0) (N := 10) hC.1 hC.2.1 hC.2.2.2.2 inlX0 hC.2.2.2.1 hB.1 hB.2.1 0 rfl rfl 1 (by decide) (hC.2.2.2.2 _ mw_20) (fun _ h9 => h9) rfl hdg kk
theorem gB_silence (hC : CallFix p m c cc nL s args wsL_law RX0) (hB : BW D cI cQ a S s H) (hdg : decode cc pc = .ok (.getfield 16, 3)) (kk : W p l e R s m args below meth c H locs cells slots Q (F0 m (pc + 3) ls (.ref (a 2) :: rest))) : W p l e R s m args below meth c H locs cells slots Q (F0 m pc ls (.ref (a 13) :: rest)) :=
  va_get (D := D) (ci := 0) (v := .ref (a 2)) (C := RX0) (T := TX0) (N := 10) hC.1 hC.2.1 hC.2.2.2.2 inlX0 hC.2.2.2.1 hB.1 hB.2.1 0 rfl rfl 2 (by decide) (hC.2.2.2.2 _ mw_21) (fun _ h9 => h9) rfl hdg kk
theorem gB_untilStroke (hC : CallFix p m c cc nL s args wsL_law RX0) (hB : BW D cI cQ a S s H) (hdg : decode cc pc = .ok (.getfield 19, 3)) (kk : W p l e R s m args below meth c H locs cells slots Q (F0 m (pc + 3) ls (.ref (a 3) :: rest))) : W p l e R s m args below meth c H locs cells slots Q (F0 m pc ls (.ref (a 13) :: rest)) :=
  va_get (D := D) (ci := 0) (v := .ref (a 3)) (C := RX0) (T := TX0) (N := 10) hC.1 hC.2.1 hC.2.2.2.2 inlX0 hC.2.2.2.1 hB.1 hB.2.1 0 rfl rfl 3 (by decide) (hC.2.2.2.2 _ mw_22) (fun _ h9 => h9) rfl hdg kk
theorem gB_strokes (hC : CallFix p m c cc nL s args wsL_law RX0) (hB : BW D cI cQ a S s H) (hdg : decode cc pc = .ok (.getfield 22, 3)) (kk : W p l e R s m args below meth c H locs cells slots Q (F0 m (pc + 3) ls (.ref (a 4) :: rest))) : W p l e R s m args below meth c H locs cells slots Q (F0 m pc ls (.ref (a 13) :: rest)) :=
  va_get (D := D) (ci := 0) (v := .ref (a 4)) (C := RX0) (T := TX0) (N := 10) hC.1 hC.2.1 hC.2.2.2.2 inlX0 hC.2.2.2.1 hB.1 hB.2.1 0 rfl rfl 4 (by decide) (hC.2.2.2.2 _ mw_23) (fun _ h9 => h9) rfl hdg kk
theorem gB_purse (hC : CallFix p m c cc nL s args wsL_law RX0) (hB : BW D cI cQ a S s H) (hdg : decode cc pc = .ok (.getfield 25, 3)) (kk : W p l e R s m args below meth c H locs cells slots Q (F0 m (pc + 3) ls (.ref (a 5) :: rest))) : W p l e R s m args below meth c H locs cells slots Q (F0 m pc ls (.ref (a 13) :: rest)) :=
  va_get (D := D) (ci := 0) (v := .ref (a 5)) (C := RX0) (T := TX0) (N := 10) hC.1 hC.2.1 hC.2.2.2.2 inlX0 hC.2.2.2.1 hB.1 hB.2.1 0 rfl rfl 5 (by decide) (hC.2.2.2.2 _ mw_24) (fun _ h9 => h9) rfl hdg kk
theorem gB_held (hC : CallFix p m c cc nL s args wsL_law RX0) (hB : BW D cI cQ a S s H) (hdg : decode cc pc = .ok (.getfield 30, 3)) (kk : W p l e R s m args below meth c H locs cells slots Q (F0 m (pc + 3) ls (.ref (a 6) :: rest))) : W p l e R s m args below meth c H locs cells slots Q (F0 m pc ls (.ref (a 13) :: rest)) :=
  va_get (D := D) (ci := 0) (v := .ref (a 6)) (C := RX0) (T := TX0) (N := 10) hC.1 hC.2.1 hC.2.2.2.2 inlX0 hC.2.2.2.1 hB.1 hB.2.1 0 rfl rfl 6 (by decide) (hC.2.2.2.2 _ mw_26) (fun _ h9 => h9) rfl hdg kk
theorem gB_second {v : Int32} (hC : CallFix p m c cc nL s args wsL_law RX0) (hB : BW D cI cQ a S s H) (hv : S 6 0 = v) (hdg : decode cc pc = .ok (.getfield 53, 3)) (kk : W p l e R s m args below meth c H locs cells slots Q (F0 m (pc + 3) ls (.int v :: rest))) : W p l e R s m args below meth c H locs cells slots Q (F0 m pc ls (.ref (a 13) :: rest)) := by
  subst hv
  exact va_get (D := D) (ci := 0) (v := .int (S 6 0)) (C := RX0) (T := TX0) (N := 10) hC.1 hC.2.1 hC.2.2.2.2 inlX0 hC.2.2.2.1 hB.1 hB.2.1 0 rfl rfl 7 (by decide) (hC.2.2.2.2 _ mw_67) (fun _ h9 => h9) rfl hdg kk
theorem pB_second {v : Int32} (hC : CallFix p m c cc nL s args wsL_law RX0) (hB : BW D cI cQ a S s H) (hS : va_S A0 H0 H locs) (hA : ∀ q, inB a q → A0 q) (hdg : decode cc pc = .ok (.putfield 53, 3)) (kk : ∀ (H1 : Heap) (locs1 : List Loc), BW D cI cQ a (up2 S 6 0 v) s H1 → va_S A0 H0 H1 locs1 → W p l e R s m args below meth c H1 locs1 cells slots Q (F0 m (pc + 3) ls rest)) : W p l e R s m args below meth c H locs cells slots Q (F0 m pc ls (.int v :: .ref (a 13) :: rest)) :=
  va_put (D := D) (ci := 0) (v := .int v) (ty := .int) (C := RX0) (T := TX0) (N := 10) hC.1 hC.2.1 hC.2.2.2.2 inlX0 tyX0 tyX0_ok nmX0 hC.2.2.2.1 hB.1 hB.2.1 (hB.D.weaken (fun _ _ _ h => hA _ h)) hS 0 rfl rfl 7 (by decide) (hC.2.2.2.2 _ mw_67) (fun _ h9 => h9) rfl (by decide +kernel) rfl rfl (Nat.le_of_ble_eq_true rfl) hdg (fun H1 locs1 h1 _ h3 => kk H1 locs1 ⟨hB.1, h1, hB.2.2⟩ h3)
theorem gB_towerCount {v : Int32} (hC : CallFix p m c cc nL s args wsL_law RX0) (hB : BW D cI cQ a S s H) (hv : S 6 1 = v) (hdg : decode cc pc = .ok (.getfield 44, 3)) (kk : W p l e R s m args below meth c H locs cells slots Q (F0 m (pc + 3) ls (.int v :: rest))) : W p l e R s m args below meth c H locs cells slots Q (F0 m pc ls (.ref (a 13) :: rest)) := by
  subst hv
  exact va_get (D := D) (ci := 0) (v := .int (S 6 1)) (C := RX0) (T := TX0) (N := 10) hC.1 hC.2.1 hC.2.2.2.2 inlX0 hC.2.2.2.1 hB.1 hB.2.1 0 rfl rfl 8 (by decide) (hC.2.2.2.2 _ mw_66) (fun _ h9 => h9) rfl hdg kk
theorem pB_towerCount {v : Int32} (hC : CallFix p m c cc nL s args wsL_law RX0) (hB : BW D cI cQ a S s H) (hS : va_S A0 H0 H locs) (hA : ∀ q, inB a q → A0 q) (hdg : decode cc pc = .ok (.putfield 44, 3)) (kk : ∀ (H1 : Heap) (locs1 : List Loc), BW D cI cQ a (up2 S 6 1 v) s H1 → va_S A0 H0 H1 locs1 → W p l e R s m args below meth c H1 locs1 cells slots Q (F0 m (pc + 3) ls rest)) : W p l e R s m args below meth c H locs cells slots Q (F0 m pc ls (.int v :: .ref (a 13) :: rest)) :=
  va_put (D := D) (ci := 0) (v := .int v) (ty := .int) (C := RX0) (T := TX0) (N := 10) hC.1 hC.2.1 hC.2.2.2.2 inlX0 tyX0 tyX0_ok nmX0 hC.2.2.2.1 hB.1 hB.2.1 (hB.D.weaken (fun _ _ _ h => hA _ h)) hS 0 rfl rfl 8 (by decide) (hC.2.2.2.2 _ mw_66) (fun _ h9 => h9) rfl (by decide +kernel) rfl rfl (Nat.le_of_ble_eq_true rfl) hdg (fun H1 locs1 h1 _ h3 => kk H1 locs1 ⟨hB.1, h1, hB.2.2⟩ h3)
theorem gB_traderCount {v : Int32} (hC : CallFix p m c cc nL s args wsL_law RX0) (hB : BW D cI cQ a S s H) (hv : S 6 2 = v) (hdg : decode cc pc = .ok (.getfield 62, 3)) (kk : W p l e R s m args below meth c H locs cells slots Q (F0 m (pc + 3) ls (.int v :: rest))) : W p l e R s m args below meth c H locs cells slots Q (F0 m pc ls (.ref (a 13) :: rest)) := by
  subst hv
  exact va_get (D := D) (ci := 0) (v := .int (S 6 2)) (C := RX0) (T := TX0) (N := 10) hC.1 hC.2.1 hC.2.2.2.2 inlX0 hC.2.2.2.1 hB.1 hB.2.1 0 rfl rfl 9 (by decide) (hC.2.2.2.2 _ mw_80) (fun _ h9 => h9) rfl hdg kk
theorem pB_traderCount {v : Int32} (hC : CallFix p m c cc nL s args wsL_law RX0) (hB : BW D cI cQ a S s H) (hS : va_S A0 H0 H locs) (hA : ∀ q, inB a q → A0 q) (hdg : decode cc pc = .ok (.putfield 62, 3)) (kk : ∀ (H1 : Heap) (locs1 : List Loc), BW D cI cQ a (up2 S 6 2 v) s H1 → va_S A0 H0 H1 locs1 → W p l e R s m args below meth c H1 locs1 cells slots Q (F0 m (pc + 3) ls rest)) : W p l e R s m args below meth c H locs cells slots Q (F0 m pc ls (.int v :: .ref (a 13) :: rest)) :=
  va_put (D := D) (ci := 0) (v := .int v) (ty := .int) (C := RX0) (T := TX0) (N := 10) hC.1 hC.2.1 hC.2.2.2.2 inlX0 tyX0 tyX0_ok nmX0 hC.2.2.2.1 hB.1 hB.2.1 (hB.D.weaken (fun _ _ _ h => hA _ h)) hS 0 rfl rfl 9 (by decide) (hC.2.2.2.2 _ mw_80) (fun _ h9 => h9) rfl (by decide +kernel) rfl rfl (Nat.le_of_ble_eq_true rfl) hdg (fun H1 locs1 h1 _ h3 => kk H1 locs1 ⟨hB.1, h1, hB.2.2⟩ h3)
theorem gX1_second {v : Int32} (hC : CallFix p m c cc nL s args wsL_law RX1) (hN : SW D cI cQ b N T R9 s H) (hv : N 6 0 = v) (hdg : decode cc pc = .ok (.getfield 26, 3)) (kk : W p l e R s m args below meth c H locs cells slots Q (F0 m (pc + 3) ls (.int v :: rest))) : W p l e R s m args below meth c H locs cells slots Q (F0 m pc ls (.ref (b 0) :: rest)) := by
  subst hv
  exact va_get (D := D) (ci := 1) (v := .int (N 6 0)) (C := RX1) (T := TX1) (N := 4) hC.1 hC.2.1 hC.2.2.2.2 inlX1 hC.2.2.2.1 hN.1.1 (at1 (hN.1.2.1 0 (by omega))) 0 rfl rfl 0 (by decide) (hC.2.2.2.2 _ mw_153) (fun _ h9 => h9) rfl hdg kk
theorem pX1_second {v : Int32} (hC : CallFix p m c cc nL s args wsL_law RX1) (hN : SW D cI cQ b N T R9 s H) (hS : va_S A0 H0 H locs) (hA : ∀ q, inG (10 + T) b q → A0 q) (hdg : decode cc pc = .ok (.putfield 26, 3)) (kk : ∀ (H1 : Heap) (locs1 : List Loc), SW D cI cQ b (up2 N 6 0 v) T R9 s H1 → va_S A0 H0 H1 locs1 → H1.size = H.size → (∀ q : Nat, q ≠ b 0 → H1[q]? = H[q]?) → W p l e R s m args below meth c H1 locs1 cells slots Q (F0 m (pc + 3) ls rest)) : W p l e R s m args below meth c H locs cells slots Q (F0 m pc ls (.int v :: .ref (b 0) :: rest)) := by
  refine ptG (k := 0) (g := 0) (ty := .int) hC hN.1 (by omega) rfl hS (hA _ ⟨0, by omega, rfl⟩) (by decide) mw_153 rfl (fun _ h9 => h9) (by decide +kernel) rfl rfl (Nat.le_of_ble_eq_true rfl) hdg (fun H1 locs1 h1 h2 h3 h4 => kk H1 locs1 ⟨h1.cg (fun k hk => ?_), hN.2⟩ h2 h3 h4)
  by_cases e : k = 0
  · rw [e, eU_self]
    show (Sum.inr (1, [.int v, _, _, _]) : va_E) = Sum.inr (1, [.int (up2 N 6 0 v 6 0), _, _, _])
    rw [up2_eq]
  · rw [eU_ne _ _ e]
    exact sE_up k (fun z => absurd z e) (fun _ => by decide) (fun r _ _ => by omega) (fun t _ => by omega)
theorem gX1_towers (hC : CallFix p m c cc nL s args wsL_law RX1) (hN : SW D cI cQ b N T R9 s H) (hdg : decode cc pc = .ok (.getfield 9, 3)) (kk : W p l e R s m args below meth c H locs cells slots Q (F0 m (pc + 3) ls (.ref (b 1) :: rest))) : W p l e R s m args below meth c H locs cells slots Q (F0 m pc ls (.ref (b 0) :: rest)) :=
  va_get (D := D) (ci := 1) (v := .ref (b 1)) (C := RX1) (T := TX1) (N := 4) hC.1 hC.2.1 hC.2.2.2.2 inlX1 hC.2.2.2.1 hN.1.1 (at1 (hN.1.2.1 0 (by omega))) 0 rfl rfl 1 (by decide) (hC.2.2.2.2 _ mw_38) (fun _ h9 => h9) rfl hdg kk
theorem gX1_purses (hC : CallFix p m c cc nL s args wsL_law RX1) (hN : SW D cI cQ b N T R9 s H) (hdg : decode cc pc = .ok (.getfield 15, 3)) (kk : W p l e R s m args below meth c H locs cells slots Q (F0 m (pc + 3) ls (.ref (b 2) :: rest))) : W p l e R s m args below meth c H locs cells slots Q (F0 m pc ls (.ref (b 0) :: rest)) :=
  va_get (D := D) (ci := 1) (v := .ref (b 2)) (C := RX1) (T := TX1) (N := 4) hC.1 hC.2.1 hC.2.2.2.2 inlX1 hC.2.2.2.1 hN.1.1 (at1 (hN.1.2.1 0 (by omega))) 0 rfl rfl 2 (by decide) (hC.2.2.2.2 _ mw_39) (fun _ h9 => h9) rfl hdg kk
theorem gX1_held (hC : CallFix p m c cc nL s args wsL_law RX1) (hN : SW D cI cQ b N T R9 s H) (hdg : decode cc pc = .ok (.getfield 19, 3)) (kk : W p l e R s m args below meth c H locs cells slots Q (F0 m (pc + 3) ls (.ref (b 3) :: rest))) : W p l e R s m args below meth c H locs cells slots Q (F0 m pc ls (.ref (b 0) :: rest)) :=
  va_get (D := D) (ci := 1) (v := .ref (b 3)) (C := RX1) (T := TX1) (N := 4) hC.1 hC.2.1 hC.2.2.2.2 inlX1 hC.2.2.2.1 hN.1.1 (at1 (hN.1.2.1 0 (by omega))) 0 rfl rfl 3 (by decide) (hC.2.2.2.2 _ mw_41) (fun _ h9 => h9) rfl hdg kk
theorem gL_towers (hC : CallFix p m c cc nL s args wsL_law RL) (hN : SW D cI cQ b N T R9 s H) (hdg : decode cc pc = .ok (.getfield 9, 3)) (kk : W p l e R s m args below meth c H locs cells slots Q (F0 m (pc + 3) ls (.ref (b 1) :: rest))) : W p l e R s m args below meth c H locs cells slots Q (F0 m pc ls (.ref (b 0) :: rest)) :=
  va_get (D := D) (ci := 1) (v := .ref (b 1)) (C := RX1) (T := TX1) (N := 4) hC.1 hC.2.1 hC.2.2.2.2 inlX1 hC.2.2.2.1 hN.1.1 (at1 (hN.1.2.1 0 (by omega))) 0 rfl rfl 1 (by decide) (hC.2.2.2.2 _ mw_5) (fun _ h9 => h9) rfl hdg kk
theorem gL_purses (hC : CallFix p m c cc nL s args wsL_law RL) (hN : SW D cI cQ b N T R9 s H) (hdg : decode cc pc = .ok (.getfield 15, 3)) (kk : W p l e R s m args below meth c H locs cells slots Q (F0 m (pc + 3) ls (.ref (b 2) :: rest))) : W p l e R s m args below meth c H locs cells slots Q (F0 m pc ls (.ref (b 0) :: rest)) :=
  va_get (D := D) (ci := 1) (v := .ref (b 2)) (C := RX1) (T := TX1) (N := 4) hC.1 hC.2.1 hC.2.2.2.2 inlX1 hC.2.2.2.1 hN.1.1 (at1 (hN.1.2.1 0 (by omega))) 0 rfl rfl 2 (by decide) (hC.2.2.2.2 _ mw_53) (fun _ h9 => h9) rfl hdg kk
theorem gL_held (hC : CallFix p m c cc nL s args wsL_law RL) (hN : SW D cI cQ b N T R9 s H) (hdg : decode cc pc = .ok (.getfield 45, 3)) (kk : W p l e R s m args below meth c H locs cells slots Q (F0 m (pc + 3) ls (.ref (b 3) :: rest))) : W p l e R s m args below meth c H locs cells slots Q (F0 m pc ls (.ref (b 0) :: rest)) :=
  va_get (D := D) (ci := 1) (v := .ref (b 3)) (C := RX1) (T := TX1) (N := 4) hC.1 hC.2.1 hC.2.2.2.2 inlX1 hC.2.2.2.1 hN.1.1 (at1 (hN.1.2.1 0 (by omega))) 0 rfl rfl 3 (by decide) (hC.2.2.2.2 _ mw_54) (fun _ h9 => h9) rfl hdg kk
theorem nS_towers (hC : CallFix p m c cc nL s args wsL_law own) (hN : SW D cI cQ b N T R9 s H) (hdg : decode cc pc = .ok (.arraylength, 1)) (kk : W p l e R s m args below meth c H locs cells slots Q (F0 m (pc + 1) ls (.int (nI T) :: rest))) : W p l e R s m args below meth c H locs cells slots Q (F0 m pc ls (.ref (b 1) :: rest)) :=
  lqG (k := 1) hC hN.1 (by omega) rfl hdg kk
theorem nS_purses (hC : CallFix p m c cc nL s args wsL_law own) (hN : SW D cI cQ b N T R9 s H) (hdg : decode cc pc = .ok (.arraylength, 1)) (kk : W p l e R s m args below meth c H locs cells slots Q (F0 m (pc + 1) ls (.int (nI R9) :: rest))) : W p l e R s m args below meth c H locs cells slots Q (F0 m pc ls (.ref (b 2) :: rest)) :=
  lnG (k := 2) hC hN.1 (by omega) rfl hdg kk
theorem nS_held (hC : CallFix p m c cc nL s args wsL_law own) (hN : SW D cI cQ b N T R9 s H) (hdg : decode cc pc = .ok (.arraylength, 1)) (kk : W p l e R s m args below meth c H locs cells slots Q (F0 m (pc + 1) ls (.int (nI 6) :: rest))) : W p l e R s m args below meth c H locs cells slots Q (F0 m pc ls (.ref (b 3) :: rest)) :=
  lqG (k := 3) hC hN.1 (by omega) rfl hdg kk
theorem lS_tw (t : Nat) {x : Int32} (hC : CallFix p m c cc nL s args wsL_law own) (hN : SW D cI cQ b N T R9 s H) (hx : x = nI t) (ht : t < T) (hT : T ≤ 8) (hdg : decode cc pc = .ok (.aaload, 1)) (kk : W p l e R s m args below meth c H locs cells slots Q (F0 m (pc + 1) ls (.ref (b (10 + t)) :: rest))) : W p l e R s m args below meth c H locs cells slots Q (F0 m pc ls (.int x :: .ref (b 1) :: rest)) :=
  aaG (k := 1) t hC hN.1 (by omega) rfl hx ht (by omega) (if_pos ht) hdg kk
theorem lS_hr (r : Nat) {x : Int32} (hC : CallFix p m c cc nL s args wsL_law own) (hN : SW D cI cQ b N T R9 s H) (hx : x = nI r) (hr : r < 6) (hdg : decode cc pc = .ok (.aaload, 1)) (kk : W p l e R s m args below meth c H locs cells slots Q (F0 m (pc + 1) ls (.ref (b (4 + r)) :: rest))) : W p l e R s m args below meth c H locs cells slots Q (F0 m pc ls (.int x :: .ref (b 3) :: rest)) :=
  aaG (k := 3) r hC hN.1 (by omega) rfl hx hr (by omega) (if_pos hr) hdg kk
theorem lS_row (t i : Nat) {x v : Int32} (hC : CallFix p m c cc nL s args wsL_law own) (hN : SW D cI cQ b N T R9 s H) (ht : t < T) (hx : x = nI i) (hi : i < 5) (hv : N (20 + t) i = v) (hdg : decode cc pc = .ok (.iaload, 1)) (kk : W p l e R s m args below meth c H locs cells slots Q (F0 m (pc + 1) ls (.int v :: rest))) : W p l e R s m args below meth c H locs cells slots Q (F0 m pc ls (.int x :: .ref (b (10 + t)) :: rest)) :=
  ldG (k := 10 + t) i hC hN.1 (by omega) sE_t hx hi (by omega) hv hdg kk
theorem lS_held (r i : Nat) {x v : Int32} (hC : CallFix p m c cc nL s args wsL_law own) (hN : SW D cI cQ b N T R9 s H) (hr : r < 6) (hx : x = nI i) (hi : i < 8) (hv : N (7 + r) i = v) (hdg : decode cc pc = .ok (.iaload, 1)) (kk : W p l e R s m args below meth c H locs cells slots Q (F0 m (pc + 1) ls (.int v :: rest))) : W p l e R s m args below meth c H locs cells slots Q (F0 m pc ls (.int x :: .ref (b (4 + r)) :: rest)) :=
  ldG (k := 4 + r) i hC hN.1 (by omega) (sE_h hr) hx hi (by omega) hv hdg kk
theorem lS_pur (i : Nat) {x v : Int32} (hC : CallFix p m c cc nL s args wsL_law own) (hN : SW D cI cQ b N T R9 s H) (hx : x = nI i) (hi : i < R9) (h6 : R9 ≤ 6) (hv : N 5 i = v) (hdg : decode cc pc = .ok (.iaload, 1)) (kk : W p l e R s m args below meth c H locs cells slots Q (F0 m (pc + 1) ls (.int v :: rest))) : W p l e R s m args below meth c H locs cells slots Q (F0 m pc ls (.int x :: .ref (b 2) :: rest)) :=
  ldG (k := 2) i hC hN.1 (by omega) rfl hx hi (by omega) hv hdg kk
theorem sS_row (t i : Nat) {x v : Int32} (hC : CallFix p m c cc nL s args wsL_law own) (hN : SW D cI cQ b N T R9 s H) (ht : t < T) (hx : x = nI i) (hi : i < 5) (hS : va_S A0 H0 H locs) (hA : ∀ q, inG (10 + T) b q → A0 q) (hdg : decode cc pc = .ok (.iastore, 1)) (kk : ∀ (H1 : Heap) (locs1 : List Loc), SW D cI cQ b (up2 N (20 + t) i v) T R9 s H1 → va_S A0 H0 H1 locs1 → H1.size = H.size → (∀ q : Nat, q ≠ b (10 + t) → H1[q]? = H[q]?) → W p l e R s m args below meth c H1 locs1 cells slots Q (F0 m (pc + 1) ls rest)) : W p l e R s m args below meth c H locs cells slots Q (F0 m pc ls (.int v :: .int x :: .ref (b (10 + t)) :: rest)) := by
  refine stG (k := 10 + t) i hC hN.1 (by omega) sE_t hx hi (by omega) hS (hA _ ⟨10 + t, by omega, rfl⟩) hdg (fun H1 locs1 h1 h2 h3 h4 => kk H1 locs1 ⟨h1.cg (fun k hk => ?_), hN.2⟩ h2 h3 h4)
  by_cases e : k = 10 + t
  · rw [e, eU_self]
    rw [sE_t, up2_at]
  · rw [eU_ne _ _ e]
    exact sE_up k (fun _ => by omega) (fun _ => by omega) (fun r _ _ => by omega) (fun t _ => by omega)
theorem sS_held (r i : Nat) {x v : Int32} (hC : CallFix p m c cc nL s args wsL_law own) (hN : SW D cI cQ b N T R9 s H) (hr : r < 6) (hx : x = nI i) (hi : i < 8) (hS : va_S A0 H0 H locs) (hA : ∀ q, inG (10 + T) b q → A0 q) (hdg : decode cc pc = .ok (.iastore, 1)) (kk : ∀ (H1 : Heap) (locs1 : List Loc), SW D cI cQ b (up2 N (7 + r) i v) T R9 s H1 → va_S A0 H0 H1 locs1 → H1.size = H.size → (∀ q : Nat, q ≠ b (4 + r) → H1[q]? = H[q]?) → W p l e R s m args below meth c H1 locs1 cells slots Q (F0 m (pc + 1) ls rest)) : W p l e R s m args below meth c H locs cells slots Q (F0 m pc ls (.int v :: .int x :: .ref (b (4 + r)) :: rest)) := by
  refine stG (k := 4 + r) i hC hN.1 (by omega) (sE_h hr) hx hi (by omega) hS (hA _ ⟨4 + r, by omega, rfl⟩) hdg (fun H1 locs1 h1 h2 h3 h4 => kk H1 locs1 ⟨h1.cg (fun k hk => ?_), hN.2⟩ h2 h3 h4)
  by_cases e : k = 4 + r
  · rw [e, eU_self]
    rw [sE_h hr, up2_at]
  · rw [eU_ne _ _ e]
    exact sE_up k (fun _ => by omega) (fun _ => by omega) (fun r _ _ => by omega) (fun t _ => by omega)
theorem sS_pur (i : Nat) {x v : Int32} (hC : CallFix p m c cc nL s args wsL_law own) (hN : SW D cI cQ b N T R9 s H) (h6 : R9 ≤ 6) (hx : x = nI i) (hi : i < R9) (hS : va_S A0 H0 H locs) (hA : ∀ q, inG (10 + T) b q → A0 q) (hdg : decode cc pc = .ok (.iastore, 1)) (kk : ∀ (H1 : Heap) (locs1 : List Loc), SW D cI cQ b (up2 N (5) i v) T R9 s H1 → va_S A0 H0 H1 locs1 → H1.size = H.size → (∀ q : Nat, q ≠ b (2) → H1[q]? = H[q]?) → W p l e R s m args below meth c H1 locs1 cells slots Q (F0 m (pc + 1) ls rest)) : W p l e R s m args below meth c H locs cells slots Q (F0 m pc ls (.int v :: .int x :: .ref (b (2)) :: rest)) := by
  refine stG (k := 2) i hC hN.1 (by omega) rfl hx hi (by omega) hS (hA _ ⟨2, by omega, rfl⟩) hdg (fun H1 locs1 h1 h2 h3 h4 => kk H1 locs1 ⟨h1.cg (fun k hk => ?_), hN.2⟩ h2 h3 h4)
  by_cases e : k = 2
  · rw [e, eU_self]
    show eI cI R9 _ = eI cI R9 (up2 N 5 i v 5)
    rw [up2_at]
  · rw [eU_ne _ _ e]
    exact sE_up k (fun _ => by omega) (fun z => absurd z e) (fun r _ _ => by omega) (fun t _ => by omega)
theorem lX_a (k i : Nat) {x v : Int32} (hC : CallFix p m c cc nL s args wsL_law own) (hV : XW D cI cQ b F n9 R9 s H) (hk : k < 5) (h8 : n9 ≤ 8) (hx : x = nI i) (hi : i < n9) (hv : F k i = v) (hdg : decode cc pc = .ok (.iaload, 1)) (kk : W p l e R s m args below meth c H locs cells slots Q (F0 m (pc + 1) ls (.int v :: rest))) : W p l e R s m args below meth c H locs cells slots Q (F0 m pc ls (.int x :: .ref (b k) :: rest)) :=
  ldG (k := k) i hC hV (by omega) (xE_n (by omega)) hx hi (by omega) hv hdg kk
theorem lX_h (r i : Nat) {x v : Int32} (hC : CallFix p m c cc nL s args wsL_law own) (hV : XW D cI cQ b F n9 R9 s H) (hr : r < R9) (h8 : n9 ≤ 8) (hx : x = nI i) (hi : i < n9) (hv : F (6 + r) i = v) (hdg : decode cc pc = .ok (.iaload, 1)) (kk : W p l e R s m args below meth c H locs cells slots Q (F0 m (pc + 1) ls (.int v :: rest))) : W p l e R s m args below meth c H locs cells slots Q (F0 m pc ls (.int x :: .ref (b (6 + r)) :: rest)) :=
  ldG (k := 6 + r) i hC hV (by omega) (xE_n (by omega)) hx hi (by omega) hv hdg kk
theorem lX_r (r : Nat) {x : Int32} (hC : CallFix p m c cc nL s args wsL_law own) (hV : XW D cI cQ b F n9 R9 s H) (h6 : R9 ≤ 6) (hx : x = nI r) (hr : r < R9) (hdg : decode cc pc = .ok (.aaload, 1)) (kk : W p l e R s m args below meth c H locs cells slots Q (F0 m (pc + 1) ls (.ref (b (6 + r)) :: rest))) : W p l e R s m args below meth c H locs cells slots Q (F0 m pc ls (.int x :: .ref (b 5) :: rest)) :=
  aaG (k := 5) r hC hV (by omega) xE_5 hx hr (by omega) (if_pos hr) hdg kk
theorem sX_a (k i : Nat) {x v : Int32} (hC : CallFix p m c cc nL s args wsL_law own) (hV : XW D cI cQ b F n9 R9 s H) (hk : k < 5) (h8 : n9 ≤ 8) (hx : x = nI i) (hi : i < n9) (hS : va_S A0 H0 H locs) (hA : ∀ q, inG (6 + R9) b q → A0 q) (hdg : decode cc pc = .ok (.iastore, 1)) (kk : ∀ (H1 : Heap) (locs1 : List Loc), XW D cI cQ b (up2 F (k) i v) n9 R9 s H1 → va_S A0 H0 H1 locs1 → H1.size = H.size → (∀ q : Nat, q ≠ b (k) → H1[q]? = H[q]?) → W p l e R s m args below meth c H1 locs1 cells slots Q (F0 m (pc + 1) ls rest)) : W p l e R s m args below meth c H locs cells slots Q (F0 m pc ls (.int v :: .int x :: .ref (b (k)) :: rest)) :=
  stG (k := k) i hC hV (by omega) (xE_n (by omega)) hx hi (by omega) hS (hA _ ⟨k, by omega, rfl⟩) hdg (fun H1 locs1 h1 h2 h3 h4 => kk H1 locs1 (h1.cg (fun k _ => xE_up (by omega) k)) h2 h3 h4)
theorem sX_h (r i : Nat) {x v : Int32} (hC : CallFix p m c cc nL s args wsL_law own) (hV : XW D cI cQ b F n9 R9 s H) (hr : r < R9) (h8 : n9 ≤ 8) (hx : x = nI i) (hi : i < n9) (hS : va_S A0 H0 H locs) (hA : ∀ q, inG (6 + R9) b q → A0 q) (hdg : decode cc pc = .ok (.iastore, 1)) (kk : ∀ (H1 : Heap) (locs1 : List Loc), XW D cI cQ b (up2 F (6 + r) i v) n9 R9 s H1 → va_S A0 H0 H1 locs1 → H1.size = H.size → (∀ q : Nat, q ≠ b (6 + r) → H1[q]? = H[q]?) → W p l e R s m args below meth c H1 locs1 cells slots Q (F0 m (pc + 1) ls rest)) : W p l e R s m args below meth c H locs cells slots Q (F0 m pc ls (.int v :: .int x :: .ref (b (6 + r)) :: rest)) :=
  stG (k := 6 + r) i hC hV (by omega) (xE_n (by omega)) hx hi (by omega) hS (hA _ ⟨6 + r, by omega, rfl⟩) hdg (fun H1 locs1 h1 h2 h3 h4 => kk H1 locs1 (h1.cg (fun k _ => xE_up (by omega) k)) h2 h3 h4)
theorem lB_loudness (i : Nat) {x v : Int32} (hC : CallFix p m c cc nL s args wsL_law RX0) (hB : BW D cI cQ a S s H) (hx : x = nI i) (hi : i < 8) (hv : S 0 i = v) (hdg : decode cc pc = .ok (.iaload, 1)) (kk : W p l e R s m args below meth c H locs cells slots Q (F0 m (pc + 1) ls (.int v :: rest))) : W p l e R s m args below meth c H locs cells slots Q (F0 m pc ls (.int x :: .ref (a 0) :: rest)) := by
  subst hx
  subst hv
  refine va_iald hC.1 hC.2.1 hB.1 hB.2.1 1 0 (f := S 0) rfl rfl (nin hi (by decide)) hdg ?_
  rw [ncl (by omega : i < 8)]
  exact kk
theorem sB_loudness (i : Nat) {x v : Int32} (hC : CallFix p m c cc nL s args wsL_law RX0) (hB : BW D cI cQ a S s H) (hx : x = nI i) (hi : i < 8) (hS : va_S A0 H0 H locs) (hA : ∀ q, inB a q → A0 q) (hdg : decode cc pc = .ok (.iastore, 1)) (kk : ∀ (H1 : Heap) (locs1 : List Loc), BW D cI cQ a (up2 S 0 i v) s H1 → va_S A0 H0 H1 locs1 → W p l e R s m args below meth c H1 locs1 cells slots Q (F0 m (pc + 1) ls rest)) : W p l e R s m args below meth c H locs cells slots Q (F0 m pc ls (.int v :: .int x :: .ref (a 0) :: rest)) := by
  subst hx
  refine va_iast hC.1 hC.2.1 hB.1 hB.2.1 (hB.D.weaken (fun _ _ _ h => hA _ h)) hS 1 0 (f := S 0) rfl rfl (nin hi (by decide)) hdg (fun H1 locs1 h1 _ h3 => ?_)
  rw [ncl (by omega : i < 8)] at h1
  exact kk H1 locs1 ⟨hB.1, h1, hB.2.2⟩ h3
theorem lB_period (i : Nat) {x v : Int32} (hC : CallFix p m c cc nL s args wsL_law RX0) (hB : BW D cI cQ a S s H) (hx : x = nI i) (hi : i < 8) (hv : S 1 i = v) (hdg : decode cc pc = .ok (.iaload, 1)) (kk : W p l e R s m args below meth c H locs cells slots Q (F0 m (pc + 1) ls (.int v :: rest))) : W p l e R s m args below meth c H locs cells slots Q (F0 m pc ls (.int x :: .ref (a 1) :: rest)) := by
  subst hx
  subst hv
  refine va_iald hC.1 hC.2.1 hB.1 hB.2.1 2 0 (f := S 1) rfl rfl (nin hi (by decide)) hdg ?_
  rw [ncl (by omega : i < 8)]
  exact kk
theorem sB_period (i : Nat) {x v : Int32} (hC : CallFix p m c cc nL s args wsL_law RX0) (hB : BW D cI cQ a S s H) (hx : x = nI i) (hi : i < 8) (hS : va_S A0 H0 H locs) (hA : ∀ q, inB a q → A0 q) (hdg : decode cc pc = .ok (.iastore, 1)) (kk : ∀ (H1 : Heap) (locs1 : List Loc), BW D cI cQ a (up2 S 1 i v) s H1 → va_S A0 H0 H1 locs1 → W p l e R s m args below meth c H1 locs1 cells slots Q (F0 m (pc + 1) ls rest)) : W p l e R s m args below meth c H locs cells slots Q (F0 m pc ls (.int v :: .int x :: .ref (a 1) :: rest)) := by
  subst hx
  refine va_iast hC.1 hC.2.1 hB.1 hB.2.1 (hB.D.weaken (fun _ _ _ h => hA _ h)) hS 2 0 (f := S 1) rfl rfl (nin hi (by decide)) hdg (fun H1 locs1 h1 _ h3 => ?_)
  rw [ncl (by omega : i < 8)] at h1
  exact kk H1 locs1 ⟨hB.1, h1, hB.2.2⟩ h3
theorem lB_silence (i : Nat) {x v : Int32} (hC : CallFix p m c cc nL s args wsL_law RX0) (hB : BW D cI cQ a S s H) (hx : x = nI i) (hi : i < 8) (hv : S 2 i = v) (hdg : decode cc pc = .ok (.iaload, 1)) (kk : W p l e R s m args below meth c H locs cells slots Q (F0 m (pc + 1) ls (.int v :: rest))) : W p l e R s m args below meth c H locs cells slots Q (F0 m pc ls (.int x :: .ref (a 2) :: rest)) := by
  subst hx
  subst hv
  refine va_iald hC.1 hC.2.1 hB.1 hB.2.1 3 0 (f := S 2) rfl rfl (nin hi (by decide)) hdg ?_
  rw [ncl (by omega : i < 8)]
  exact kk
theorem sB_silence (i : Nat) {x v : Int32} (hC : CallFix p m c cc nL s args wsL_law RX0) (hB : BW D cI cQ a S s H) (hx : x = nI i) (hi : i < 8) (hS : va_S A0 H0 H locs) (hA : ∀ q, inB a q → A0 q) (hdg : decode cc pc = .ok (.iastore, 1)) (kk : ∀ (H1 : Heap) (locs1 : List Loc), BW D cI cQ a (up2 S 2 i v) s H1 → va_S A0 H0 H1 locs1 → W p l e R s m args below meth c H1 locs1 cells slots Q (F0 m (pc + 1) ls rest)) : W p l e R s m args below meth c H locs cells slots Q (F0 m pc ls (.int v :: .int x :: .ref (a 2) :: rest)) := by
  subst hx
  refine va_iast hC.1 hC.2.1 hB.1 hB.2.1 (hB.D.weaken (fun _ _ _ h => hA _ h)) hS 3 0 (f := S 2) rfl rfl (nin hi (by decide)) hdg (fun H1 locs1 h1 _ h3 => ?_)
  rw [ncl (by omega : i < 8)] at h1
  exact kk H1 locs1 ⟨hB.1, h1, hB.2.2⟩ h3
theorem lB_untilStroke (i : Nat) {x v : Int32} (hC : CallFix p m c cc nL s args wsL_law RX0) (hB : BW D cI cQ a S s H) (hx : x = nI i) (hi : i < 8) (hv : S 3 i = v) (hdg : decode cc pc = .ok (.iaload, 1)) (kk : W p l e R s m args below meth c H locs cells slots Q (F0 m (pc + 1) ls (.int v :: rest))) : W p l e R s m args below meth c H locs cells slots Q (F0 m pc ls (.int x :: .ref (a 3) :: rest)) := by
  subst hx
  subst hv
  refine va_iald hC.1 hC.2.1 hB.1 hB.2.1 4 0 (f := S 3) rfl rfl (nin hi (by decide)) hdg ?_
  rw [ncl (by omega : i < 8)]
  exact kk
theorem sB_untilStroke (i : Nat) {x v : Int32} (hC : CallFix p m c cc nL s args wsL_law RX0) (hB : BW D cI cQ a S s H) (hx : x = nI i) (hi : i < 8) (hS : va_S A0 H0 H locs) (hA : ∀ q, inB a q → A0 q) (hdg : decode cc pc = .ok (.iastore, 1)) (kk : ∀ (H1 : Heap) (locs1 : List Loc), BW D cI cQ a (up2 S 3 i v) s H1 → va_S A0 H0 H1 locs1 → W p l e R s m args below meth c H1 locs1 cells slots Q (F0 m (pc + 1) ls rest)) : W p l e R s m args below meth c H locs cells slots Q (F0 m pc ls (.int v :: .int x :: .ref (a 3) :: rest)) := by
  subst hx
  refine va_iast hC.1 hC.2.1 hB.1 hB.2.1 (hB.D.weaken (fun _ _ _ h => hA _ h)) hS 4 0 (f := S 3) rfl rfl (nin hi (by decide)) hdg (fun H1 locs1 h1 _ h3 => ?_)
  rw [ncl (by omega : i < 8)] at h1
  exact kk H1 locs1 ⟨hB.1, h1, hB.2.2⟩ h3
theorem lB_strokes (i : Nat) {x v : Int32} (hC : CallFix p m c cc nL s args wsL_law RX0) (hB : BW D cI cQ a S s H) (hx : x = nI i) (hi : i < 8) (hv : S 4 i = v) (hdg : decode cc pc = .ok (.iaload, 1)) (kk : W p l e R s m args below meth c H locs cells slots Q (F0 m (pc + 1) ls (.int v :: rest))) : W p l e R s m args below meth c H locs cells slots Q (F0 m pc ls (.int x :: .ref (a 4) :: rest)) := by
  subst hx
  subst hv
  refine va_iald hC.1 hC.2.1 hB.1 hB.2.1 5 0 (f := S 4) rfl rfl (nin hi (by decide)) hdg ?_
  rw [ncl (by omega : i < 8)]
  exact kk
theorem sB_strokes (i : Nat) {x v : Int32} (hC : CallFix p m c cc nL s args wsL_law RX0) (hB : BW D cI cQ a S s H) (hx : x = nI i) (hi : i < 8) (hS : va_S A0 H0 H locs) (hA : ∀ q, inB a q → A0 q) (hdg : decode cc pc = .ok (.iastore, 1)) (kk : ∀ (H1 : Heap) (locs1 : List Loc), BW D cI cQ a (up2 S 4 i v) s H1 → va_S A0 H0 H1 locs1 → W p l e R s m args below meth c H1 locs1 cells slots Q (F0 m (pc + 1) ls rest)) : W p l e R s m args below meth c H locs cells slots Q (F0 m pc ls (.int v :: .int x :: .ref (a 4) :: rest)) := by
  subst hx
  refine va_iast hC.1 hC.2.1 hB.1 hB.2.1 (hB.D.weaken (fun _ _ _ h => hA _ h)) hS 5 0 (f := S 4) rfl rfl (nin hi (by decide)) hdg (fun H1 locs1 h1 _ h3 => ?_)
  rw [ncl (by omega : i < 8)] at h1
  exact kk H1 locs1 ⟨hB.1, h1, hB.2.2⟩ h3
theorem lB_purse (i : Nat) {x v : Int32} (hC : CallFix p m c cc nL s args wsL_law RX0) (hB : BW D cI cQ a S s H) (hx : x = nI i) (hi : i < 6) (hv : S 5 i = v) (hdg : decode cc pc = .ok (.iaload, 1)) (kk : W p l e R s m args below meth c H locs cells slots Q (F0 m (pc + 1) ls (.int v :: rest))) : W p l e R s m args below meth c H locs cells slots Q (F0 m pc ls (.int x :: .ref (a 5) :: rest)) := by
  subst hx
  subst hv
  refine va_iald hC.1 hC.2.1 hB.1 hB.2.1 6 0 (f := S 5) rfl rfl (nin hi (by decide)) hdg ?_
  rw [ncl (by omega : i < 8)]
  exact kk
theorem sB_purse (i : Nat) {x v : Int32} (hC : CallFix p m c cc nL s args wsL_law RX0) (hB : BW D cI cQ a S s H) (hx : x = nI i) (hi : i < 6) (hS : va_S A0 H0 H locs) (hA : ∀ q, inB a q → A0 q) (hdg : decode cc pc = .ok (.iastore, 1)) (kk : ∀ (H1 : Heap) (locs1 : List Loc), BW D cI cQ a (up2 S 5 i v) s H1 → va_S A0 H0 H1 locs1 → W p l e R s m args below meth c H1 locs1 cells slots Q (F0 m (pc + 1) ls rest)) : W p l e R s m args below meth c H locs cells slots Q (F0 m pc ls (.int v :: .int x :: .ref (a 5) :: rest)) := by
  subst hx
  refine va_iast hC.1 hC.2.1 hB.1 hB.2.1 (hB.D.weaken (fun _ _ _ h => hA _ h)) hS 6 0 (f := S 5) rfl rfl (nin hi (by decide)) hdg (fun H1 locs1 h1 _ h3 => ?_)
  rw [ncl (by omega : i < 8)] at h1
  exact kk H1 locs1 ⟨hB.1, h1, hB.2.2⟩ h3
theorem lB_row (r : Nat) {x : Int32} (hC : CallFix p m c cc nL s args wsL_law RX0) (hB : BW D cI cQ a S s H) (hx : x = nI r) (hr : r < 6) (hdg : decode cc pc = .ok (.aaload, 1)) (kk : W p l e R s m args below meth c H locs cells slots Q (F0 m (pc + 1) ls (.ref (a (7 + r)) :: rest))) : W p l e R s m args below meth c H locs cells slots Q (F0 m pc ls (.int x :: .ref (a 6) :: rest)) := by
  subst hx
  have hin : vp_in (nI r) 6 := nin hr (by decide)
  have hlt : (nI r).toNatClampNeg < 6 := Nat.not_le.mp fun q => hin (Or.inr q)
  have e1 : va_rf (if r < 6 then some (a (7 + r)) else none) = .ref (a (7 + r)) := by rw [if_pos hr]; rfl
  refine W.aald (v := .ref (a (7 + r))) (ty := .array .int) hC.1 hC.2.1 (hB.2.1 7 _ rfl) ((hB.1.2 1 _ rfl).1 6 (fun j => va_rf (if j < 6 then some (a (7 + j)) else none))) rfl (fun q => by cases q) (by show ¬ (nI r < 0 ∨ (arrV _ _ _).slots.size ≤ _); rw [arrV_size]; exact hin) (by show (arrV _ _ _).slots[_]? = _; rw [arrV_read _ _ hlt]; rw [ncl (by omega : r < 8)]; exact congrArg some e1) rfl rfl hdg kk
theorem lB_held (r i : Nat) {x v : Int32} (hC : CallFix p m c cc nL s args wsL_law RX0) (hB : BW D cI cQ a S s H) (hr : r < 6) (hx : x = nI i) (hi : i < 8) (hv : S (7 + r) i = v) (hdg : decode cc pc = .ok (.iaload, 1)) (kk : W p l e R s m args below meth c H locs cells slots Q (F0 m (pc + 1) ls (.int v :: rest))) : W p l e R s m args below meth c H locs cells slots Q (F0 m pc ls (.int x :: .ref (a (7 + r)) :: rest)) := by
  subst hx
  subst hv
  refine va_iald hC.1 hC.2.1 hB.1 hB.2.1 (8 + r) 0 (f := S (7 + r)) (vwB_row r hr) rfl (nin hi (by decide)) hdg ?_
  rw [ncl hi]
  exact kk
theorem sB_held (r i : Nat) {x v : Int32} (hC : CallFix p m c cc nL s args wsL_law RX0) (hB : BW D cI cQ a S s H) (hr : r < 6) (hx : x = nI i) (hi : i < 8) (hS : va_S A0 H0 H locs) (hA : ∀ q, inB a q → A0 q) (hdg : decode cc pc = .ok (.iastore, 1)) (kk : ∀ (H1 : Heap) (locs1 : List Loc), BW D cI cQ a (up2 S (7 + r) i v) s H1 → va_S A0 H0 H1 locs1 → W p l e R s m args below meth c H1 locs1 cells slots Q (F0 m (pc + 1) ls rest)) : W p l e R s m args below meth c H locs cells slots Q (F0 m pc ls (.int v :: .int x :: .ref (a (7 + r)) :: rest)) := by
  subst hx
  refine va_iast hC.1 hC.2.1 hB.1 hB.2.1 (hB.D.weaken (fun _ _ _ h => hA _ h)) hS (8 + r) 0 (f := S (7 + r)) (vwB_row r hr) rfl (nin hi (by decide)) hdg (fun H1 locs1 h1 _ h3 => ?_)
  rw [ncl hi, vwB_setrow r hr] at h1
  exact kk H1 locs1 ⟨hB.1, h1, hB.2.2⟩ h3
theorem kL_L_cell {v : Value} {Wd : State → Heap → Prop} (hC : CallFix p m c cc nL s args wsL_law RL) (hM : Rd l yL_cell cL_cell 2 (some .int) rm Wd As v) (hm : Mov Wd) (hB : Wd s H) (hn : As.length = 2) (hrm : rm.cells = 0 ∧ rm.slots = 0) (hR : rm.frames + 1 ≤ R.frames ∧ 8 + (2 + 11) + rm.locals ≤ R.locals) (hf : cells ≤ R.cells ∧ slots ≤ R.slots) (hls : ls.size = nL) (hst : st0 = As.reverse ++ rest) (hr8 : (rest.map fun v => v.category).sum ≤ 8) (hdg : decode cc pc = .ok (.invokestatic 64, 3)) (kk : W p l e R s m args below meth c H locs cells slots Q (F0 m (pc + 3) ls (v :: rest))) : W p l e R s m args below meth c H locs cells slots Q (F0 m pc ls st0) :=
  kS hC hM hm hB (good_S mw_42 mw_43 mw_29 mw_44) hrm.1 hrm.2 ⟨by decide +kernel, by decide +kernel, by rw [hn]; decide +kernel⟩ hR hf hls hst hr8 hdg kk
theorem kL_L_below {v : Value} {Wd : State → Heap → Prop} (hC : CallFix p m c cc nL s args wsL_law RL) (hM : Rd l yL_below cL_below 2 (some .int) rm Wd As v) (hm : Mov Wd) (hB : Wd s H) (hn : As.length = 2) (hrm : rm.cells = 0 ∧ rm.slots = 0) (hR : rm.frames + 1 ≤ R.frames ∧ 8 + (2 + 11) + rm.locals ≤ R.locals) (hf : cells ≤ R.cells ∧ slots ≤ R.slots) (hls : ls.size = nL) (hst : st0 = As.reverse ++ rest) (hr8 : (rest.map fun v => v.category).sum ≤ 8) (hdg : decode cc pc = .ok (.invokestatic 19, 3)) (kk : W p l e R s m args below meth c H locs cells slots Q (F0 m (pc + 3) ls (v :: rest))) : W p l e R s m args below meth c H locs cells slots Q (F0 m pc ls st0) :=
  kS hC hM hm hB (good_S mw_46 mw_47 mw_29 mw_48) hrm.1 hrm.2 ⟨by decide +kernel, by decide +kernel, by rw [hn]; decide +kernel⟩ hR hf hls hst hr8 hdg kk
theorem kL_X0_list {v : Value} (hC : CallFix p m c cc nL s args wsL_law RL) (hM : Rd l yX0_list cX0_list 6 (some .int) rm (BW D cI cQ a S) (.ref (a 13) :: As) v) (hB : BW D cI cQ a S s H) (hn : As.length = 3) (hrm : rm.cells = 0 ∧ rm.slots = 0) (hR : rm.frames + 1 ≤ R.frames ∧ 8 + (6 + 11) + rm.locals ≤ R.locals) (hf : cells ≤ R.cells ∧ slots ≤ R.slots) (hls : ls.size = nL) (hst : st0 = As.reverse ++ .ref (a 13) :: rest) (hr8 : (rest.map fun v => v.category).sum ≤ 8) (hdg : decode cc pc = .ok (.invokevirtual 29, 3)) (kk : W p l e R s m args below meth c H locs cells slots Q (F0 m (pc + 3) ls (v :: rest))) : W p l e R s m args below meth c H locs cells slots Q (F0 m pc ls st0) :=
  kV hC hM mov_B hB (rec_B hB) (good_V mw_58 mw_59 mw_60 mw_2 mw_61) hrm.1 hrm.2 ⟨rfl, by decide +kernel, by decide +kernel, by rw [hn]; decide +kernel⟩ hR hf hls hst hr8 hdg kk
theorem kxL_X0_list {Wd' : State → Heap → Prop} {v : Option Value} {mc ms : Nat} (hC : CallFix p m c cc nL s args wsL_law RL) (hM : Wr l yX0_list cX0_list 6 (some .int) rm (BW D cI cQ a S) Wd' (inB a) (.ref (a 13) :: As) v mc ms) (hm : Mov Wd') (hB : BW D cI cQ a S s H) (hn : As.length = 3) (hrm : rm.cells = mc ∧ rm.slots = ms) (hR : rm.frames + 1 ≤ R.frames ∧ 8 + (6 + 11) + rm.locals ≤ R.locals) (hf : cells + mc ≤ R.cells ∧ slots + ms ≤ R.slots) (hS : va_S A0 H0 H locs) (hA : ∀ q, inB a q → A0 q) (hls : ls.size = nL) (hst : st0 = As.reverse ++ .ref (a 13) :: rest) (hr8 : (rest.map fun v => v.category).sum ≤ 8) (hdg : decode cc pc = .ok (.invokevirtual 29, 3)) (kk : ∀ (H1 : Heap) (locs1 : List Loc), Wd' s H1 → va_S A0 H0 H1 locs1 → H.size ≤ H1.size → (∀ q : Nat, q < H.size → ¬ inB a q → H1[q]? = H[q]?) → W p l e R s m args below meth c H1 locs1 (cells + mc) (slots + ms) Q (F0 m (pc + 3) ls (v.toList ++ rest))) : W p l e R s m args below meth c H locs cells slots Q (F0 m pc ls st0) :=
  kVw hC hM mov_B hm hB (rec_B hB) (good_V mw_58 mw_59 mw_60 mw_2 mw_61) hrm.1 hrm.2 ⟨rfl, by decide +kernel, by decide +kernel, by rw [hn]; decide +kernel⟩ hR hf hS hA hls hst hr8 hdg kk
theorem kL_X1_addTrader {v : Value} (hC : CallFix p m c cc nL s args wsL_law RL) (hM : Rd l yX1_addTrader cX1_addTrader 3 none rm (SW D cI cQ b N T R9) (.ref (b 0) :: As) v) (hB : SW D cI cQ b N T R9 s H) (hn : As.length = 0) (hrm : rm.cells = 0 ∧ rm.slots = 0) (hR : rm.frames + 1 ≤ R.frames ∧ 8 + (3 + 11) + rm.locals ≤ R.locals) (hf : cells ≤ R.cells ∧ slots ≤ R.slots) (hls : ls.size = nL) (hst : st0 = As.reverse ++ .ref (b 0) :: rest) (hr8 : (rest.map fun v => v.category).sum ≤ 8) (hdg : decode cc pc = .ok (.invokevirtual 35, 3)) (kk : W p l e R s m args below meth c H locs cells slots Q (F0 m (pc + 3) ls (v :: rest))) : W p l e R s m args below meth c H locs cells slots Q (F0 m pc ls st0) :=
  kV hC hM mov_S hB (rec_S hB) (good_V mw_72 mw_73 mw_74 mw_33 mw_75) hrm.1 hrm.2 ⟨rfl, by decide +kernel, by decide +kernel, by rw [hn]; decide +kernel⟩ hR hf hls hst hr8 hdg kk
theorem knL_X1_addTrader (hC : CallFix p m c cc nL s args wsL_law RL) (hM : Rn l yX1_addTrader cX1_addTrader 3 none rm (SW D cI cQ b N T R9) (.ref (b 0) :: As)) (hB : SW D cI cQ b N T R9 s H) (hn : As.length = 0) (hrm : rm.cells = 0 ∧ rm.slots = 0) (hR : rm.frames + 1 ≤ R.frames ∧ 8 + (3 + 11) + rm.locals ≤ R.locals) (hf : cells ≤ R.cells ∧ slots ≤ R.slots) (hls : ls.size = nL) (hst : st0 = As.reverse ++ .ref (b 0) :: rest) (hr8 : (rest.map fun v => v.category).sum ≤ 8) (hdg : decode cc pc = .ok (.invokevirtual 35, 3)) (kk : W p l e R s m args below meth c H locs cells slots Q (F0 m (pc + 3) ls rest)) : W p l e R s m args below meth c H locs cells slots Q (F0 m pc ls st0) :=
  kVn hC hM mov_S hB (rec_S hB) (good_V mw_72 mw_73 mw_74 mw_33 mw_75) hrm.1 hrm.2 ⟨rfl, by decide +kernel, by decide +kernel, by rw [hn]; decide +kernel⟩ hR hf hls hst hr8 hdg kk
theorem kzL_X1_addTrader {Wd' : State → Heap → Prop} {v : Option Value} {mc ms : Nat} (hC : CallFix p m c cc nL s args wsL_law RL) (hM : Wr l yX1_addTrader cX1_addTrader 3 none rm (fun U Hx => Hx.size = H.size ∧ SW D cI cQ b N T R9 U Hx) Wd' (fun q => inG (10 + T) b q ∨ H.size ≤ q) (.ref (b 0) :: As) v mc ms) (hm : Mov Wd') (hB : SW D cI cQ b N T R9 s H) (hn : As.length = 0) (hrm : rm.cells = mc ∧ rm.slots = ms) (hR : rm.frames + 1 ≤ R.frames ∧ 8 + (3 + 11) + rm.locals ≤ R.locals) (hf : cells + mc ≤ R.cells ∧ slots + ms ≤ R.slots) (hS : va_S A0 H0 H locs) (hA : ∀ q, inG (10 + T) b q → A0 q) (hA1 : ∀ q, H0.size ≤ q → A0 q) (hls : ls.size = nL) (hst : st0 = As.reverse ++ .ref (b 0) :: rest) (hr8 : (rest.map fun v => v.category).sum ≤ 8) (hdg : decode cc pc = .ok (.invokevirtual 35, 3)) (kk : ∀ (H1 : Heap) (locs1 : List Loc), Wd' s H1 → va_S A0 H0 H1 locs1 → H.size ≤ H1.size → (∀ q : Nat, q < H.size → ¬ inG (10 + T) b q → H1[q]? = H[q]?) → W p l e R s m args below meth c H1 locs1 (cells + mc) (slots + ms) Q (F0 m (pc + 3) ls (v.toList ++ rest))) : W p l e R s m args below meth c H locs cells slots Q (F0 m pc ls st0) :=
  kVw hC hM (fun _ _ _ hvm h => ⟨h.1, h.2.moved hvm⟩) hm ⟨rfl, hB⟩ (rec_S hB) (good_V mw_72 mw_73 mw_74 mw_33 mw_75) hrm.1 hrm.2 ⟨rfl, by decide +kernel, by decide +kernel, by rw [hn]; decide +kernel⟩ hR hf hS (fun q h => h.elim (hA q) (fun h => hA1 q (Nat.le_trans hS.1 h))) hls hst hr8 hdg (fun H1 locs1 h1 h2 h3 h4 => kk H1 locs1 h1 h2 h3 (fun q h5 h6 => h4 q h5 (fun z => z.elim h6 (fun z => absurd h5 (Nat.not_lt.mpr z)))))
theorem kxL_X1_addTrader {Wd' : State → Heap → Prop} {v : Option Value} {mc ms : Nat} (hC : CallFix p m c cc nL s args wsL_law RL) (hM : Wr l yX1_addTrader cX1_addTrader 3 none rm (SW D cI cQ b N T R9) Wd' (inG (10 + T) b) (.ref (b 0) :: As) v mc ms) (hm : Mov Wd') (hB : SW D cI cQ b N T R9 s H) (hn : As.length = 0) (hrm : rm.cells = mc ∧ rm.slots = ms) (hR : rm.frames + 1 ≤ R.frames ∧ 8 + (3 + 11) + rm.locals ≤ R.locals) (hf : cells + mc ≤ R.cells ∧ slots + ms ≤ R.slots) (hS : va_S A0 H0 H locs) (hA : ∀ q, inG (10 + T) b q → A0 q) (hls : ls.size = nL) (hst : st0 = As.reverse ++ .ref (b 0) :: rest) (hr8 : (rest.map fun v => v.category).sum ≤ 8) (hdg : decode cc pc = .ok (.invokevirtual 35, 3)) (kk : ∀ (H1 : Heap) (locs1 : List Loc), Wd' s H1 → va_S A0 H0 H1 locs1 → H.size ≤ H1.size → (∀ q : Nat, q < H.size → ¬ inG (10 + T) b q → H1[q]? = H[q]?) → W p l e R s m args below meth c H1 locs1 (cells + mc) (slots + ms) Q (F0 m (pc + 3) ls (v.toList ++ rest))) : W p l e R s m args below meth c H locs cells slots Q (F0 m pc ls st0) :=
  kVw hC hM mov_S hm hB (rec_S hB) (good_V mw_72 mw_73 mw_74 mw_33 mw_75) hrm.1 hrm.2 ⟨rfl, by decide +kernel, by decide +kernel, by rw [hn]; decide +kernel⟩ hR hf hS hA hls hst hr8 hdg kk
theorem kL_X0_addTrader {v : Value} (hC : CallFix p m c cc nL s args wsL_law RL) (hM : Rd l yX0_addTrader cX0_addTrader 2 (some .int) rm (BW D cI cQ a S) (.ref (a 13) :: As) v) (hB : BW D cI cQ a S s H) (hn : As.length = 0) (hrm : rm.cells = 0 ∧ rm.slots = 0) (hR : rm.frames + 1 ≤ R.frames ∧ 8 + (2 + 11) + rm.locals ≤ R.locals) (hf : cells ≤ R.cells ∧ slots ≤ R.slots) (hls : ls.size = nL) (hst : st0 = As.reverse ++ .ref (a 13) :: rest) (hr8 : (rest.map fun v => v.category).sum ≤ 8) (hdg : decode cc pc = .ok (.invokevirtual 38, 3)) (kk : W p l e R s m args below meth c H locs cells slots Q (F0 m (pc + 3) ls (v :: rest))) : W p l e R s m args below meth c H locs cells slots Q (F0 m pc ls st0) :=
  kV hC hM mov_B hB (rec_B hB) (good_V mw_76 mw_77 mw_78 mw_2 mw_79) hrm.1 hrm.2 ⟨rfl, by decide +kernel, by decide +kernel, by rw [hn]; decide +kernel⟩ hR hf hls hst hr8 hdg kk
theorem kxL_X0_addTrader {Wd' : State → Heap → Prop} {v : Option Value} {mc ms : Nat} (hC : CallFix p m c cc nL s args wsL_law RL) (hM : Wr l yX0_addTrader cX0_addTrader 2 (some .int) rm (BW D cI cQ a S) Wd' (inB a) (.ref (a 13) :: As) v mc ms) (hm : Mov Wd') (hB : BW D cI cQ a S s H) (hn : As.length = 0) (hrm : rm.cells = mc ∧ rm.slots = ms) (hR : rm.frames + 1 ≤ R.frames ∧ 8 + (2 + 11) + rm.locals ≤ R.locals) (hf : cells + mc ≤ R.cells ∧ slots + ms ≤ R.slots) (hS : va_S A0 H0 H locs) (hA : ∀ q, inB a q → A0 q) (hls : ls.size = nL) (hst : st0 = As.reverse ++ .ref (a 13) :: rest) (hr8 : (rest.map fun v => v.category).sum ≤ 8) (hdg : decode cc pc = .ok (.invokevirtual 38, 3)) (kk : ∀ (H1 : Heap) (locs1 : List Loc), Wd' s H1 → va_S A0 H0 H1 locs1 → H.size ≤ H1.size → (∀ q : Nat, q < H.size → ¬ inB a q → H1[q]? = H[q]?) → W p l e R s m args below meth c H1 locs1 (cells + mc) (slots + ms) Q (F0 m (pc + 3) ls (v.toList ++ rest))) : W p l e R s m args below meth c H locs cells slots Q (F0 m pc ls st0) :=
  kVw hC hM mov_B hm hB (rec_B hB) (good_V mw_76 mw_77 mw_78 mw_2 mw_79) hrm.1 hrm.2 ⟨rfl, by decide +kernel, by decide +kernel, by rw [hn]; decide +kernel⟩ hR hf hS hA hls hst hr8 hdg kk
theorem kL_X1_price {v : Value} (hC : CallFix p m c cc nL s args wsL_law RL) (hM : Rd l yX1_price cX1_price 3 (some .int) rm (SW D cI cQ b N T R9) (.ref (b 0) :: As) v) (hB : SW D cI cQ b N T R9 s H) (hn : As.length = 1) (hrm : rm.cells = 0 ∧ rm.slots = 0) (hR : rm.frames + 1 ≤ R.frames ∧ 8 + (3 + 11) + rm.locals ≤ R.locals) (hf : cells ≤ R.cells ∧ slots ≤ R.slots) (hls : ls.size = nL) (hst : st0 = As.reverse ++ .ref (b 0) :: rest) (hr8 : (rest.map fun v => v.category).sum ≤ 8) (hdg : decode cc pc = .ok (.invokevirtual 41, 3)) (kk : W p l e R s m args below meth c H locs cells slots Q (F0 m (pc + 3) ls (v :: rest))) : W p l e R s m args below meth c H locs cells slots Q (F0 m pc ls st0) :=
  kV hC hM mov_S hB (rec_S hB) (good_V mw_81 mw_82 mw_83 mw_33 mw_84) hrm.1 hrm.2 ⟨rfl, by decide +kernel, by decide +kernel, by rw [hn]; decide +kernel⟩ hR hf hls hst hr8 hdg kk
theorem kxL_X1_price {Wd' : State → Heap → Prop} {v : Option Value} {mc ms : Nat} (hC : CallFix p m c cc nL s args wsL_law RL) (hM : Wr l yX1_price cX1_price 3 (some .int) rm (SW D cI cQ b N T R9) Wd' (inG (10 + T) b) (.ref (b 0) :: As) v mc ms) (hm : Mov Wd') (hB : SW D cI cQ b N T R9 s H) (hn : As.length = 1) (hrm : rm.cells = mc ∧ rm.slots = ms) (hR : rm.frames + 1 ≤ R.frames ∧ 8 + (3 + 11) + rm.locals ≤ R.locals) (hf : cells + mc ≤ R.cells ∧ slots + ms ≤ R.slots) (hS : va_S A0 H0 H locs) (hA : ∀ q, inG (10 + T) b q → A0 q) (hls : ls.size = nL) (hst : st0 = As.reverse ++ .ref (b 0) :: rest) (hr8 : (rest.map fun v => v.category).sum ≤ 8) (hdg : decode cc pc = .ok (.invokevirtual 41, 3)) (kk : ∀ (H1 : Heap) (locs1 : List Loc), Wd' s H1 → va_S A0 H0 H1 locs1 → H.size ≤ H1.size → (∀ q : Nat, q < H.size → ¬ inG (10 + T) b q → H1[q]? = H[q]?) → W p l e R s m args below meth c H1 locs1 (cells + mc) (slots + ms) Q (F0 m (pc + 3) ls (v.toList ++ rest))) : W p l e R s m args below meth c H locs cells slots Q (F0 m pc ls st0) :=
  kVw hC hM mov_S hm hB (rec_S hB) (good_V mw_81 mw_82 mw_83 mw_33 mw_84) hrm.1 hrm.2 ⟨rfl, by decide +kernel, by decide +kernel, by rw [hn]; decide +kernel⟩ hR hf hS hA hls hst hr8 hdg kk
theorem k1_X1_doves {v : Value} (hC : CallFix p m c cc nL s args wsL_law RX1) (hM : Rd l yX1_doves cX1_doves 7 (some .int) rm (SW D cI cQ b N T R9) (.ref (b 0) :: As) v) (hB : SW D cI cQ b N T R9 s H) (hn : As.length = 1) (hrm : rm.cells = 0 ∧ rm.slots = 0) (hR : rm.frames + 1 ≤ R.frames ∧ 8 + (7 + 11) + rm.locals ≤ R.locals) (hf : cells ≤ R.cells ∧ slots ≤ R.slots) (hls : ls.size = nL) (hst : st0 = As.reverse ++ .ref (b 0) :: rest) (hr8 : (rest.map fun v => v.category).sum ≤ 8) (hdg : decode cc pc = .ok (.invokevirtual 22, 3)) (kk : W p l e R s m args below meth c H locs cells slots Q (F0 m (pc + 3) ls (v :: rest))) : W p l e R s m args below meth c H locs cells slots Q (F0 m pc ls st0) :=
  kV hC hM mov_S hB (rec_S hB) (good_V mw_85 mw_86 mw_87 mw_33 mw_88) hrm.1 hrm.2 ⟨rfl, by decide +kernel, by decide +kernel, by rw [hn]; decide +kernel⟩ hR hf hls hst hr8 hdg kk
theorem kx1_X1_doves {Wd' : State → Heap → Prop} {v : Option Value} {mc ms : Nat} (hC : CallFix p m c cc nL s args wsL_law RX1) (hM : Wr l yX1_doves cX1_doves 7 (some .int) rm (SW D cI cQ b N T R9) Wd' (inG (10 + T) b) (.ref (b 0) :: As) v mc ms) (hm : Mov Wd') (hB : SW D cI cQ b N T R9 s H) (hn : As.length = 1) (hrm : rm.cells = mc ∧ rm.slots = ms) (hR : rm.frames + 1 ≤ R.frames ∧ 8 + (7 + 11) + rm.locals ≤ R.locals) (hf : cells + mc ≤ R.cells ∧ slots + ms ≤ R.slots) (hS : va_S A0 H0 H locs) (hA : ∀ q, inG (10 + T) b q → A0 q) (hls : ls.size = nL) (hst : st0 = As.reverse ++ .ref (b 0) :: rest) (hr8 : (rest.map fun v => v.category).sum ≤ 8) (hdg : decode cc pc = .ok (.invokevirtual 22, 3)) (kk : ∀ (H1 : Heap) (locs1 : List Loc), Wd' s H1 → va_S A0 H0 H1 locs1 → H.size ≤ H1.size → (∀ q : Nat, q < H.size → ¬ inG (10 + T) b q → H1[q]? = H[q]?) → W p l e R s m args below meth c H1 locs1 (cells + mc) (slots + ms) Q (F0 m (pc + 3) ls (v.toList ++ rest))) : W p l e R s m args below meth c H locs cells slots Q (F0 m pc ls st0) :=
  kVw hC hM mov_S hm hB (rec_S hB) (good_V mw_85 mw_86 mw_87 mw_33 mw_88) hrm.1 hrm.2 ⟨rfl, by decide +kernel, by decide +kernel, by rw [hn]; decide +kernel⟩ hR hf hS hA hls hst hr8 hdg kk
theorem kL_X1_sell {v : Value} (hC : CallFix p m c cc nL s args wsL_law RL) (hM : Rd l yX1_sell cX1_sell 4 none rm (SW D cI cQ b N T R9) (.ref (b 0) :: As) v) (hB : SW D cI cQ b N T R9 s H) (hn : As.length = 3) (hrm : rm.cells = 0 ∧ rm.slots = 0) (hR : rm.frames + 1 ≤ R.frames ∧ 8 + (4 + 11) + rm.locals ≤ R.locals) (hf : cells ≤ R.cells ∧ slots ≤ R.slots) (hls : ls.size = nL) (hst : st0 = As.reverse ++ .ref (b 0) :: rest) (hr8 : (rest.map fun v => v.category).sum ≤ 8) (hdg : decode cc pc = .ok (.invokevirtual 48, 3)) (kk : W p l e R s m args below meth c H locs cells slots Q (F0 m (pc + 3) ls (v :: rest))) : W p l e R s m args below meth c H locs cells slots Q (F0 m pc ls st0) :=
  kV hC hM mov_S hB (rec_S hB) (good_V mw_89 mw_90 mw_91 mw_33 mw_92) hrm.1 hrm.2 ⟨rfl, by decide +kernel, by decide +kernel, by rw [hn]; decide +kernel⟩ hR hf hls hst hr8 hdg kk
theorem knL_X1_sell (hC : CallFix p m c cc nL s args wsL_law RL) (hM : Rn l yX1_sell cX1_sell 4 none rm (SW D cI cQ b N T R9) (.ref (b 0) :: As)) (hB : SW D cI cQ b N T R9 s H) (hn : As.length = 3) (hrm : rm.cells = 0 ∧ rm.slots = 0) (hR : rm.frames + 1 ≤ R.frames ∧ 8 + (4 + 11) + rm.locals ≤ R.locals) (hf : cells ≤ R.cells ∧ slots ≤ R.slots) (hls : ls.size = nL) (hst : st0 = As.reverse ++ .ref (b 0) :: rest) (hr8 : (rest.map fun v => v.category).sum ≤ 8) (hdg : decode cc pc = .ok (.invokevirtual 48, 3)) (kk : W p l e R s m args below meth c H locs cells slots Q (F0 m (pc + 3) ls rest)) : W p l e R s m args below meth c H locs cells slots Q (F0 m pc ls st0) :=
  kVn hC hM mov_S hB (rec_S hB) (good_V mw_89 mw_90 mw_91 mw_33 mw_92) hrm.1 hrm.2 ⟨rfl, by decide +kernel, by decide +kernel, by rw [hn]; decide +kernel⟩ hR hf hls hst hr8 hdg kk
theorem kxL_X1_sell {Wd' : State → Heap → Prop} {v : Option Value} {mc ms : Nat} (hC : CallFix p m c cc nL s args wsL_law RL) (hM : Wr l yX1_sell cX1_sell 4 none rm (SW D cI cQ b N T R9) Wd' (inG (10 + T) b) (.ref (b 0) :: As) v mc ms) (hm : Mov Wd') (hB : SW D cI cQ b N T R9 s H) (hn : As.length = 3) (hrm : rm.cells = mc ∧ rm.slots = ms) (hR : rm.frames + 1 ≤ R.frames ∧ 8 + (4 + 11) + rm.locals ≤ R.locals) (hf : cells + mc ≤ R.cells ∧ slots + ms ≤ R.slots) (hS : va_S A0 H0 H locs) (hA : ∀ q, inG (10 + T) b q → A0 q) (hls : ls.size = nL) (hst : st0 = As.reverse ++ .ref (b 0) :: rest) (hr8 : (rest.map fun v => v.category).sum ≤ 8) (hdg : decode cc pc = .ok (.invokevirtual 48, 3)) (kk : ∀ (H1 : Heap) (locs1 : List Loc), Wd' s H1 → va_S A0 H0 H1 locs1 → H.size ≤ H1.size → (∀ q : Nat, q < H.size → ¬ inG (10 + T) b q → H1[q]? = H[q]?) → W p l e R s m args below meth c H1 locs1 (cells + mc) (slots + ms) Q (F0 m (pc + 3) ls (v.toList ++ rest))) : W p l e R s m args below meth c H locs cells slots Q (F0 m pc ls st0) :=
  kVw hC hM mov_S hm hB (rec_S hB) (good_V mw_89 mw_90 mw_91 mw_33 mw_92) hrm.1 hrm.2 ⟨rfl, by decide +kernel, by decide +kernel, by rw [hn]; decide +kernel⟩ hR hf hS hA hls hst hr8 hdg kk
theorem k1_X1_price {v : Value} (hC : CallFix p m c cc nL s args wsL_law RX1) (hM : Rd l yX1_price cX1_price 3 (some .int) rm (SW D cI cQ b N T R9) (.ref (b 0) :: As) v) (hB : SW D cI cQ b N T R9 s H) (hn : As.length = 1) (hrm : rm.cells = 0 ∧ rm.slots = 0) (hR : rm.frames + 1 ≤ R.frames ∧ 8 + (3 + 11) + rm.locals ≤ R.locals) (hf : cells ≤ R.cells ∧ slots ≤ R.slots) (hls : ls.size = nL) (hst : st0 = As.reverse ++ .ref (b 0) :: rest) (hr8 : (rest.map fun v => v.category).sum ≤ 8) (hdg : decode cc pc = .ok (.invokevirtual 30, 3)) (kk : W p l e R s m args below meth c H locs cells slots Q (F0 m (pc + 3) ls (v :: rest))) : W p l e R s m args below meth c H locs cells slots Q (F0 m pc ls st0) :=
  kV hC hM mov_S hB (rec_S hB) (good_V mw_93 mw_82 mw_83 mw_33 mw_84) hrm.1 hrm.2 ⟨rfl, by decide +kernel, by decide +kernel, by rw [hn]; decide +kernel⟩ hR hf hls hst hr8 hdg kk
theorem kx1_X1_price {Wd' : State → Heap → Prop} {v : Option Value} {mc ms : Nat} (hC : CallFix p m c cc nL s args wsL_law RX1) (hM : Wr l yX1_price cX1_price 3 (some .int) rm (SW D cI cQ b N T R9) Wd' (inG (10 + T) b) (.ref (b 0) :: As) v mc ms) (hm : Mov Wd') (hB : SW D cI cQ b N T R9 s H) (hn : As.length = 1) (hrm : rm.cells = mc ∧ rm.slots = ms) (hR : rm.frames + 1 ≤ R.frames ∧ 8 + (3 + 11) + rm.locals ≤ R.locals) (hf : cells + mc ≤ R.cells ∧ slots + ms ≤ R.slots) (hS : va_S A0 H0 H locs) (hA : ∀ q, inG (10 + T) b q → A0 q) (hls : ls.size = nL) (hst : st0 = As.reverse ++ .ref (b 0) :: rest) (hr8 : (rest.map fun v => v.category).sum ≤ 8) (hdg : decode cc pc = .ok (.invokevirtual 30, 3)) (kk : ∀ (H1 : Heap) (locs1 : List Loc), Wd' s H1 → va_S A0 H0 H1 locs1 → H.size ≤ H1.size → (∀ q : Nat, q < H.size → ¬ inG (10 + T) b q → H1[q]? = H[q]?) → W p l e R s m args below meth c H1 locs1 (cells + mc) (slots + ms) Q (F0 m (pc + 3) ls (v.toList ++ rest))) : W p l e R s m args below meth c H locs cells slots Q (F0 m pc ls st0) :=
  kVw hC hM mov_S hm hB (rec_S hB) (good_V mw_93 mw_82 mw_83 mw_33 mw_84) hrm.1 hrm.2 ⟨rfl, by decide +kernel, by decide +kernel, by rw [hn]; decide +kernel⟩ hR hf hS hA hls hst hr8 hdg kk
theorem kL_X0_buy {v : Value} (hC : CallFix p m c cc nL s args wsL_law RL) (hM : Rd l yX0_buy cX0_buy 5 (some .int) rm (BW D cI cQ a S) (.ref (a 13) :: As) v) (hB : BW D cI cQ a S s H) (hn : As.length = 3) (hrm : rm.cells = 0 ∧ rm.slots = 0) (hR : rm.frames + 1 ≤ R.frames ∧ 8 + (5 + 11) + rm.locals ≤ R.locals) (hf : cells ≤ R.cells ∧ slots ≤ R.slots) (hls : ls.size = nL) (hst : st0 = As.reverse ++ .ref (a 13) :: rest) (hr8 : (rest.map fun v => v.category).sum ≤ 8) (hdg : decode cc pc = .ok (.invokevirtual 52, 3)) (kk : W p l e R s m args below meth c H locs cells slots Q (F0 m (pc + 3) ls (v :: rest))) : W p l e R s m args below meth c H locs cells slots Q (F0 m pc ls st0) :=
  kV hC hM mov_B hB (rec_B hB) (good_V mw_94 mw_95 mw_96 mw_2 mw_97) hrm.1 hrm.2 ⟨rfl, by decide +kernel, by decide +kernel, by rw [hn]; decide +kernel⟩ hR hf hls hst hr8 hdg kk
theorem kxL_X0_buy {Wd' : State → Heap → Prop} {v : Option Value} {mc ms : Nat} (hC : CallFix p m c cc nL s args wsL_law RL) (hM : Wr l yX0_buy cX0_buy 5 (some .int) rm (BW D cI cQ a S) Wd' (inB a) (.ref (a 13) :: As) v mc ms) (hm : Mov Wd') (hB : BW D cI cQ a S s H) (hn : As.length = 3) (hrm : rm.cells = mc ∧ rm.slots = ms) (hR : rm.frames + 1 ≤ R.frames ∧ 8 + (5 + 11) + rm.locals ≤ R.locals) (hf : cells + mc ≤ R.cells ∧ slots + ms ≤ R.slots) (hS : va_S A0 H0 H locs) (hA : ∀ q, inB a q → A0 q) (hls : ls.size = nL) (hst : st0 = As.reverse ++ .ref (a 13) :: rest) (hr8 : (rest.map fun v => v.category).sum ≤ 8) (hdg : decode cc pc = .ok (.invokevirtual 52, 3)) (kk : ∀ (H1 : Heap) (locs1 : List Loc), Wd' s H1 → va_S A0 H0 H1 locs1 → H.size ≤ H1.size → (∀ q : Nat, q < H.size → ¬ inB a q → H1[q]? = H[q]?) → W p l e R s m args below meth c H1 locs1 (cells + mc) (slots + ms) Q (F0 m (pc + 3) ls (v.toList ++ rest))) : W p l e R s m args below meth c H locs cells slots Q (F0 m pc ls st0) :=
  kVw hC hM mov_B hm hB (rec_B hB) (good_V mw_94 mw_95 mw_96 mw_2 mw_97) hrm.1 hrm.2 ⟨rfl, by decide +kernel, by decide +kernel, by rw [hn]; decide +kernel⟩ hR hf hS hA hls hst hr8 hdg kk
theorem k_X0_requireTrader {v : Value} (hC : CallFix p m c cc nL s args wsL_law RX0) (hM : Rd l yX0_requireTrader cX0_requireTrader 2 none rm (BW D cI cQ a S) (.ref (a 13) :: As) v) (hB : BW D cI cQ a S s H) (hn : As.length = 1) (hrm : rm.cells = 0 ∧ rm.slots = 0) (hR : rm.frames + 1 ≤ R.frames ∧ 8 + (2 + 11) + rm.locals ≤ R.locals) (hf : cells ≤ R.cells ∧ slots ≤ R.slots) (hls : ls.size = nL) (hst : st0 = As.reverse ++ .ref (a 13) :: rest) (hr8 : (rest.map fun v => v.category).sum ≤ 8) (hdg : decode cc pc = .ok (.invokevirtual 67, 3)) (kk : W p l e R s m args below meth c H locs cells slots Q (F0 m (pc + 3) ls (v :: rest))) : W p l e R s m args below meth c H locs cells slots Q (F0 m pc ls st0) :=
  kV hC hM mov_B hB (rec_B hB) (good_V mw_98 mw_99 mw_100 mw_2 mw_101) hrm.1 hrm.2 ⟨rfl, by decide +kernel, by decide +kernel, by rw [hn]; decide +kernel⟩ hR hf hls hst hr8 hdg kk
theorem kn_X0_requireTrader (hC : CallFix p m c cc nL s args wsL_law RX0) (hM : Rn l yX0_requireTrader cX0_requireTrader 2 none rm (BW D cI cQ a S) (.ref (a 13) :: As)) (hB : BW D cI cQ a S s H) (hn : As.length = 1) (hrm : rm.cells = 0 ∧ rm.slots = 0) (hR : rm.frames + 1 ≤ R.frames ∧ 8 + (2 + 11) + rm.locals ≤ R.locals) (hf : cells ≤ R.cells ∧ slots ≤ R.slots) (hls : ls.size = nL) (hst : st0 = As.reverse ++ .ref (a 13) :: rest) (hr8 : (rest.map fun v => v.category).sum ≤ 8) (hdg : decode cc pc = .ok (.invokevirtual 67, 3)) (kk : W p l e R s m args below meth c H locs cells slots Q (F0 m (pc + 3) ls rest)) : W p l e R s m args below meth c H locs cells slots Q (F0 m pc ls st0) :=
  kVn hC hM mov_B hB (rec_B hB) (good_V mw_98 mw_99 mw_100 mw_2 mw_101) hrm.1 hrm.2 ⟨rfl, by decide +kernel, by decide +kernel, by rw [hn]; decide +kernel⟩ hR hf hls hst hr8 hdg kk
theorem kw_X0_requireTrader {X' : bS} {mc ms : Nat} (hC : CallFix p m c cc nL s args wsL_law RX0) (hM : Wr l yX0_requireTrader cX0_requireTrader 2 none rm (BW D cI cQ a S) (BW D cI cQ a X') (inB a) (.ref (a 13) :: As) none mc ms) (hB : BW D cI cQ a S s H) (hn : As.length = 1) (hrm : rm.cells = mc ∧ rm.slots = ms) (hR : rm.frames + 1 ≤ R.frames ∧ 8 + (2 + 11) + rm.locals ≤ R.locals) (hf : cells + mc ≤ R.cells ∧ slots + ms ≤ R.slots) (hS : va_S A0 H0 H locs) (hA : ∀ q, inB a q → A0 q) (hls : ls.size = nL) (hst : st0 = As.reverse ++ .ref (a 13) :: rest) (hr8 : (rest.map fun v => v.category).sum ≤ 8) (hdg : decode cc pc = .ok (.invokevirtual 67, 3)) (kk : ∀ (H1 : Heap) (locs1 : List Loc), BW D cI cQ a X' s H1 → va_S A0 H0 H1 locs1 → W p l e R s m args below meth c H1 locs1 (cells + mc) (slots + ms) Q (F0 m (pc + 3) ls rest)) : W p l e R s m args below meth c H locs cells slots Q (F0 m pc ls st0) :=
  kVw hC hM mov_B mov_B hB (rec_B hB) (good_V mw_98 mw_99 mw_100 mw_2 mw_101) hrm.1 hrm.2 ⟨rfl, by decide +kernel, by decide +kernel, by rw [hn]; decide +kernel⟩ hR hf hS hA hls hst hr8 hdg (fun H1 locs1 h1 h2 _ _ => kk H1 locs1 h1 h2)
theorem kx_X0_requireTrader {Wd' : State → Heap → Prop} {v : Option Value} {mc ms : Nat} (hC : CallFix p m c cc nL s args wsL_law RX0) (hM : Wr l yX0_requireTrader cX0_requireTrader 2 none rm (BW D cI cQ a S) Wd' (inB a) (.ref (a 13) :: As) v mc ms) (hm : Mov Wd') (hB : BW D cI cQ a S s H) (hn : As.length = 1) (hrm : rm.cells = mc ∧ rm.slots = ms) (hR : rm.frames + 1 ≤ R.frames ∧ 8 + (2 + 11) + rm.locals ≤ R.locals) (hf : cells + mc ≤ R.cells ∧ slots + ms ≤ R.slots) (hS : va_S A0 H0 H locs) (hA : ∀ q, inB a q → A0 q) (hls : ls.size = nL) (hst : st0 = As.reverse ++ .ref (a 13) :: rest) (hr8 : (rest.map fun v => v.category).sum ≤ 8) (hdg : decode cc pc = .ok (.invokevirtual 67, 3)) (kk : ∀ (H1 : Heap) (locs1 : List Loc), Wd' s H1 → va_S A0 H0 H1 locs1 → H.size ≤ H1.size → (∀ q : Nat, q < H.size → ¬ inB a q → H1[q]? = H[q]?) → W p l e R s m args below meth c H1 locs1 (cells + mc) (slots + ms) Q (F0 m (pc + 3) ls (v.toList ++ rest))) : W p l e R s m args below meth c H locs cells slots Q (F0 m pc ls st0) :=
  kVw hC hM mov_B hm hB (rec_B hB) (good_V mw_98 mw_99 mw_100 mw_2 mw_101) hrm.1 hrm.2 ⟨rfl, by decide +kernel, by decide +kernel, by rw [hn]; decide +kernel⟩ hR hf hS hA hls hst hr8 hdg kk
theorem k_X0_requireTower {v : Value} (hC : CallFix p m c cc nL s args wsL_law RX0) (hM : Rd l yX0_requireTower cX0_requireTower 2 none rm (BW D cI cQ a S) (.ref (a 13) :: As) v) (hB : BW D cI cQ a S s H) (hn : As.length = 1) (hrm : rm.cells = 0 ∧ rm.slots = 0) (hR : rm.frames + 1 ≤ R.frames ∧ 8 + (2 + 11) + rm.locals ≤ R.locals) (hf : cells ≤ R.cells ∧ slots ≤ R.slots) (hls : ls.size = nL) (hst : st0 = As.reverse ++ .ref (a 13) :: rest) (hr8 : (rest.map fun v => v.category).sum ≤ 8) (hdg : decode cc pc = .ok (.invokevirtual 71, 3)) (kk : W p l e R s m args below meth c H locs cells slots Q (F0 m (pc + 3) ls (v :: rest))) : W p l e R s m args below meth c H locs cells slots Q (F0 m pc ls st0) :=
  kV hC hM mov_B hB (rec_B hB) (good_V mw_104 mw_105 mw_106 mw_2 mw_107) hrm.1 hrm.2 ⟨rfl, by decide +kernel, by decide +kernel, by rw [hn]; decide +kernel⟩ hR hf hls hst hr8 hdg kk
theorem kn_X0_requireTower (hC : CallFix p m c cc nL s args wsL_law RX0) (hM : Rn l yX0_requireTower cX0_requireTower 2 none rm (BW D cI cQ a S) (.ref (a 13) :: As)) (hB : BW D cI cQ a S s H) (hn : As.length = 1) (hrm : rm.cells = 0 ∧ rm.slots = 0) (hR : rm.frames + 1 ≤ R.frames ∧ 8 + (2 + 11) + rm.locals ≤ R.locals) (hf : cells ≤ R.cells ∧ slots ≤ R.slots) (hls : ls.size = nL) (hst : st0 = As.reverse ++ .ref (a 13) :: rest) (hr8 : (rest.map fun v => v.category).sum ≤ 8) (hdg : decode cc pc = .ok (.invokevirtual 71, 3)) (kk : W p l e R s m args below meth c H locs cells slots Q (F0 m (pc + 3) ls rest)) : W p l e R s m args below meth c H locs cells slots Q (F0 m pc ls st0) :=
  kVn hC hM mov_B hB (rec_B hB) (good_V mw_104 mw_105 mw_106 mw_2 mw_107) hrm.1 hrm.2 ⟨rfl, by decide +kernel, by decide +kernel, by rw [hn]; decide +kernel⟩ hR hf hls hst hr8 hdg kk
theorem kw_X0_requireTower {X' : bS} {mc ms : Nat} (hC : CallFix p m c cc nL s args wsL_law RX0) (hM : Wr l yX0_requireTower cX0_requireTower 2 none rm (BW D cI cQ a S) (BW D cI cQ a X') (inB a) (.ref (a 13) :: As) none mc ms) (hB : BW D cI cQ a S s H) (hn : As.length = 1) (hrm : rm.cells = mc ∧ rm.slots = ms) (hR : rm.frames + 1 ≤ R.frames ∧ 8 + (2 + 11) + rm.locals ≤ R.locals) (hf : cells + mc ≤ R.cells ∧ slots + ms ≤ R.slots) (hS : va_S A0 H0 H locs) (hA : ∀ q, inB a q → A0 q) (hls : ls.size = nL) (hst : st0 = As.reverse ++ .ref (a 13) :: rest) (hr8 : (rest.map fun v => v.category).sum ≤ 8) (hdg : decode cc pc = .ok (.invokevirtual 71, 3)) (kk : ∀ (H1 : Heap) (locs1 : List Loc), BW D cI cQ a X' s H1 → va_S A0 H0 H1 locs1 → W p l e R s m args below meth c H1 locs1 (cells + mc) (slots + ms) Q (F0 m (pc + 3) ls rest)) : W p l e R s m args below meth c H locs cells slots Q (F0 m pc ls st0) :=
  kVw hC hM mov_B mov_B hB (rec_B hB) (good_V mw_104 mw_105 mw_106 mw_2 mw_107) hrm.1 hrm.2 ⟨rfl, by decide +kernel, by decide +kernel, by rw [hn]; decide +kernel⟩ hR hf hS hA hls hst hr8 hdg (fun H1 locs1 h1 h2 _ _ => kk H1 locs1 h1 h2)
theorem kx_X0_requireTower {Wd' : State → Heap → Prop} {v : Option Value} {mc ms : Nat} (hC : CallFix p m c cc nL s args wsL_law RX0) (hM : Wr l yX0_requireTower cX0_requireTower 2 none rm (BW D cI cQ a S) Wd' (inB a) (.ref (a 13) :: As) v mc ms) (hm : Mov Wd') (hB : BW D cI cQ a S s H) (hn : As.length = 1) (hrm : rm.cells = mc ∧ rm.slots = ms) (hR : rm.frames + 1 ≤ R.frames ∧ 8 + (2 + 11) + rm.locals ≤ R.locals) (hf : cells + mc ≤ R.cells ∧ slots + ms ≤ R.slots) (hS : va_S A0 H0 H locs) (hA : ∀ q, inB a q → A0 q) (hls : ls.size = nL) (hst : st0 = As.reverse ++ .ref (a 13) :: rest) (hr8 : (rest.map fun v => v.category).sum ≤ 8) (hdg : decode cc pc = .ok (.invokevirtual 71, 3)) (kk : ∀ (H1 : Heap) (locs1 : List Loc), Wd' s H1 → va_S A0 H0 H1 locs1 → H.size ≤ H1.size → (∀ q : Nat, q < H.size → ¬ inB a q → H1[q]? = H[q]?) → W p l e R s m args below meth c H1 locs1 (cells + mc) (slots + ms) Q (F0 m (pc + 3) ls (v.toList ++ rest))) : W p l e R s m args below meth c H locs cells slots Q (F0 m pc ls st0) :=
  kVw hC hM mov_B hm hB (rec_B hB) (good_V mw_104 mw_105 mw_106 mw_2 mw_107) hrm.1 hrm.2 ⟨rfl, by decide +kernel, by decide +kernel, by rw [hn]; decide +kernel⟩ hR hf hS hA hls hst hr8 hdg kk
theorem kn_X0_requireTradable {Wd : State → Heap → Prop} (hC : CallFix p m c cc nL s args wsL_law RX0) (hM : Rn l yX0_requireTradable cX0_requireTradable 1 none rm Wd As) (hm : Mov Wd) (hB : Wd s H) (hn : As.length = 1) (hrm : rm.cells = 0 ∧ rm.slots = 0) (hR : rm.frames + 1 ≤ R.frames ∧ 8 + (1 + 11) + rm.locals ≤ R.locals) (hf : cells ≤ R.cells ∧ slots ≤ R.slots) (hls : ls.size = nL) (hst : st0 = As.reverse ++ rest) (hr8 : (rest.map fun v => v.category).sum ≤ 8) (hdg : decode cc pc = .ok (.invokestatic 74, 3)) (kk : W p l e R s m args below meth c H locs cells slots Q (F0 m (pc + 3) ls rest)) : W p l e R s m args below meth c H locs cells slots Q (F0 m pc ls st0) :=
  kSn hC hM hm hB (good_S mw_108 mw_109 mw_2 mw_110) hrm.1 hrm.2 ⟨by decide +kernel, by decide +kernel, by rw [hn]; decide +kernel⟩ hR hf hls hst hr8 hdg kk
theorem k_X0_priceNow {v : Value} (hC : CallFix p m c cc nL s args wsL_law RX0) (hM : Rd l yX0_priceNow cX0_priceNow 2 (some .int) rm (BW D cI cQ a S) (.ref (a 13) :: As) v) (hB : BW D cI cQ a S s H) (hn : As.length = 1) (hrm : rm.cells = 0 ∧ rm.slots = 0) (hR : rm.frames + 1 ≤ R.frames ∧ 8 + (2 + 11) + rm.locals ≤ R.locals) (hf : cells ≤ R.cells ∧ slots ≤ R.slots) (hls : ls.size = nL) (hst : st0 = As.reverse ++ .ref (a 13) :: rest) (hr8 : (rest.map fun v => v.category).sum ≤ 8) (hdg : decode cc pc = .ok (.invokevirtual 77, 3)) (kk : W p l e R s m args below meth c H locs cells slots Q (F0 m (pc + 3) ls (v :: rest))) : W p l e R s m args below meth c H locs cells slots Q (F0 m pc ls st0) :=
  kV hC hM mov_B hB (rec_B hB) (good_V mw_111 mw_112 mw_113 mw_2 mw_114) hrm.1 hrm.2 ⟨rfl, by decide +kernel, by decide +kernel, by rw [hn]; decide +kernel⟩ hR hf hls hst hr8 hdg kk
theorem kw_X0_priceNow {X' : bS} {mc ms : Nat} {v : Value} (hC : CallFix p m c cc nL s args wsL_law RX0) (hM : Wr l yX0_priceNow cX0_priceNow 2 (some .int) rm (BW D cI cQ a S) (BW D cI cQ a X') (inB a) (.ref (a 13) :: As) (some v) mc ms) (hB : BW D cI cQ a S s H) (hn : As.length = 1) (hrm : rm.cells = mc ∧ rm.slots = ms) (hR : rm.frames + 1 ≤ R.frames ∧ 8 + (2 + 11) + rm.locals ≤ R.locals) (hf : cells + mc ≤ R.cells ∧ slots + ms ≤ R.slots) (hS : va_S A0 H0 H locs) (hA : ∀ q, inB a q → A0 q) (hls : ls.size = nL) (hst : st0 = As.reverse ++ .ref (a 13) :: rest) (hr8 : (rest.map fun v => v.category).sum ≤ 8) (hdg : decode cc pc = .ok (.invokevirtual 77, 3)) (kk : ∀ (H1 : Heap) (locs1 : List Loc), BW D cI cQ a X' s H1 → va_S A0 H0 H1 locs1 → W p l e R s m args below meth c H1 locs1 (cells + mc) (slots + ms) Q (F0 m (pc + 3) ls (v :: rest))) : W p l e R s m args below meth c H locs cells slots Q (F0 m pc ls st0) :=
  kVw hC hM mov_B mov_B hB (rec_B hB) (good_V mw_111 mw_112 mw_113 mw_2 mw_114) hrm.1 hrm.2 ⟨rfl, by decide +kernel, by decide +kernel, by rw [hn]; decide +kernel⟩ hR hf hS hA hls hst hr8 hdg (fun H1 locs1 h1 h2 _ _ => kk H1 locs1 h1 h2)
theorem kx_X0_priceNow {Wd' : State → Heap → Prop} {v : Option Value} {mc ms : Nat} (hC : CallFix p m c cc nL s args wsL_law RX0) (hM : Wr l yX0_priceNow cX0_priceNow 2 (some .int) rm (BW D cI cQ a S) Wd' (inB a) (.ref (a 13) :: As) v mc ms) (hm : Mov Wd') (hB : BW D cI cQ a S s H) (hn : As.length = 1) (hrm : rm.cells = mc ∧ rm.slots = ms) (hR : rm.frames + 1 ≤ R.frames ∧ 8 + (2 + 11) + rm.locals ≤ R.locals) (hf : cells + mc ≤ R.cells ∧ slots + ms ≤ R.slots) (hS : va_S A0 H0 H locs) (hA : ∀ q, inB a q → A0 q) (hls : ls.size = nL) (hst : st0 = As.reverse ++ .ref (a 13) :: rest) (hr8 : (rest.map fun v => v.category).sum ≤ 8) (hdg : decode cc pc = .ok (.invokevirtual 77, 3)) (kk : ∀ (H1 : Heap) (locs1 : List Loc), Wd' s H1 → va_S A0 H0 H1 locs1 → H.size ≤ H1.size → (∀ q : Nat, q < H.size → ¬ inB a q → H1[q]? = H[q]?) → W p l e R s m args below meth c H1 locs1 (cells + mc) (slots + ms) Q (F0 m (pc + 3) ls (v.toList ++ rest))) : W p l e R s m args below meth c H locs cells slots Q (F0 m pc ls st0) :=
  kVw hC hM mov_B hm hB (rec_B hB) (good_V mw_111 mw_112 mw_113 mw_2 mw_114) hrm.1 hrm.2 ⟨rfl, by decide +kernel, by decide +kernel, by rw [hn]; decide +kernel⟩ hR hf hS hA hls hst hr8 hdg kk
theorem k_X0_dovesNow {v : Value} (hC : CallFix p m c cc nL s args wsL_law RX0) (hM : Rd l yX0_dovesNow cX0_dovesNow 4 (some .int) rm (BW D cI cQ a S) (.ref (a 13) :: As) v) (hB : BW D cI cQ a S s H) (hn : As.length = 1) (hrm : rm.cells = 0 ∧ rm.slots = 0) (hR : rm.frames + 1 ≤ R.frames ∧ 8 + (4 + 11) + rm.locals ≤ R.locals) (hf : cells ≤ R.cells ∧ slots ≤ R.slots) (hls : ls.size = nL) (hst : st0 = As.reverse ++ .ref (a 13) :: rest) (hr8 : (rest.map fun v => v.category).sum ≤ 8) (hdg : decode cc pc = .ok (.invokevirtual 94, 3)) (kk : W p l e R s m args below meth c H locs cells slots Q (F0 m (pc + 3) ls (v :: rest))) : W p l e R s m args below meth c H locs cells slots Q (F0 m pc ls st0) :=
  kV hC hM mov_B hB (rec_B hB) (good_V mw_115 mw_116 mw_117 mw_2 mw_118) hrm.1 hrm.2 ⟨rfl, by decide +kernel, by decide +kernel, by rw [hn]; decide +kernel⟩ hR hf hls hst hr8 hdg kk
theorem kw_X0_dovesNow {X' : bS} {mc ms : Nat} {v : Value} (hC : CallFix p m c cc nL s args wsL_law RX0) (hM : Wr l yX0_dovesNow cX0_dovesNow 4 (some .int) rm (BW D cI cQ a S) (BW D cI cQ a X') (inB a) (.ref (a 13) :: As) (some v) mc ms) (hB : BW D cI cQ a S s H) (hn : As.length = 1) (hrm : rm.cells = mc ∧ rm.slots = ms) (hR : rm.frames + 1 ≤ R.frames ∧ 8 + (4 + 11) + rm.locals ≤ R.locals) (hf : cells + mc ≤ R.cells ∧ slots + ms ≤ R.slots) (hS : va_S A0 H0 H locs) (hA : ∀ q, inB a q → A0 q) (hls : ls.size = nL) (hst : st0 = As.reverse ++ .ref (a 13) :: rest) (hr8 : (rest.map fun v => v.category).sum ≤ 8) (hdg : decode cc pc = .ok (.invokevirtual 94, 3)) (kk : ∀ (H1 : Heap) (locs1 : List Loc), BW D cI cQ a X' s H1 → va_S A0 H0 H1 locs1 → W p l e R s m args below meth c H1 locs1 (cells + mc) (slots + ms) Q (F0 m (pc + 3) ls (v :: rest))) : W p l e R s m args below meth c H locs cells slots Q (F0 m pc ls st0) :=
  kVw hC hM mov_B mov_B hB (rec_B hB) (good_V mw_115 mw_116 mw_117 mw_2 mw_118) hrm.1 hrm.2 ⟨rfl, by decide +kernel, by decide +kernel, by rw [hn]; decide +kernel⟩ hR hf hS hA hls hst hr8 hdg (fun H1 locs1 h1 h2 _ _ => kk H1 locs1 h1 h2)
theorem kx_X0_dovesNow {Wd' : State → Heap → Prop} {v : Option Value} {mc ms : Nat} (hC : CallFix p m c cc nL s args wsL_law RX0) (hM : Wr l yX0_dovesNow cX0_dovesNow 4 (some .int) rm (BW D cI cQ a S) Wd' (inB a) (.ref (a 13) :: As) v mc ms) (hm : Mov Wd') (hB : BW D cI cQ a S s H) (hn : As.length = 1) (hrm : rm.cells = mc ∧ rm.slots = ms) (hR : rm.frames + 1 ≤ R.frames ∧ 8 + (4 + 11) + rm.locals ≤ R.locals) (hf : cells + mc ≤ R.cells ∧ slots + ms ≤ R.slots) (hS : va_S A0 H0 H locs) (hA : ∀ q, inB a q → A0 q) (hls : ls.size = nL) (hst : st0 = As.reverse ++ .ref (a 13) :: rest) (hr8 : (rest.map fun v => v.category).sum ≤ 8) (hdg : decode cc pc = .ok (.invokevirtual 94, 3)) (kk : ∀ (H1 : Heap) (locs1 : List Loc), Wd' s H1 → va_S A0 H0 H1 locs1 → H.size ≤ H1.size → (∀ q : Nat, q < H.size → ¬ inB a q → H1[q]? = H[q]?) → W p l e R s m args below meth c H1 locs1 (cells + mc) (slots + ms) Q (F0 m (pc + 3) ls (v.toList ++ rest))) : W p l e R s m args below meth c H locs cells slots Q (F0 m pc ls st0) :=
  kVw hC hM mov_B hm hB (rec_B hB) (good_V mw_115 mw_116 mw_117 mw_2 mw_118) hrm.1 hrm.2 ⟨rfl, by decide +kernel, by decide +kernel, by rw [hn]; decide +kernel⟩ hR hf hS hA hls hst hr8 hdg kk
theorem k_X0_dovesFor {v : Value} {Wd : State → Heap → Prop} (hC : CallFix p m c cc nL s args wsL_law RX0) (hM : Rd l yX0_dovesFor cX0_dovesFor 1 (some .int) rm Wd As v) (hm : Mov Wd) (hB : Wd s H) (hn : As.length = 1) (hrm : rm.cells = 0 ∧ rm.slots = 0) (hR : rm.frames + 1 ≤ R.frames ∧ 8 + (1 + 11) + rm.locals ≤ R.locals) (hf : cells ≤ R.cells ∧ slots ≤ R.slots) (hls : ls.size = nL) (hst : st0 = As.reverse ++ rest) (hr8 : (rest.map fun v => v.category).sum ≤ 8) (hdg : decode cc pc = .ok (.invokestatic 169, 3)) (kk : W p l e R s m args below meth c H locs cells slots Q (F0 m (pc + 3) ls (v :: rest))) : W p l e R s m args below meth c H locs cells slots Q (F0 m pc ls st0) :=
  kS hC hM hm hB (good_S mw_119 mw_120 mw_2 mw_121) hrm.1 hrm.2 ⟨by decide +kernel, by decide +kernel, by rw [hn]; decide +kernel⟩ hR hf hls hst hr8 hdg kk
theorem k_X0_price {v : Value} {Wd : State → Heap → Prop} (hC : CallFix p m c cc nL s args wsL_law RX0) (hM : Rd l yX0_price cX0_price 3 (some .int) rm Wd As v) (hm : Mov Wd) (hB : Wd s H) (hn : As.length = 3) (hrm : rm.cells = 0 ∧ rm.slots = 0) (hR : rm.frames + 1 ≤ R.frames ∧ 8 + (3 + 11) + rm.locals ≤ R.locals) (hf : cells ≤ R.cells ∧ slots ≤ R.slots) (hls : ls.size = nL) (hst : st0 = As.reverse ++ rest) (hr8 : (rest.map fun v => v.category).sum ≤ 8) (hdg : decode cc pc = .ok (.invokestatic 172, 3)) (kk : W p l e R s m args below meth c H locs cells slots Q (F0 m (pc + 3) ls (v :: rest))) : W p l e R s m args below meth c H locs cells slots Q (F0 m pc ls st0) :=
  kS hC hM hm hB (good_S mw_123 mw_124 mw_2 mw_125) hrm.1 hrm.2 ⟨by decide +kernel, by decide +kernel, by rw [hn]; decide +kernel⟩ hR hf hls hst hr8 hdg kk
theorem kL_X0_sell {v : Value} (hC : CallFix p m c cc nL s args wsL_law RL) (hM : Rd l yX0_sell cX0_sell 5 (some .int) rm (BW D cI cQ a S) (.ref (a 13) :: As) v) (hB : BW D cI cQ a S s H) (hn : As.length = 3) (hrm : rm.cells = 0 ∧ rm.slots = 0) (hR : rm.frames + 1 ≤ R.frames ∧ 8 + (5 + 11) + rm.locals ≤ R.locals) (hf : cells ≤ R.cells ∧ slots ≤ R.slots) (hls : ls.size = nL) (hst : st0 = As.reverse ++ .ref (a 13) :: rest) (hr8 : (rest.map fun v => v.category).sum ≤ 8) (hdg : decode cc pc = .ok (.invokevirtual 55, 3)) (kk : W p l e R s m args below meth c H locs cells slots Q (F0 m (pc + 3) ls (v :: rest))) : W p l e R s m args below meth c H locs cells slots Q (F0 m pc ls st0) :=
  kV hC hM mov_B hB (rec_B hB) (good_V mw_126 mw_127 mw_128 mw_2 mw_129) hrm.1 hrm.2 ⟨rfl, by decide +kernel, by decide +kernel, by rw [hn]; decide +kernel⟩ hR hf hls hst hr8 hdg kk
theorem kxL_X0_sell {Wd' : State → Heap → Prop} {v : Option Value} {mc ms : Nat} (hC : CallFix p m c cc nL s args wsL_law RL) (hM : Wr l yX0_sell cX0_sell 5 (some .int) rm (BW D cI cQ a S) Wd' (inB a) (.ref (a 13) :: As) v mc ms) (hm : Mov Wd') (hB : BW D cI cQ a S s H) (hn : As.length = 3) (hrm : rm.cells = mc ∧ rm.slots = ms) (hR : rm.frames + 1 ≤ R.frames ∧ 8 + (5 + 11) + rm.locals ≤ R.locals) (hf : cells + mc ≤ R.cells ∧ slots + ms ≤ R.slots) (hS : va_S A0 H0 H locs) (hA : ∀ q, inB a q → A0 q) (hls : ls.size = nL) (hst : st0 = As.reverse ++ .ref (a 13) :: rest) (hr8 : (rest.map fun v => v.category).sum ≤ 8) (hdg : decode cc pc = .ok (.invokevirtual 55, 3)) (kk : ∀ (H1 : Heap) (locs1 : List Loc), Wd' s H1 → va_S A0 H0 H1 locs1 → H.size ≤ H1.size → (∀ q : Nat, q < H.size → ¬ inB a q → H1[q]? = H[q]?) → W p l e R s m args below meth c H1 locs1 (cells + mc) (slots + ms) Q (F0 m (pc + 3) ls (v.toList ++ rest))) : W p l e R s m args below meth c H locs cells slots Q (F0 m pc ls st0) :=
  kVw hC hM mov_B hm hB (rec_B hB) (good_V mw_126 mw_127 mw_128 mw_2 mw_129) hrm.1 hrm.2 ⟨rfl, by decide +kernel, by decide +kernel, by rw [hn]; decide +kernel⟩ hR hf hS hA hls hst hr8 hdg kk
theorem kL_X0_pass {v : Value} (hC : CallFix p m c cc nL s args wsL_law RL) (hM : Rd l yX0_pass cX0_pass 4 (some .int) rm (BW D cI cQ a S) (.ref (a 13) :: As) v) (hB : BW D cI cQ a S s H) (hn : As.length = 1) (hrm : rm.cells = 0 ∧ rm.slots = 0) (hR : rm.frames + 1 ≤ R.frames ∧ 8 + (4 + 11) + rm.locals ≤ R.locals) (hf : cells ≤ R.cells ∧ slots ≤ R.slots) (hls : ls.size = nL) (hst : st0 = As.reverse ++ .ref (a 13) :: rest) (hr8 : (rest.map fun v => v.category).sum ≤ 8) (hdg : decode cc pc = .ok (.invokevirtual 57, 3)) (kk : W p l e R s m args below meth c H locs cells slots Q (F0 m (pc + 3) ls (v :: rest))) : W p l e R s m args below meth c H locs cells slots Q (F0 m pc ls st0) :=
  kV hC hM mov_B hB (rec_B hB) (good_V mw_130 mw_131 mw_132 mw_2 mw_133) hrm.1 hrm.2 ⟨rfl, by decide +kernel, by decide +kernel, by rw [hn]; decide +kernel⟩ hR hf hls hst hr8 hdg kk
theorem kxL_X0_pass {Wd' : State → Heap → Prop} {v : Option Value} {mc ms : Nat} (hC : CallFix p m c cc nL s args wsL_law RL) (hM : Wr l yX0_pass cX0_pass 4 (some .int) rm (BW D cI cQ a S) Wd' (inB a) (.ref (a 13) :: As) v mc ms) (hm : Mov Wd') (hB : BW D cI cQ a S s H) (hn : As.length = 1) (hrm : rm.cells = mc ∧ rm.slots = ms) (hR : rm.frames + 1 ≤ R.frames ∧ 8 + (4 + 11) + rm.locals ≤ R.locals) (hf : cells + mc ≤ R.cells ∧ slots + ms ≤ R.slots) (hS : va_S A0 H0 H locs) (hA : ∀ q, inB a q → A0 q) (hls : ls.size = nL) (hst : st0 = As.reverse ++ .ref (a 13) :: rest) (hr8 : (rest.map fun v => v.category).sum ≤ 8) (hdg : decode cc pc = .ok (.invokevirtual 57, 3)) (kk : ∀ (H1 : Heap) (locs1 : List Loc), Wd' s H1 → va_S A0 H0 H1 locs1 → H.size ≤ H1.size → (∀ q : Nat, q < H.size → ¬ inB a q → H1[q]? = H[q]?) → W p l e R s m args below meth c H1 locs1 (cells + mc) (slots + ms) Q (F0 m (pc + 3) ls (v.toList ++ rest))) : W p l e R s m args below meth c H locs cells slots Q (F0 m pc ls st0) :=
  kVw hC hM mov_B hm hB (rec_B hB) (good_V mw_130 mw_131 mw_132 mw_2 mw_133) hrm.1 hrm.2 ⟨rfl, by decide +kernel, by decide +kernel, by rw [hn]; decide +kernel⟩ hR hf hS hA hls hst hr8 hdg kk
theorem kn_X0_requirePassable {Wd : State → Heap → Prop} (hC : CallFix p m c cc nL s args wsL_law RX0) (hM : Rn l yX0_requirePassable cX0_requirePassable 1 none rm Wd As) (hm : Mov Wd) (hB : Wd s H) (hn : As.length = 1) (hrm : rm.cells = 0 ∧ rm.slots = 0) (hR : rm.frames + 1 ≤ R.frames ∧ 8 + (1 + 11) + rm.locals ≤ R.locals) (hf : cells ≤ R.cells ∧ slots ≤ R.slots) (hls : ls.size = nL) (hst : st0 = As.reverse ++ rest) (hr8 : (rest.map fun v => v.category).sum ≤ 8) (hdg : decode cc pc = .ok (.invokestatic 87, 3)) (kk : W p l e R s m args below meth c H locs cells slots Q (F0 m (pc + 3) ls rest)) : W p l e R s m args below meth c H locs cells slots Q (F0 m pc ls st0) :=
  kSn hC hM hm hB (good_S mw_134 mw_135 mw_2 mw_136) hrm.1 hrm.2 ⟨by decide +kernel, by decide +kernel, by rw [hn]; decide +kernel⟩ hR hf hls hst hr8 hdg kk
theorem k_X0_goOneSecond {v : Value} (hC : CallFix p m c cc nL s args wsL_law RX0) (hM : Rd l yX0_goOneSecond cX0_goOneSecond 3 (some .int) rm (BW D cI cQ a S) (.ref (a 13) :: As) v) (hB : BW D cI cQ a S s H) (hn : As.length = 0) (hrm : rm.cells = 0 ∧ rm.slots = 0) (hR : rm.frames + 1 ≤ R.frames ∧ 8 + (3 + 11) + rm.locals ≤ R.locals) (hf : cells ≤ R.cells ∧ slots ≤ R.slots) (hls : ls.size = nL) (hst : st0 = As.reverse ++ .ref (a 13) :: rest) (hr8 : (rest.map fun v => v.category).sum ≤ 8) (hdg : decode cc pc = .ok (.invokevirtual 90, 3)) (kk : W p l e R s m args below meth c H locs cells slots Q (F0 m (pc + 3) ls (v :: rest))) : W p l e R s m args below meth c H locs cells slots Q (F0 m pc ls st0) :=
  kV hC hM mov_B hB (rec_B hB) (good_V mw_137 mw_138 mw_139 mw_2 mw_140) hrm.1 hrm.2 ⟨rfl, by decide +kernel, by decide +kernel, by rw [hn]; decide +kernel⟩ hR hf hls hst hr8 hdg kk
theorem kw_X0_goOneSecond {X' : bS} {mc ms : Nat} {v : Value} (hC : CallFix p m c cc nL s args wsL_law RX0) (hM : Wr l yX0_goOneSecond cX0_goOneSecond 3 (some .int) rm (BW D cI cQ a S) (BW D cI cQ a X') (inB a) (.ref (a 13) :: As) (some v) mc ms) (hB : BW D cI cQ a S s H) (hn : As.length = 0) (hrm : rm.cells = mc ∧ rm.slots = ms) (hR : rm.frames + 1 ≤ R.frames ∧ 8 + (3 + 11) + rm.locals ≤ R.locals) (hf : cells + mc ≤ R.cells ∧ slots + ms ≤ R.slots) (hS : va_S A0 H0 H locs) (hA : ∀ q, inB a q → A0 q) (hls : ls.size = nL) (hst : st0 = As.reverse ++ .ref (a 13) :: rest) (hr8 : (rest.map fun v => v.category).sum ≤ 8) (hdg : decode cc pc = .ok (.invokevirtual 90, 3)) (kk : ∀ (H1 : Heap) (locs1 : List Loc), BW D cI cQ a X' s H1 → va_S A0 H0 H1 locs1 → W p l e R s m args below meth c H1 locs1 (cells + mc) (slots + ms) Q (F0 m (pc + 3) ls (v :: rest))) : W p l e R s m args below meth c H locs cells slots Q (F0 m pc ls st0) :=
  kVw hC hM mov_B mov_B hB (rec_B hB) (good_V mw_137 mw_138 mw_139 mw_2 mw_140) hrm.1 hrm.2 ⟨rfl, by decide +kernel, by decide +kernel, by rw [hn]; decide +kernel⟩ hR hf hS hA hls hst hr8 hdg (fun H1 locs1 h1 h2 _ _ => kk H1 locs1 h1 h2)
theorem kx_X0_goOneSecond {Wd' : State → Heap → Prop} {v : Option Value} {mc ms : Nat} (hC : CallFix p m c cc nL s args wsL_law RX0) (hM : Wr l yX0_goOneSecond cX0_goOneSecond 3 (some .int) rm (BW D cI cQ a S) Wd' (inB a) (.ref (a 13) :: As) v mc ms) (hm : Mov Wd') (hB : BW D cI cQ a S s H) (hn : As.length = 0) (hrm : rm.cells = mc ∧ rm.slots = ms) (hR : rm.frames + 1 ≤ R.frames ∧ 8 + (3 + 11) + rm.locals ≤ R.locals) (hf : cells + mc ≤ R.cells ∧ slots + ms ≤ R.slots) (hS : va_S A0 H0 H locs) (hA : ∀ q, inB a q → A0 q) (hls : ls.size = nL) (hst : st0 = As.reverse ++ .ref (a 13) :: rest) (hr8 : (rest.map fun v => v.category).sum ≤ 8) (hdg : decode cc pc = .ok (.invokevirtual 90, 3)) (kk : ∀ (H1 : Heap) (locs1 : List Loc), Wd' s H1 → va_S A0 H0 H1 locs1 → H.size ≤ H1.size → (∀ q : Nat, q < H.size → ¬ inB a q → H1[q]? = H[q]?) → W p l e R s m args below meth c H1 locs1 (cells + mc) (slots + ms) Q (F0 m (pc + 3) ls (v.toList ++ rest))) : W p l e R s m args below meth c H locs cells slots Q (F0 m pc ls st0) :=
  kVw hC hM mov_B hm hB (rec_B hB) (good_V mw_137 mw_138 mw_139 mw_2 mw_140) hrm.1 hrm.2 ⟨rfl, by decide +kernel, by decide +kernel, by rw [hn]; decide +kernel⟩ hR hf hS hA hls hst hr8 hdg kk
theorem k_X0_strike {v : Value} (hC : CallFix p m c cc nL s args wsL_law RX0) (hM : Rd l yX0_strike cX0_strike 4 none rm (BW D cI cQ a S) (.ref (a 13) :: As) v) (hB : BW D cI cQ a S s H) (hn : As.length = 1) (hrm : rm.cells = 0 ∧ rm.slots = 0) (hR : rm.frames + 1 ≤ R.frames ∧ 8 + (4 + 11) + rm.locals ≤ R.locals) (hf : cells ≤ R.cells ∧ slots ≤ R.slots) (hls : ls.size = nL) (hst : st0 = As.reverse ++ .ref (a 13) :: rest) (hr8 : (rest.map fun v => v.category).sum ≤ 8) (hdg : decode cc pc = .ok (.invokevirtual 163, 3)) (kk : W p l e R s m args below meth c H locs cells slots Q (F0 m (pc + 3) ls (v :: rest))) : W p l e R s m args below meth c H locs cells slots Q (F0 m pc ls st0) :=
  kV hC hM mov_B hB (rec_B hB) (good_V mw_141 mw_142 mw_143 mw_2 mw_144) hrm.1 hrm.2 ⟨rfl, by decide +kernel, by decide +kernel, by rw [hn]; decide +kernel⟩ hR hf hls hst hr8 hdg kk
theorem kn_X0_strike (hC : CallFix p m c cc nL s args wsL_law RX0) (hM : Rn l yX0_strike cX0_strike 4 none rm (BW D cI cQ a S) (.ref (a 13) :: As)) (hB : BW D cI cQ a S s H) (hn : As.length = 1) (hrm : rm.cells = 0 ∧ rm.slots = 0) (hR : rm.frames + 1 ≤ R.frames ∧ 8 + (4 + 11) + rm.locals ≤ R.locals) (hf : cells ≤ R.cells ∧ slots ≤ R.slots) (hls : ls.size = nL) (hst : st0 = As.reverse ++ .ref (a 13) :: rest) (hr8 : (rest.map fun v => v.category).sum ≤ 8) (hdg : decode cc pc = .ok (.invokevirtual 163, 3)) (kk : W p l e R s m args below meth c H locs cells slots Q (F0 m (pc + 3) ls rest)) : W p l e R s m args below meth c H locs cells slots Q (F0 m pc ls st0) :=
  kVn hC hM mov_B hB (rec_B hB) (good_V mw_141 mw_142 mw_143 mw_2 mw_144) hrm.1 hrm.2 ⟨rfl, by decide +kernel, by decide +kernel, by rw [hn]; decide +kernel⟩ hR hf hls hst hr8 hdg kk
theorem kw_X0_strike {X' : bS} {mc ms : Nat} (hC : CallFix p m c cc nL s args wsL_law RX0) (hM : Wr l yX0_strike cX0_strike 4 none rm (BW D cI cQ a S) (BW D cI cQ a X') (inB a) (.ref (a 13) :: As) none mc ms) (hB : BW D cI cQ a S s H) (hn : As.length = 1) (hrm : rm.cells = mc ∧ rm.slots = ms) (hR : rm.frames + 1 ≤ R.frames ∧ 8 + (4 + 11) + rm.locals ≤ R.locals) (hf : cells + mc ≤ R.cells ∧ slots + ms ≤ R.slots) (hS : va_S A0 H0 H locs) (hA : ∀ q, inB a q → A0 q) (hls : ls.size = nL) (hst : st0 = As.reverse ++ .ref (a 13) :: rest) (hr8 : (rest.map fun v => v.category).sum ≤ 8) (hdg : decode cc pc = .ok (.invokevirtual 163, 3)) (kk : ∀ (H1 : Heap) (locs1 : List Loc), BW D cI cQ a X' s H1 → va_S A0 H0 H1 locs1 → W p l e R s m args below meth c H1 locs1 (cells + mc) (slots + ms) Q (F0 m (pc + 3) ls rest)) : W p l e R s m args below meth c H locs cells slots Q (F0 m pc ls st0) :=
  kVw hC hM mov_B mov_B hB (rec_B hB) (good_V mw_141 mw_142 mw_143 mw_2 mw_144) hrm.1 hrm.2 ⟨rfl, by decide +kernel, by decide +kernel, by rw [hn]; decide +kernel⟩ hR hf hS hA hls hst hr8 hdg (fun H1 locs1 h1 h2 _ _ => kk H1 locs1 h1 h2)
theorem kx_X0_strike {Wd' : State → Heap → Prop} {v : Option Value} {mc ms : Nat} (hC : CallFix p m c cc nL s args wsL_law RX0) (hM : Wr l yX0_strike cX0_strike 4 none rm (BW D cI cQ a S) Wd' (inB a) (.ref (a 13) :: As) v mc ms) (hm : Mov Wd') (hB : BW D cI cQ a S s H) (hn : As.length = 1) (hrm : rm.cells = mc ∧ rm.slots = ms) (hR : rm.frames + 1 ≤ R.frames ∧ 8 + (4 + 11) + rm.locals ≤ R.locals) (hf : cells + mc ≤ R.cells ∧ slots + ms ≤ R.slots) (hS : va_S A0 H0 H locs) (hA : ∀ q, inB a q → A0 q) (hls : ls.size = nL) (hst : st0 = As.reverse ++ .ref (a 13) :: rest) (hr8 : (rest.map fun v => v.category).sum ≤ 8) (hdg : decode cc pc = .ok (.invokevirtual 163, 3)) (kk : ∀ (H1 : Heap) (locs1 : List Loc), Wd' s H1 → va_S A0 H0 H1 locs1 → H.size ≤ H1.size → (∀ q : Nat, q < H.size → ¬ inB a q → H1[q]? = H[q]?) → W p l e R s m args below meth c H1 locs1 (cells + mc) (slots + ms) Q (F0 m (pc + 3) ls (v.toList ++ rest))) : W p l e R s m args below meth c H locs cells slots Q (F0 m pc ls st0) :=
  kVw hC hM mov_B hm hB (rec_B hB) (good_V mw_141 mw_142 mw_143 mw_2 mw_144) hrm.1 hrm.2 ⟨rfl, by decide +kernel, by decide +kernel, by rw [hn]; decide +kernel⟩ hR hf hS hA hls hst hr8 hdg kk
theorem kL_X1_behind {v : Value} (hC : CallFix p m c cc nL s args wsL_law RL) (hM : Rd l yX1_behind cX1_behind 4 (some .int) rm (SW D cI cQ b N T R9) (.ref (b 0) :: As) v) (hB : SW D cI cQ b N T R9 s H) (hn : As.length = 1) (hrm : rm.cells = 0 ∧ rm.slots = 0) (hR : rm.frames + 1 ≤ R.frames ∧ 8 + (4 + 11) + rm.locals ≤ R.locals) (hf : cells ≤ R.cells ∧ slots ≤ R.slots) (hls : ls.size = nL) (hst : st0 = As.reverse ++ .ref (b 0) :: rest) (hr8 : (rest.map fun v => v.category).sum ≤ 8) (hdg : decode cc pc = .ok (.invokevirtual 60, 3)) (kk : W p l e R s m args below meth c H locs cells slots Q (F0 m (pc + 3) ls (v :: rest))) : W p l e R s m args below meth c H locs cells slots Q (F0 m pc ls st0) :=
  kV hC hM mov_S hB (rec_S hB) (good_V mw_145 mw_146 mw_147 mw_33 mw_148) hrm.1 hrm.2 ⟨rfl, by decide +kernel, by decide +kernel, by rw [hn]; decide +kernel⟩ hR hf hls hst hr8 hdg kk
theorem kzL_X1_behind {Wd' : State → Heap → Prop} {v : Option Value} {mc ms : Nat} (hC : CallFix p m c cc nL s args wsL_law RL) (hM : Wr l yX1_behind cX1_behind 4 (some .int) rm (fun U Hx => Hx.size = H.size ∧ SW D cI cQ b N T R9 U Hx) Wd' (fun q => inG (10 + T) b q ∨ H.size ≤ q) (.ref (b 0) :: As) v mc ms) (hm : Mov Wd') (hB : SW D cI cQ b N T R9 s H) (hn : As.length = 1) (hrm : rm.cells = mc ∧ rm.slots = ms) (hR : rm.frames + 1 ≤ R.frames ∧ 8 + (4 + 11) + rm.locals ≤ R.locals) (hf : cells + mc ≤ R.cells ∧ slots + ms ≤ R.slots) (hS : va_S A0 H0 H locs) (hA : ∀ q, inG (10 + T) b q → A0 q) (hA1 : ∀ q, H0.size ≤ q → A0 q) (hls : ls.size = nL) (hst : st0 = As.reverse ++ .ref (b 0) :: rest) (hr8 : (rest.map fun v => v.category).sum ≤ 8) (hdg : decode cc pc = .ok (.invokevirtual 60, 3)) (kk : ∀ (H1 : Heap) (locs1 : List Loc), Wd' s H1 → va_S A0 H0 H1 locs1 → H.size ≤ H1.size → (∀ q : Nat, q < H.size → ¬ inG (10 + T) b q → H1[q]? = H[q]?) → W p l e R s m args below meth c H1 locs1 (cells + mc) (slots + ms) Q (F0 m (pc + 3) ls (v.toList ++ rest))) : W p l e R s m args below meth c H locs cells slots Q (F0 m pc ls st0) :=
  kVw hC hM (fun _ _ _ hvm h => ⟨h.1, h.2.moved hvm⟩) hm ⟨rfl, hB⟩ (rec_S hB) (good_V mw_145 mw_146 mw_147 mw_33 mw_148) hrm.1 hrm.2 ⟨rfl, by decide +kernel, by decide +kernel, by rw [hn]; decide +kernel⟩ hR hf hS (fun q h => h.elim (hA q) (fun h => hA1 q (Nat.le_trans hS.1 h))) hls hst hr8 hdg (fun H1 locs1 h1 h2 h3 h4 => kk H1 locs1 h1 h2 h3 (fun q h5 h6 => h4 q h5 (fun z => z.elim h6 (fun z => absurd h5 (Nat.not_lt.mpr z)))))
theorem kxL_X1_behind {Wd' : State → Heap → Prop} {v : Option Value} {mc ms : Nat} (hC : CallFix p m c cc nL s args wsL_law RL) (hM : Wr l yX1_behind cX1_behind 4 (some .int) rm (SW D cI cQ b N T R9) Wd' (inG (10 + T) b) (.ref (b 0) :: As) v mc ms) (hm : Mov Wd') (hB : SW D cI cQ b N T R9 s H) (hn : As.length = 1) (hrm : rm.cells = mc ∧ rm.slots = ms) (hR : rm.frames + 1 ≤ R.frames ∧ 8 + (4 + 11) + rm.locals ≤ R.locals) (hf : cells + mc ≤ R.cells ∧ slots + ms ≤ R.slots) (hS : va_S A0 H0 H locs) (hA : ∀ q, inG (10 + T) b q → A0 q) (hls : ls.size = nL) (hst : st0 = As.reverse ++ .ref (b 0) :: rest) (hr8 : (rest.map fun v => v.category).sum ≤ 8) (hdg : decode cc pc = .ok (.invokevirtual 60, 3)) (kk : ∀ (H1 : Heap) (locs1 : List Loc), Wd' s H1 → va_S A0 H0 H1 locs1 → H.size ≤ H1.size → (∀ q : Nat, q < H.size → ¬ inG (10 + T) b q → H1[q]? = H[q]?) → W p l e R s m args below meth c H1 locs1 (cells + mc) (slots + ms) Q (F0 m (pc + 3) ls (v.toList ++ rest))) : W p l e R s m args below meth c H locs cells slots Q (F0 m pc ls st0) :=
  kVw hC hM mov_S hm hB (rec_S hB) (good_V mw_145 mw_146 mw_147 mw_33 mw_148) hrm.1 hrm.2 ⟨rfl, by decide +kernel, by decide +kernel, by rw [hn]; decide +kernel⟩ hR hf hS hA hls hst hr8 hdg kk
theorem k1_X1_pass {v : Value} (hC : CallFix p m c cc nL s args wsL_law RX1) (hM : Rd l yX1_pass cX1_pass 6 (some .int) rm (SW D cI cQ b N T R9) (.ref (b 0) :: As) v) (hB : SW D cI cQ b N T R9 s H) (hn : As.length = 0) (hrm : rm.cells = 0 ∧ rm.slots = 0) (hR : rm.frames + 1 ≤ R.frames ∧ 8 + (6 + 11) + rm.locals ≤ R.locals) (hf : cells ≤ R.cells ∧ slots ≤ R.slots) (hls : ls.size = nL) (hst : st0 = As.reverse ++ .ref (b 0) :: rest) (hr8 : (rest.map fun v => v.category).sum ≤ 8) (hdg : decode cc pc = .ok (.invokevirtual 33, 3)) (kk : W p l e R s m args below meth c H locs cells slots Q (F0 m (pc + 3) ls (v :: rest))) : W p l e R s m args below meth c H locs cells slots Q (F0 m pc ls st0) :=
  kV hC hM mov_S hB (rec_S hB) (good_V mw_149 mw_150 mw_151 mw_33 mw_152) hrm.1 hrm.2 ⟨rfl, by decide +kernel, by decide +kernel, by rw [hn]; decide +kernel⟩ hR hf hls hst hr8 hdg kk
theorem kz1_X1_pass {Wd' : State → Heap → Prop} {v : Option Value} {mc ms : Nat} (hC : CallFix p m c cc nL s args wsL_law RX1) (hM : Wr l yX1_pass cX1_pass 6 (some .int) rm (fun U Hx => Hx.size = H.size ∧ SW D cI cQ b N T R9 U Hx) Wd' (fun q => inG (10 + T) b q ∨ H.size ≤ q) (.ref (b 0) :: As) v mc ms) (hm : Mov Wd') (hB : SW D cI cQ b N T R9 s H) (hn : As.length = 0) (hrm : rm.cells = mc ∧ rm.slots = ms) (hR : rm.frames + 1 ≤ R.frames ∧ 8 + (6 + 11) + rm.locals ≤ R.locals) (hf : cells + mc ≤ R.cells ∧ slots + ms ≤ R.slots) (hS : va_S A0 H0 H locs) (hA : ∀ q, inG (10 + T) b q → A0 q) (hA1 : ∀ q, H0.size ≤ q → A0 q) (hls : ls.size = nL) (hst : st0 = As.reverse ++ .ref (b 0) :: rest) (hr8 : (rest.map fun v => v.category).sum ≤ 8) (hdg : decode cc pc = .ok (.invokevirtual 33, 3)) (kk : ∀ (H1 : Heap) (locs1 : List Loc), Wd' s H1 → va_S A0 H0 H1 locs1 → H.size ≤ H1.size → (∀ q : Nat, q < H.size → ¬ inG (10 + T) b q → H1[q]? = H[q]?) → W p l e R s m args below meth c H1 locs1 (cells + mc) (slots + ms) Q (F0 m (pc + 3) ls (v.toList ++ rest))) : W p l e R s m args below meth c H locs cells slots Q (F0 m pc ls st0) :=
  kVw hC hM (fun _ _ _ hvm h => ⟨h.1, h.2.moved hvm⟩) hm ⟨rfl, hB⟩ (rec_S hB) (good_V mw_149 mw_150 mw_151 mw_33 mw_152) hrm.1 hrm.2 ⟨rfl, by decide +kernel, by decide +kernel, by rw [hn]; decide +kernel⟩ hR hf hS (fun q h => h.elim (hA q) (fun h => hA1 q (Nat.le_trans hS.1 h))) hls hst hr8 hdg (fun H1 locs1 h1 h2 h3 h4 => kk H1 locs1 h1 h2 h3 (fun q h5 h6 => h4 q h5 (fun z => z.elim h6 (fun z => absurd h5 (Nat.not_lt.mpr z)))))
theorem kx1_X1_pass {Wd' : State → Heap → Prop} {v : Option Value} {mc ms : Nat} (hC : CallFix p m c cc nL s args wsL_law RX1) (hM : Wr l yX1_pass cX1_pass 6 (some .int) rm (SW D cI cQ b N T R9) Wd' (inG (10 + T) b) (.ref (b 0) :: As) v mc ms) (hm : Mov Wd') (hB : SW D cI cQ b N T R9 s H) (hn : As.length = 0) (hrm : rm.cells = mc ∧ rm.slots = ms) (hR : rm.frames + 1 ≤ R.frames ∧ 8 + (6 + 11) + rm.locals ≤ R.locals) (hf : cells + mc ≤ R.cells ∧ slots + ms ≤ R.slots) (hS : va_S A0 H0 H locs) (hA : ∀ q, inG (10 + T) b q → A0 q) (hls : ls.size = nL) (hst : st0 = As.reverse ++ .ref (b 0) :: rest) (hr8 : (rest.map fun v => v.category).sum ≤ 8) (hdg : decode cc pc = .ok (.invokevirtual 33, 3)) (kk : ∀ (H1 : Heap) (locs1 : List Loc), Wd' s H1 → va_S A0 H0 H1 locs1 → H.size ≤ H1.size → (∀ q : Nat, q < H.size → ¬ inG (10 + T) b q → H1[q]? = H[q]?) → W p l e R s m args below meth c H1 locs1 (cells + mc) (slots + ms) Q (F0 m (pc + 3) ls (v.toList ++ rest))) : W p l e R s m args below meth c H locs cells slots Q (F0 m pc ls st0) :=
  kVw hC hM mov_S hm hB (rec_S hB) (good_V mw_149 mw_150 mw_151 mw_33 mw_152) hrm.1 hrm.2 ⟨rfl, by decide +kernel, by decide +kernel, by rw [hn]; decide +kernel⟩ hR hf hS hA hls hst hr8 hdg kk
theorem kL_X0_towers {v : Value} (hC : CallFix p m c cc nL s args wsL_law RL) (hM : Rd l yX0_towers cX0_towers 1 (some .int) rm (BW D cI cQ a S) (.ref (a 13) :: As) v) (hB : BW D cI cQ a S s H) (hn : As.length = 0) (hrm : rm.cells = 0 ∧ rm.slots = 0) (hR : rm.frames + 1 ≤ R.frames ∧ 8 + (1 + 11) + rm.locals ≤ R.locals) (hf : cells ≤ R.cells ∧ slots ≤ R.slots) (hls : ls.size = nL) (hst : st0 = As.reverse ++ .ref (a 13) :: rest) (hr8 : (rest.map fun v => v.category).sum ≤ 8) (hdg : decode cc pc = .ok (.invokevirtual 77, 3)) (kk : W p l e R s m args below meth c H locs cells slots Q (F0 m (pc + 3) ls (v :: rest))) : W p l e R s m args below meth c H locs cells slots Q (F0 m pc ls st0) :=
  kV hC hM mov_B hB (rec_B hB) (good_V mw_154 mw_155 mw_156 mw_2 mw_157) hrm.1 hrm.2 ⟨rfl, by decide +kernel, by decide +kernel, by rw [hn]; decide +kernel⟩ hR hf hls hst hr8 hdg kk
theorem kxL_X0_towers {Wd' : State → Heap → Prop} {v : Option Value} {mc ms : Nat} (hC : CallFix p m c cc nL s args wsL_law RL) (hM : Wr l yX0_towers cX0_towers 1 (some .int) rm (BW D cI cQ a S) Wd' (inB a) (.ref (a 13) :: As) v mc ms) (hm : Mov Wd') (hB : BW D cI cQ a S s H) (hn : As.length = 0) (hrm : rm.cells = mc ∧ rm.slots = ms) (hR : rm.frames + 1 ≤ R.frames ∧ 8 + (1 + 11) + rm.locals ≤ R.locals) (hf : cells + mc ≤ R.cells ∧ slots + ms ≤ R.slots) (hS : va_S A0 H0 H locs) (hA : ∀ q, inB a q → A0 q) (hls : ls.size = nL) (hst : st0 = As.reverse ++ .ref (a 13) :: rest) (hr8 : (rest.map fun v => v.category).sum ≤ 8) (hdg : decode cc pc = .ok (.invokevirtual 77, 3)) (kk : ∀ (H1 : Heap) (locs1 : List Loc), Wd' s H1 → va_S A0 H0 H1 locs1 → H.size ≤ H1.size → (∀ q : Nat, q < H.size → ¬ inB a q → H1[q]? = H[q]?) → W p l e R s m args below meth c H1 locs1 (cells + mc) (slots + ms) Q (F0 m (pc + 3) ls (v.toList ++ rest))) : W p l e R s m args below meth c H locs cells slots Q (F0 m pc ls st0) :=
  kVw hC hM mov_B hm hB (rec_B hB) (good_V mw_154 mw_155 mw_156 mw_2 mw_157) hrm.1 hrm.2 ⟨rfl, by decide +kernel, by decide +kernel, by rw [hn]; decide +kernel⟩ hR hf hS hA hls hst hr8 hdg kk
theorem kL_X0_traders {v : Value} (hC : CallFix p m c cc nL s args wsL_law RL) (hM : Rd l yX0_traders cX0_traders 1 (some .int) rm (BW D cI cQ a S) (.ref (a 13) :: As) v) (hB : BW D cI cQ a S s H) (hn : As.length = 0) (hrm : rm.cells = 0 ∧ rm.slots = 0) (hR : rm.frames + 1 ≤ R.frames ∧ 8 + (1 + 11) + rm.locals ≤ R.locals) (hf : cells ≤ R.cells ∧ slots ≤ R.slots) (hls : ls.size = nL) (hst : st0 = As.reverse ++ .ref (a 13) :: rest) (hr8 : (rest.map fun v => v.category).sum ≤ 8) (hdg : decode cc pc = .ok (.invokevirtual 79, 3)) (kk : W p l e R s m args below meth c H locs cells slots Q (F0 m (pc + 3) ls (v :: rest))) : W p l e R s m args below meth c H locs cells slots Q (F0 m pc ls st0) :=
  kV hC hM mov_B hB (rec_B hB) (good_V mw_158 mw_159 mw_160 mw_2 mw_161) hrm.1 hrm.2 ⟨rfl, by decide +kernel, by decide +kernel, by rw [hn]; decide +kernel⟩ hR hf hls hst hr8 hdg kk
theorem kxL_X0_traders {Wd' : State → Heap → Prop} {v : Option Value} {mc ms : Nat} (hC : CallFix p m c cc nL s args wsL_law RL) (hM : Wr l yX0_traders cX0_traders 1 (some .int) rm (BW D cI cQ a S) Wd' (inB a) (.ref (a 13) :: As) v mc ms) (hm : Mov Wd') (hB : BW D cI cQ a S s H) (hn : As.length = 0) (hrm : rm.cells = mc ∧ rm.slots = ms) (hR : rm.frames + 1 ≤ R.frames ∧ 8 + (1 + 11) + rm.locals ≤ R.locals) (hf : cells + mc ≤ R.cells ∧ slots + ms ≤ R.slots) (hS : va_S A0 H0 H locs) (hA : ∀ q, inB a q → A0 q) (hls : ls.size = nL) (hst : st0 = As.reverse ++ .ref (a 13) :: rest) (hr8 : (rest.map fun v => v.category).sum ≤ 8) (hdg : decode cc pc = .ok (.invokevirtual 79, 3)) (kk : ∀ (H1 : Heap) (locs1 : List Loc), Wd' s H1 → va_S A0 H0 H1 locs1 → H.size ≤ H1.size → (∀ q : Nat, q < H.size → ¬ inB a q → H1[q]? = H[q]?) → W p l e R s m args below meth c H1 locs1 (cells + mc) (slots + ms) Q (F0 m (pc + 3) ls (v.toList ++ rest))) : W p l e R s m args below meth c H locs cells slots Q (F0 m pc ls st0) :=
  kVw hC hM mov_B hm hB (rec_B hB) (good_V mw_158 mw_159 mw_160 mw_2 mw_161) hrm.1 hrm.2 ⟨rfl, by decide +kernel, by decide +kernel, by rw [hn]; decide +kernel⟩ hR hf hS hA hls hst hr8 hdg kk
theorem kL_X0_silenceOf {v : Value} (hC : CallFix p m c cc nL s args wsL_law RL) (hM : Rd l yX0_silenceOf cX0_silenceOf 2 (some .int) rm (BW D cI cQ a S) (.ref (a 13) :: As) v) (hB : BW D cI cQ a S s H) (hn : As.length = 1) (hrm : rm.cells = 0 ∧ rm.slots = 0) (hR : rm.frames + 1 ≤ R.frames ∧ 8 + (2 + 11) + rm.locals ≤ R.locals) (hf : cells ≤ R.cells ∧ slots ≤ R.slots) (hls : ls.size = nL) (hst : st0 = As.reverse ++ .ref (a 13) :: rest) (hr8 : (rest.map fun v => v.category).sum ≤ 8) (hdg : decode cc pc = .ok (.invokevirtual 83, 3)) (kk : W p l e R s m args below meth c H locs cells slots Q (F0 m (pc + 3) ls (v :: rest))) : W p l e R s m args below meth c H locs cells slots Q (F0 m pc ls st0) :=
  kV hC hM mov_B hB (rec_B hB) (good_V mw_162 mw_163 mw_164 mw_2 mw_165) hrm.1 hrm.2 ⟨rfl, by decide +kernel, by decide +kernel, by rw [hn]; decide +kernel⟩ hR hf hls hst hr8 hdg kk
theorem kxL_X0_silenceOf {Wd' : State → Heap → Prop} {v : Option Value} {mc ms : Nat} (hC : CallFix p m c cc nL s args wsL_law RL) (hM : Wr l yX0_silenceOf cX0_silenceOf 2 (some .int) rm (BW D cI cQ a S) Wd' (inB a) (.ref (a 13) :: As) v mc ms) (hm : Mov Wd') (hB : BW D cI cQ a S s H) (hn : As.length = 1) (hrm : rm.cells = mc ∧ rm.slots = ms) (hR : rm.frames + 1 ≤ R.frames ∧ 8 + (2 + 11) + rm.locals ≤ R.locals) (hf : cells + mc ≤ R.cells ∧ slots + ms ≤ R.slots) (hS : va_S A0 H0 H locs) (hA : ∀ q, inB a q → A0 q) (hls : ls.size = nL) (hst : st0 = As.reverse ++ .ref (a 13) :: rest) (hr8 : (rest.map fun v => v.category).sum ≤ 8) (hdg : decode cc pc = .ok (.invokevirtual 83, 3)) (kk : ∀ (H1 : Heap) (locs1 : List Loc), Wd' s H1 → va_S A0 H0 H1 locs1 → H.size ≤ H1.size → (∀ q : Nat, q < H.size → ¬ inB a q → H1[q]? = H[q]?) → W p l e R s m args below meth c H1 locs1 (cells + mc) (slots + ms) Q (F0 m (pc + 3) ls (v.toList ++ rest))) : W p l e R s m args below meth c H locs cells slots Q (F0 m pc ls st0) :=
  kVw hC hM mov_B hm hB (rec_B hB) (good_V mw_162 mw_163 mw_164 mw_2 mw_165) hrm.1 hrm.2 ⟨rfl, by decide +kernel, by decide +kernel, by rw [hn]; decide +kernel⟩ hR hf hS hA hls hst hr8 hdg kk
theorem kL_X0_priceOf {v : Value} (hC : CallFix p m c cc nL s args wsL_law RL) (hM : Rd l yX0_priceOf cX0_priceOf 2 (some .int) rm (BW D cI cQ a S) (.ref (a 13) :: As) v) (hB : BW D cI cQ a S s H) (hn : As.length = 1) (hrm : rm.cells = 0 ∧ rm.slots = 0) (hR : rm.frames + 1 ≤ R.frames ∧ 8 + (2 + 11) + rm.locals ≤ R.locals) (hf : cells ≤ R.cells ∧ slots ≤ R.slots) (hls : ls.size = nL) (hst : st0 = As.reverse ++ .ref (a 13) :: rest) (hr8 : (rest.map fun v => v.category).sum ≤ 8) (hdg : decode cc pc = .ok (.invokevirtual 86, 3)) (kk : W p l e R s m args below meth c H locs cells slots Q (F0 m (pc + 3) ls (v :: rest))) : W p l e R s m args below meth c H locs cells slots Q (F0 m pc ls st0) :=
  kV hC hM mov_B hB (rec_B hB) (good_V mw_166 mw_167 mw_168 mw_2 mw_169) hrm.1 hrm.2 ⟨rfl, by decide +kernel, by decide +kernel, by rw [hn]; decide +kernel⟩ hR hf hls hst hr8 hdg kk
theorem kxL_X0_priceOf {Wd' : State → Heap → Prop} {v : Option Value} {mc ms : Nat} (hC : CallFix p m c cc nL s args wsL_law RL) (hM : Wr l yX0_priceOf cX0_priceOf 2 (some .int) rm (BW D cI cQ a S) Wd' (inB a) (.ref (a 13) :: As) v mc ms) (hm : Mov Wd') (hB : BW D cI cQ a S s H) (hn : As.length = 1) (hrm : rm.cells = mc ∧ rm.slots = ms) (hR : rm.frames + 1 ≤ R.frames ∧ 8 + (2 + 11) + rm.locals ≤ R.locals) (hf : cells + mc ≤ R.cells ∧ slots + ms ≤ R.slots) (hS : va_S A0 H0 H locs) (hA : ∀ q, inB a q → A0 q) (hls : ls.size = nL) (hst : st0 = As.reverse ++ .ref (a 13) :: rest) (hr8 : (rest.map fun v => v.category).sum ≤ 8) (hdg : decode cc pc = .ok (.invokevirtual 86, 3)) (kk : ∀ (H1 : Heap) (locs1 : List Loc), Wd' s H1 → va_S A0 H0 H1 locs1 → H.size ≤ H1.size → (∀ q : Nat, q < H.size → ¬ inB a q → H1[q]? = H[q]?) → W p l e R s m args below meth c H1 locs1 (cells + mc) (slots + ms) Q (F0 m (pc + 3) ls (v.toList ++ rest))) : W p l e R s m args below meth c H locs cells slots Q (F0 m pc ls st0) :=
  kVw hC hM mov_B hm hB (rec_B hB) (good_V mw_166 mw_167 mw_168 mw_2 mw_169) hrm.1 hrm.2 ⟨rfl, by decide +kernel, by decide +kernel, by rw [hn]; decide +kernel⟩ hR hf hS hA hls hst hr8 hdg kk
theorem kL_X0_secondsUntilStroke {v : Value} (hC : CallFix p m c cc nL s args wsL_law RL) (hM : Rd l yX0_secondsUntilStroke cX0_secondsUntilStroke 2 (some .int) rm (BW D cI cQ a S) (.ref (a 13) :: As) v) (hB : BW D cI cQ a S s H) (hn : As.length = 1) (hrm : rm.cells = 0 ∧ rm.slots = 0) (hR : rm.frames + 1 ≤ R.frames ∧ 8 + (2 + 11) + rm.locals ≤ R.locals) (hf : cells ≤ R.cells ∧ slots ≤ R.slots) (hls : ls.size = nL) (hst : st0 = As.reverse ++ .ref (a 13) :: rest) (hr8 : (rest.map fun v => v.category).sum ≤ 8) (hdg : decode cc pc = .ok (.invokevirtual 89, 3)) (kk : W p l e R s m args below meth c H locs cells slots Q (F0 m (pc + 3) ls (v :: rest))) : W p l e R s m args below meth c H locs cells slots Q (F0 m pc ls st0) :=
  kV hC hM mov_B hB (rec_B hB) (good_V mw_170 mw_171 mw_172 mw_2 mw_173) hrm.1 hrm.2 ⟨rfl, by decide +kernel, by decide +kernel, by rw [hn]; decide +kernel⟩ hR hf hls hst hr8 hdg kk
theorem kxL_X0_secondsUntilStroke {Wd' : State → Heap → Prop} {v : Option Value} {mc ms : Nat} (hC : CallFix p m c cc nL s args wsL_law RL) (hM : Wr l yX0_secondsUntilStroke cX0_secondsUntilStroke 2 (some .int) rm (BW D cI cQ a S) Wd' (inB a) (.ref (a 13) :: As) v mc ms) (hm : Mov Wd') (hB : BW D cI cQ a S s H) (hn : As.length = 1) (hrm : rm.cells = mc ∧ rm.slots = ms) (hR : rm.frames + 1 ≤ R.frames ∧ 8 + (2 + 11) + rm.locals ≤ R.locals) (hf : cells + mc ≤ R.cells ∧ slots + ms ≤ R.slots) (hS : va_S A0 H0 H locs) (hA : ∀ q, inB a q → A0 q) (hls : ls.size = nL) (hst : st0 = As.reverse ++ .ref (a 13) :: rest) (hr8 : (rest.map fun v => v.category).sum ≤ 8) (hdg : decode cc pc = .ok (.invokevirtual 89, 3)) (kk : ∀ (H1 : Heap) (locs1 : List Loc), Wd' s H1 → va_S A0 H0 H1 locs1 → H.size ≤ H1.size → (∀ q : Nat, q < H.size → ¬ inB a q → H1[q]? = H[q]?) → W p l e R s m args below meth c H1 locs1 (cells + mc) (slots + ms) Q (F0 m (pc + 3) ls (v.toList ++ rest))) : W p l e R s m args below meth c H locs cells slots Q (F0 m pc ls st0) :=
  kVw hC hM mov_B hm hB (rec_B hB) (good_V mw_170 mw_171 mw_172 mw_2 mw_173) hrm.1 hrm.2 ⟨rfl, by decide +kernel, by decide +kernel, by rw [hn]; decide +kernel⟩ hR hf hS hA hls hst hr8 hdg kk
theorem kL_X0_strokesOf {v : Value} (hC : CallFix p m c cc nL s args wsL_law RL) (hM : Rd l yX0_strokesOf cX0_strokesOf 2 (some .int) rm (BW D cI cQ a S) (.ref (a 13) :: As) v) (hB : BW D cI cQ a S s H) (hn : As.length = 1) (hrm : rm.cells = 0 ∧ rm.slots = 0) (hR : rm.frames + 1 ≤ R.frames ∧ 8 + (2 + 11) + rm.locals ≤ R.locals) (hf : cells ≤ R.cells ∧ slots ≤ R.slots) (hls : ls.size = nL) (hst : st0 = As.reverse ++ .ref (a 13) :: rest) (hr8 : (rest.map fun v => v.category).sum ≤ 8) (hdg : decode cc pc = .ok (.invokevirtual 92, 3)) (kk : W p l e R s m args below meth c H locs cells slots Q (F0 m (pc + 3) ls (v :: rest))) : W p l e R s m args below meth c H locs cells slots Q (F0 m pc ls st0) :=
  kV hC hM mov_B hB (rec_B hB) (good_V mw_174 mw_175 mw_176 mw_2 mw_177) hrm.1 hrm.2 ⟨rfl, by decide +kernel, by decide +kernel, by rw [hn]; decide +kernel⟩ hR hf hls hst hr8 hdg kk
theorem kxL_X0_strokesOf {Wd' : State → Heap → Prop} {v : Option Value} {mc ms : Nat} (hC : CallFix p m c cc nL s args wsL_law RL) (hM : Wr l yX0_strokesOf cX0_strokesOf 2 (some .int) rm (BW D cI cQ a S) Wd' (inB a) (.ref (a 13) :: As) v mc ms) (hm : Mov Wd') (hB : BW D cI cQ a S s H) (hn : As.length = 1) (hrm : rm.cells = mc ∧ rm.slots = ms) (hR : rm.frames + 1 ≤ R.frames ∧ 8 + (2 + 11) + rm.locals ≤ R.locals) (hf : cells + mc ≤ R.cells ∧ slots + ms ≤ R.slots) (hS : va_S A0 H0 H locs) (hA : ∀ q, inB a q → A0 q) (hls : ls.size = nL) (hst : st0 = As.reverse ++ .ref (a 13) :: rest) (hr8 : (rest.map fun v => v.category).sum ≤ 8) (hdg : decode cc pc = .ok (.invokevirtual 92, 3)) (kk : ∀ (H1 : Heap) (locs1 : List Loc), Wd' s H1 → va_S A0 H0 H1 locs1 → H.size ≤ H1.size → (∀ q : Nat, q < H.size → ¬ inB a q → H1[q]? = H[q]?) → W p l e R s m args below meth c H1 locs1 (cells + mc) (slots + ms) Q (F0 m (pc + 3) ls (v.toList ++ rest))) : W p l e R s m args below meth c H locs cells slots Q (F0 m pc ls st0) :=
  kVw hC hM mov_B hm hB (rec_B hB) (good_V mw_174 mw_175 mw_176 mw_2 mw_177) hrm.1 hrm.2 ⟨rfl, by decide +kernel, by decide +kernel, by rw [hn]; decide +kernel⟩ hR hf hS hA hls hst hr8 hdg kk
theorem kL_X0_openSeconds {v : Value} (hC : CallFix p m c cc nL s args wsL_law RL) (hM : Rd l yX0_openSeconds cX0_openSeconds 2 (some .int) rm (BW D cI cQ a S) (.ref (a 13) :: As) v) (hB : BW D cI cQ a S s H) (hn : As.length = 1) (hrm : rm.cells = 0 ∧ rm.slots = 0) (hR : rm.frames + 1 ≤ R.frames ∧ 8 + (2 + 11) + rm.locals ≤ R.locals) (hf : cells ≤ R.cells ∧ slots ≤ R.slots) (hls : ls.size = nL) (hst : st0 = As.reverse ++ .ref (a 13) :: rest) (hr8 : (rest.map fun v => v.category).sum ≤ 8) (hdg : decode cc pc = .ok (.invokevirtual 95, 3)) (kk : W p l e R s m args below meth c H locs cells slots Q (F0 m (pc + 3) ls (v :: rest))) : W p l e R s m args below meth c H locs cells slots Q (F0 m pc ls st0) :=
  kV hC hM mov_B hB (rec_B hB) (good_V mw_178 mw_179 mw_180 mw_2 mw_181) hrm.1 hrm.2 ⟨rfl, by decide +kernel, by decide +kernel, by rw [hn]; decide +kernel⟩ hR hf hls hst hr8 hdg kk
theorem kxL_X0_openSeconds {Wd' : State → Heap → Prop} {v : Option Value} {mc ms : Nat} (hC : CallFix p m c cc nL s args wsL_law RL) (hM : Wr l yX0_openSeconds cX0_openSeconds 2 (some .int) rm (BW D cI cQ a S) Wd' (inB a) (.ref (a 13) :: As) v mc ms) (hm : Mov Wd') (hB : BW D cI cQ a S s H) (hn : As.length = 1) (hrm : rm.cells = mc ∧ rm.slots = ms) (hR : rm.frames + 1 ≤ R.frames ∧ 8 + (2 + 11) + rm.locals ≤ R.locals) (hf : cells + mc ≤ R.cells ∧ slots + ms ≤ R.slots) (hS : va_S A0 H0 H locs) (hA : ∀ q, inB a q → A0 q) (hls : ls.size = nL) (hst : st0 = As.reverse ++ .ref (a 13) :: rest) (hr8 : (rest.map fun v => v.category).sum ≤ 8) (hdg : decode cc pc = .ok (.invokevirtual 95, 3)) (kk : ∀ (H1 : Heap) (locs1 : List Loc), Wd' s H1 → va_S A0 H0 H1 locs1 → H.size ≤ H1.size → (∀ q : Nat, q < H.size → ¬ inB a q → H1[q]? = H[q]?) → W p l e R s m args below meth c H1 locs1 (cells + mc) (slots + ms) Q (F0 m (pc + 3) ls (v.toList ++ rest))) : W p l e R s m args below meth c H locs cells slots Q (F0 m pc ls st0) :=
  kVw hC hM mov_B hm hB (rec_B hB) (good_V mw_178 mw_179 mw_180 mw_2 mw_181) hrm.1 hrm.2 ⟨rfl, by decide +kernel, by decide +kernel, by rw [hn]; decide +kernel⟩ hR hf hS hA hls hst hr8 hdg kk
theorem k_X0_heldByAll {v : Value} (hC : CallFix p m c cc nL s args wsL_law RX0) (hM : Rd l yX0_heldByAll cX0_heldByAll 4 (some .int) rm (BW D cI cQ a S) (.ref (a 13) :: As) v) (hB : BW D cI cQ a S s H) (hn : As.length = 1) (hrm : rm.cells = 0 ∧ rm.slots = 0) (hR : rm.frames + 1 ≤ R.frames ∧ 8 + (4 + 11) + rm.locals ≤ R.locals) (hf : cells ≤ R.cells ∧ slots ≤ R.slots) (hls : ls.size = nL) (hst : st0 = As.reverse ++ .ref (a 13) :: rest) (hr8 : (rest.map fun v => v.category).sum ≤ 8) (hdg : decode cc pc = .ok (.invokevirtual 97, 3)) (kk : W p l e R s m args below meth c H locs cells slots Q (F0 m (pc + 3) ls (v :: rest))) : W p l e R s m args below meth c H locs cells slots Q (F0 m pc ls st0) :=
  kV hC hM mov_B hB (rec_B hB) (good_V mw_182 mw_183 mw_184 mw_2 mw_185) hrm.1 hrm.2 ⟨rfl, by decide +kernel, by decide +kernel, by rw [hn]; decide +kernel⟩ hR hf hls hst hr8 hdg kk
theorem kw_X0_heldByAll {X' : bS} {mc ms : Nat} {v : Value} (hC : CallFix p m c cc nL s args wsL_law RX0) (hM : Wr l yX0_heldByAll cX0_heldByAll 4 (some .int) rm (BW D cI cQ a S) (BW D cI cQ a X') (inB a) (.ref (a 13) :: As) (some v) mc ms) (hB : BW D cI cQ a S s H) (hn : As.length = 1) (hrm : rm.cells = mc ∧ rm.slots = ms) (hR : rm.frames + 1 ≤ R.frames ∧ 8 + (4 + 11) + rm.locals ≤ R.locals) (hf : cells + mc ≤ R.cells ∧ slots + ms ≤ R.slots) (hS : va_S A0 H0 H locs) (hA : ∀ q, inB a q → A0 q) (hls : ls.size = nL) (hst : st0 = As.reverse ++ .ref (a 13) :: rest) (hr8 : (rest.map fun v => v.category).sum ≤ 8) (hdg : decode cc pc = .ok (.invokevirtual 97, 3)) (kk : ∀ (H1 : Heap) (locs1 : List Loc), BW D cI cQ a X' s H1 → va_S A0 H0 H1 locs1 → W p l e R s m args below meth c H1 locs1 (cells + mc) (slots + ms) Q (F0 m (pc + 3) ls (v :: rest))) : W p l e R s m args below meth c H locs cells slots Q (F0 m pc ls st0) :=
  kVw hC hM mov_B mov_B hB (rec_B hB) (good_V mw_182 mw_183 mw_184 mw_2 mw_185) hrm.1 hrm.2 ⟨rfl, by decide +kernel, by decide +kernel, by rw [hn]; decide +kernel⟩ hR hf hS hA hls hst hr8 hdg (fun H1 locs1 h1 h2 _ _ => kk H1 locs1 h1 h2)
theorem kx_X0_heldByAll {Wd' : State → Heap → Prop} {v : Option Value} {mc ms : Nat} (hC : CallFix p m c cc nL s args wsL_law RX0) (hM : Wr l yX0_heldByAll cX0_heldByAll 4 (some .int) rm (BW D cI cQ a S) Wd' (inB a) (.ref (a 13) :: As) v mc ms) (hm : Mov Wd') (hB : BW D cI cQ a S s H) (hn : As.length = 1) (hrm : rm.cells = mc ∧ rm.slots = ms) (hR : rm.frames + 1 ≤ R.frames ∧ 8 + (4 + 11) + rm.locals ≤ R.locals) (hf : cells + mc ≤ R.cells ∧ slots + ms ≤ R.slots) (hS : va_S A0 H0 H locs) (hA : ∀ q, inB a q → A0 q) (hls : ls.size = nL) (hst : st0 = As.reverse ++ .ref (a 13) :: rest) (hr8 : (rest.map fun v => v.category).sum ≤ 8) (hdg : decode cc pc = .ok (.invokevirtual 97, 3)) (kk : ∀ (H1 : Heap) (locs1 : List Loc), Wd' s H1 → va_S A0 H0 H1 locs1 → H.size ≤ H1.size → (∀ q : Nat, q < H.size → ¬ inB a q → H1[q]? = H[q]?) → W p l e R s m args below meth c H1 locs1 (cells + mc) (slots + ms) Q (F0 m (pc + 3) ls (v.toList ++ rest))) : W p l e R s m args below meth c H locs cells slots Q (F0 m pc ls st0) :=
  kVw hC hM mov_B hm hB (rec_B hB) (good_V mw_182 mw_183 mw_184 mw_2 mw_185) hrm.1 hrm.2 ⟨rfl, by decide +kernel, by decide +kernel, by rw [hn]; decide +kernel⟩ hR hf hS hA hls hst hr8 hdg kk
theorem kL_X0_holds {v : Value} (hC : CallFix p m c cc nL s args wsL_law RL) (hM : Rd l yX0_holds cX0_holds 3 (some .int) rm (BW D cI cQ a S) (.ref (a 13) :: As) v) (hB : BW D cI cQ a S s H) (hn : As.length = 2) (hrm : rm.cells = 0 ∧ rm.slots = 0) (hR : rm.frames + 1 ≤ R.frames ∧ 8 + (3 + 11) + rm.locals ≤ R.locals) (hf : cells ≤ R.cells ∧ slots ≤ R.slots) (hls : ls.size = nL) (hst : st0 = As.reverse ++ .ref (a 13) :: rest) (hr8 : (rest.map fun v => v.category).sum ≤ 8) (hdg : decode cc pc = .ok (.invokevirtual 98, 3)) (kk : W p l e R s m args below meth c H locs cells slots Q (F0 m (pc + 3) ls (v :: rest))) : W p l e R s m args below meth c H locs cells slots Q (F0 m pc ls st0) :=
  kV hC hM mov_B hB (rec_B hB) (good_V mw_186 mw_187 mw_188 mw_2 mw_189) hrm.1 hrm.2 ⟨rfl, by decide +kernel, by decide +kernel, by rw [hn]; decide +kernel⟩ hR hf hls hst hr8 hdg kk
theorem kxL_X0_holds {Wd' : State → Heap → Prop} {v : Option Value} {mc ms : Nat} (hC : CallFix p m c cc nL s args wsL_law RL) (hM : Wr l yX0_holds cX0_holds 3 (some .int) rm (BW D cI cQ a S) Wd' (inB a) (.ref (a 13) :: As) v mc ms) (hm : Mov Wd') (hB : BW D cI cQ a S s H) (hn : As.length = 2) (hrm : rm.cells = mc ∧ rm.slots = ms) (hR : rm.frames + 1 ≤ R.frames ∧ 8 + (3 + 11) + rm.locals ≤ R.locals) (hf : cells + mc ≤ R.cells ∧ slots + ms ≤ R.slots) (hS : va_S A0 H0 H locs) (hA : ∀ q, inB a q → A0 q) (hls : ls.size = nL) (hst : st0 = As.reverse ++ .ref (a 13) :: rest) (hr8 : (rest.map fun v => v.category).sum ≤ 8) (hdg : decode cc pc = .ok (.invokevirtual 98, 3)) (kk : ∀ (H1 : Heap) (locs1 : List Loc), Wd' s H1 → va_S A0 H0 H1 locs1 → H.size ≤ H1.size → (∀ q : Nat, q < H.size → ¬ inB a q → H1[q]? = H[q]?) → W p l e R s m args below meth c H1 locs1 (cells + mc) (slots + ms) Q (F0 m (pc + 3) ls (v.toList ++ rest))) : W p l e R s m args below meth c H locs cells slots Q (F0 m pc ls st0) :=
  kVw hC hM mov_B hm hB (rec_B hB) (good_V mw_186 mw_187 mw_188 mw_2 mw_189) hrm.1 hrm.2 ⟨rfl, by decide +kernel, by decide +kernel, by rw [hn]; decide +kernel⟩ hR hf hS hA hls hst hr8 hdg kk
theorem kL_X0_dovesOn {v : Value} (hC : CallFix p m c cc nL s args wsL_law RL) (hM : Rd l yX0_dovesOn cX0_dovesOn 2 (some .int) rm (BW D cI cQ a S) (.ref (a 13) :: As) v) (hB : BW D cI cQ a S s H) (hn : As.length = 1) (hrm : rm.cells = 0 ∧ rm.slots = 0) (hR : rm.frames + 1 ≤ R.frames ∧ 8 + (2 + 11) + rm.locals ≤ R.locals) (hf : cells ≤ R.cells ∧ slots ≤ R.slots) (hls : ls.size = nL) (hst : st0 = As.reverse ++ .ref (a 13) :: rest) (hr8 : (rest.map fun v => v.category).sum ≤ 8) (hdg : decode cc pc = .ok (.invokevirtual 101, 3)) (kk : W p l e R s m args below meth c H locs cells slots Q (F0 m (pc + 3) ls (v :: rest))) : W p l e R s m args below meth c H locs cells slots Q (F0 m pc ls st0) :=
  kV hC hM mov_B hB (rec_B hB) (good_V mw_190 mw_191 mw_192 mw_2 mw_193) hrm.1 hrm.2 ⟨rfl, by decide +kernel, by decide +kernel, by rw [hn]; decide +kernel⟩ hR hf hls hst hr8 hdg kk
theorem kxL_X0_dovesOn {Wd' : State → Heap → Prop} {v : Option Value} {mc ms : Nat} (hC : CallFix p m c cc nL s args wsL_law RL) (hM : Wr l yX0_dovesOn cX0_dovesOn 2 (some .int) rm (BW D cI cQ a S) Wd' (inB a) (.ref (a 13) :: As) v mc ms) (hm : Mov Wd') (hB : BW D cI cQ a S s H) (hn : As.length = 1) (hrm : rm.cells = mc ∧ rm.slots = ms) (hR : rm.frames + 1 ≤ R.frames ∧ 8 + (2 + 11) + rm.locals ≤ R.locals) (hf : cells + mc ≤ R.cells ∧ slots + ms ≤ R.slots) (hS : va_S A0 H0 H locs) (hA : ∀ q, inB a q → A0 q) (hls : ls.size = nL) (hst : st0 = As.reverse ++ .ref (a 13) :: rest) (hr8 : (rest.map fun v => v.category).sum ≤ 8) (hdg : decode cc pc = .ok (.invokevirtual 101, 3)) (kk : ∀ (H1 : Heap) (locs1 : List Loc), Wd' s H1 → va_S A0 H0 H1 locs1 → H.size ≤ H1.size → (∀ q : Nat, q < H.size → ¬ inB a q → H1[q]? = H[q]?) → W p l e R s m args below meth c H1 locs1 (cells + mc) (slots + ms) Q (F0 m (pc + 3) ls (v.toList ++ rest))) : W p l e R s m args below meth c H locs cells slots Q (F0 m pc ls st0) :=
  kVw hC hM mov_B hm hB (rec_B hB) (good_V mw_190 mw_191 mw_192 mw_2 mw_193) hrm.1 hrm.2 ⟨rfl, by decide +kernel, by decide +kernel, by rw [hn]; decide +kernel⟩ hR hf hS hA hls hst hr8 hdg kk
theorem kL_X0_closingPrice {v : Value} (hC : CallFix p m c cc nL s args wsL_law RL) (hM : Rd l yX0_closingPrice cX0_closingPrice 2 (some .int) rm (BW D cI cQ a S) (.ref (a 13) :: As) v) (hB : BW D cI cQ a S s H) (hn : As.length = 1) (hrm : rm.cells = 0 ∧ rm.slots = 0) (hR : rm.frames + 1 ≤ R.frames ∧ 8 + (2 + 11) + rm.locals ≤ R.locals) (hf : cells ≤ R.cells ∧ slots ≤ R.slots) (hls : ls.size = nL) (hst : st0 = As.reverse ++ .ref (a 13) :: rest) (hr8 : (rest.map fun v => v.category).sum ≤ 8) (hdg : decode cc pc = .ok (.invokevirtual 109, 3)) (kk : W p l e R s m args below meth c H locs cells slots Q (F0 m (pc + 3) ls (v :: rest))) : W p l e R s m args below meth c H locs cells slots Q (F0 m pc ls st0) :=
  kV hC hM mov_B hB (rec_B hB) (good_V mw_194 mw_195 mw_196 mw_2 mw_197) hrm.1 hrm.2 ⟨rfl, by decide +kernel, by decide +kernel, by rw [hn]; decide +kernel⟩ hR hf hls hst hr8 hdg kk
theorem kxL_X0_closingPrice {Wd' : State → Heap → Prop} {v : Option Value} {mc ms : Nat} (hC : CallFix p m c cc nL s args wsL_law RL) (hM : Wr l yX0_closingPrice cX0_closingPrice 2 (some .int) rm (BW D cI cQ a S) Wd' (inB a) (.ref (a 13) :: As) v mc ms) (hm : Mov Wd') (hB : BW D cI cQ a S s H) (hn : As.length = 1) (hrm : rm.cells = mc ∧ rm.slots = ms) (hR : rm.frames + 1 ≤ R.frames ∧ 8 + (2 + 11) + rm.locals ≤ R.locals) (hf : cells + mc ≤ R.cells ∧ slots + ms ≤ R.slots) (hS : va_S A0 H0 H locs) (hA : ∀ q, inB a q → A0 q) (hls : ls.size = nL) (hst : st0 = As.reverse ++ .ref (a 13) :: rest) (hr8 : (rest.map fun v => v.category).sum ≤ 8) (hdg : decode cc pc = .ok (.invokevirtual 109, 3)) (kk : ∀ (H1 : Heap) (locs1 : List Loc), Wd' s H1 → va_S A0 H0 H1 locs1 → H.size ≤ H1.size → (∀ q : Nat, q < H.size → ¬ inB a q → H1[q]? = H[q]?) → W p l e R s m args below meth c H1 locs1 (cells + mc) (slots + ms) Q (F0 m (pc + 3) ls (v.toList ++ rest))) : W p l e R s m args below meth c H locs cells slots Q (F0 m pc ls st0) :=
  kVw hC hM mov_B hm hB (rec_B hB) (good_V mw_194 mw_195 mw_196 mw_2 mw_197) hrm.1 hrm.2 ⟨rfl, by decide +kernel, by decide +kernel, by rw [hn]; decide +kernel⟩ hR hf hS hA hls hst hr8 hdg kk
theorem k_X0_closing {v : Value} (hC : CallFix p m c cc nL s args wsL_law RX0) (hM : Rd l yX0_closing cX0_closing 2 (some .int) rm (BW D cI cQ a S) (.ref (a 13) :: As) v) (hB : BW D cI cQ a S s H) (hn : As.length = 1) (hrm : rm.cells = 0 ∧ rm.slots = 0) (hR : rm.frames + 1 ≤ R.frames ∧ 8 + (2 + 11) + rm.locals ≤ R.locals) (hf : cells ≤ R.cells ∧ slots ≤ R.slots) (hls : ls.size = nL) (hst : st0 = As.reverse ++ .ref (a 13) :: rest) (hr8 : (rest.map fun v => v.category).sum ≤ 8) (hdg : decode cc pc = .ok (.invokevirtual 106, 3)) (kk : W p l e R s m args below meth c H locs cells slots Q (F0 m (pc + 3) ls (v :: rest))) : W p l e R s m args below meth c H locs cells slots Q (F0 m pc ls st0) :=
  kV hC hM mov_B hB (rec_B hB) (good_V mw_198 mw_199 mw_200 mw_2 mw_201) hrm.1 hrm.2 ⟨rfl, by decide +kernel, by decide +kernel, by rw [hn]; decide +kernel⟩ hR hf hls hst hr8 hdg kk
theorem kw_X0_closing {X' : bS} {mc ms : Nat} {v : Value} (hC : CallFix p m c cc nL s args wsL_law RX0) (hM : Wr l yX0_closing cX0_closing 2 (some .int) rm (BW D cI cQ a S) (BW D cI cQ a X') (inB a) (.ref (a 13) :: As) (some v) mc ms) (hB : BW D cI cQ a S s H) (hn : As.length = 1) (hrm : rm.cells = mc ∧ rm.slots = ms) (hR : rm.frames + 1 ≤ R.frames ∧ 8 + (2 + 11) + rm.locals ≤ R.locals) (hf : cells + mc ≤ R.cells ∧ slots + ms ≤ R.slots) (hS : va_S A0 H0 H locs) (hA : ∀ q, inB a q → A0 q) (hls : ls.size = nL) (hst : st0 = As.reverse ++ .ref (a 13) :: rest) (hr8 : (rest.map fun v => v.category).sum ≤ 8) (hdg : decode cc pc = .ok (.invokevirtual 106, 3)) (kk : ∀ (H1 : Heap) (locs1 : List Loc), BW D cI cQ a X' s H1 → va_S A0 H0 H1 locs1 → W p l e R s m args below meth c H1 locs1 (cells + mc) (slots + ms) Q (F0 m (pc + 3) ls (v :: rest))) : W p l e R s m args below meth c H locs cells slots Q (F0 m pc ls st0) :=
  kVw hC hM mov_B mov_B hB (rec_B hB) (good_V mw_198 mw_199 mw_200 mw_2 mw_201) hrm.1 hrm.2 ⟨rfl, by decide +kernel, by decide +kernel, by rw [hn]; decide +kernel⟩ hR hf hS hA hls hst hr8 hdg (fun H1 locs1 h1 h2 _ _ => kk H1 locs1 h1 h2)
theorem kx_X0_closing {Wd' : State → Heap → Prop} {v : Option Value} {mc ms : Nat} (hC : CallFix p m c cc nL s args wsL_law RX0) (hM : Wr l yX0_closing cX0_closing 2 (some .int) rm (BW D cI cQ a S) Wd' (inB a) (.ref (a 13) :: As) v mc ms) (hm : Mov Wd') (hB : BW D cI cQ a S s H) (hn : As.length = 1) (hrm : rm.cells = mc ∧ rm.slots = ms) (hR : rm.frames + 1 ≤ R.frames ∧ 8 + (2 + 11) + rm.locals ≤ R.locals) (hf : cells + mc ≤ R.cells ∧ slots + ms ≤ R.slots) (hS : va_S A0 H0 H locs) (hA : ∀ q, inB a q → A0 q) (hls : ls.size = nL) (hst : st0 = As.reverse ++ .ref (a 13) :: rest) (hr8 : (rest.map fun v => v.category).sum ≤ 8) (hdg : decode cc pc = .ok (.invokevirtual 106, 3)) (kk : ∀ (H1 : Heap) (locs1 : List Loc), Wd' s H1 → va_S A0 H0 H1 locs1 → H.size ≤ H1.size → (∀ q : Nat, q < H.size → ¬ inB a q → H1[q]? = H[q]?) → W p l e R s m args below meth c H1 locs1 (cells + mc) (slots + ms) Q (F0 m (pc + 3) ls (v.toList ++ rest))) : W p l e R s m args below meth c H locs cells slots Q (F0 m pc ls st0) :=
  kVw hC hM mov_B hm hB (rec_B hB) (good_V mw_198 mw_199 mw_200 mw_2 mw_201) hrm.1 hrm.2 ⟨rfl, by decide +kernel, by decide +kernel, by rw [hn]; decide +kernel⟩ hR hf hS hA hls hst hr8 hdg kk
theorem k_X0_closingWith {v : Value} (hC : CallFix p m c cc nL s args wsL_law RX0) (hM : Rd l yX0_closingWith cX0_closingWith 3 (some .int) rm (BW D cI cQ a S) (.ref (a 13) :: As) v) (hB : BW D cI cQ a S s H) (hn : As.length = 2) (hrm : rm.cells = 0 ∧ rm.slots = 0) (hR : rm.frames + 1 ≤ R.frames ∧ 8 + (3 + 11) + rm.locals ≤ R.locals) (hf : cells ≤ R.cells ∧ slots ≤ R.slots) (hls : ls.size = nL) (hst : st0 = As.reverse ++ .ref (a 13) :: rest) (hr8 : (rest.map fun v => v.category).sum ≤ 8) (hdg : decode cc pc = .ok (.invokevirtual 175, 3)) (kk : W p l e R s m args below meth c H locs cells slots Q (F0 m (pc + 3) ls (v :: rest))) : W p l e R s m args below meth c H locs cells slots Q (F0 m pc ls st0) :=
  kV hC hM mov_B hB (rec_B hB) (good_V mw_202 mw_203 mw_204 mw_2 mw_205) hrm.1 hrm.2 ⟨rfl, by decide +kernel, by decide +kernel, by rw [hn]; decide +kernel⟩ hR hf hls hst hr8 hdg kk
theorem kw_X0_closingWith {X' : bS} {mc ms : Nat} {v : Value} (hC : CallFix p m c cc nL s args wsL_law RX0) (hM : Wr l yX0_closingWith cX0_closingWith 3 (some .int) rm (BW D cI cQ a S) (BW D cI cQ a X') (inB a) (.ref (a 13) :: As) (some v) mc ms) (hB : BW D cI cQ a S s H) (hn : As.length = 2) (hrm : rm.cells = mc ∧ rm.slots = ms) (hR : rm.frames + 1 ≤ R.frames ∧ 8 + (3 + 11) + rm.locals ≤ R.locals) (hf : cells + mc ≤ R.cells ∧ slots + ms ≤ R.slots) (hS : va_S A0 H0 H locs) (hA : ∀ q, inB a q → A0 q) (hls : ls.size = nL) (hst : st0 = As.reverse ++ .ref (a 13) :: rest) (hr8 : (rest.map fun v => v.category).sum ≤ 8) (hdg : decode cc pc = .ok (.invokevirtual 175, 3)) (kk : ∀ (H1 : Heap) (locs1 : List Loc), BW D cI cQ a X' s H1 → va_S A0 H0 H1 locs1 → W p l e R s m args below meth c H1 locs1 (cells + mc) (slots + ms) Q (F0 m (pc + 3) ls (v :: rest))) : W p l e R s m args below meth c H locs cells slots Q (F0 m pc ls st0) :=
  kVw hC hM mov_B mov_B hB (rec_B hB) (good_V mw_202 mw_203 mw_204 mw_2 mw_205) hrm.1 hrm.2 ⟨rfl, by decide +kernel, by decide +kernel, by rw [hn]; decide +kernel⟩ hR hf hS hA hls hst hr8 hdg (fun H1 locs1 h1 h2 _ _ => kk H1 locs1 h1 h2)
theorem kx_X0_closingWith {Wd' : State → Heap → Prop} {v : Option Value} {mc ms : Nat} (hC : CallFix p m c cc nL s args wsL_law RX0) (hM : Wr l yX0_closingWith cX0_closingWith 3 (some .int) rm (BW D cI cQ a S) Wd' (inB a) (.ref (a 13) :: As) v mc ms) (hm : Mov Wd') (hB : BW D cI cQ a S s H) (hn : As.length = 2) (hrm : rm.cells = mc ∧ rm.slots = ms) (hR : rm.frames + 1 ≤ R.frames ∧ 8 + (3 + 11) + rm.locals ≤ R.locals) (hf : cells + mc ≤ R.cells ∧ slots + ms ≤ R.slots) (hS : va_S A0 H0 H locs) (hA : ∀ q, inB a q → A0 q) (hls : ls.size = nL) (hst : st0 = As.reverse ++ .ref (a 13) :: rest) (hr8 : (rest.map fun v => v.category).sum ≤ 8) (hdg : decode cc pc = .ok (.invokevirtual 175, 3)) (kk : ∀ (H1 : Heap) (locs1 : List Loc), Wd' s H1 → va_S A0 H0 H1 locs1 → H.size ≤ H1.size → (∀ q : Nat, q < H.size → ¬ inB a q → H1[q]? = H[q]?) → W p l e R s m args below meth c H1 locs1 (cells + mc) (slots + ms) Q (F0 m (pc + 3) ls (v.toList ++ rest))) : W p l e R s m args below meth c H locs cells slots Q (F0 m pc ls st0) :=
  kVw hC hM mov_B hm hB (rec_B hB) (good_V mw_202 mw_203 mw_204 mw_2 mw_205) hrm.1 hrm.2 ⟨rfl, by decide +kernel, by decide +kernel, by rw [hn]; decide +kernel⟩ hR hf hS hA hls hst hr8 hdg kk
theorem kL_X0_purseOf {v : Value} (hC : CallFix p m c cc nL s args wsL_law RL) (hM : Rd l yX0_purseOf cX0_purseOf 2 (some .int) rm (BW D cI cQ a S) (.ref (a 13) :: As) v) (hB : BW D cI cQ a S s H) (hn : As.length = 1) (hrm : rm.cells = 0 ∧ rm.slots = 0) (hR : rm.frames + 1 ≤ R.frames ∧ 8 + (2 + 11) + rm.locals ≤ R.locals) (hf : cells ≤ R.cells ∧ slots ≤ R.slots) (hls : ls.size = nL) (hst : st0 = As.reverse ++ .ref (a 13) :: rest) (hr8 : (rest.map fun v => v.category).sum ≤ 8) (hdg : decode cc pc = .ok (.invokevirtual 115, 3)) (kk : W p l e R s m args below meth c H locs cells slots Q (F0 m (pc + 3) ls (v :: rest))) : W p l e R s m args below meth c H locs cells slots Q (F0 m pc ls st0) :=
  kV hC hM mov_B hB (rec_B hB) (good_V mw_206 mw_207 mw_208 mw_2 mw_209) hrm.1 hrm.2 ⟨rfl, by decide +kernel, by decide +kernel, by rw [hn]; decide +kernel⟩ hR hf hls hst hr8 hdg kk
theorem kxL_X0_purseOf {Wd' : State → Heap → Prop} {v : Option Value} {mc ms : Nat} (hC : CallFix p m c cc nL s args wsL_law RL) (hM : Wr l yX0_purseOf cX0_purseOf 2 (some .int) rm (BW D cI cQ a S) Wd' (inB a) (.ref (a 13) :: As) v mc ms) (hm : Mov Wd') (hB : BW D cI cQ a S s H) (hn : As.length = 1) (hrm : rm.cells = mc ∧ rm.slots = ms) (hR : rm.frames + 1 ≤ R.frames ∧ 8 + (2 + 11) + rm.locals ≤ R.locals) (hf : cells + mc ≤ R.cells ∧ slots + ms ≤ R.slots) (hS : va_S A0 H0 H locs) (hA : ∀ q, inB a q → A0 q) (hls : ls.size = nL) (hst : st0 = As.reverse ++ .ref (a 13) :: rest) (hr8 : (rest.map fun v => v.category).sum ≤ 8) (hdg : decode cc pc = .ok (.invokevirtual 115, 3)) (kk : ∀ (H1 : Heap) (locs1 : List Loc), Wd' s H1 → va_S A0 H0 H1 locs1 → H.size ≤ H1.size → (∀ q : Nat, q < H.size → ¬ inB a q → H1[q]? = H[q]?) → W p l e R s m args below meth c H1 locs1 (cells + mc) (slots + ms) Q (F0 m (pc + 3) ls (v.toList ++ rest))) : W p l e R s m args below meth c H locs cells slots Q (F0 m pc ls st0) :=
  kVw hC hM mov_B hm hB (rec_B hB) (good_V mw_206 mw_207 mw_208 mw_2 mw_209) hrm.1 hrm.2 ⟨rfl, by decide +kernel, by decide +kernel, by rw [hn]; decide +kernel⟩ hR hf hS hA hls hst hr8 hdg kk
theorem kL_X0_worthOf {v : Value} (hC : CallFix p m c cc nL s args wsL_law RL) (hM : Rd l yX0_worthOf cX0_worthOf 2 (some .int) rm (BW D cI cQ a S) (.ref (a 13) :: As) v) (hB : BW D cI cQ a S s H) (hn : As.length = 1) (hrm : rm.cells = 0 ∧ rm.slots = 0) (hR : rm.frames + 1 ≤ R.frames ∧ 8 + (2 + 11) + rm.locals ≤ R.locals) (hf : cells ≤ R.cells ∧ slots ≤ R.slots) (hls : ls.size = nL) (hst : st0 = As.reverse ++ .ref (a 13) :: rest) (hr8 : (rest.map fun v => v.category).sum ≤ 8) (hdg : decode cc pc = .ok (.invokevirtual 118, 3)) (kk : W p l e R s m args below meth c H locs cells slots Q (F0 m (pc + 3) ls (v :: rest))) : W p l e R s m args below meth c H locs cells slots Q (F0 m pc ls st0) :=
  kV hC hM mov_B hB (rec_B hB) (good_V mw_210 mw_211 mw_212 mw_2 mw_213) hrm.1 hrm.2 ⟨rfl, by decide +kernel, by decide +kernel, by rw [hn]; decide +kernel⟩ hR hf hls hst hr8 hdg kk
theorem kxL_X0_worthOf {Wd' : State → Heap → Prop} {v : Option Value} {mc ms : Nat} (hC : CallFix p m c cc nL s args wsL_law RL) (hM : Wr l yX0_worthOf cX0_worthOf 2 (some .int) rm (BW D cI cQ a S) Wd' (inB a) (.ref (a 13) :: As) v mc ms) (hm : Mov Wd') (hB : BW D cI cQ a S s H) (hn : As.length = 1) (hrm : rm.cells = mc ∧ rm.slots = ms) (hR : rm.frames + 1 ≤ R.frames ∧ 8 + (2 + 11) + rm.locals ≤ R.locals) (hf : cells + mc ≤ R.cells ∧ slots + ms ≤ R.slots) (hS : va_S A0 H0 H locs) (hA : ∀ q, inB a q → A0 q) (hls : ls.size = nL) (hst : st0 = As.reverse ++ .ref (a 13) :: rest) (hr8 : (rest.map fun v => v.category).sum ≤ 8) (hdg : decode cc pc = .ok (.invokevirtual 118, 3)) (kk : ∀ (H1 : Heap) (locs1 : List Loc), Wd' s H1 → va_S A0 H0 H1 locs1 → H.size ≤ H1.size → (∀ q : Nat, q < H.size → ¬ inB a q → H1[q]? = H[q]?) → W p l e R s m args below meth c H1 locs1 (cells + mc) (slots + ms) Q (F0 m (pc + 3) ls (v.toList ++ rest))) : W p l e R s m args below meth c H locs cells slots Q (F0 m pc ls st0) :=
  kVw hC hM mov_B hm hB (rec_B hB) (good_V mw_210 mw_211 mw_212 mw_2 mw_213) hrm.1 hrm.2 ⟨rfl, by decide +kernel, by decide +kernel, by rw [hn]; decide +kernel⟩ hR hf hS hA hls hst hr8 hdg kk
theorem k_X0_worthBehind {v : Value} (hC : CallFix p m c cc nL s args wsL_law RX0) (hM : Rd l yX0_worthBehind cX0_worthBehind 7 (some .int) rm (BW D cI cQ a S) (.ref (a 13) :: As) v) (hB : BW D cI cQ a S s H) (hn : As.length = 2) (hrm : rm.cells = 0 ∧ rm.slots = 0) (hR : rm.frames + 1 ≤ R.frames ∧ 8 + (7 + 11) + rm.locals ≤ R.locals) (hf : cells ≤ R.cells ∧ slots ≤ R.slots) (hls : ls.size = nL) (hst : st0 = As.reverse ++ .ref (a 13) :: rest) (hr8 : (rest.map fun v => v.category).sum ≤ 8) (hdg : decode cc pc = .ok (.invokevirtual 100, 3)) (kk : W p l e R s m args below meth c H locs cells slots Q (F0 m (pc + 3) ls (v :: rest))) : W p l e R s m args below meth c H locs cells slots Q (F0 m pc ls st0) :=
  kV hC hM mov_B hB (rec_B hB) (good_V mw_214 mw_215 mw_216 mw_2 mw_217) hrm.1 hrm.2 ⟨rfl, by decide +kernel, by decide +kernel, by rw [hn]; decide +kernel⟩ hR hf hls hst hr8 hdg kk
theorem kw_X0_worthBehind {X' : bS} {mc ms : Nat} {v : Value} (hC : CallFix p m c cc nL s args wsL_law RX0) (hM : Wr l yX0_worthBehind cX0_worthBehind 7 (some .int) rm (BW D cI cQ a S) (BW D cI cQ a X') (inB a) (.ref (a 13) :: As) (some v) mc ms) (hB : BW D cI cQ a S s H) (hn : As.length = 2) (hrm : rm.cells = mc ∧ rm.slots = ms) (hR : rm.frames + 1 ≤ R.frames ∧ 8 + (7 + 11) + rm.locals ≤ R.locals) (hf : cells + mc ≤ R.cells ∧ slots + ms ≤ R.slots) (hS : va_S A0 H0 H locs) (hA : ∀ q, inB a q → A0 q) (hls : ls.size = nL) (hst : st0 = As.reverse ++ .ref (a 13) :: rest) (hr8 : (rest.map fun v => v.category).sum ≤ 8) (hdg : decode cc pc = .ok (.invokevirtual 100, 3)) (kk : ∀ (H1 : Heap) (locs1 : List Loc), BW D cI cQ a X' s H1 → va_S A0 H0 H1 locs1 → W p l e R s m args below meth c H1 locs1 (cells + mc) (slots + ms) Q (F0 m (pc + 3) ls (v :: rest))) : W p l e R s m args below meth c H locs cells slots Q (F0 m pc ls st0) :=
  kVw hC hM mov_B mov_B hB (rec_B hB) (good_V mw_214 mw_215 mw_216 mw_2 mw_217) hrm.1 hrm.2 ⟨rfl, by decide +kernel, by decide +kernel, by rw [hn]; decide +kernel⟩ hR hf hS hA hls hst hr8 hdg (fun H1 locs1 h1 h2 _ _ => kk H1 locs1 h1 h2)
theorem kx_X0_worthBehind {Wd' : State → Heap → Prop} {v : Option Value} {mc ms : Nat} (hC : CallFix p m c cc nL s args wsL_law RX0) (hM : Wr l yX0_worthBehind cX0_worthBehind 7 (some .int) rm (BW D cI cQ a S) Wd' (inB a) (.ref (a 13) :: As) v mc ms) (hm : Mov Wd') (hB : BW D cI cQ a S s H) (hn : As.length = 2) (hrm : rm.cells = mc ∧ rm.slots = ms) (hR : rm.frames + 1 ≤ R.frames ∧ 8 + (7 + 11) + rm.locals ≤ R.locals) (hf : cells + mc ≤ R.cells ∧ slots + ms ≤ R.slots) (hS : va_S A0 H0 H locs) (hA : ∀ q, inB a q → A0 q) (hls : ls.size = nL) (hst : st0 = As.reverse ++ .ref (a 13) :: rest) (hr8 : (rest.map fun v => v.category).sum ≤ 8) (hdg : decode cc pc = .ok (.invokevirtual 100, 3)) (kk : ∀ (H1 : Heap) (locs1 : List Loc), Wd' s H1 → va_S A0 H0 H1 locs1 → H.size ≤ H1.size → (∀ q : Nat, q < H.size → ¬ inB a q → H1[q]? = H[q]?) → W p l e R s m args below meth c H1 locs1 (cells + mc) (slots + ms) Q (F0 m (pc + 3) ls (v.toList ++ rest))) : W p l e R s m args below meth c H locs cells slots Q (F0 m pc ls st0) :=
  kVw hC hM mov_B hm hB (rec_B hB) (good_V mw_214 mw_215 mw_216 mw_2 mw_217) hrm.1 hrm.2 ⟨rfl, by decide +kernel, by decide +kernel, by rw [hn]; decide +kernel⟩ hR hf hS hA hls hst hr8 hdg kk
theorem k_X0_priceBehind {v : Value} (hC : CallFix p m c cc nL s args wsL_law RX0) (hM : Rd l yX0_priceBehind cX0_priceBehind 6 (some .int) rm (BW D cI cQ a S) (.ref (a 13) :: As) v) (hB : BW D cI cQ a S s H) (hn : As.length = 2) (hrm : rm.cells = 0 ∧ rm.slots = 0) (hR : rm.frames + 1 ≤ R.frames ∧ 8 + (6 + 11) + rm.locals ≤ R.locals) (hf : cells ≤ R.cells ∧ slots ≤ R.slots) (hls : ls.size = nL) (hst : st0 = As.reverse ++ .ref (a 13) :: rest) (hr8 : (rest.map fun v => v.category).sum ≤ 8) (hdg : decode cc pc = .ok (.invokevirtual 109, 3)) (kk : W p l e R s m args below meth c H locs cells slots Q (F0 m (pc + 3) ls (v :: rest))) : W p l e R s m args below meth c H locs cells slots Q (F0 m pc ls st0) :=
  kV hC hM mov_B hB (rec_B hB) (good_V mw_218 mw_219 mw_220 mw_2 mw_221) hrm.1 hrm.2 ⟨rfl, by decide +kernel, by decide +kernel, by rw [hn]; decide +kernel⟩ hR hf hls hst hr8 hdg kk
theorem kw_X0_priceBehind {X' : bS} {mc ms : Nat} {v : Value} (hC : CallFix p m c cc nL s args wsL_law RX0) (hM : Wr l yX0_priceBehind cX0_priceBehind 6 (some .int) rm (BW D cI cQ a S) (BW D cI cQ a X') (inB a) (.ref (a 13) :: As) (some v) mc ms) (hB : BW D cI cQ a S s H) (hn : As.length = 2) (hrm : rm.cells = mc ∧ rm.slots = ms) (hR : rm.frames + 1 ≤ R.frames ∧ 8 + (6 + 11) + rm.locals ≤ R.locals) (hf : cells + mc ≤ R.cells ∧ slots + ms ≤ R.slots) (hS : va_S A0 H0 H locs) (hA : ∀ q, inB a q → A0 q) (hls : ls.size = nL) (hst : st0 = As.reverse ++ .ref (a 13) :: rest) (hr8 : (rest.map fun v => v.category).sum ≤ 8) (hdg : decode cc pc = .ok (.invokevirtual 109, 3)) (kk : ∀ (H1 : Heap) (locs1 : List Loc), BW D cI cQ a X' s H1 → va_S A0 H0 H1 locs1 → W p l e R s m args below meth c H1 locs1 (cells + mc) (slots + ms) Q (F0 m (pc + 3) ls (v :: rest))) : W p l e R s m args below meth c H locs cells slots Q (F0 m pc ls st0) :=
  kVw hC hM mov_B mov_B hB (rec_B hB) (good_V mw_218 mw_219 mw_220 mw_2 mw_221) hrm.1 hrm.2 ⟨rfl, by decide +kernel, by decide +kernel, by rw [hn]; decide +kernel⟩ hR hf hS hA hls hst hr8 hdg (fun H1 locs1 h1 h2 _ _ => kk H1 locs1 h1 h2)
theorem kx_X0_priceBehind {Wd' : State → Heap → Prop} {v : Option Value} {mc ms : Nat} (hC : CallFix p m c cc nL s args wsL_law RX0) (hM : Wr l yX0_priceBehind cX0_priceBehind 6 (some .int) rm (BW D cI cQ a S) Wd' (inB a) (.ref (a 13) :: As) v mc ms) (hm : Mov Wd') (hB : BW D cI cQ a S s H) (hn : As.length = 2) (hrm : rm.cells = mc ∧ rm.slots = ms) (hR : rm.frames + 1 ≤ R.frames ∧ 8 + (6 + 11) + rm.locals ≤ R.locals) (hf : cells + mc ≤ R.cells ∧ slots + ms ≤ R.slots) (hS : va_S A0 H0 H locs) (hA : ∀ q, inB a q → A0 q) (hls : ls.size = nL) (hst : st0 = As.reverse ++ .ref (a 13) :: rest) (hr8 : (rest.map fun v => v.category).sum ≤ 8) (hdg : decode cc pc = .ok (.invokevirtual 109, 3)) (kk : ∀ (H1 : Heap) (locs1 : List Loc), Wd' s H1 → va_S A0 H0 H1 locs1 → H.size ≤ H1.size → (∀ q : Nat, q < H.size → ¬ inB a q → H1[q]? = H[q]?) → W p l e R s m args below meth c H1 locs1 (cells + mc) (slots + ms) Q (F0 m (pc + 3) ls (v.toList ++ rest))) : W p l e R s m args below meth c H locs cells slots Q (F0 m pc ls st0) :=
  kVw hC hM mov_B hm hB (rec_B hB) (good_V mw_218 mw_219 mw_220 mw_2 mw_221) hrm.1 hrm.2 ⟨rfl, by decide +kernel, by decide +kernel, by rw [hn]; decide +kernel⟩ hR hf hS hA hls hst hr8 hdg kk
theorem kL_X0_shortsOf {v : Value} (hC : CallFix p m c cc nL s args wsL_law RL) (hM : Rd l yX0_shortsOf cX0_shortsOf 2 (some .int) rm (BW D cI cQ a S) (.ref (a 13) :: As) v) (hB : BW D cI cQ a S s H) (hn : As.length = 1) (hrm : rm.cells = 0 ∧ rm.slots = 0) (hR : rm.frames + 1 ≤ R.frames ∧ 8 + (2 + 11) + rm.locals ≤ R.locals) (hf : cells ≤ R.cells ∧ slots ≤ R.slots) (hls : ls.size = nL) (hst : st0 = As.reverse ++ .ref (a 13) :: rest) (hr8 : (rest.map fun v => v.category).sum ≤ 8) (hdg : decode cc pc = .ok (.invokevirtual 121, 3)) (kk : W p l e R s m args below meth c H locs cells slots Q (F0 m (pc + 3) ls (v :: rest))) : W p l e R s m args below meth c H locs cells slots Q (F0 m pc ls st0) :=
  kV hC hM mov_B hB (rec_B hB) (good_V mw_222 mw_223 mw_224 mw_2 mw_225) hrm.1 hrm.2 ⟨rfl, by decide +kernel, by decide +kernel, by rw [hn]; decide +kernel⟩ hR hf hls hst hr8 hdg kk
theorem kxL_X0_shortsOf {Wd' : State → Heap → Prop} {v : Option Value} {mc ms : Nat} (hC : CallFix p m c cc nL s args wsL_law RL) (hM : Wr l yX0_shortsOf cX0_shortsOf 2 (some .int) rm (BW D cI cQ a S) Wd' (inB a) (.ref (a 13) :: As) v mc ms) (hm : Mov Wd') (hB : BW D cI cQ a S s H) (hn : As.length = 1) (hrm : rm.cells = mc ∧ rm.slots = ms) (hR : rm.frames + 1 ≤ R.frames ∧ 8 + (2 + 11) + rm.locals ≤ R.locals) (hf : cells + mc ≤ R.cells ∧ slots + ms ≤ R.slots) (hS : va_S A0 H0 H locs) (hA : ∀ q, inB a q → A0 q) (hls : ls.size = nL) (hst : st0 = As.reverse ++ .ref (a 13) :: rest) (hr8 : (rest.map fun v => v.category).sum ≤ 8) (hdg : decode cc pc = .ok (.invokevirtual 121, 3)) (kk : ∀ (H1 : Heap) (locs1 : List Loc), Wd' s H1 → va_S A0 H0 H1 locs1 → H.size ≤ H1.size → (∀ q : Nat, q < H.size → ¬ inB a q → H1[q]? = H[q]?) → W p l e R s m args below meth c H1 locs1 (cells + mc) (slots + ms) Q (F0 m (pc + 3) ls (v.toList ++ rest))) : W p l e R s m args below meth c H locs cells slots Q (F0 m pc ls st0) :=
  kVw hC hM mov_B hm hB (rec_B hB) (good_V mw_222 mw_223 mw_224 mw_2 mw_225) hrm.1 hrm.2 ⟨rfl, by decide +kernel, by decide +kernel, by rw [hn]; decide +kernel⟩ hR hf hS hA hls hst hr8 hdg kk
theorem k_X0_shortTowers {v : Value} (hC : CallFix p m c cc nL s args wsL_law RX0) (hM : Rd l yX0_shortTowers cX0_shortTowers 4 (some .int) rm (BW D cI cQ a S) (.ref (a 13) :: As) v) (hB : BW D cI cQ a S s H) (hn : As.length = 1) (hrm : rm.cells = 0 ∧ rm.slots = 0) (hR : rm.frames + 1 ≤ R.frames ∧ 8 + (4 + 11) + rm.locals ≤ R.locals) (hf : cells ≤ R.cells ∧ slots ≤ R.slots) (hls : ls.size = nL) (hst : st0 = As.reverse ++ .ref (a 13) :: rest) (hr8 : (rest.map fun v => v.category).sum ≤ 8) (hdg : decode cc pc = .ok (.invokevirtual 103, 3)) (kk : W p l e R s m args below meth c H locs cells slots Q (F0 m (pc + 3) ls (v :: rest))) : W p l e R s m args below meth c H locs cells slots Q (F0 m pc ls st0) :=
  kV hC hM mov_B hB (rec_B hB) (good_V mw_226 mw_227 mw_228 mw_2 mw_229) hrm.1 hrm.2 ⟨rfl, by decide +kernel, by decide +kernel, by rw [hn]; decide +kernel⟩ hR hf hls hst hr8 hdg kk
theorem kw_X0_shortTowers {X' : bS} {mc ms : Nat} {v : Value} (hC : CallFix p m c cc nL s args wsL_law RX0) (hM : Wr l yX0_shortTowers cX0_shortTowers 4 (some .int) rm (BW D cI cQ a S) (BW D cI cQ a X') (inB a) (.ref (a 13) :: As) (some v) mc ms) (hB : BW D cI cQ a S s H) (hn : As.length = 1) (hrm : rm.cells = mc ∧ rm.slots = ms) (hR : rm.frames + 1 ≤ R.frames ∧ 8 + (4 + 11) + rm.locals ≤ R.locals) (hf : cells + mc ≤ R.cells ∧ slots + ms ≤ R.slots) (hS : va_S A0 H0 H locs) (hA : ∀ q, inB a q → A0 q) (hls : ls.size = nL) (hst : st0 = As.reverse ++ .ref (a 13) :: rest) (hr8 : (rest.map fun v => v.category).sum ≤ 8) (hdg : decode cc pc = .ok (.invokevirtual 103, 3)) (kk : ∀ (H1 : Heap) (locs1 : List Loc), BW D cI cQ a X' s H1 → va_S A0 H0 H1 locs1 → W p l e R s m args below meth c H1 locs1 (cells + mc) (slots + ms) Q (F0 m (pc + 3) ls (v :: rest))) : W p l e R s m args below meth c H locs cells slots Q (F0 m pc ls st0) :=
  kVw hC hM mov_B mov_B hB (rec_B hB) (good_V mw_226 mw_227 mw_228 mw_2 mw_229) hrm.1 hrm.2 ⟨rfl, by decide +kernel, by decide +kernel, by rw [hn]; decide +kernel⟩ hR hf hS hA hls hst hr8 hdg (fun H1 locs1 h1 h2 _ _ => kk H1 locs1 h1 h2)
theorem kx_X0_shortTowers {Wd' : State → Heap → Prop} {v : Option Value} {mc ms : Nat} (hC : CallFix p m c cc nL s args wsL_law RX0) (hM : Wr l yX0_shortTowers cX0_shortTowers 4 (some .int) rm (BW D cI cQ a S) Wd' (inB a) (.ref (a 13) :: As) v mc ms) (hm : Mov Wd') (hB : BW D cI cQ a S s H) (hn : As.length = 1) (hrm : rm.cells = mc ∧ rm.slots = ms) (hR : rm.frames + 1 ≤ R.frames ∧ 8 + (4 + 11) + rm.locals ≤ R.locals) (hf : cells + mc ≤ R.cells ∧ slots + ms ≤ R.slots) (hS : va_S A0 H0 H locs) (hA : ∀ q, inB a q → A0 q) (hls : ls.size = nL) (hst : st0 = As.reverse ++ .ref (a 13) :: rest) (hr8 : (rest.map fun v => v.category).sum ≤ 8) (hdg : decode cc pc = .ok (.invokevirtual 103, 3)) (kk : ∀ (H1 : Heap) (locs1 : List Loc), Wd' s H1 → va_S A0 H0 H1 locs1 → H.size ≤ H1.size → (∀ q : Nat, q < H.size → ¬ inB a q → H1[q]? = H[q]?) → W p l e R s m args below meth c H1 locs1 (cells + mc) (slots + ms) Q (F0 m (pc + 3) ls (v.toList ++ rest))) : W p l e R s m args below meth c H locs cells slots Q (F0 m pc ls st0) :=
  kVw hC hM mov_B hm hB (rec_B hB) (good_V mw_226 mw_227 mw_228 mw_2 mw_229) hrm.1 hrm.2 ⟨rfl, by decide +kernel, by decide +kernel, by rw [hn]; decide +kernel⟩ hR hf hS hA hls hst hr8 hdg kk
theorem kL_X0_richest {v : Value} (hC : CallFix p m c cc nL s args wsL_law RL) (hM : Rd l yX0_richest cX0_richest 3 (some .int) rm (BW D cI cQ a S) (.ref (a 13) :: As) v) (hB : BW D cI cQ a S s H) (hn : As.length = 0) (hrm : rm.cells = 0 ∧ rm.slots = 0) (hR : rm.frames + 1 ≤ R.frames ∧ 8 + (3 + 11) + rm.locals ≤ R.locals) (hf : cells ≤ R.cells ∧ slots ≤ R.slots) (hls : ls.size = nL) (hst : st0 = As.reverse ++ .ref (a 13) :: rest) (hr8 : (rest.map fun v => v.category).sum ≤ 8) (hdg : decode cc pc = .ok (.invokevirtual 124, 3)) (kk : W p l e R s m args below meth c H locs cells slots Q (F0 m (pc + 3) ls (v :: rest))) : W p l e R s m args below meth c H locs cells slots Q (F0 m pc ls st0) :=
  kV hC hM mov_B hB (rec_B hB) (good_V mw_230 mw_231 mw_232 mw_2 mw_233) hrm.1 hrm.2 ⟨rfl, by decide +kernel, by decide +kernel, by rw [hn]; decide +kernel⟩ hR hf hls hst hr8 hdg kk
theorem kxL_X0_richest {Wd' : State → Heap → Prop} {v : Option Value} {mc ms : Nat} (hC : CallFix p m c cc nL s args wsL_law RL) (hM : Wr l yX0_richest cX0_richest 3 (some .int) rm (BW D cI cQ a S) Wd' (inB a) (.ref (a 13) :: As) v mc ms) (hm : Mov Wd') (hB : BW D cI cQ a S s H) (hn : As.length = 0) (hrm : rm.cells = mc ∧ rm.slots = ms) (hR : rm.frames + 1 ≤ R.frames ∧ 8 + (3 + 11) + rm.locals ≤ R.locals) (hf : cells + mc ≤ R.cells ∧ slots + ms ≤ R.slots) (hS : va_S A0 H0 H locs) (hA : ∀ q, inB a q → A0 q) (hls : ls.size = nL) (hst : st0 = As.reverse ++ .ref (a 13) :: rest) (hr8 : (rest.map fun v => v.category).sum ≤ 8) (hdg : decode cc pc = .ok (.invokevirtual 124, 3)) (kk : ∀ (H1 : Heap) (locs1 : List Loc), Wd' s H1 → va_S A0 H0 H1 locs1 → H.size ≤ H1.size → (∀ q : Nat, q < H.size → ¬ inB a q → H1[q]? = H[q]?) → W p l e R s m args below meth c H1 locs1 (cells + mc) (slots + ms) Q (F0 m (pc + 3) ls (v.toList ++ rest))) : W p l e R s m args below meth c H locs cells slots Q (F0 m pc ls st0) :=
  kVw hC hM mov_B hm hB (rec_B hB) (good_V mw_230 mw_231 mw_232 mw_2 mw_233) hrm.1 hrm.2 ⟨rfl, by decide +kernel, by decide +kernel, by rw [hn]; decide +kernel⟩ hR hf hS hA hls hst hr8 hdg kk
theorem kL_X0_dearest {v : Value} (hC : CallFix p m c cc nL s args wsL_law RL) (hM : Rd l yX0_dearest cX0_dearest 3 (some .int) rm (BW D cI cQ a S) (.ref (a 13) :: As) v) (hB : BW D cI cQ a S s H) (hn : As.length = 0) (hrm : rm.cells = 0 ∧ rm.slots = 0) (hR : rm.frames + 1 ≤ R.frames ∧ 8 + (3 + 11) + rm.locals ≤ R.locals) (hf : cells ≤ R.cells ∧ slots ≤ R.slots) (hls : ls.size = nL) (hst : st0 = As.reverse ++ .ref (a 13) :: rest) (hr8 : (rest.map fun v => v.category).sum ≤ 8) (hdg : decode cc pc = .ok (.invokevirtual 127, 3)) (kk : W p l e R s m args below meth c H locs cells slots Q (F0 m (pc + 3) ls (v :: rest))) : W p l e R s m args below meth c H locs cells slots Q (F0 m pc ls st0) :=
  kV hC hM mov_B hB (rec_B hB) (good_V mw_234 mw_235 mw_236 mw_2 mw_237) hrm.1 hrm.2 ⟨rfl, by decide +kernel, by decide +kernel, by rw [hn]; decide +kernel⟩ hR hf hls hst hr8 hdg kk
theorem kxL_X0_dearest {Wd' : State → Heap → Prop} {v : Option Value} {mc ms : Nat} (hC : CallFix p m c cc nL s args wsL_law RL) (hM : Wr l yX0_dearest cX0_dearest 3 (some .int) rm (BW D cI cQ a S) Wd' (inB a) (.ref (a 13) :: As) v mc ms) (hm : Mov Wd') (hB : BW D cI cQ a S s H) (hn : As.length = 0) (hrm : rm.cells = mc ∧ rm.slots = ms) (hR : rm.frames + 1 ≤ R.frames ∧ 8 + (3 + 11) + rm.locals ≤ R.locals) (hf : cells + mc ≤ R.cells ∧ slots + ms ≤ R.slots) (hS : va_S A0 H0 H locs) (hA : ∀ q, inB a q → A0 q) (hls : ls.size = nL) (hst : st0 = As.reverse ++ .ref (a 13) :: rest) (hr8 : (rest.map fun v => v.category).sum ≤ 8) (hdg : decode cc pc = .ok (.invokevirtual 127, 3)) (kk : ∀ (H1 : Heap) (locs1 : List Loc), Wd' s H1 → va_S A0 H0 H1 locs1 → H.size ≤ H1.size → (∀ q : Nat, q < H.size → ¬ inB a q → H1[q]? = H[q]?) → W p l e R s m args below meth c H1 locs1 (cells + mc) (slots + ms) Q (F0 m (pc + 3) ls (v.toList ++ rest))) : W p l e R s m args below meth c H locs cells slots Q (F0 m pc ls st0) :=
  kVw hC hM mov_B hm hB (rec_B hB) (good_V mw_234 mw_235 mw_236 mw_2 mw_237) hrm.1 hrm.2 ⟨rfl, by decide +kernel, by decide +kernel, by rw [hn]; decide +kernel⟩ hR hf hS hA hls hst hr8 hdg kk
theorem kL_X0_nextToStrike {v : Value} (hC : CallFix p m c cc nL s args wsL_law RL) (hM : Rd l yX0_nextToStrike cX0_nextToStrike 3 (some .int) rm (BW D cI cQ a S) (.ref (a 13) :: As) v) (hB : BW D cI cQ a S s H) (hn : As.length = 0) (hrm : rm.cells = 0 ∧ rm.slots = 0) (hR : rm.frames + 1 ≤ R.frames ∧ 8 + (3 + 11) + rm.locals ≤ R.locals) (hf : cells ≤ R.cells ∧ slots ≤ R.slots) (hls : ls.size = nL) (hst : st0 = As.reverse ++ .ref (a 13) :: rest) (hr8 : (rest.map fun v => v.category).sum ≤ 8) (hdg : decode cc pc = .ok (.invokevirtual 130, 3)) (kk : W p l e R s m args below meth c H locs cells slots Q (F0 m (pc + 3) ls (v :: rest))) : W p l e R s m args below meth c H locs cells slots Q (F0 m pc ls st0) :=
  kV hC hM mov_B hB (rec_B hB) (good_V mw_238 mw_239 mw_240 mw_2 mw_241) hrm.1 hrm.2 ⟨rfl, by decide +kernel, by decide +kernel, by rw [hn]; decide +kernel⟩ hR hf hls hst hr8 hdg kk
theorem kxL_X0_nextToStrike {Wd' : State → Heap → Prop} {v : Option Value} {mc ms : Nat} (hC : CallFix p m c cc nL s args wsL_law RL) (hM : Wr l yX0_nextToStrike cX0_nextToStrike 3 (some .int) rm (BW D cI cQ a S) Wd' (inB a) (.ref (a 13) :: As) v mc ms) (hm : Mov Wd') (hB : BW D cI cQ a S s H) (hn : As.length = 0) (hrm : rm.cells = mc ∧ rm.slots = ms) (hR : rm.frames + 1 ≤ R.frames ∧ 8 + (3 + 11) + rm.locals ≤ R.locals) (hf : cells + mc ≤ R.cells ∧ slots + ms ≤ R.slots) (hS : va_S A0 H0 H locs) (hA : ∀ q, inB a q → A0 q) (hls : ls.size = nL) (hst : st0 = As.reverse ++ .ref (a 13) :: rest) (hr8 : (rest.map fun v => v.category).sum ≤ 8) (hdg : decode cc pc = .ok (.invokevirtual 130, 3)) (kk : ∀ (H1 : Heap) (locs1 : List Loc), Wd' s H1 → va_S A0 H0 H1 locs1 → H.size ≤ H1.size → (∀ q : Nat, q < H.size → ¬ inB a q → H1[q]? = H[q]?) → W p l e R s m args below meth c H1 locs1 (cells + mc) (slots + ms) Q (F0 m (pc + 3) ls (v.toList ++ rest))) : W p l e R s m args below meth c H locs cells slots Q (F0 m pc ls st0) :=
  kVw hC hM mov_B hm hB (rec_B hB) (good_V mw_238 mw_239 mw_240 mw_2 mw_241) hrm.1 hrm.2 ⟨rfl, by decide +kernel, by decide +kernel, by rw [hn]; decide +kernel⟩ hR hf hS hA hls hst hr8 hdg kk
theorem kL_X0_inDebt {v : Value} (hC : CallFix p m c cc nL s args wsL_law RL) (hM : Rd l yX0_inDebt cX0_inDebt 3 (some .int) rm (BW D cI cQ a S) (.ref (a 13) :: As) v) (hB : BW D cI cQ a S s H) (hn : As.length = 0) (hrm : rm.cells = 0 ∧ rm.slots = 0) (hR : rm.frames + 1 ≤ R.frames ∧ 8 + (3 + 11) + rm.locals ≤ R.locals) (hf : cells ≤ R.cells ∧ slots ≤ R.slots) (hls : ls.size = nL) (hst : st0 = As.reverse ++ .ref (a 13) :: rest) (hr8 : (rest.map fun v => v.category).sum ≤ 8) (hdg : decode cc pc = .ok (.invokevirtual 133, 3)) (kk : W p l e R s m args below meth c H locs cells slots Q (F0 m (pc + 3) ls (v :: rest))) : W p l e R s m args below meth c H locs cells slots Q (F0 m pc ls st0) :=
  kV hC hM mov_B hB (rec_B hB) (good_V mw_242 mw_243 mw_244 mw_2 mw_245) hrm.1 hrm.2 ⟨rfl, by decide +kernel, by decide +kernel, by rw [hn]; decide +kernel⟩ hR hf hls hst hr8 hdg kk
theorem kxL_X0_inDebt {Wd' : State → Heap → Prop} {v : Option Value} {mc ms : Nat} (hC : CallFix p m c cc nL s args wsL_law RL) (hM : Wr l yX0_inDebt cX0_inDebt 3 (some .int) rm (BW D cI cQ a S) Wd' (inB a) (.ref (a 13) :: As) v mc ms) (hm : Mov Wd') (hB : BW D cI cQ a S s H) (hn : As.length = 0) (hrm : rm.cells = mc ∧ rm.slots = ms) (hR : rm.frames + 1 ≤ R.frames ∧ 8 + (3 + 11) + rm.locals ≤ R.locals) (hf : cells + mc ≤ R.cells ∧ slots + ms ≤ R.slots) (hS : va_S A0 H0 H locs) (hA : ∀ q, inB a q → A0 q) (hls : ls.size = nL) (hst : st0 = As.reverse ++ .ref (a 13) :: rest) (hr8 : (rest.map fun v => v.category).sum ≤ 8) (hdg : decode cc pc = .ok (.invokevirtual 133, 3)) (kk : ∀ (H1 : Heap) (locs1 : List Loc), Wd' s H1 → va_S A0 H0 H1 locs1 → H.size ≤ H1.size → (∀ q : Nat, q < H.size → ¬ inB a q → H1[q]? = H[q]?) → W p l e R s m args below meth c H1 locs1 (cells + mc) (slots + ms) Q (F0 m (pc + 3) ls (v.toList ++ rest))) : W p l e R s m args below meth c H locs cells slots Q (F0 m pc ls st0) :=
  kVw hC hM mov_B hm hB (rec_B hB) (good_V mw_242 mw_243 mw_244 mw_2 mw_245) hrm.1 hrm.2 ⟨rfl, by decide +kernel, by decide +kernel, by rw [hn]; decide +kernel⟩ hR hf hS hA hls hst hr8 hdg kk
theorem kL_X0_bestToBuy {v : Value} (hC : CallFix p m c cc nL s args wsL_law RL) (hM : Rd l yX0_bestToBuy cX0_bestToBuy 4 (some .int) rm (BW D cI cQ a S) (.ref (a 13) :: As) v) (hB : BW D cI cQ a S s H) (hn : As.length = 0) (hrm : rm.cells = 0 ∧ rm.slots = 0) (hR : rm.frames + 1 ≤ R.frames ∧ 8 + (4 + 11) + rm.locals ≤ R.locals) (hf : cells ≤ R.cells ∧ slots ≤ R.slots) (hls : ls.size = nL) (hst : st0 = As.reverse ++ .ref (a 13) :: rest) (hr8 : (rest.map fun v => v.category).sum ≤ 8) (hdg : decode cc pc = .ok (.invokevirtual 136, 3)) (kk : W p l e R s m args below meth c H locs cells slots Q (F0 m (pc + 3) ls (v :: rest))) : W p l e R s m args below meth c H locs cells slots Q (F0 m pc ls st0) :=
  kV hC hM mov_B hB (rec_B hB) (good_V mw_246 mw_247 mw_248 mw_2 mw_249) hrm.1 hrm.2 ⟨rfl, by decide +kernel, by decide +kernel, by rw [hn]; decide +kernel⟩ hR hf hls hst hr8 hdg kk
theorem kxL_X0_bestToBuy {Wd' : State → Heap → Prop} {v : Option Value} {mc ms : Nat} (hC : CallFix p m c cc nL s args wsL_law RL) (hM : Wr l yX0_bestToBuy cX0_bestToBuy 4 (some .int) rm (BW D cI cQ a S) Wd' (inB a) (.ref (a 13) :: As) v mc ms) (hm : Mov Wd') (hB : BW D cI cQ a S s H) (hn : As.length = 0) (hrm : rm.cells = mc ∧ rm.slots = ms) (hR : rm.frames + 1 ≤ R.frames ∧ 8 + (4 + 11) + rm.locals ≤ R.locals) (hf : cells + mc ≤ R.cells ∧ slots + ms ≤ R.slots) (hS : va_S A0 H0 H locs) (hA : ∀ q, inB a q → A0 q) (hls : ls.size = nL) (hst : st0 = As.reverse ++ .ref (a 13) :: rest) (hr8 : (rest.map fun v => v.category).sum ≤ 8) (hdg : decode cc pc = .ok (.invokevirtual 136, 3)) (kk : ∀ (H1 : Heap) (locs1 : List Loc), Wd' s H1 → va_S A0 H0 H1 locs1 → H.size ≤ H1.size → (∀ q : Nat, q < H.size → ¬ inB a q → H1[q]? = H[q]?) → W p l e R s m args below meth c H1 locs1 (cells + mc) (slots + ms) Q (F0 m (pc + 3) ls (v.toList ++ rest))) : W p l e R s m args below meth c H locs cells slots Q (F0 m pc ls st0) :=
  kVw hC hM mov_B hm hB (rec_B hB) (good_V mw_246 mw_247 mw_248 mw_2 mw_249) hrm.1 hrm.2 ⟨rfl, by decide +kernel, by decide +kernel, by rw [hn]; decide +kernel⟩ hR hf hS hA hls hst hr8 hdg kk
theorem k_X0_riseUntilStroke {v : Value} (hC : CallFix p m c cc nL s args wsL_law RX0) (hM : Rd l yX0_riseUntilStroke cX0_riseUntilStroke 2 (some .int) rm (BW D cI cQ a S) (.ref (a 13) :: As) v) (hB : BW D cI cQ a S s H) (hn : As.length = 1) (hrm : rm.cells = 0 ∧ rm.slots = 0) (hR : rm.frames + 1 ≤ R.frames ∧ 8 + (2 + 11) + rm.locals ≤ R.locals) (hf : cells ≤ R.cells ∧ slots ≤ R.slots) (hls : ls.size = nL) (hst : st0 = As.reverse ++ .ref (a 13) :: rest) (hr8 : (rest.map fun v => v.category).sum ≤ 8) (hdg : decode cc pc = .ok (.invokevirtual 112, 3)) (kk : W p l e R s m args below meth c H locs cells slots Q (F0 m (pc + 3) ls (v :: rest))) : W p l e R s m args below meth c H locs cells slots Q (F0 m pc ls st0) :=
  kV hC hM mov_B hB (rec_B hB) (good_V mw_250 mw_251 mw_252 mw_2 mw_253) hrm.1 hrm.2 ⟨rfl, by decide +kernel, by decide +kernel, by rw [hn]; decide +kernel⟩ hR hf hls hst hr8 hdg kk
theorem kw_X0_riseUntilStroke {X' : bS} {mc ms : Nat} {v : Value} (hC : CallFix p m c cc nL s args wsL_law RX0) (hM : Wr l yX0_riseUntilStroke cX0_riseUntilStroke 2 (some .int) rm (BW D cI cQ a S) (BW D cI cQ a X') (inB a) (.ref (a 13) :: As) (some v) mc ms) (hB : BW D cI cQ a S s H) (hn : As.length = 1) (hrm : rm.cells = mc ∧ rm.slots = ms) (hR : rm.frames + 1 ≤ R.frames ∧ 8 + (2 + 11) + rm.locals ≤ R.locals) (hf : cells + mc ≤ R.cells ∧ slots + ms ≤ R.slots) (hS : va_S A0 H0 H locs) (hA : ∀ q, inB a q → A0 q) (hls : ls.size = nL) (hst : st0 = As.reverse ++ .ref (a 13) :: rest) (hr8 : (rest.map fun v => v.category).sum ≤ 8) (hdg : decode cc pc = .ok (.invokevirtual 112, 3)) (kk : ∀ (H1 : Heap) (locs1 : List Loc), BW D cI cQ a X' s H1 → va_S A0 H0 H1 locs1 → W p l e R s m args below meth c H1 locs1 (cells + mc) (slots + ms) Q (F0 m (pc + 3) ls (v :: rest))) : W p l e R s m args below meth c H locs cells slots Q (F0 m pc ls st0) :=
  kVw hC hM mov_B mov_B hB (rec_B hB) (good_V mw_250 mw_251 mw_252 mw_2 mw_253) hrm.1 hrm.2 ⟨rfl, by decide +kernel, by decide +kernel, by rw [hn]; decide +kernel⟩ hR hf hS hA hls hst hr8 hdg (fun H1 locs1 h1 h2 _ _ => kk H1 locs1 h1 h2)
theorem kx_X0_riseUntilStroke {Wd' : State → Heap → Prop} {v : Option Value} {mc ms : Nat} (hC : CallFix p m c cc nL s args wsL_law RX0) (hM : Wr l yX0_riseUntilStroke cX0_riseUntilStroke 2 (some .int) rm (BW D cI cQ a S) Wd' (inB a) (.ref (a 13) :: As) v mc ms) (hm : Mov Wd') (hB : BW D cI cQ a S s H) (hn : As.length = 1) (hrm : rm.cells = mc ∧ rm.slots = ms) (hR : rm.frames + 1 ≤ R.frames ∧ 8 + (2 + 11) + rm.locals ≤ R.locals) (hf : cells + mc ≤ R.cells ∧ slots + ms ≤ R.slots) (hS : va_S A0 H0 H locs) (hA : ∀ q, inB a q → A0 q) (hls : ls.size = nL) (hst : st0 = As.reverse ++ .ref (a 13) :: rest) (hr8 : (rest.map fun v => v.category).sum ≤ 8) (hdg : decode cc pc = .ok (.invokevirtual 112, 3)) (kk : ∀ (H1 : Heap) (locs1 : List Loc), Wd' s H1 → va_S A0 H0 H1 locs1 → H.size ≤ H1.size → (∀ q : Nat, q < H.size → ¬ inB a q → H1[q]? = H[q]?) → W p l e R s m args below meth c H1 locs1 (cells + mc) (slots + ms) Q (F0 m (pc + 3) ls (v.toList ++ rest))) : W p l e R s m args below meth c H locs cells slots Q (F0 m pc ls st0) :=
  kVw hC hM mov_B hm hB (rec_B hB) (good_V mw_250 mw_251 mw_252 mw_2 mw_253) hrm.1 hrm.2 ⟨rfl, by decide +kernel, by decide +kernel, by rw [hn]; decide +kernel⟩ hR hf hS hA hls hst hr8 hdg kk
theorem kL_X0_second {v : Value} (hC : CallFix p m c cc nL s args wsL_law RL) (hM : Rd l yX0_second cX0_second 1 (some .int) rm (BW D cI cQ a S) (.ref (a 13) :: As) v) (hB : BW D cI cQ a S s H) (hn : As.length = 0) (hrm : rm.cells = 0 ∧ rm.slots = 0) (hR : rm.frames + 1 ≤ R.frames ∧ 8 + (1 + 11) + rm.locals ≤ R.locals) (hf : cells ≤ R.cells ∧ slots ≤ R.slots) (hls : ls.size = nL) (hst : st0 = As.reverse ++ .ref (a 13) :: rest) (hr8 : (rest.map fun v => v.category).sum ≤ 8) (hdg : decode cc pc = .ok (.invokevirtual 139, 3)) (kk : W p l e R s m args below meth c H locs cells slots Q (F0 m (pc + 3) ls (v :: rest))) : W p l e R s m args below meth c H locs cells slots Q (F0 m pc ls st0) :=
  kV hC hM mov_B hB (rec_B hB) (good_V mw_254 mw_255 mw_256 mw_2 mw_257) hrm.1 hrm.2 ⟨rfl, by decide +kernel, by decide +kernel, by rw [hn]; decide +kernel⟩ hR hf hls hst hr8 hdg kk
theorem kxL_X0_second {Wd' : State → Heap → Prop} {v : Option Value} {mc ms : Nat} (hC : CallFix p m c cc nL s args wsL_law RL) (hM : Wr l yX0_second cX0_second 1 (some .int) rm (BW D cI cQ a S) Wd' (inB a) (.ref (a 13) :: As) v mc ms) (hm : Mov Wd') (hB : BW D cI cQ a S s H) (hn : As.length = 0) (hrm : rm.cells = mc ∧ rm.slots = ms) (hR : rm.frames + 1 ≤ R.frames ∧ 8 + (1 + 11) + rm.locals ≤ R.locals) (hf : cells + mc ≤ R.cells ∧ slots + ms ≤ R.slots) (hS : va_S A0 H0 H locs) (hA : ∀ q, inB a q → A0 q) (hls : ls.size = nL) (hst : st0 = As.reverse ++ .ref (a 13) :: rest) (hr8 : (rest.map fun v => v.category).sum ≤ 8) (hdg : decode cc pc = .ok (.invokevirtual 139, 3)) (kk : ∀ (H1 : Heap) (locs1 : List Loc), Wd' s H1 → va_S A0 H0 H1 locs1 → H.size ≤ H1.size → (∀ q : Nat, q < H.size → ¬ inB a q → H1[q]? = H[q]?) → W p l e R s m args below meth c H1 locs1 (cells + mc) (slots + ms) Q (F0 m (pc + 3) ls (v.toList ++ rest))) : W p l e R s m args below meth c H locs cells slots Q (F0 m pc ls st0) :=
  kVw hC hM mov_B hm hB (rec_B hB) (good_V mw_254 mw_255 mw_256 mw_2 mw_257) hrm.1 hrm.2 ⟨rfl, by decide +kernel, by decide +kernel, by rw [hn]; decide +kernel⟩ hR hf hS hA hls hst hr8 hdg kk
theorem kL_X1_pass {v : Value} (hC : CallFix p m c cc nL s args wsL_law RL) (hM : Rd l yX1_pass cX1_pass 6 (some .int) rm (SW D cI cQ b N T R9) (.ref (b 0) :: As) v) (hB : SW D cI cQ b N T R9 s H) (hn : As.length = 0) (hrm : rm.cells = 0 ∧ rm.slots = 0) (hR : rm.frames + 1 ≤ R.frames ∧ 8 + (6 + 11) + rm.locals ≤ R.locals) (hf : cells ≤ R.cells ∧ slots ≤ R.slots) (hls : ls.size = nL) (hst : st0 = As.reverse ++ .ref (b 0) :: rest) (hr8 : (rest.map fun v => v.category).sum ≤ 8) (hdg : decode cc pc = .ok (.invokevirtual 142, 3)) (kk : W p l e R s m args below meth c H locs cells slots Q (F0 m (pc + 3) ls (v :: rest))) : W p l e R s m args below meth c H locs cells slots Q (F0 m pc ls st0) :=
  kV hC hM mov_S hB (rec_S hB) (good_V mw_258 mw_150 mw_151 mw_33 mw_152) hrm.1 hrm.2 ⟨rfl, by decide +kernel, by decide +kernel, by rw [hn]; decide +kernel⟩ hR hf hls hst hr8 hdg kk
theorem kzL_X1_pass {Wd' : State → Heap → Prop} {v : Option Value} {mc ms : Nat} (hC : CallFix p m c cc nL s args wsL_law RL) (hM : Wr l yX1_pass cX1_pass 6 (some .int) rm (fun U Hx => Hx.size = H.size ∧ SW D cI cQ b N T R9 U Hx) Wd' (fun q => inG (10 + T) b q ∨ H.size ≤ q) (.ref (b 0) :: As) v mc ms) (hm : Mov Wd') (hB : SW D cI cQ b N T R9 s H) (hn : As.length = 0) (hrm : rm.cells = mc ∧ rm.slots = ms) (hR : rm.frames + 1 ≤ R.frames ∧ 8 + (6 + 11) + rm.locals ≤ R.locals) (hf : cells + mc ≤ R.cells ∧ slots + ms ≤ R.slots) (hS : va_S A0 H0 H locs) (hA : ∀ q, inG (10 + T) b q → A0 q) (hA1 : ∀ q, H0.size ≤ q → A0 q) (hls : ls.size = nL) (hst : st0 = As.reverse ++ .ref (b 0) :: rest) (hr8 : (rest.map fun v => v.category).sum ≤ 8) (hdg : decode cc pc = .ok (.invokevirtual 142, 3)) (kk : ∀ (H1 : Heap) (locs1 : List Loc), Wd' s H1 → va_S A0 H0 H1 locs1 → H.size ≤ H1.size → (∀ q : Nat, q < H.size → ¬ inG (10 + T) b q → H1[q]? = H[q]?) → W p l e R s m args below meth c H1 locs1 (cells + mc) (slots + ms) Q (F0 m (pc + 3) ls (v.toList ++ rest))) : W p l e R s m args below meth c H locs cells slots Q (F0 m pc ls st0) :=
  kVw hC hM (fun _ _ _ hvm h => ⟨h.1, h.2.moved hvm⟩) hm ⟨rfl, hB⟩ (rec_S hB) (good_V mw_258 mw_150 mw_151 mw_33 mw_152) hrm.1 hrm.2 ⟨rfl, by decide +kernel, by decide +kernel, by rw [hn]; decide +kernel⟩ hR hf hS (fun q h => h.elim (hA q) (fun h => hA1 q (Nat.le_trans hS.1 h))) hls hst hr8 hdg (fun H1 locs1 h1 h2 h3 h4 => kk H1 locs1 h1 h2 h3 (fun q h5 h6 => h4 q h5 (fun z => z.elim h6 (fun z => absurd h5 (Nat.not_lt.mpr z)))))
theorem kxL_X1_pass {Wd' : State → Heap → Prop} {v : Option Value} {mc ms : Nat} (hC : CallFix p m c cc nL s args wsL_law RL) (hM : Wr l yX1_pass cX1_pass 6 (some .int) rm (SW D cI cQ b N T R9) Wd' (inG (10 + T) b) (.ref (b 0) :: As) v mc ms) (hm : Mov Wd') (hB : SW D cI cQ b N T R9 s H) (hn : As.length = 0) (hrm : rm.cells = mc ∧ rm.slots = ms) (hR : rm.frames + 1 ≤ R.frames ∧ 8 + (6 + 11) + rm.locals ≤ R.locals) (hf : cells + mc ≤ R.cells ∧ slots + ms ≤ R.slots) (hS : va_S A0 H0 H locs) (hA : ∀ q, inG (10 + T) b q → A0 q) (hls : ls.size = nL) (hst : st0 = As.reverse ++ .ref (b 0) :: rest) (hr8 : (rest.map fun v => v.category).sum ≤ 8) (hdg : decode cc pc = .ok (.invokevirtual 142, 3)) (kk : ∀ (H1 : Heap) (locs1 : List Loc), Wd' s H1 → va_S A0 H0 H1 locs1 → H.size ≤ H1.size → (∀ q : Nat, q < H.size → ¬ inG (10 + T) b q → H1[q]? = H[q]?) → W p l e R s m args below meth c H1 locs1 (cells + mc) (slots + ms) Q (F0 m (pc + 3) ls (v.toList ++ rest))) : W p l e R s m args below meth c H locs cells slots Q (F0 m pc ls st0) :=
  kVw hC hM mov_S hm hB (rec_S hB) (good_V mw_258 mw_150 mw_151 mw_33 mw_152) hrm.1 hrm.2 ⟨rfl, by decide +kernel, by decide +kernel, by rw [hn]; decide +kernel⟩ hR hf hS hA hls hst hr8 hdg kk
theorem kL_X1_isSame {v : Value} (hC : CallFix p m c cc nL s args wsL_law RL) (hM : Rd l yX1_isSame cX1_isSame 13 (some .boolean) rm (SW D cI cQ b N T R9) (.ref (b 0) :: As) v) (hB : SW D cI cQ b N T R9 s H) (hn : As.length = 1) (hrm : rm.cells = 0 ∧ rm.slots = 0) (hR : rm.frames + 1 ≤ R.frames ∧ 8 + (13 + 11) + rm.locals ≤ R.locals) (hf : cells ≤ R.cells ∧ slots ≤ R.slots) (hls : ls.size = nL) (hst : st0 = As.reverse ++ .ref (b 0) :: rest) (hr8 : (rest.map fun v => v.category).sum ≤ 8) (hdg : decode cc pc = .ok (.invokevirtual 144, 3)) (kk : W p l e R s m args below meth c H locs cells slots Q (F0 m (pc + 3) ls (v :: rest))) : W p l e R s m args below meth c H locs cells slots Q (F0 m pc ls st0) :=
  kV hC hM mov_S hB (rec_S hB) (good_V mw_259 mw_260 mw_261 mw_33 mw_262) hrm.1 hrm.2 ⟨rfl, by decide +kernel, by decide +kernel, by rw [hn]; decide +kernel⟩ hR hf hls hst hr8 hdg kk
theorem kxL_X1_isSame {Wd' : State → Heap → Prop} {v : Option Value} {mc ms : Nat} (hC : CallFix p m c cc nL s args wsL_law RL) (hM : Wr l yX1_isSame cX1_isSame 13 (some .boolean) rm (SW D cI cQ b N T R9) Wd' (inG (10 + T) b) (.ref (b 0) :: As) v mc ms) (hm : Mov Wd') (hB : SW D cI cQ b N T R9 s H) (hn : As.length = 1) (hrm : rm.cells = mc ∧ rm.slots = ms) (hR : rm.frames + 1 ≤ R.frames ∧ 8 + (13 + 11) + rm.locals ≤ R.locals) (hf : cells + mc ≤ R.cells ∧ slots + ms ≤ R.slots) (hS : va_S A0 H0 H locs) (hA : ∀ q, inG (10 + T) b q → A0 q) (hls : ls.size = nL) (hst : st0 = As.reverse ++ .ref (b 0) :: rest) (hr8 : (rest.map fun v => v.category).sum ≤ 8) (hdg : decode cc pc = .ok (.invokevirtual 144, 3)) (kk : ∀ (H1 : Heap) (locs1 : List Loc), Wd' s H1 → va_S A0 H0 H1 locs1 → H.size ≤ H1.size → (∀ q : Nat, q < H.size → ¬ inG (10 + T) b q → H1[q]? = H[q]?) → W p l e R s m args below meth c H1 locs1 (cells + mc) (slots + ms) Q (F0 m (pc + 3) ls (v.toList ++ rest))) : W p l e R s m args below meth c H locs cells slots Q (F0 m pc ls st0) :=
  kVw hC hM mov_S hm hB (rec_S hB) (good_V mw_259 mw_260 mw_261 mw_33 mw_262) hrm.1 hrm.2 ⟨rfl, by decide +kernel, by decide +kernel, by rw [hn]; decide +kernel⟩ hR hf hS hA hls hst hr8 hdg kk
theorem k1_X0_second {v : Value} (hC : CallFix p m c cc nL s args wsL_law RX1) (hM : Rd l yX0_second cX0_second 1 (some .int) rm (BW D cI cQ a S) (.ref (a 13) :: As) v) (hB : BW D cI cQ a S s H) (hn : As.length = 0) (hrm : rm.cells = 0 ∧ rm.slots = 0) (hR : rm.frames + 1 ≤ R.frames ∧ 8 + (1 + 11) + rm.locals ≤ R.locals) (hf : cells ≤ R.cells ∧ slots ≤ R.slots) (hls : ls.size = nL) (hst : st0 = As.reverse ++ .ref (a 13) :: rest) (hr8 : (rest.map fun v => v.category).sum ≤ 8) (hdg : decode cc pc = .ok (.invokevirtual 42, 3)) (kk : W p l e R s m args below meth c H locs cells slots Q (F0 m (pc + 3) ls (v :: rest))) : W p l e R s m args below meth c H locs cells slots Q (F0 m pc ls st0) :=
  kV hC hM mov_B hB (rec_B hB) (good_V mw_263 mw_255 mw_256 mw_2 mw_257) hrm.1 hrm.2 ⟨rfl, by decide +kernel, by decide +kernel, by rw [hn]; decide +kernel⟩ hR hf hls hst hr8 hdg kk
theorem kx1_X0_second {Wd' : State → Heap → Prop} {v : Option Value} {mc ms : Nat} (hC : CallFix p m c cc nL s args wsL_law RX1) (hM : Wr l yX0_second cX0_second 1 (some .int) rm (BW D cI cQ a S) Wd' (inB a) (.ref (a 13) :: As) v mc ms) (hm : Mov Wd') (hB : BW D cI cQ a S s H) (hn : As.length = 0) (hrm : rm.cells = mc ∧ rm.slots = ms) (hR : rm.frames + 1 ≤ R.frames ∧ 8 + (1 + 11) + rm.locals ≤ R.locals) (hf : cells + mc ≤ R.cells ∧ slots + ms ≤ R.slots) (hS : va_S A0 H0 H locs) (hA : ∀ q, inB a q → A0 q) (hls : ls.size = nL) (hst : st0 = As.reverse ++ .ref (a 13) :: rest) (hr8 : (rest.map fun v => v.category).sum ≤ 8) (hdg : decode cc pc = .ok (.invokevirtual 42, 3)) (kk : ∀ (H1 : Heap) (locs1 : List Loc), Wd' s H1 → va_S A0 H0 H1 locs1 → H.size ≤ H1.size → (∀ q : Nat, q < H.size → ¬ inB a q → H1[q]? = H[q]?) → W p l e R s m args below meth c H1 locs1 (cells + mc) (slots + ms) Q (F0 m (pc + 3) ls (v.toList ++ rest))) : W p l e R s m args below meth c H locs cells slots Q (F0 m pc ls st0) :=
  kVw hC hM mov_B hm hB (rec_B hB) (good_V mw_263 mw_255 mw_256 mw_2 mw_257) hrm.1 hrm.2 ⟨rfl, by decide +kernel, by decide +kernel, by rw [hn]; decide +kernel⟩ hR hf hS hA hls hst hr8 hdg kk
theorem k1_X0_towers {v : Value} (hC : CallFix p m c cc nL s args wsL_law RX1) (hM : Rd l yX0_towers cX0_towers 1 (some .int) rm (BW D cI cQ a S) (.ref (a 13) :: As) v) (hB : BW D cI cQ a S s H) (hn : As.length = 0) (hrm : rm.cells = 0 ∧ rm.slots = 0) (hR : rm.frames + 1 ≤ R.frames ∧ 8 + (1 + 11) + rm.locals ≤ R.locals) (hf : cells ≤ R.cells ∧ slots ≤ R.slots) (hls : ls.size = nL) (hst : st0 = As.reverse ++ .ref (a 13) :: rest) (hr8 : (rest.map fun v => v.category).sum ≤ 8) (hdg : decode cc pc = .ok (.invokevirtual 46, 3)) (kk : W p l e R s m args below meth c H locs cells slots Q (F0 m (pc + 3) ls (v :: rest))) : W p l e R s m args below meth c H locs cells slots Q (F0 m pc ls st0) :=
  kV hC hM mov_B hB (rec_B hB) (good_V mw_264 mw_155 mw_156 mw_2 mw_157) hrm.1 hrm.2 ⟨rfl, by decide +kernel, by decide +kernel, by rw [hn]; decide +kernel⟩ hR hf hls hst hr8 hdg kk
theorem kx1_X0_towers {Wd' : State → Heap → Prop} {v : Option Value} {mc ms : Nat} (hC : CallFix p m c cc nL s args wsL_law RX1) (hM : Wr l yX0_towers cX0_towers 1 (some .int) rm (BW D cI cQ a S) Wd' (inB a) (.ref (a 13) :: As) v mc ms) (hm : Mov Wd') (hB : BW D cI cQ a S s H) (hn : As.length = 0) (hrm : rm.cells = mc ∧ rm.slots = ms) (hR : rm.frames + 1 ≤ R.frames ∧ 8 + (1 + 11) + rm.locals ≤ R.locals) (hf : cells + mc ≤ R.cells ∧ slots + ms ≤ R.slots) (hS : va_S A0 H0 H locs) (hA : ∀ q, inB a q → A0 q) (hls : ls.size = nL) (hst : st0 = As.reverse ++ .ref (a 13) :: rest) (hr8 : (rest.map fun v => v.category).sum ≤ 8) (hdg : decode cc pc = .ok (.invokevirtual 46, 3)) (kk : ∀ (H1 : Heap) (locs1 : List Loc), Wd' s H1 → va_S A0 H0 H1 locs1 → H.size ≤ H1.size → (∀ q : Nat, q < H.size → ¬ inB a q → H1[q]? = H[q]?) → W p l e R s m args below meth c H1 locs1 (cells + mc) (slots + ms) Q (F0 m (pc + 3) ls (v.toList ++ rest))) : W p l e R s m args below meth c H locs cells slots Q (F0 m pc ls st0) :=
  kVw hC hM mov_B hm hB (rec_B hB) (good_V mw_264 mw_155 mw_156 mw_2 mw_157) hrm.1 hrm.2 ⟨rfl, by decide +kernel, by decide +kernel, by rw [hn]; decide +kernel⟩ hR hf hS hA hls hst hr8 hdg kk
theorem k1_X0_traders {v : Value} (hC : CallFix p m c cc nL s args wsL_law RX1) (hM : Rd l yX0_traders cX0_traders 1 (some .int) rm (BW D cI cQ a S) (.ref (a 13) :: As) v) (hB : BW D cI cQ a S s H) (hn : As.length = 0) (hrm : rm.cells = 0 ∧ rm.slots = 0) (hR : rm.frames + 1 ≤ R.frames ∧ 8 + (1 + 11) + rm.locals ≤ R.locals) (hf : cells ≤ R.cells ∧ slots ≤ R.slots) (hls : ls.size = nL) (hst : st0 = As.reverse ++ .ref (a 13) :: rest) (hr8 : (rest.map fun v => v.category).sum ≤ 8) (hdg : decode cc pc = .ok (.invokevirtual 48, 3)) (kk : W p l e R s m args below meth c H locs cells slots Q (F0 m (pc + 3) ls (v :: rest))) : W p l e R s m args below meth c H locs cells slots Q (F0 m pc ls st0) :=
  kV hC hM mov_B hB (rec_B hB) (good_V mw_265 mw_159 mw_160 mw_2 mw_161) hrm.1 hrm.2 ⟨rfl, by decide +kernel, by decide +kernel, by rw [hn]; decide +kernel⟩ hR hf hls hst hr8 hdg kk
theorem kx1_X0_traders {Wd' : State → Heap → Prop} {v : Option Value} {mc ms : Nat} (hC : CallFix p m c cc nL s args wsL_law RX1) (hM : Wr l yX0_traders cX0_traders 1 (some .int) rm (BW D cI cQ a S) Wd' (inB a) (.ref (a 13) :: As) v mc ms) (hm : Mov Wd') (hB : BW D cI cQ a S s H) (hn : As.length = 0) (hrm : rm.cells = mc ∧ rm.slots = ms) (hR : rm.frames + 1 ≤ R.frames ∧ 8 + (1 + 11) + rm.locals ≤ R.locals) (hf : cells + mc ≤ R.cells ∧ slots + ms ≤ R.slots) (hS : va_S A0 H0 H locs) (hA : ∀ q, inB a q → A0 q) (hls : ls.size = nL) (hst : st0 = As.reverse ++ .ref (a 13) :: rest) (hr8 : (rest.map fun v => v.category).sum ≤ 8) (hdg : decode cc pc = .ok (.invokevirtual 48, 3)) (kk : ∀ (H1 : Heap) (locs1 : List Loc), Wd' s H1 → va_S A0 H0 H1 locs1 → H.size ≤ H1.size → (∀ q : Nat, q < H.size → ¬ inB a q → H1[q]? = H[q]?) → W p l e R s m args below meth c H1 locs1 (cells + mc) (slots + ms) Q (F0 m (pc + 3) ls (v.toList ++ rest))) : W p l e R s m args below meth c H locs cells slots Q (F0 m pc ls st0) :=
  kVw hC hM mov_B hm hB (rec_B hB) (good_V mw_265 mw_159 mw_160 mw_2 mw_161) hrm.1 hrm.2 ⟨rfl, by decide +kernel, by decide +kernel, by rw [hn]; decide +kernel⟩ hR hf hS hA hls hst hr8 hdg kk
theorem k1_X0_silenceOf {v : Value} (hC : CallFix p m c cc nL s args wsL_law RX1) (hM : Rd l yX0_silenceOf cX0_silenceOf 2 (some .int) rm (BW D cI cQ a S) (.ref (a 13) :: As) v) (hB : BW D cI cQ a S s H) (hn : As.length = 1) (hrm : rm.cells = 0 ∧ rm.slots = 0) (hR : rm.frames + 1 ≤ R.frames ∧ 8 + (2 + 11) + rm.locals ≤ R.locals) (hf : cells ≤ R.cells ∧ slots ≤ R.slots) (hls : ls.size = nL) (hst : st0 = As.reverse ++ .ref (a 13) :: rest) (hr8 : (rest.map fun v => v.category).sum ≤ 8) (hdg : decode cc pc = .ok (.invokevirtual 51, 3)) (kk : W p l e R s m args below meth c H locs cells slots Q (F0 m (pc + 3) ls (v :: rest))) : W p l e R s m args below meth c H locs cells slots Q (F0 m pc ls st0) :=
  kV hC hM mov_B hB (rec_B hB) (good_V mw_266 mw_163 mw_164 mw_2 mw_165) hrm.1 hrm.2 ⟨rfl, by decide +kernel, by decide +kernel, by rw [hn]; decide +kernel⟩ hR hf hls hst hr8 hdg kk
theorem kx1_X0_silenceOf {Wd' : State → Heap → Prop} {v : Option Value} {mc ms : Nat} (hC : CallFix p m c cc nL s args wsL_law RX1) (hM : Wr l yX0_silenceOf cX0_silenceOf 2 (some .int) rm (BW D cI cQ a S) Wd' (inB a) (.ref (a 13) :: As) v mc ms) (hm : Mov Wd') (hB : BW D cI cQ a S s H) (hn : As.length = 1) (hrm : rm.cells = mc ∧ rm.slots = ms) (hR : rm.frames + 1 ≤ R.frames ∧ 8 + (2 + 11) + rm.locals ≤ R.locals) (hf : cells + mc ≤ R.cells ∧ slots + ms ≤ R.slots) (hS : va_S A0 H0 H locs) (hA : ∀ q, inB a q → A0 q) (hls : ls.size = nL) (hst : st0 = As.reverse ++ .ref (a 13) :: rest) (hr8 : (rest.map fun v => v.category).sum ≤ 8) (hdg : decode cc pc = .ok (.invokevirtual 51, 3)) (kk : ∀ (H1 : Heap) (locs1 : List Loc), Wd' s H1 → va_S A0 H0 H1 locs1 → H.size ≤ H1.size → (∀ q : Nat, q < H.size → ¬ inB a q → H1[q]? = H[q]?) → W p l e R s m args below meth c H1 locs1 (cells + mc) (slots + ms) Q (F0 m (pc + 3) ls (v.toList ++ rest))) : W p l e R s m args below meth c H locs cells slots Q (F0 m pc ls st0) :=
  kVw hC hM mov_B hm hB (rec_B hB) (good_V mw_266 mw_163 mw_164 mw_2 mw_165) hrm.1 hrm.2 ⟨rfl, by decide +kernel, by decide +kernel, by rw [hn]; decide +kernel⟩ hR hf hS hA hls hst hr8 hdg kk
theorem k1_X0_dovesOn {v : Value} (hC : CallFix p m c cc nL s args wsL_law RX1) (hM : Rd l yX0_dovesOn cX0_dovesOn 2 (some .int) rm (BW D cI cQ a S) (.ref (a 13) :: As) v) (hB : BW D cI cQ a S s H) (hn : As.length = 1) (hrm : rm.cells = 0 ∧ rm.slots = 0) (hR : rm.frames + 1 ≤ R.frames ∧ 8 + (2 + 11) + rm.locals ≤ R.locals) (hf : cells ≤ R.cells ∧ slots ≤ R.slots) (hls : ls.size = nL) (hst : st0 = As.reverse ++ .ref (a 13) :: rest) (hr8 : (rest.map fun v => v.category).sum ≤ 8) (hdg : decode cc pc = .ok (.invokevirtual 54, 3)) (kk : W p l e R s m args below meth c H locs cells slots Q (F0 m (pc + 3) ls (v :: rest))) : W p l e R s m args below meth c H locs cells slots Q (F0 m pc ls st0) :=
  kV hC hM mov_B hB (rec_B hB) (good_V mw_267 mw_191 mw_192 mw_2 mw_193) hrm.1 hrm.2 ⟨rfl, by decide +kernel, by decide +kernel, by rw [hn]; decide +kernel⟩ hR hf hls hst hr8 hdg kk
theorem kx1_X0_dovesOn {Wd' : State → Heap → Prop} {v : Option Value} {mc ms : Nat} (hC : CallFix p m c cc nL s args wsL_law RX1) (hM : Wr l yX0_dovesOn cX0_dovesOn 2 (some .int) rm (BW D cI cQ a S) Wd' (inB a) (.ref (a 13) :: As) v mc ms) (hm : Mov Wd') (hB : BW D cI cQ a S s H) (hn : As.length = 1) (hrm : rm.cells = mc ∧ rm.slots = ms) (hR : rm.frames + 1 ≤ R.frames ∧ 8 + (2 + 11) + rm.locals ≤ R.locals) (hf : cells + mc ≤ R.cells ∧ slots + ms ≤ R.slots) (hS : va_S A0 H0 H locs) (hA : ∀ q, inB a q → A0 q) (hls : ls.size = nL) (hst : st0 = As.reverse ++ .ref (a 13) :: rest) (hr8 : (rest.map fun v => v.category).sum ≤ 8) (hdg : decode cc pc = .ok (.invokevirtual 54, 3)) (kk : ∀ (H1 : Heap) (locs1 : List Loc), Wd' s H1 → va_S A0 H0 H1 locs1 → H.size ≤ H1.size → (∀ q : Nat, q < H.size → ¬ inB a q → H1[q]? = H[q]?) → W p l e R s m args below meth c H1 locs1 (cells + mc) (slots + ms) Q (F0 m (pc + 3) ls (v.toList ++ rest))) : W p l e R s m args below meth c H locs cells slots Q (F0 m pc ls st0) :=
  kVw hC hM mov_B hm hB (rec_B hB) (good_V mw_267 mw_191 mw_192 mw_2 mw_193) hrm.1 hrm.2 ⟨rfl, by decide +kernel, by decide +kernel, by rw [hn]; decide +kernel⟩ hR hf hS hA hls hst hr8 hdg kk
theorem k1_X0_priceOf {v : Value} (hC : CallFix p m c cc nL s args wsL_law RX1) (hM : Rd l yX0_priceOf cX0_priceOf 2 (some .int) rm (BW D cI cQ a S) (.ref (a 13) :: As) v) (hB : BW D cI cQ a S s H) (hn : As.length = 1) (hrm : rm.cells = 0 ∧ rm.slots = 0) (hR : rm.frames + 1 ≤ R.frames ∧ 8 + (2 + 11) + rm.locals ≤ R.locals) (hf : cells ≤ R.cells ∧ slots ≤ R.slots) (hls : ls.size = nL) (hst : st0 = As.reverse ++ .ref (a 13) :: rest) (hr8 : (rest.map fun v => v.category).sum ≤ 8) (hdg : decode cc pc = .ok (.invokevirtual 57, 3)) (kk : W p l e R s m args below meth c H locs cells slots Q (F0 m (pc + 3) ls (v :: rest))) : W p l e R s m args below meth c H locs cells slots Q (F0 m pc ls st0) :=
  kV hC hM mov_B hB (rec_B hB) (good_V mw_268 mw_167 mw_168 mw_2 mw_169) hrm.1 hrm.2 ⟨rfl, by decide +kernel, by decide +kernel, by rw [hn]; decide +kernel⟩ hR hf hls hst hr8 hdg kk
theorem kx1_X0_priceOf {Wd' : State → Heap → Prop} {v : Option Value} {mc ms : Nat} (hC : CallFix p m c cc nL s args wsL_law RX1) (hM : Wr l yX0_priceOf cX0_priceOf 2 (some .int) rm (BW D cI cQ a S) Wd' (inB a) (.ref (a 13) :: As) v mc ms) (hm : Mov Wd') (hB : BW D cI cQ a S s H) (hn : As.length = 1) (hrm : rm.cells = mc ∧ rm.slots = ms) (hR : rm.frames + 1 ≤ R.frames ∧ 8 + (2 + 11) + rm.locals ≤ R.locals) (hf : cells + mc ≤ R.cells ∧ slots + ms ≤ R.slots) (hS : va_S A0 H0 H locs) (hA : ∀ q, inB a q → A0 q) (hls : ls.size = nL) (hst : st0 = As.reverse ++ .ref (a 13) :: rest) (hr8 : (rest.map fun v => v.category).sum ≤ 8) (hdg : decode cc pc = .ok (.invokevirtual 57, 3)) (kk : ∀ (H1 : Heap) (locs1 : List Loc), Wd' s H1 → va_S A0 H0 H1 locs1 → H.size ≤ H1.size → (∀ q : Nat, q < H.size → ¬ inB a q → H1[q]? = H[q]?) → W p l e R s m args below meth c H1 locs1 (cells + mc) (slots + ms) Q (F0 m (pc + 3) ls (v.toList ++ rest))) : W p l e R s m args below meth c H locs cells slots Q (F0 m pc ls st0) :=
  kVw hC hM mov_B hm hB (rec_B hB) (good_V mw_268 mw_167 mw_168 mw_2 mw_169) hrm.1 hrm.2 ⟨rfl, by decide +kernel, by decide +kernel, by rw [hn]; decide +kernel⟩ hR hf hS hA hls hst hr8 hdg kk
theorem k1_X0_secondsUntilStroke {v : Value} (hC : CallFix p m c cc nL s args wsL_law RX1) (hM : Rd l yX0_secondsUntilStroke cX0_secondsUntilStroke 2 (some .int) rm (BW D cI cQ a S) (.ref (a 13) :: As) v) (hB : BW D cI cQ a S s H) (hn : As.length = 1) (hrm : rm.cells = 0 ∧ rm.slots = 0) (hR : rm.frames + 1 ≤ R.frames ∧ 8 + (2 + 11) + rm.locals ≤ R.locals) (hf : cells ≤ R.cells ∧ slots ≤ R.slots) (hls : ls.size = nL) (hst : st0 = As.reverse ++ .ref (a 13) :: rest) (hr8 : (rest.map fun v => v.category).sum ≤ 8) (hdg : decode cc pc = .ok (.invokevirtual 60, 3)) (kk : W p l e R s m args below meth c H locs cells slots Q (F0 m (pc + 3) ls (v :: rest))) : W p l e R s m args below meth c H locs cells slots Q (F0 m pc ls st0) :=
  kV hC hM mov_B hB (rec_B hB) (good_V mw_269 mw_171 mw_172 mw_2 mw_173) hrm.1 hrm.2 ⟨rfl, by decide +kernel, by decide +kernel, by rw [hn]; decide +kernel⟩ hR hf hls hst hr8 hdg kk
theorem kx1_X0_secondsUntilStroke {Wd' : State → Heap → Prop} {v : Option Value} {mc ms : Nat} (hC : CallFix p m c cc nL s args wsL_law RX1) (hM : Wr l yX0_secondsUntilStroke cX0_secondsUntilStroke 2 (some .int) rm (BW D cI cQ a S) Wd' (inB a) (.ref (a 13) :: As) v mc ms) (hm : Mov Wd') (hB : BW D cI cQ a S s H) (hn : As.length = 1) (hrm : rm.cells = mc ∧ rm.slots = ms) (hR : rm.frames + 1 ≤ R.frames ∧ 8 + (2 + 11) + rm.locals ≤ R.locals) (hf : cells + mc ≤ R.cells ∧ slots + ms ≤ R.slots) (hS : va_S A0 H0 H locs) (hA : ∀ q, inB a q → A0 q) (hls : ls.size = nL) (hst : st0 = As.reverse ++ .ref (a 13) :: rest) (hr8 : (rest.map fun v => v.category).sum ≤ 8) (hdg : decode cc pc = .ok (.invokevirtual 60, 3)) (kk : ∀ (H1 : Heap) (locs1 : List Loc), Wd' s H1 → va_S A0 H0 H1 locs1 → H.size ≤ H1.size → (∀ q : Nat, q < H.size → ¬ inB a q → H1[q]? = H[q]?) → W p l e R s m args below meth c H1 locs1 (cells + mc) (slots + ms) Q (F0 m (pc + 3) ls (v.toList ++ rest))) : W p l e R s m args below meth c H locs cells slots Q (F0 m pc ls st0) :=
  kVw hC hM mov_B hm hB (rec_B hB) (good_V mw_269 mw_171 mw_172 mw_2 mw_173) hrm.1 hrm.2 ⟨rfl, by decide +kernel, by decide +kernel, by rw [hn]; decide +kernel⟩ hR hf hS hA hls hst hr8 hdg kk
theorem k1_X1_until {v : Value} (hC : CallFix p m c cc nL s args wsL_law RX1) (hM : Rd l yX1_until cX1_until 3 (some .int) rm (SW D cI cQ b N T R9) (.ref (b 0) :: As) v) (hB : SW D cI cQ b N T R9 s H) (hn : As.length = 1) (hrm : rm.cells = 0 ∧ rm.slots = 0) (hR : rm.frames + 1 ≤ R.frames ∧ 8 + (3 + 11) + rm.locals ≤ R.locals) (hf : cells ≤ R.cells ∧ slots ≤ R.slots) (hls : ls.size = nL) (hst : st0 = As.reverse ++ .ref (b 0) :: rest) (hr8 : (rest.map fun v => v.category).sum ≤ 8) (hdg : decode cc pc = .ok (.invokevirtual 63, 3)) (kk : W p l e R s m args below meth c H locs cells slots Q (F0 m (pc + 3) ls (v :: rest))) : W p l e R s m args below meth c H locs cells slots Q (F0 m pc ls st0) :=
  kV hC hM mov_S hB (rec_S hB) (good_V mw_270 mw_271 mw_272 mw_33 mw_273) hrm.1 hrm.2 ⟨rfl, by decide +kernel, by decide +kernel, by rw [hn]; decide +kernel⟩ hR hf hls hst hr8 hdg kk
theorem kx1_X1_until {Wd' : State → Heap → Prop} {v : Option Value} {mc ms : Nat} (hC : CallFix p m c cc nL s args wsL_law RX1) (hM : Wr l yX1_until cX1_until 3 (some .int) rm (SW D cI cQ b N T R9) Wd' (inG (10 + T) b) (.ref (b 0) :: As) v mc ms) (hm : Mov Wd') (hB : SW D cI cQ b N T R9 s H) (hn : As.length = 1) (hrm : rm.cells = mc ∧ rm.slots = ms) (hR : rm.frames + 1 ≤ R.frames ∧ 8 + (3 + 11) + rm.locals ≤ R.locals) (hf : cells + mc ≤ R.cells ∧ slots + ms ≤ R.slots) (hS : va_S A0 H0 H locs) (hA : ∀ q, inG (10 + T) b q → A0 q) (hls : ls.size = nL) (hst : st0 = As.reverse ++ .ref (b 0) :: rest) (hr8 : (rest.map fun v => v.category).sum ≤ 8) (hdg : decode cc pc = .ok (.invokevirtual 63, 3)) (kk : ∀ (H1 : Heap) (locs1 : List Loc), Wd' s H1 → va_S A0 H0 H1 locs1 → H.size ≤ H1.size → (∀ q : Nat, q < H.size → ¬ inG (10 + T) b q → H1[q]? = H[q]?) → W p l e R s m args below meth c H1 locs1 (cells + mc) (slots + ms) Q (F0 m (pc + 3) ls (v.toList ++ rest))) : W p l e R s m args below meth c H locs cells slots Q (F0 m pc ls st0) :=
  kVw hC hM mov_S hm hB (rec_S hB) (good_V mw_270 mw_271 mw_272 mw_33 mw_273) hrm.1 hrm.2 ⟨rfl, by decide +kernel, by decide +kernel, by rw [hn]; decide +kernel⟩ hR hf hS hA hls hst hr8 hdg kk
theorem k1_X0_strokesOf {v : Value} (hC : CallFix p m c cc nL s args wsL_law RX1) (hM : Rd l yX0_strokesOf cX0_strokesOf 2 (some .int) rm (BW D cI cQ a S) (.ref (a 13) :: As) v) (hB : BW D cI cQ a S s H) (hn : As.length = 1) (hrm : rm.cells = 0 ∧ rm.slots = 0) (hR : rm.frames + 1 ≤ R.frames ∧ 8 + (2 + 11) + rm.locals ≤ R.locals) (hf : cells ≤ R.cells ∧ slots ≤ R.slots) (hls : ls.size = nL) (hst : st0 = As.reverse ++ .ref (a 13) :: rest) (hr8 : (rest.map fun v => v.category).sum ≤ 8) (hdg : decode cc pc = .ok (.invokevirtual 66, 3)) (kk : W p l e R s m args below meth c H locs cells slots Q (F0 m (pc + 3) ls (v :: rest))) : W p l e R s m args below meth c H locs cells slots Q (F0 m pc ls st0) :=
  kV hC hM mov_B hB (rec_B hB) (good_V mw_274 mw_175 mw_176 mw_2 mw_177) hrm.1 hrm.2 ⟨rfl, by decide +kernel, by decide +kernel, by rw [hn]; decide +kernel⟩ hR hf hls hst hr8 hdg kk
theorem kx1_X0_strokesOf {Wd' : State → Heap → Prop} {v : Option Value} {mc ms : Nat} (hC : CallFix p m c cc nL s args wsL_law RX1) (hM : Wr l yX0_strokesOf cX0_strokesOf 2 (some .int) rm (BW D cI cQ a S) Wd' (inB a) (.ref (a 13) :: As) v mc ms) (hm : Mov Wd') (hB : BW D cI cQ a S s H) (hn : As.length = 1) (hrm : rm.cells = mc ∧ rm.slots = ms) (hR : rm.frames + 1 ≤ R.frames ∧ 8 + (2 + 11) + rm.locals ≤ R.locals) (hf : cells + mc ≤ R.cells ∧ slots + ms ≤ R.slots) (hS : va_S A0 H0 H locs) (hA : ∀ q, inB a q → A0 q) (hls : ls.size = nL) (hst : st0 = As.reverse ++ .ref (a 13) :: rest) (hr8 : (rest.map fun v => v.category).sum ≤ 8) (hdg : decode cc pc = .ok (.invokevirtual 66, 3)) (kk : ∀ (H1 : Heap) (locs1 : List Loc), Wd' s H1 → va_S A0 H0 H1 locs1 → H.size ≤ H1.size → (∀ q : Nat, q < H.size → ¬ inB a q → H1[q]? = H[q]?) → W p l e R s m args below meth c H1 locs1 (cells + mc) (slots + ms) Q (F0 m (pc + 3) ls (v.toList ++ rest))) : W p l e R s m args below meth c H locs cells slots Q (F0 m pc ls st0) :=
  kVw hC hM mov_B hm hB (rec_B hB) (good_V mw_274 mw_175 mw_176 mw_2 mw_177) hrm.1 hrm.2 ⟨rfl, by decide +kernel, by decide +kernel, by rw [hn]; decide +kernel⟩ hR hf hS hA hls hst hr8 hdg kk
theorem k1_X0_openSeconds {v : Value} (hC : CallFix p m c cc nL s args wsL_law RX1) (hM : Rd l yX0_openSeconds cX0_openSeconds 2 (some .int) rm (BW D cI cQ a S) (.ref (a 13) :: As) v) (hB : BW D cI cQ a S s H) (hn : As.length = 1) (hrm : rm.cells = 0 ∧ rm.slots = 0) (hR : rm.frames + 1 ≤ R.frames ∧ 8 + (2 + 11) + rm.locals ≤ R.locals) (hf : cells ≤ R.cells ∧ slots ≤ R.slots) (hls : ls.size = nL) (hst : st0 = As.reverse ++ .ref (a 13) :: rest) (hr8 : (rest.map fun v => v.category).sum ≤ 8) (hdg : decode cc pc = .ok (.invokevirtual 69, 3)) (kk : W p l e R s m args below meth c H locs cells slots Q (F0 m (pc + 3) ls (v :: rest))) : W p l e R s m args below meth c H locs cells slots Q (F0 m pc ls st0) :=
  kV hC hM mov_B hB (rec_B hB) (good_V mw_275 mw_179 mw_180 mw_2 mw_181) hrm.1 hrm.2 ⟨rfl, by decide +kernel, by decide +kernel, by rw [hn]; decide +kernel⟩ hR hf hls hst hr8 hdg kk
theorem kx1_X0_openSeconds {Wd' : State → Heap → Prop} {v : Option Value} {mc ms : Nat} (hC : CallFix p m c cc nL s args wsL_law RX1) (hM : Wr l yX0_openSeconds cX0_openSeconds 2 (some .int) rm (BW D cI cQ a S) Wd' (inB a) (.ref (a 13) :: As) v mc ms) (hm : Mov Wd') (hB : BW D cI cQ a S s H) (hn : As.length = 1) (hrm : rm.cells = mc ∧ rm.slots = ms) (hR : rm.frames + 1 ≤ R.frames ∧ 8 + (2 + 11) + rm.locals ≤ R.locals) (hf : cells + mc ≤ R.cells ∧ slots + ms ≤ R.slots) (hS : va_S A0 H0 H locs) (hA : ∀ q, inB a q → A0 q) (hls : ls.size = nL) (hst : st0 = As.reverse ++ .ref (a 13) :: rest) (hr8 : (rest.map fun v => v.category).sum ≤ 8) (hdg : decode cc pc = .ok (.invokevirtual 69, 3)) (kk : ∀ (H1 : Heap) (locs1 : List Loc), Wd' s H1 → va_S A0 H0 H1 locs1 → H.size ≤ H1.size → (∀ q : Nat, q < H.size → ¬ inB a q → H1[q]? = H[q]?) → W p l e R s m args below meth c H1 locs1 (cells + mc) (slots + ms) Q (F0 m (pc + 3) ls (v.toList ++ rest))) : W p l e R s m args below meth c H locs cells slots Q (F0 m pc ls st0) :=
  kVw hC hM mov_B hm hB (rec_B hB) (good_V mw_275 mw_179 mw_180 mw_2 mw_181) hrm.1 hrm.2 ⟨rfl, by decide +kernel, by decide +kernel, by rw [hn]; decide +kernel⟩ hR hf hS hA hls hst hr8 hdg kk
theorem k1_X0_holds {v : Value} (hC : CallFix p m c cc nL s args wsL_law RX1) (hM : Rd l yX0_holds cX0_holds 3 (some .int) rm (BW D cI cQ a S) (.ref (a 13) :: As) v) (hB : BW D cI cQ a S s H) (hn : As.length = 2) (hrm : rm.cells = 0 ∧ rm.slots = 0) (hR : rm.frames + 1 ≤ R.frames ∧ 8 + (3 + 11) + rm.locals ≤ R.locals) (hf : cells ≤ R.cells ∧ slots ≤ R.slots) (hls : ls.size = nL) (hst : st0 = As.reverse ++ .ref (a 13) :: rest) (hr8 : (rest.map fun v => v.category).sum ≤ 8) (hdg : decode cc pc = .ok (.invokevirtual 72, 3)) (kk : W p l e R s m args below meth c H locs cells slots Q (F0 m (pc + 3) ls (v :: rest))) : W p l e R s m args below meth c H locs cells slots Q (F0 m pc ls st0) :=
  kV hC hM mov_B hB (rec_B hB) (good_V mw_276 mw_187 mw_188 mw_2 mw_189) hrm.1 hrm.2 ⟨rfl, by decide +kernel, by decide +kernel, by rw [hn]; decide +kernel⟩ hR hf hls hst hr8 hdg kk
theorem kx1_X0_holds {Wd' : State → Heap → Prop} {v : Option Value} {mc ms : Nat} (hC : CallFix p m c cc nL s args wsL_law RX1) (hM : Wr l yX0_holds cX0_holds 3 (some .int) rm (BW D cI cQ a S) Wd' (inB a) (.ref (a 13) :: As) v mc ms) (hm : Mov Wd') (hB : BW D cI cQ a S s H) (hn : As.length = 2) (hrm : rm.cells = mc ∧ rm.slots = ms) (hR : rm.frames + 1 ≤ R.frames ∧ 8 + (3 + 11) + rm.locals ≤ R.locals) (hf : cells + mc ≤ R.cells ∧ slots + ms ≤ R.slots) (hS : va_S A0 H0 H locs) (hA : ∀ q, inB a q → A0 q) (hls : ls.size = nL) (hst : st0 = As.reverse ++ .ref (a 13) :: rest) (hr8 : (rest.map fun v => v.category).sum ≤ 8) (hdg : decode cc pc = .ok (.invokevirtual 72, 3)) (kk : ∀ (H1 : Heap) (locs1 : List Loc), Wd' s H1 → va_S A0 H0 H1 locs1 → H.size ≤ H1.size → (∀ q : Nat, q < H.size → ¬ inB a q → H1[q]? = H[q]?) → W p l e R s m args below meth c H1 locs1 (cells + mc) (slots + ms) Q (F0 m (pc + 3) ls (v.toList ++ rest))) : W p l e R s m args below meth c H locs cells slots Q (F0 m pc ls st0) :=
  kVw hC hM mov_B hm hB (rec_B hB) (good_V mw_276 mw_187 mw_188 mw_2 mw_189) hrm.1 hrm.2 ⟨rfl, by decide +kernel, by decide +kernel, by rw [hn]; decide +kernel⟩ hR hf hS hA hls hst hr8 hdg kk
theorem k1_X1_worth {v : Value} (hC : CallFix p m c cc nL s args wsL_law RX1) (hM : Rd l yX1_worth cX1_worth 4 (some .int) rm (SW D cI cQ b N T R9) (.ref (b 0) :: As) v) (hB : SW D cI cQ b N T R9 s H) (hn : As.length = 1) (hrm : rm.cells = 0 ∧ rm.slots = 0) (hR : rm.frames + 1 ≤ R.frames ∧ 8 + (4 + 11) + rm.locals ≤ R.locals) (hf : cells ≤ R.cells ∧ slots ≤ R.slots) (hls : ls.size = nL) (hst : st0 = As.reverse ++ .ref (b 0) :: rest) (hr8 : (rest.map fun v => v.category).sum ≤ 8) (hdg : decode cc pc = .ok (.invokevirtual 76, 3)) (kk : W p l e R s m args below meth c H locs cells slots Q (F0 m (pc + 3) ls (v :: rest))) : W p l e R s m args below meth c H locs cells slots Q (F0 m pc ls st0) :=
  kV hC hM mov_S hB (rec_S hB) (good_V mw_277 mw_278 mw_279 mw_33 mw_280) hrm.1 hrm.2 ⟨rfl, by decide +kernel, by decide +kernel, by rw [hn]; decide +kernel⟩ hR hf hls hst hr8 hdg kk
theorem kx1_X1_worth {Wd' : State → Heap → Prop} {v : Option Value} {mc ms : Nat} (hC : CallFix p m c cc nL s args wsL_law RX1) (hM : Wr l yX1_worth cX1_worth 4 (some .int) rm (SW D cI cQ b N T R9) Wd' (inG (10 + T) b) (.ref (b 0) :: As) v mc ms) (hm : Mov Wd') (hB : SW D cI cQ b N T R9 s H) (hn : As.length = 1) (hrm : rm.cells = mc ∧ rm.slots = ms) (hR : rm.frames + 1 ≤ R.frames ∧ 8 + (4 + 11) + rm.locals ≤ R.locals) (hf : cells + mc ≤ R.cells ∧ slots + ms ≤ R.slots) (hS : va_S A0 H0 H locs) (hA : ∀ q, inG (10 + T) b q → A0 q) (hls : ls.size = nL) (hst : st0 = As.reverse ++ .ref (b 0) :: rest) (hr8 : (rest.map fun v => v.category).sum ≤ 8) (hdg : decode cc pc = .ok (.invokevirtual 76, 3)) (kk : ∀ (H1 : Heap) (locs1 : List Loc), Wd' s H1 → va_S A0 H0 H1 locs1 → H.size ≤ H1.size → (∀ q : Nat, q < H.size → ¬ inG (10 + T) b q → H1[q]? = H[q]?) → W p l e R s m args below meth c H1 locs1 (cells + mc) (slots + ms) Q (F0 m (pc + 3) ls (v.toList ++ rest))) : W p l e R s m args below meth c H locs cells slots Q (F0 m pc ls st0) :=
  kVw hC hM mov_S hm hB (rec_S hB) (good_V mw_277 mw_278 mw_279 mw_33 mw_280) hrm.1 hrm.2 ⟨rfl, by decide +kernel, by decide +kernel, by rw [hn]; decide +kernel⟩ hR hf hS hA hls hst hr8 hdg kk
theorem k1_X0_purseOf {v : Value} (hC : CallFix p m c cc nL s args wsL_law RX1) (hM : Rd l yX0_purseOf cX0_purseOf 2 (some .int) rm (BW D cI cQ a S) (.ref (a 13) :: As) v) (hB : BW D cI cQ a S s H) (hn : As.length = 1) (hrm : rm.cells = 0 ∧ rm.slots = 0) (hR : rm.frames + 1 ≤ R.frames ∧ 8 + (2 + 11) + rm.locals ≤ R.locals) (hf : cells ≤ R.cells ∧ slots ≤ R.slots) (hls : ls.size = nL) (hst : st0 = As.reverse ++ .ref (a 13) :: rest) (hr8 : (rest.map fun v => v.category).sum ≤ 8) (hdg : decode cc pc = .ok (.invokevirtual 79, 3)) (kk : W p l e R s m args below meth c H locs cells slots Q (F0 m (pc + 3) ls (v :: rest))) : W p l e R s m args below meth c H locs cells slots Q (F0 m pc ls st0) :=
  kV hC hM mov_B hB (rec_B hB) (good_V mw_281 mw_207 mw_208 mw_2 mw_209) hrm.1 hrm.2 ⟨rfl, by decide +kernel, by decide +kernel, by rw [hn]; decide +kernel⟩ hR hf hls hst hr8 hdg kk
theorem kx1_X0_purseOf {Wd' : State → Heap → Prop} {v : Option Value} {mc ms : Nat} (hC : CallFix p m c cc nL s args wsL_law RX1) (hM : Wr l yX0_purseOf cX0_purseOf 2 (some .int) rm (BW D cI cQ a S) Wd' (inB a) (.ref (a 13) :: As) v mc ms) (hm : Mov Wd') (hB : BW D cI cQ a S s H) (hn : As.length = 1) (hrm : rm.cells = mc ∧ rm.slots = ms) (hR : rm.frames + 1 ≤ R.frames ∧ 8 + (2 + 11) + rm.locals ≤ R.locals) (hf : cells + mc ≤ R.cells ∧ slots + ms ≤ R.slots) (hS : va_S A0 H0 H locs) (hA : ∀ q, inB a q → A0 q) (hls : ls.size = nL) (hst : st0 = As.reverse ++ .ref (a 13) :: rest) (hr8 : (rest.map fun v => v.category).sum ≤ 8) (hdg : decode cc pc = .ok (.invokevirtual 79, 3)) (kk : ∀ (H1 : Heap) (locs1 : List Loc), Wd' s H1 → va_S A0 H0 H1 locs1 → H.size ≤ H1.size → (∀ q : Nat, q < H.size → ¬ inB a q → H1[q]? = H[q]?) → W p l e R s m args below meth c H1 locs1 (cells + mc) (slots + ms) Q (F0 m (pc + 3) ls (v.toList ++ rest))) : W p l e R s m args below meth c H locs cells slots Q (F0 m pc ls st0) :=
  kVw hC hM mov_B hm hB (rec_B hB) (good_V mw_281 mw_207 mw_208 mw_2 mw_209) hrm.1 hrm.2 ⟨rfl, by decide +kernel, by decide +kernel, by rw [hn]; decide +kernel⟩ hR hf hS hA hls hst hr8 hdg kk
theorem k1_X0_worthOf {v : Value} (hC : CallFix p m c cc nL s args wsL_law RX1) (hM : Rd l yX0_worthOf cX0_worthOf 2 (some .int) rm (BW D cI cQ a S) (.ref (a 13) :: As) v) (hB : BW D cI cQ a S s H) (hn : As.length = 1) (hrm : rm.cells = 0 ∧ rm.slots = 0) (hR : rm.frames + 1 ≤ R.frames ∧ 8 + (2 + 11) + rm.locals ≤ R.locals) (hf : cells ≤ R.cells ∧ slots ≤ R.slots) (hls : ls.size = nL) (hst : st0 = As.reverse ++ .ref (a 13) :: rest) (hr8 : (rest.map fun v => v.category).sum ≤ 8) (hdg : decode cc pc = .ok (.invokevirtual 82, 3)) (kk : W p l e R s m args below meth c H locs cells slots Q (F0 m (pc + 3) ls (v :: rest))) : W p l e R s m args below meth c H locs cells slots Q (F0 m pc ls st0) :=
  kV hC hM mov_B hB (rec_B hB) (good_V mw_282 mw_211 mw_212 mw_2 mw_213) hrm.1 hrm.2 ⟨rfl, by decide +kernel, by decide +kernel, by rw [hn]; decide +kernel⟩ hR hf hls hst hr8 hdg kk
theorem kx1_X0_worthOf {Wd' : State → Heap → Prop} {v : Option Value} {mc ms : Nat} (hC : CallFix p m c cc nL s args wsL_law RX1) (hM : Wr l yX0_worthOf cX0_worthOf 2 (some .int) rm (BW D cI cQ a S) Wd' (inB a) (.ref (a 13) :: As) v mc ms) (hm : Mov Wd') (hB : BW D cI cQ a S s H) (hn : As.length = 1) (hrm : rm.cells = mc ∧ rm.slots = ms) (hR : rm.frames + 1 ≤ R.frames ∧ 8 + (2 + 11) + rm.locals ≤ R.locals) (hf : cells + mc ≤ R.cells ∧ slots + ms ≤ R.slots) (hS : va_S A0 H0 H locs) (hA : ∀ q, inB a q → A0 q) (hls : ls.size = nL) (hst : st0 = As.reverse ++ .ref (a 13) :: rest) (hr8 : (rest.map fun v => v.category).sum ≤ 8) (hdg : decode cc pc = .ok (.invokevirtual 82, 3)) (kk : ∀ (H1 : Heap) (locs1 : List Loc), Wd' s H1 → va_S A0 H0 H1 locs1 → H.size ≤ H1.size → (∀ q : Nat, q < H.size → ¬ inB a q → H1[q]? = H[q]?) → W p l e R s m args below meth c H1 locs1 (cells + mc) (slots + ms) Q (F0 m (pc + 3) ls (v.toList ++ rest))) : W p l e R s m args below meth c H locs cells slots Q (F0 m pc ls st0) :=
  kVw hC hM mov_B hm hB (rec_B hB) (good_V mw_282 mw_211 mw_212 mw_2 mw_213) hrm.1 hrm.2 ⟨rfl, by decide +kernel, by decide +kernel, by rw [hn]; decide +kernel⟩ hR hf hS hA hls hst hr8 hdg kk
theorem k1_X0_shortsOf {v : Value} (hC : CallFix p m c cc nL s args wsL_law RX1) (hM : Rd l yX0_shortsOf cX0_shortsOf 2 (some .int) rm (BW D cI cQ a S) (.ref (a 13) :: As) v) (hB : BW D cI cQ a S s H) (hn : As.length = 1) (hrm : rm.cells = 0 ∧ rm.slots = 0) (hR : rm.frames + 1 ≤ R.frames ∧ 8 + (2 + 11) + rm.locals ≤ R.locals) (hf : cells ≤ R.cells ∧ slots ≤ R.slots) (hls : ls.size = nL) (hst : st0 = As.reverse ++ .ref (a 13) :: rest) (hr8 : (rest.map fun v => v.category).sum ≤ 8) (hdg : decode cc pc = .ok (.invokevirtual 85, 3)) (kk : W p l e R s m args below meth c H locs cells slots Q (F0 m (pc + 3) ls (v :: rest))) : W p l e R s m args below meth c H locs cells slots Q (F0 m pc ls st0) :=
  kV hC hM mov_B hB (rec_B hB) (good_V mw_283 mw_223 mw_224 mw_2 mw_225) hrm.1 hrm.2 ⟨rfl, by decide +kernel, by decide +kernel, by rw [hn]; decide +kernel⟩ hR hf hls hst hr8 hdg kk
theorem kx1_X0_shortsOf {Wd' : State → Heap → Prop} {v : Option Value} {mc ms : Nat} (hC : CallFix p m c cc nL s args wsL_law RX1) (hM : Wr l yX0_shortsOf cX0_shortsOf 2 (some .int) rm (BW D cI cQ a S) Wd' (inB a) (.ref (a 13) :: As) v mc ms) (hm : Mov Wd') (hB : BW D cI cQ a S s H) (hn : As.length = 1) (hrm : rm.cells = mc ∧ rm.slots = ms) (hR : rm.frames + 1 ≤ R.frames ∧ 8 + (2 + 11) + rm.locals ≤ R.locals) (hf : cells + mc ≤ R.cells ∧ slots + ms ≤ R.slots) (hS : va_S A0 H0 H locs) (hA : ∀ q, inB a q → A0 q) (hls : ls.size = nL) (hst : st0 = As.reverse ++ .ref (a 13) :: rest) (hr8 : (rest.map fun v => v.category).sum ≤ 8) (hdg : decode cc pc = .ok (.invokevirtual 85, 3)) (kk : ∀ (H1 : Heap) (locs1 : List Loc), Wd' s H1 → va_S A0 H0 H1 locs1 → H.size ≤ H1.size → (∀ q : Nat, q < H.size → ¬ inB a q → H1[q]? = H[q]?) → W p l e R s m args below meth c H1 locs1 (cells + mc) (slots + ms) Q (F0 m (pc + 3) ls (v.toList ++ rest))) : W p l e R s m args below meth c H locs cells slots Q (F0 m pc ls st0) :=
  kVw hC hM mov_B hm hB (rec_B hB) (good_V mw_283 mw_223 mw_224 mw_2 mw_225) hrm.1 hrm.2 ⟨rfl, by decide +kernel, by decide +kernel, by rw [hn]; decide +kernel⟩ hR hf hS hA hls hst hr8 hdg kk
theorem k1_X0_dearest {v : Value} (hC : CallFix p m c cc nL s args wsL_law RX1) (hM : Rd l yX0_dearest cX0_dearest 3 (some .int) rm (BW D cI cQ a S) (.ref (a 13) :: As) v) (hB : BW D cI cQ a S s H) (hn : As.length = 0) (hrm : rm.cells = 0 ∧ rm.slots = 0) (hR : rm.frames + 1 ≤ R.frames ∧ 8 + (3 + 11) + rm.locals ≤ R.locals) (hf : cells ≤ R.cells ∧ slots ≤ R.slots) (hls : ls.size = nL) (hst : st0 = As.reverse ++ .ref (a 13) :: rest) (hr8 : (rest.map fun v => v.category).sum ≤ 8) (hdg : decode cc pc = .ok (.invokevirtual 88, 3)) (kk : W p l e R s m args below meth c H locs cells slots Q (F0 m (pc + 3) ls (v :: rest))) : W p l e R s m args below meth c H locs cells slots Q (F0 m pc ls st0) :=
  kV hC hM mov_B hB (rec_B hB) (good_V mw_284 mw_235 mw_236 mw_2 mw_237) hrm.1 hrm.2 ⟨rfl, by decide +kernel, by decide +kernel, by rw [hn]; decide +kernel⟩ hR hf hls hst hr8 hdg kk
theorem kx1_X0_dearest {Wd' : State → Heap → Prop} {v : Option Value} {mc ms : Nat} (hC : CallFix p m c cc nL s args wsL_law RX1) (hM : Wr l yX0_dearest cX0_dearest 3 (some .int) rm (BW D cI cQ a S) Wd' (inB a) (.ref (a 13) :: As) v mc ms) (hm : Mov Wd') (hB : BW D cI cQ a S s H) (hn : As.length = 0) (hrm : rm.cells = mc ∧ rm.slots = ms) (hR : rm.frames + 1 ≤ R.frames ∧ 8 + (3 + 11) + rm.locals ≤ R.locals) (hf : cells + mc ≤ R.cells ∧ slots + ms ≤ R.slots) (hS : va_S A0 H0 H locs) (hA : ∀ q, inB a q → A0 q) (hls : ls.size = nL) (hst : st0 = As.reverse ++ .ref (a 13) :: rest) (hr8 : (rest.map fun v => v.category).sum ≤ 8) (hdg : decode cc pc = .ok (.invokevirtual 88, 3)) (kk : ∀ (H1 : Heap) (locs1 : List Loc), Wd' s H1 → va_S A0 H0 H1 locs1 → H.size ≤ H1.size → (∀ q : Nat, q < H.size → ¬ inB a q → H1[q]? = H[q]?) → W p l e R s m args below meth c H1 locs1 (cells + mc) (slots + ms) Q (F0 m (pc + 3) ls (v.toList ++ rest))) : W p l e R s m args below meth c H locs cells slots Q (F0 m pc ls st0) :=
  kVw hC hM mov_B hm hB (rec_B hB) (good_V mw_284 mw_235 mw_236 mw_2 mw_237) hrm.1 hrm.2 ⟨rfl, by decide +kernel, by decide +kernel, by rw [hn]; decide +kernel⟩ hR hf hS hA hls hst hr8 hdg kk
theorem k1_X0_nextToStrike {v : Value} (hC : CallFix p m c cc nL s args wsL_law RX1) (hM : Rd l yX0_nextToStrike cX0_nextToStrike 3 (some .int) rm (BW D cI cQ a S) (.ref (a 13) :: As) v) (hB : BW D cI cQ a S s H) (hn : As.length = 0) (hrm : rm.cells = 0 ∧ rm.slots = 0) (hR : rm.frames + 1 ≤ R.frames ∧ 8 + (3 + 11) + rm.locals ≤ R.locals) (hf : cells ≤ R.cells ∧ slots ≤ R.slots) (hls : ls.size = nL) (hst : st0 = As.reverse ++ .ref (a 13) :: rest) (hr8 : (rest.map fun v => v.category).sum ≤ 8) (hdg : decode cc pc = .ok (.invokevirtual 91, 3)) (kk : W p l e R s m args below meth c H locs cells slots Q (F0 m (pc + 3) ls (v :: rest))) : W p l e R s m args below meth c H locs cells slots Q (F0 m pc ls st0) :=
  kV hC hM mov_B hB (rec_B hB) (good_V mw_285 mw_239 mw_240 mw_2 mw_241) hrm.1 hrm.2 ⟨rfl, by decide +kernel, by decide +kernel, by rw [hn]; decide +kernel⟩ hR hf hls hst hr8 hdg kk
theorem kx1_X0_nextToStrike {Wd' : State → Heap → Prop} {v : Option Value} {mc ms : Nat} (hC : CallFix p m c cc nL s args wsL_law RX1) (hM : Wr l yX0_nextToStrike cX0_nextToStrike 3 (some .int) rm (BW D cI cQ a S) Wd' (inB a) (.ref (a 13) :: As) v mc ms) (hm : Mov Wd') (hB : BW D cI cQ a S s H) (hn : As.length = 0) (hrm : rm.cells = mc ∧ rm.slots = ms) (hR : rm.frames + 1 ≤ R.frames ∧ 8 + (3 + 11) + rm.locals ≤ R.locals) (hf : cells + mc ≤ R.cells ∧ slots + ms ≤ R.slots) (hS : va_S A0 H0 H locs) (hA : ∀ q, inB a q → A0 q) (hls : ls.size = nL) (hst : st0 = As.reverse ++ .ref (a 13) :: rest) (hr8 : (rest.map fun v => v.category).sum ≤ 8) (hdg : decode cc pc = .ok (.invokevirtual 91, 3)) (kk : ∀ (H1 : Heap) (locs1 : List Loc), Wd' s H1 → va_S A0 H0 H1 locs1 → H.size ≤ H1.size → (∀ q : Nat, q < H.size → ¬ inB a q → H1[q]? = H[q]?) → W p l e R s m args below meth c H1 locs1 (cells + mc) (slots + ms) Q (F0 m (pc + 3) ls (v.toList ++ rest))) : W p l e R s m args below meth c H locs cells slots Q (F0 m pc ls st0) :=
  kVw hC hM mov_B hm hB (rec_B hB) (good_V mw_285 mw_239 mw_240 mw_2 mw_241) hrm.1 hrm.2 ⟨rfl, by decide +kernel, by decide +kernel, by rw [hn]; decide +kernel⟩ hR hf hS hA hls hst hr8 hdg kk
theorem k1_X0_richest {v : Value} (hC : CallFix p m c cc nL s args wsL_law RX1) (hM : Rd l yX0_richest cX0_richest 3 (some .int) rm (BW D cI cQ a S) (.ref (a 13) :: As) v) (hB : BW D cI cQ a S s H) (hn : As.length = 0) (hrm : rm.cells = 0 ∧ rm.slots = 0) (hR : rm.frames + 1 ≤ R.frames ∧ 8 + (3 + 11) + rm.locals ≤ R.locals) (hf : cells ≤ R.cells ∧ slots ≤ R.slots) (hls : ls.size = nL) (hst : st0 = As.reverse ++ .ref (a 13) :: rest) (hr8 : (rest.map fun v => v.category).sum ≤ 8) (hdg : decode cc pc = .ok (.invokevirtual 94, 3)) (kk : W p l e R s m args below meth c H locs cells slots Q (F0 m (pc + 3) ls (v :: rest))) : W p l e R s m args below meth c H locs cells slots Q (F0 m pc ls st0) :=
  kV hC hM mov_B hB (rec_B hB) (good_V mw_286 mw_231 mw_232 mw_2 mw_233) hrm.1 hrm.2 ⟨rfl, by decide +kernel, by decide +kernel, by rw [hn]; decide +kernel⟩ hR hf hls hst hr8 hdg kk
theorem kx1_X0_richest {Wd' : State → Heap → Prop} {v : Option Value} {mc ms : Nat} (hC : CallFix p m c cc nL s args wsL_law RX1) (hM : Wr l yX0_richest cX0_richest 3 (some .int) rm (BW D cI cQ a S) Wd' (inB a) (.ref (a 13) :: As) v mc ms) (hm : Mov Wd') (hB : BW D cI cQ a S s H) (hn : As.length = 0) (hrm : rm.cells = mc ∧ rm.slots = ms) (hR : rm.frames + 1 ≤ R.frames ∧ 8 + (3 + 11) + rm.locals ≤ R.locals) (hf : cells + mc ≤ R.cells ∧ slots + ms ≤ R.slots) (hS : va_S A0 H0 H locs) (hA : ∀ q, inB a q → A0 q) (hls : ls.size = nL) (hst : st0 = As.reverse ++ .ref (a 13) :: rest) (hr8 : (rest.map fun v => v.category).sum ≤ 8) (hdg : decode cc pc = .ok (.invokevirtual 94, 3)) (kk : ∀ (H1 : Heap) (locs1 : List Loc), Wd' s H1 → va_S A0 H0 H1 locs1 → H.size ≤ H1.size → (∀ q : Nat, q < H.size → ¬ inB a q → H1[q]? = H[q]?) → W p l e R s m args below meth c H1 locs1 (cells + mc) (slots + ms) Q (F0 m (pc + 3) ls (v.toList ++ rest))) : W p l e R s m args below meth c H locs cells slots Q (F0 m pc ls st0) :=
  kVw hC hM mov_B hm hB (rec_B hB) (good_V mw_286 mw_231 mw_232 mw_2 mw_233) hrm.1 hrm.2 ⟨rfl, by decide +kernel, by decide +kernel, by rw [hn]; decide +kernel⟩ hR hf hS hA hls hst hr8 hdg kk
theorem k1_X0_inDebt {v : Value} (hC : CallFix p m c cc nL s args wsL_law RX1) (hM : Rd l yX0_inDebt cX0_inDebt 3 (some .int) rm (BW D cI cQ a S) (.ref (a 13) :: As) v) (hB : BW D cI cQ a S s H) (hn : As.length = 0) (hrm : rm.cells = 0 ∧ rm.slots = 0) (hR : rm.frames + 1 ≤ R.frames ∧ 8 + (3 + 11) + rm.locals ≤ R.locals) (hf : cells ≤ R.cells ∧ slots ≤ R.slots) (hls : ls.size = nL) (hst : st0 = As.reverse ++ .ref (a 13) :: rest) (hr8 : (rest.map fun v => v.category).sum ≤ 8) (hdg : decode cc pc = .ok (.invokevirtual 97, 3)) (kk : W p l e R s m args below meth c H locs cells slots Q (F0 m (pc + 3) ls (v :: rest))) : W p l e R s m args below meth c H locs cells slots Q (F0 m pc ls st0) :=
  kV hC hM mov_B hB (rec_B hB) (good_V mw_287 mw_243 mw_244 mw_2 mw_245) hrm.1 hrm.2 ⟨rfl, by decide +kernel, by decide +kernel, by rw [hn]; decide +kernel⟩ hR hf hls hst hr8 hdg kk
theorem kx1_X0_inDebt {Wd' : State → Heap → Prop} {v : Option Value} {mc ms : Nat} (hC : CallFix p m c cc nL s args wsL_law RX1) (hM : Wr l yX0_inDebt cX0_inDebt 3 (some .int) rm (BW D cI cQ a S) Wd' (inB a) (.ref (a 13) :: As) v mc ms) (hm : Mov Wd') (hB : BW D cI cQ a S s H) (hn : As.length = 0) (hrm : rm.cells = mc ∧ rm.slots = ms) (hR : rm.frames + 1 ≤ R.frames ∧ 8 + (3 + 11) + rm.locals ≤ R.locals) (hf : cells + mc ≤ R.cells ∧ slots + ms ≤ R.slots) (hS : va_S A0 H0 H locs) (hA : ∀ q, inB a q → A0 q) (hls : ls.size = nL) (hst : st0 = As.reverse ++ .ref (a 13) :: rest) (hr8 : (rest.map fun v => v.category).sum ≤ 8) (hdg : decode cc pc = .ok (.invokevirtual 97, 3)) (kk : ∀ (H1 : Heap) (locs1 : List Loc), Wd' s H1 → va_S A0 H0 H1 locs1 → H.size ≤ H1.size → (∀ q : Nat, q < H.size → ¬ inB a q → H1[q]? = H[q]?) → W p l e R s m args below meth c H1 locs1 (cells + mc) (slots + ms) Q (F0 m (pc + 3) ls (v.toList ++ rest))) : W p l e R s m args below meth c H locs cells slots Q (F0 m pc ls st0) :=
  kVw hC hM mov_B hm hB (rec_B hB) (good_V mw_287 mw_243 mw_244 mw_2 mw_245) hrm.1 hrm.2 ⟨rfl, by decide +kernel, by decide +kernel, by rw [hn]; decide +kernel⟩ hR hf hS hA hls hst hr8 hdg kk
theorem k1_X0_meanPrice {v : Value} (hC : CallFix p m c cc nL s args wsL_law RX1) (hM : Rd l yX0_meanPrice cX0_meanPrice 3 (some .double) rm (BW D cI cQ a S) (.ref (a 13) :: As) v) (hB : BW D cI cQ a S s H) (hn : As.length = 0) (hrm : rm.cells = 0 ∧ rm.slots = 0) (hR : rm.frames + 1 ≤ R.frames ∧ 8 + (3 + 11) + rm.locals ≤ R.locals) (hf : cells ≤ R.cells ∧ slots ≤ R.slots) (hls : ls.size = nL) (hst : st0 = As.reverse ++ .ref (a 13) :: rest) (hr8 : (rest.map fun v => v.category).sum ≤ 8) (hdg : decode cc pc = .ok (.invokevirtual 100, 3)) (kk : W p l e R s m args below meth c H locs cells slots Q (F0 m (pc + 3) ls (v :: rest))) : W p l e R s m args below meth c H locs cells slots Q (F0 m pc ls st0) :=
  kV hC hM mov_B hB (rec_B hB) (good_V mw_288 mw_289 mw_290 mw_2 mw_291) hrm.1 hrm.2 ⟨rfl, by decide +kernel, by decide +kernel, by rw [hn]; decide +kernel⟩ hR hf hls hst hr8 hdg kk
theorem kx1_X0_meanPrice {Wd' : State → Heap → Prop} {v : Option Value} {mc ms : Nat} (hC : CallFix p m c cc nL s args wsL_law RX1) (hM : Wr l yX0_meanPrice cX0_meanPrice 3 (some .double) rm (BW D cI cQ a S) Wd' (inB a) (.ref (a 13) :: As) v mc ms) (hm : Mov Wd') (hB : BW D cI cQ a S s H) (hn : As.length = 0) (hrm : rm.cells = mc ∧ rm.slots = ms) (hR : rm.frames + 1 ≤ R.frames ∧ 8 + (3 + 11) + rm.locals ≤ R.locals) (hf : cells + mc ≤ R.cells ∧ slots + ms ≤ R.slots) (hS : va_S A0 H0 H locs) (hA : ∀ q, inB a q → A0 q) (hls : ls.size = nL) (hst : st0 = As.reverse ++ .ref (a 13) :: rest) (hr8 : (rest.map fun v => v.category).sum ≤ 8) (hdg : decode cc pc = .ok (.invokevirtual 100, 3)) (kk : ∀ (H1 : Heap) (locs1 : List Loc), Wd' s H1 → va_S A0 H0 H1 locs1 → H.size ≤ H1.size → (∀ q : Nat, q < H.size → ¬ inB a q → H1[q]? = H[q]?) → W p l e R s m args below meth c H1 locs1 (cells + mc) (slots + ms) Q (F0 m (pc + 3) ls (v.toList ++ rest))) : W p l e R s m args below meth c H locs cells slots Q (F0 m pc ls st0) :=
  kVw hC hM mov_B hm hB (rec_B hB) (good_V mw_288 mw_289 mw_290 mw_2 mw_291) hrm.1 hrm.2 ⟨rfl, by decide +kernel, by decide +kernel, by rw [hn]; decide +kernel⟩ hR hf hS hA hls hst hr8 hdg kk
theorem k_J9_floorMod_7cf53 {v : Value} {Wd : State → Heap → Prop} (hC : CallFix p m c cc nL s args wsL_law RX0) (hM : Rd l yJ9_floorMod_7cf53 cJ9_floorMod_7cf53 3 (some .int) rm Wd As v) (hm : Mov Wd) (hB : Wd s H) (hn : As.length = 2) (hrm : rm.cells = 0 ∧ rm.slots = 0) (hR : rm.frames + 1 ≤ R.frames ∧ 8 + (3 + 11) + rm.locals ≤ R.locals) (hf : cells ≤ R.cells ∧ slots ≤ R.slots) (hls : ls.size = nL) (hst : st0 = As.reverse ++ rest) (hr8 : (rest.map fun v => v.category).sum ≤ 8) (hdg : decode cc pc = .ok (.invokestatic 56, 3)) (kk : W p l e R s m args below meth c H locs cells slots Q (F0 m (pc + 3) ls (v :: rest))) : W p l e R s m args below meth c H locs cells slots Q (F0 m pc ls st0) :=
  kS hC hM hm hB (good_S mw_68 mw_69 mw_70 mw_71) hrm.1 hrm.2 ⟨by decide +kernel, by decide +kernel, by rw [hn]; decide +kernel⟩ hR hf hls hst hr8 hdg kk
theorem k_L_max {x y : Int32} (hC : CallFix p m c cc nL s args wsL_law RL) (hls : ls.size = nL) (hR : 1 ≤ R.frames ∧ (rest.map fun v => v.category).sum + 13 ≤ R.locals) (hf : cells ≤ R.cells ∧ slots ≤ R.slots) (hdg : decode cc pc = .ok (.invokestatic 104, 3)) (kk : W p l e R s m args below meth c H locs cells slots Q (F0 m (pc + 3) ls (.int (mx x y) :: rest))) : W p l e R s m args below meth c H locs cells slots Q (F0 m pc ls (.int y :: .int x :: rest)) :=
  va_mmax hC.1 hC.2.1 (hC.2.2.1.trans hls.symm) hC.2.2.2.1 (hC.2.2.2.2 _ mw_6) (hC.2.2.2.2 _ mw_7) (hC.2.2.2.2 _ mw_8) (hC.2.2.2.2 _ mw_9) hR.1 hR.2 hf.1 hf.2 hdg kk
theorem k_L_min {x y : Int32} (hC : CallFix p m c cc nL s args wsL_law RL) (hls : ls.size = nL) (hR : 1 ≤ R.frames ∧ (rest.map fun v => v.category).sum + 13 ≤ R.locals) (hf : cells ≤ R.cells ∧ slots ≤ R.slots) (hdg : decode cc pc = .ok (.invokestatic 112, 3)) (kk : W p l e R s m args below meth c H locs cells slots Q (F0 m (pc + 3) ls (.int (mn x y) :: rest))) : W p l e R s m args below meth c H locs cells slots Q (F0 m pc ls (.int y :: .int x :: rest)) :=
  va_mmin hC.1 hC.2.1 (hC.2.2.1.trans hls.symm) hC.2.2.2.1 (hC.2.2.2.2 _ mw_10) (hC.2.2.2.2 _ mw_11) (hC.2.2.2.2 _ mw_8) (hC.2.2.2.2 _ mw_12) hR.1 hR.2 hf.1 hf.2 hdg kk
theorem k_X0_max {x y : Int32} (hC : CallFix p m c cc nL s args wsL_law RX0) (hls : ls.size = nL) (hR : 1 ≤ R.frames ∧ (rest.map fun v => v.category).sum + 13 ≤ R.locals) (hf : cells ≤ R.cells ∧ slots ≤ R.slots) (hdg : decode cc pc = .ok (.invokestatic 166, 3)) (kk : W p l e R s m args below meth c H locs cells slots Q (F0 m (pc + 3) ls (.int (mx x y) :: rest))) : W p l e R s m args below meth c H locs cells slots Q (F0 m pc ls (.int y :: .int x :: rest)) :=
  va_mmax hC.1 hC.2.1 (hC.2.2.1.trans hls.symm) hC.2.2.2.1 (hC.2.2.2.2 _ mw_122) (hC.2.2.2.2 _ mw_7) (hC.2.2.2.2 _ mw_8) (hC.2.2.2.2 _ mw_9) hR.1 hR.2 hf.1 hf.2 hdg kk
end BR
end
section
/-! ===== pure words: what the methods answer ===== -/
def sma (a0 : Int32) (f : Nat → Int32) : Nat → Int32
  | 0 => a0
  | n + 1 => sma a0 f n + f n
def amx (f : Nat → Int32) : Nat → Option Nat
  | 0 => none
  | n + 1 => match amx f n with
    | none => some n
    | some b => if f n ≤ f b then some b else some n
def amn (f : Nat → Int32) : Nat → Option Nat
  | 0 => none
  | n + 1 => match amn f n with
    | none => some n
    | some b => if f b ≤ f n then some b else some n
def ab (f : Nat → Int32) : Nat → Option Nat
  | 0 => none
  | n + 1 => if f n ≤ 0 then ab f n else match ab f n with
    | none => some n
    | some b => if f n ≤ f b then some b else some n
def oI : Option Nat → Int32
  | none => -1
  | some k => nI k
def bsl (y : Nat → Int32) : Nat → Nat
  | 0 => 0
  | n + 1 => if y (n + 1) ≤ y (bsl y n) then bsl y n else n + 1
def dbl (g : Nat → Int32) : Nat → Nat → Int32
  | 0, _ => -1
  | n + 1, k => if 0 ≤ g k then dbl g n (k + 1) else nI k
def lfo (f : Int64 → Nat → Int64) (d : Int64) : Nat → Int64
  | 0 => d
  | n + 1 => f (lfo f d n) n
def rmi (x y : Int32) : Int32 := x - x / y * y
theorem amx_lt {f : Nat → Int32} {b : Nat} : ∀ n : Nat, amx f n = some b → b < n
  | 0, h => by cases h
  | n + 1, h => by
    unfold amx at h
    cases e : amx f n with
    | none => rw [e] at h; cases h; exact Nat.lt_succ_self _
    | some q =>
      rw [e] at h
      have := amx_lt (f := f) (b := q) n e
      dsimp only at h
      split at h <;> cases h <;> omega
theorem amn_lt {f : Nat → Int32} {b : Nat} : ∀ n : Nat, amn f n = some b → b < n
  | 0, h => by cases h
  | n + 1, h => by
    unfold amn at h
    cases e : amn f n with
    | none => rw [e] at h; cases h; exact Nat.lt_succ_self _
    | some q =>
      rw [e] at h
      have := amn_lt (f := f) (b := q) n e
      dsimp only at h
      split at h <;> cases h <;> omega
theorem ab_lt {f : Nat → Int32} {b : Nat} : ∀ n : Nat, ab f n = some b → b < n
  | 0, h => by cases h
  | n + 1, h => by
    unfold ab at h
    split at h
    · have := ab_lt (f := f) (b := b) n h
      omega
    · cases e : ab f n with
      | none => rw [e] at h; cases h; exact Nat.lt_succ_self _
      | some q =>
        rw [e] at h
        have := ab_lt (f := f) (b := q) n e
        dsimp only at h
        split at h <;> cases h <;> omega
theorem bsl_le (y : Nat → Int32) : ∀ n : Nat, bsl y n ≤ n
  | 0 => Nat.le_refl 0
  | n + 1 => by
    have := bsl_le y n
    unfold bsl
    split <;> omega
theorem loopU {P : Nat → Prop} (n : Nat) (hend : P n) (hstep : ∀ i : Nat, i < n → P (i + 1) → P i) (i : Nat) (hi : i ≤ n) : P i := by
  have key : ∀ d i : Nat, i + d = n → P i := by
    intro d
    induction d with
    | zero => intro i h; rw [show i = n by omega]; exact hend
    | succ d ih => intro i h; exact hstep i (by omega) (ih (i + 1) (by omega))
  exact key (n - i) i (by omega)
theorem amx_none {f : Nat → Int32} {i : Nat} (h : amx f i = none) : amx f (i + 1) = some i := by unfold amx; rw [h]
theorem amx_keep {f : Nat → Int32} {i b : Nat} (h : amx f i = some b) (c : f i ≤ f b) : amx f (i + 1) = some b := by unfold amx; rw [h]; exact if_pos c
theorem amx_new {f : Nat → Int32} {i b : Nat} (h : amx f i = some b) (c : ¬ f i ≤ f b) : amx f (i + 1) = some i := by unfold amx; rw [h]; exact if_neg c
theorem amn_none {f : Nat → Int32} {i : Nat} (h : amn f i = none) : amn f (i + 1) = some i := by unfold amn; rw [h]
theorem amn_keep {f : Nat → Int32} {i b : Nat} (h : amn f i = some b) (c : f b ≤ f i) : amn f (i + 1) = some b := by unfold amn; rw [h]; exact if_pos c
theorem amn_new {f : Nat → Int32} {i b : Nat} (h : amn f i = some b) (c : ¬ f b ≤ f i) : amn f (i + 1) = some i := by unfold amn; rw [h]; exact if_neg c
theorem ab_skip {f : Nat → Int32} {i : Nat} (c : f i ≤ 0) : ab f (i + 1) = ab f i := by
  have e : ab f (i + 1) = if f i ≤ 0 then ab f i else match ab f i with | none => some i | some b => if f i ≤ f b then some b else some i := rfl
  rw [e, if_pos c]
theorem ab_none {f : Nat → Int32} {i : Nat} (c : ¬ f i ≤ 0) (h : ab f i = none) : ab f (i + 1) = some i := by
  have e : ab f (i + 1) = if f i ≤ 0 then ab f i else match ab f i with | none => some i | some b => if f i ≤ f b then some b else some i := rfl
  rw [e, if_neg c, h]
theorem ab_keep {f : Nat → Int32} {i b : Nat} (c : ¬ f i ≤ 0) (h : ab f i = some b) (c2 : f i ≤ f b) : ab f (i + 1) = some b := by
  have e : ab f (i + 1) = if f i ≤ 0 then ab f i else match ab f i with | none => some i | some b => if f i ≤ f b then some b else some i := rfl
  rw [e, if_neg c, h]
  exact if_pos c2
theorem ab_new {f : Nat → Int32} {i b : Nat} (c : ¬ f i ≤ 0) (h : ab f i = some b) (c2 : ¬ f i ≤ f b) : ab f (i + 1) = some i := by
  have e : ab f (i + 1) = if f i ≤ 0 then ab f i else match ab f i with | none => some i | some b => if f i ≤ f b then some b else some i := rfl
  rw [e, if_neg c, h]
  exact if_neg c2
theorem dbl_hit {g : Nat → Int32} {i : Nat} (hi : ¬ 0 ≤ g i) : ∀ n k : Nat, k ≤ i → i < k + n → (∀ j, k ≤ j → j < i → 0 ≤ g j) → dbl g n k = nI i
  | 0, k, h1, h2, _ => absurd h2 (by omega)
  | n + 1, k, h1, h2, h3 => by
    unfold dbl
    by_cases e : k = i
    · subst e
      exact if_neg hi
    · rw [if_pos (h3 k (Nat.le_refl k) (by omega))]
      exact dbl_hit hi n (k + 1) (by omega) (by omega) (fun j h4 h5 => h3 j (by omega) h5)
theorem dbl_miss {g : Nat → Int32} : ∀ n k : Nat, (∀ j, k ≤ j → j < k + n → 0 ≤ g j) → dbl g n k = -1
  | 0, k, _ => rfl
  | n + 1, k, h => by
    unfold dbl
    rw [if_pos (h k (Nat.le_refl k) (by omega))]
    exact dbl_miss n (k + 1) (fun j h1 h2 => h j (by omega) (by omega))
theorem nI_m1 {n : Nat} (h : n < 2 ^ 31) : ¬ nI n = -1 := by
  intro e
  have h1 := nI_toInt h
  rw [e] at h1
  have h2 : (-1 : Int32).toInt = -1 := by decide
  omega
/-- BellHush: how many towers and traders -/
def BI (S : bS) (T R : Nat) : Prop := S 6 1 = nI T ∧ S 6 2 = nI R ∧ T ≤ 8 ∧ R ≤ 6
def pr (x y z : Int32) : Int32 := mx 0 (x * y - 2 * z)
def bDv (S : bS) (R t : Nat) : Int32 := sma 0 (fun r => mx 0 (-(S (7 + r) t))) R
def bPr (S : bS) (R t : Nat) : Int32 := pr (S 2 t) (S 0 t) (bDv S R t)
def bCw (S : bS) (t : Nat) (dv : Int32) : Int32 := pr (S 2 t + S 3 t - 1) (S 0 t) dv
def bCl (S : bS) (R t : Nat) : Int32 := bCw S t (bDv S R t)
def bRi (S : bS) (R t : Nat) : Int32 := bCl S R t - bPr S R t
def bPb (S : bS) (R t k : Nat) : Int32 := if 0 ≤ nI k - S 3 t then pr (if 2 ≤ S 1 t then rmi (nI k - S 3 t) (S 1 t) else 0) (S 0 t) 0 else pr (S 2 t + nI k) (S 0 t) (bDv S R t)
def bOp (S : bS) (R t : Nat) : Int32 := sma 0 (fun r => S (7 + r) t) R
def bSh (S : bS) (T r : Nat) : Int32 := sma 0 (fun t => if 0 ≤ S (7 + r) t then 0 else 1) T
def bWt (S : bS) (R r k t : Nat) : Int32 := (if nI k < S 3 t then bPb S R t k else bCl S R t) * S (7 + r) t
def bWb (S : bS) (T R r k : Nat) : Int32 := sma (S 5 r) (bWt S R r k) T
def bCt (S : bS) (R r k t : Nat) : Int32 := if S 3 t = nI k then bCl S R t * S (7 + r) t else 0
def bCi (S : bS) (T R r k : Nat) : Int32 := sma 0 (bCt S R r k) T
def bYi (S : bS) (R r t k : Nat) : Int32 := nI k * bPr S R t + (S (7 + r) t - nI k) * bCw S t (bDv S R t - mx 0 (-(S (7 + r) t)) + mx 0 (-(S (7 + r) t - nI k)))
def bDe (S : bS) (T R : Nat) : Option Nat := amx (bPr S R) T
def bNx (S : bS) (T : Nat) : Option Nat := amn (S 3) T
def bRc (S : bS) (T R : Nat) : Option Nat := amx (fun r => bWb S T R r 0) R
def bOw (S : bS) (R : Nat) : Int32 := sma 0 (fun r => if 0 ≤ S 5 r then 0 else 1) R
def bBu (S : bS) (T R : Nat) : Option Nat := ab (bRi S R) T
def bDb (S : bS) (T R r : Nat) : Int32 := dbl (fun k => sma (S 5 r) (bCi S T R r) (k + 1)) 101 0
def mi (d : Int64) (x : Int32) : Int64 := d * 31 + x.toInt64
def bMt (S : bS) (R : Nat) (d : Int64) (t : Nat) : Int64 := mi (mi (mi (mi (mi (mi (mi d (S 2 t)) (bDv S R t)) (bPr S R t)) (S 3 t)) (S 4 t)) (bOp S R t)) (bCl S R t)
def bMr (S : bS) (T R : Nat) (d : Int64) (r : Nat) : Int64 := lfo (fun d t => mi d (S (7 + r) t)) (mi (mi (mi d (S 5 r)) (bWb S T R r 0)) (bSh S T r)) T
def bDg (S : bS) (T R : Nat) : Int64 := lfo (bMr S T R) (lfo (bMt S R) (mi (mi (mi (mi (mi (mi (mi (mi 2081 (S 6 0)) (nI T)) (nI R)) (oI (bDe S T R))) (oI (bNx S T))) (oI (bRc S T R))) (bOw S R)) (oI (bBu S T R))) T) R
/-! BellHush's changes -/
def flm (x y : Int32) : Int32 := if 0 ≤ x ^^^ y then rmi x y else if rmi x y = 0 then rmi x y else rmi x y + y
def bSt1 (S : bS) (p : Int32) (t : Nat) : Nat → bS
  | 0 => S
  | i + 1 => up2 (up2 (bSt1 S p t i) 5 i (bSt1 S p t i 5 i + p * bSt1 S p t i (7 + i) t)) (7 + i) t 0
def bStr (S : bS) (R t : Nat) : bS := up2 (up2 (up2 (bSt1 S (bPr S R t) t R) 2 t 0) 4 t (bSt1 S (bPr S R t) t R 4 t + 1)) 3 t (bSt1 S (bPr S R t) t R 1 t)
def bGo (S : bS) (R : Nat) : Nat → bS
  | 0 => up2 S 6 0 (S 6 0 + 1)
  | t + 1 => if 1 < bGo S R t 3 t then up2 (up2 (bGo S R t) 3 t (bGo S R t 3 t - 1)) 2 t (bGo S R t 2 t + 1) else bStr (bGo S R t) R t
def bGc (S : bS) (R : Nat) : Nat → Int32
  | 0 => 0
  | t + 1 => if 1 < bGo S R t 3 t then bGc S R t else bGc S R t + 1
def bPa (S : bS) (T R : Nat) : Nat → bS
  | 0 => S
  | i + 1 => bGo (bPa S T R i) R T
def bPc (S : bS) (T R : Nat) : Nat → Int32
  | 0 => 0
  | i + 1 => bPc S T R i + bGc (bPa S T R i) R T
theorem bSt1_row (S : bS) (p : Int32) (t : Nat) {k : Nat} (j : Nat) (h5 : k ≠ 5) (h7 : k < 7) : ∀ i : Nat, bSt1 S p t i k j = S k j
  | 0 => rfl
  | i + 1 => by
    unfold bSt1
    rw [up2_ne _ _ (Or.inl (by omega)), up2_ne _ _ (Or.inl (by omega))]
    exact bSt1_row S p t j h5 h7 i
theorem bStr_6 (S : bS) (R t j : Nat) : bStr S R t 6 j = S 6 j := by
  unfold bStr
  rw [up2_ne _ _ (Or.inl (by omega)), up2_ne _ _ (Or.inl (by omega)), up2_ne _ _ (Or.inl (by omega))]
  exact bSt1_row S _ t j (by decide) (by decide) R
theorem bGo_keep {S : bS} {R t : Nat} (c : 1 < bGo S R t 3 t) : bGo S R (t + 1) = up2 (up2 (bGo S R t) 3 t (bGo S R t 3 t - 1)) 2 t (bGo S R t 2 t + 1) := if_pos c
theorem bGo_str {S : bS} {R t : Nat} (c : ¬ 1 < bGo S R t 3 t) : bGo S R (t + 1) = bStr (bGo S R t) R t := if_neg c
theorem bGc_keep {S : bS} {R t : Nat} (c : 1 < bGo S R t 3 t) : bGc S R (t + 1) = bGc S R t := if_pos c
theorem bGc_str {S : bS} {R t : Nat} (c : ¬ 1 < bGo S R t 3 t) : bGc S R (t + 1) = bGc S R t + 1 := if_neg c
theorem bGo_6 {S : bS} {R j : Nat} (hj : j ≠ 0) : ∀ t : Nat, bGo S R t 6 j = S 6 j
  | 0 => up2_ne _ _ (Or.inr hj)
  | t + 1 => by
    by_cases c : 1 < bGo S R t 3 t
    · rw [bGo_keep c, up2_ne _ _ (Or.inl (by omega)), up2_ne _ _ (Or.inl (by omega))]
      exact bGo_6 hj t
    · rw [bGo_str c, bStr_6]
      exact bGo_6 hj t
theorem BI_go {S : bS} {T R t : Nat} (h : BI S T R) : BI (bGo S R t) T R := ⟨(bGo_6 (by decide) t).trans h.1, (bGo_6 (by decide) t).trans h.2.1, h.2.2⟩
theorem BI_pa {S : bS} {T R : Nat} (h : BI S T R) : ∀ i : Nat, BI (bPa S T R i) T R
  | 0 => h
  | i + 1 => BI_go (BI_pa h i)
end
section
set_option maxHeartbeats 4000000 in
set_option maxRecDepth 100000 in
theorem c_X0_price (l : Launch) (x y z : Int32)  : Rd l yX0_price cX0_price 3 (some .int) ({ frames := 1, cells := 0, slots := 0, locals := 24 } : Room) (fun _ _ => True) [.int (x), .int (y), .int (z)] (.int (pr x y z)) := by
  refine Rd.of (by decide) (Nat.le_of_ble_eq_true rfl) ?_
  intro p e s m args below meth c ls hC hr hlocks hB hl
  have hx := hC.1
  have hb := hC.2.1
  have hl : lv_has ls 3 [(0, .int (x)), (1, .int (y)), (2, .int (z))] := hl
  refine lv_iconst (v := 0) hx hb dX0_price_0 (by decide) ?_
  refine lv_iload_n hx hb dX0_price_1 rfl (lv_at hl 0 rfl) ?_
  refine lv_iload_n hx hb dX0_price_2 rfl (lv_at hl 1 rfl) ?_
  refine lv_imul hx hb dX0_price_3 ?_
  refine lv_iconst (v := 2) hx hb dX0_price_4 (by decide) ?_
  refine lv_iload_n hx hb dX0_price_5 rfl (lv_at hl 2 rfl) ?_
  refine lv_imul hx hb dX0_price_6 ?_
  refine lv_isub hx hb dX0_price_7 ?_
  refine k_X0_max hC hl.1 ⟨Nat.le_of_ble_eq_true rfl, Nat.le_of_ble_eq_true rfl⟩ ⟨Nat.le_of_ble_eq_true rfl, Nat.le_of_ble_eq_true rfl⟩ dX0_price_8 ?_
  exact rd_i hC hr hlocks dX0_price_11 (by rfl)
set_option maxHeartbeats 4000000 in
set_option maxRecDepth 100000 in
theorem c_X0_dovesFor (l : Launch) (x : Int32)  : Rd l yX0_dovesFor cX0_dovesFor 1 (some .int) ({ frames := 1, cells := 0, slots := 0, locals := 24 } : Room) (fun _ _ => True) [.int (x)] (.int (mx 0 (-x))) := by
  refine Rd.of (by decide) (Nat.le_of_ble_eq_true rfl) ?_
  intro p e s m args below meth c ls hC hr hlocks hB hl
  have hx := hC.1
  have hb := hC.2.1
  have hl : lv_has ls 1 [(0, .int (x))] := hl
  refine lv_iconst (v := 0) hx hb dX0_dovesFor_0 (by decide) ?_
  refine lv_iload_n hx hb dX0_dovesFor_1 rfl (lv_at hl 0 rfl) ?_
  refine lv_ineg hx hb dX0_dovesFor_2 ?_
  refine k_X0_max hC hl.1 ⟨Nat.le_of_ble_eq_true rfl, Nat.le_of_ble_eq_true rfl⟩ ⟨Nat.le_of_ble_eq_true rfl, Nat.le_of_ble_eq_true rfl⟩ dX0_dovesFor_3 ?_
  exact rd_i hC hr hlocks dX0_dovesFor_6 (by rfl)
set_option maxHeartbeats 4000000 in
set_option maxRecDepth 100000 in
theorem c_X0_dovesNow (l : Launch) (D : va_G) (cI cQ : ClassId) (a : Nat → Nat) (S : bS) {T R : Nat} {t : Nat} (hI : BI S T R) (ht : t < T) : Rd l yX0_dovesNow cX0_dovesNow 4 (some .int) ({ frames := 2, cells := 0, slots := 0, locals := 44 } : Room) (BW D cI cQ a S) [.ref (a 13), .int (nI t)] (.int (bDv S R t)) := by
  refine Rd.of (by decide) (Nat.le_of_ble_eq_true rfl) ?_
  intro p e s m args below meth c ls hC hr hlocks hB hl
  have hx := hC.1
  have hb := hC.2.1
  obtain ⟨hT, hR, hT8, hR6⟩ := id hI
  have hl : lv_has ls 4 [(0, .ref (a 13)), (1, .int (nI t))] := hl
  refine lv_iconst (v := 0) hx hb dX0_dovesNow_0 (by decide) ?_
  refine lv_istore_n (lv' := [(2, .int (0)), (0, .ref (a 13)), (1, .int (nI t))]) hx hb dX0_dovesNow_1 rfl hl (by decide) rfl (fun ls hl => ?_)
  refine lv_iconst (v := 0) hx hb dX0_dovesNow_2 (by decide) ?_
  refine lv_istore_n (lv' := [(3, .int (0)), (2, .int (0)), (0, .ref (a 13)), (1, .int (nI t))]) hx hb dX0_dovesNow_3 rfl hl (by decide) rfl (fun ls hl => ?_)
  refine loopU (P := fun i => ∀ ls : Array Slot, lv_has ls 4 [(3, .int (nI i)), (2, .int (bDv S i t)), (0, .ref (a 13)), (1, .int (nI t))] → W p l e ({ frames := 2, cells := 0, slots := 0, locals := 44 } : Room) s m args below meth c s.heap [] 0 0 (MQ below (k2_QcV (.int (bDv S R t))) args s 0 0 (fun _ => False)) (F0 m 4 ls [])) (R) ?_ ?_ 0 (by omega) ls (by first | exact lv_sub hl [0, 1, 2, 3] rfl | (simpa using lv_sub hl [0, 1, 2, 3] rfl))
  · intro ls hl
    refine lv_iload_n hx hb dX0_dovesNow_4 rfl (lv_at hl 0 rfl) ?_
    refine lv_aload_n hx hb dX0_dovesNow_5 rfl (lv_at hl 2 rfl) ?_
    refine gB_traderCount hC hB hR dX0_dovesNow_6 ?_
    refine jge (i := R) (j := R) (tgt := 32) hC dX0_dovesNow_9 (by decide) rfl rfl (by omega) (by omega) (fun c1 => ?_) (fun c1 => ?_)
    · refine lv_iload_n hx hb dX0_dovesNow_32 rfl (lv_at hl 1 rfl) ?_
      exact rd_i hC hr hlocks dX0_dovesNow_33 (by rfl)
    · exfalso; omega
  · intro i hi ih ls hl
    refine lv_iload_n hx hb dX0_dovesNow_4 rfl (lv_at hl 0 rfl) ?_
    refine lv_aload_n hx hb dX0_dovesNow_5 rfl (lv_at hl 2 rfl) ?_
    refine gB_traderCount hC hB hR dX0_dovesNow_6 ?_
    refine jge (i := i) (j := R) (tgt := 32) hC dX0_dovesNow_9 (by decide) rfl rfl (by omega) (by omega) (fun c2 => ?_) (fun c2 => ?_)
    · exfalso; omega
    · refine lv_iload_n hx hb dX0_dovesNow_12 rfl (lv_at hl 1 rfl) ?_
      refine lv_aload_n hx hb dX0_dovesNow_13 rfl (lv_at hl 2 rfl) ?_
      refine gB_held hC hB dX0_dovesNow_14 ?_
      refine lv_iload_n hx hb dX0_dovesNow_17 rfl (lv_at hl 0 rfl) ?_
      refine lB_row (i) hC hB rfl (by omega) dX0_dovesNow_18 ?_
      refine lv_iload_n hx hb dX0_dovesNow_19 rfl (lv_at hl 3 rfl) ?_
      refine lB_held (i) (t) hC hB (by omega) rfl (by omega) rfl dX0_dovesNow_20 ?_
      refine k_X0_dovesFor hC (c_X0_dovesFor l (S (7 + i) t)) mov_T trivial rfl ⟨rfl, rfl⟩ ⟨Nat.le_of_ble_eq_true rfl, Nat.le_of_ble_eq_true rfl⟩ ⟨Nat.zero_le _, Nat.zero_le _⟩ hl.1 rfl (Nat.le_of_ble_eq_true rfl) dX0_dovesNow_21 ?_
      refine lv_iadd hx hb dX0_dovesNow_24 ?_
      refine lv_istore_n (lv' := [(2, .int ((bDv S i t) + (mx 0 (-(S (7 + i) t))))), (3, .int (nI i)), (0, .ref (a 13)), (1, .int (nI t))]) hx hb dX0_dovesNow_25 rfl hl (by decide) rfl (fun ls hl => ?_)
      refine lv_iinc (v := nI (i + 1)) (lv' := [(3, .int (nI (i + 1))), (2, .int ((bDv S i t) + (mx 0 (-(S (7 + i) t))))), (0, .ref (a 13)), (1, .int (nI t))]) hx hb dX0_dovesNow_26 hl (k := 1) rfl (ninc i) (by decide) rfl (fun ls hl => ?_)
      refine lv_goto (tgt := 4) hx hb dX0_dovesNow_29 (by decide) ?_
      exact ih ls (lv_sub hl [0, 1, 2, 3] rfl)
set_option maxHeartbeats 4000000 in
set_option maxRecDepth 100000 in
theorem c_X0_priceNow (l : Launch) (D : va_G) (cI cQ : ClassId) (a : Nat → Nat) (S : bS) {T R : Nat} {t : Nat} (hI : BI S T R) (ht : t < T) : Rd l yX0_priceNow cX0_priceNow 2 (some .int) ({ frames := 3, cells := 0, slots := 0, locals := 67 } : Room) (BW D cI cQ a S) [.ref (a 13), .int (nI t)] (.int (bPr S R t)) := by
  refine Rd.of (by decide) (Nat.le_of_ble_eq_true rfl) ?_
  intro p e s m args below meth c ls hC hr hlocks hB hl
  have hx := hC.1
  have hb := hC.2.1
  obtain ⟨hT, hR, hT8, hR6⟩ := id hI
  have hl : lv_has ls 2 [(0, .ref (a 13)), (1, .int (nI t))] := hl
  refine lv_aload_n hx hb dX0_priceNow_0 rfl (lv_at hl 0 rfl) ?_
  refine gB_silence hC hB dX0_priceNow_1 ?_
  refine lv_iload_n hx hb dX0_priceNow_4 rfl (lv_at hl 1 rfl) ?_
  refine lB_silence (t) hC hB rfl (by omega) rfl dX0_priceNow_5 ?_
  refine lv_aload_n hx hb dX0_priceNow_6 rfl (lv_at hl 0 rfl) ?_
  refine gB_loudness hC hB dX0_priceNow_7 ?_
  refine lv_iload_n hx hb dX0_priceNow_10 rfl (lv_at hl 1 rfl) ?_
  refine lB_loudness (t) hC hB rfl (by omega) rfl dX0_priceNow_11 ?_
  refine lv_aload_n hx hb dX0_priceNow_12 rfl (lv_at hl 0 rfl) ?_
  refine lv_iload_n hx hb dX0_priceNow_13 rfl (lv_at hl 1 rfl) ?_
  refine k_X0_dovesNow hC (c_X0_dovesNow l D cI cQ a S hI (t := t) (by omega)) hB rfl ⟨rfl, rfl⟩ ⟨Nat.le_of_ble_eq_true rfl, Nat.le_of_ble_eq_true rfl⟩ ⟨Nat.zero_le _, Nat.zero_le _⟩ hl.1 rfl (Nat.le_of_ble_eq_true rfl) dX0_priceNow_14 ?_
  refine k_X0_price hC (c_X0_price l (S 2 t) (S 0 t) (bDv S R t)) mov_T trivial rfl ⟨rfl, rfl⟩ ⟨Nat.le_of_ble_eq_true rfl, Nat.le_of_ble_eq_true rfl⟩ ⟨Nat.zero_le _, Nat.zero_le _⟩ hl.1 rfl (Nat.le_of_ble_eq_true rfl) dX0_priceNow_17 ?_
  exact rd_i hC hr hlocks dX0_priceNow_20 (by rfl)
set_option maxHeartbeats 4000000 in
set_option maxRecDepth 100000 in
theorem c_X0_closingWith (l : Launch) (D : va_G) (cI cQ : ClassId) (a : Nat → Nat) (S : bS) {T R : Nat} {t : Nat} (dv : Int32) (hI : BI S T R) (ht : t < T) : Rd l yX0_closingWith cX0_closingWith 3 (some .int) ({ frames := 2, cells := 0, slots := 0, locals := 46 } : Room) (BW D cI cQ a S) [.ref (a 13), .int (nI t), .int (dv)] (.int (bCw S t dv)) := by
  refine Rd.of (by decide) (Nat.le_of_ble_eq_true rfl) ?_
  intro p e s m args below meth c ls hC hr hlocks hB hl
  have hx := hC.1
  have hb := hC.2.1
  obtain ⟨hT, hR, hT8, hR6⟩ := id hI
  have hl : lv_has ls 3 [(0, .ref (a 13)), (1, .int (nI t)), (2, .int (dv))] := hl
  refine lv_aload_n hx hb dX0_closingWith_0 rfl (lv_at hl 0 rfl) ?_
  refine gB_silence hC hB dX0_closingWith_1 ?_
  refine lv_iload_n hx hb dX0_closingWith_4 rfl (lv_at hl 1 rfl) ?_
  refine lB_silence (t) hC hB rfl (by omega) rfl dX0_closingWith_5 ?_
  refine lv_aload_n hx hb dX0_closingWith_6 rfl (lv_at hl 0 rfl) ?_
  refine gB_untilStroke hC hB dX0_closingWith_7 ?_
  refine lv_iload_n hx hb dX0_closingWith_10 rfl (lv_at hl 1 rfl) ?_
  refine lB_untilStroke (t) hC hB rfl (by omega) rfl dX0_closingWith_11 ?_
  refine lv_iadd hx hb dX0_closingWith_12 ?_
  refine lv_iconst (v := 1) hx hb dX0_closingWith_13 (by decide) ?_
  refine lv_isub hx hb dX0_closingWith_14 ?_
  refine lv_aload_n hx hb dX0_closingWith_15 rfl (lv_at hl 0 rfl) ?_
  refine gB_loudness hC hB dX0_closingWith_16 ?_
  refine lv_iload_n hx hb dX0_closingWith_19 rfl (lv_at hl 1 rfl) ?_
  refine lB_loudness (t) hC hB rfl (by omega) rfl dX0_closingWith_20 ?_
  refine lv_iload_n hx hb dX0_closingWith_21 rfl (lv_at hl 2 rfl) ?_
  refine k_X0_price hC (c_X0_price l (((S 2 t) + (S 3 t)) - 1) (S 0 t) (dv)) mov_T trivial rfl ⟨rfl, rfl⟩ ⟨Nat.le_of_ble_eq_true rfl, Nat.le_of_ble_eq_true rfl⟩ ⟨Nat.zero_le _, Nat.zero_le _⟩ hl.1 rfl (Nat.le_of_ble_eq_true rfl) dX0_closingWith_22 ?_
  exact rd_i hC hr hlocks dX0_closingWith_25 (by rfl)
set_option maxHeartbeats 4000000 in
set_option maxRecDepth 100000 in
theorem c_X0_closing (l : Launch) (D : va_G) (cI cQ : ClassId) (a : Nat → Nat) (S : bS) {T R : Nat} {t : Nat} (hI : BI S T R) (ht : t < T) : Rd l yX0_closing cX0_closing 2 (some .int) ({ frames := 3, cells := 0, slots := 0, locals := 68 } : Room) (BW D cI cQ a S) [.ref (a 13), .int (nI t)] (.int (bCl S R t)) := by
  refine Rd.of (by decide) (Nat.le_of_ble_eq_true rfl) ?_
  intro p e s m args below meth c ls hC hr hlocks hB hl
  have hx := hC.1
  have hb := hC.2.1
  obtain ⟨hT, hR, hT8, hR6⟩ := id hI
  have hl : lv_has ls 2 [(0, .ref (a 13)), (1, .int (nI t))] := hl
  refine lv_aload_n hx hb dX0_closing_0 rfl (lv_at hl 0 rfl) ?_
  refine lv_iload_n hx hb dX0_closing_1 rfl (lv_at hl 1 rfl) ?_
  refine lv_aload_n hx hb dX0_closing_2 rfl (lv_at hl 0 rfl) ?_
  refine lv_iload_n hx hb dX0_closing_3 rfl (lv_at hl 1 rfl) ?_
  refine k_X0_dovesNow hC (c_X0_dovesNow l D cI cQ a S hI (t := t) (by omega)) hB rfl ⟨rfl, rfl⟩ ⟨Nat.le_of_ble_eq_true rfl, Nat.le_of_ble_eq_true rfl⟩ ⟨Nat.zero_le _, Nat.zero_le _⟩ hl.1 rfl (Nat.le_of_ble_eq_true rfl) dX0_closing_4 ?_
  refine k_X0_closingWith hC (c_X0_closingWith l D cI cQ a S (t := t) (bDv S R t) hI (by omega)) hB rfl ⟨rfl, rfl⟩ ⟨Nat.le_of_ble_eq_true rfl, Nat.le_of_ble_eq_true rfl⟩ ⟨Nat.zero_le _, Nat.zero_le _⟩ hl.1 rfl (Nat.le_of_ble_eq_true rfl) dX0_closing_7 ?_
  exact rd_i hC hr hlocks dX0_closing_10 (by rfl)
set_option maxHeartbeats 4000000 in
set_option maxRecDepth 100000 in
theorem c_X0_riseUntilStroke (l : Launch) (D : va_G) (cI cQ : ClassId) (a : Nat → Nat) (S : bS) {T R : Nat} {t : Nat} (hI : BI S T R) (ht : t < T) : Rd l yX0_riseUntilStroke cX0_riseUntilStroke 2 (some .int) ({ frames := 4, cells := 0, slots := 0, locals := 89 } : Room) (BW D cI cQ a S) [.ref (a 13), .int (nI t)] (.int (bRi S R t)) := by
  refine Rd.of (by decide) (Nat.le_of_ble_eq_true rfl) ?_
  intro p e s m args below meth c ls hC hr hlocks hB hl
  have hx := hC.1
  have hb := hC.2.1
  obtain ⟨hT, hR, hT8, hR6⟩ := id hI
  have hl : lv_has ls 2 [(0, .ref (a 13)), (1, .int (nI t))] := hl
  refine lv_aload_n hx hb dX0_riseUntilStroke_0 rfl (lv_at hl 0 rfl) ?_
  refine lv_iload_n hx hb dX0_riseUntilStroke_1 rfl (lv_at hl 1 rfl) ?_
  refine k_X0_closing hC (c_X0_closing l D cI cQ a S hI (t := t) (by omega)) hB rfl ⟨rfl, rfl⟩ ⟨Nat.le_of_ble_eq_true rfl, Nat.le_of_ble_eq_true rfl⟩ ⟨Nat.zero_le _, Nat.zero_le _⟩ hl.1 rfl (Nat.le_of_ble_eq_true rfl) dX0_riseUntilStroke_2 ?_
  refine lv_aload_n hx hb dX0_riseUntilStroke_5 rfl (lv_at hl 0 rfl) ?_
  refine lv_iload_n hx hb dX0_riseUntilStroke_6 rfl (lv_at hl 1 rfl) ?_
  refine k_X0_priceNow hC (c_X0_priceNow l D cI cQ a S hI (t := t) (by omega)) hB rfl ⟨rfl, rfl⟩ ⟨Nat.le_of_ble_eq_true rfl, Nat.le_of_ble_eq_true rfl⟩ ⟨Nat.zero_le _, Nat.zero_le _⟩ hl.1 rfl (Nat.le_of_ble_eq_true rfl) dX0_riseUntilStroke_7 ?_
  refine lv_isub hx hb dX0_riseUntilStroke_10 ?_
  exact rd_i hC hr hlocks dX0_riseUntilStroke_11 (by rfl)
set_option maxHeartbeats 4000000 in
set_option maxRecDepth 100000 in
theorem c_X0_priceBehind (l : Launch) (D : va_G) (cI cQ : ClassId) (a : Nat → Nat) (S : bS) {T R : Nat} {t k : Nat} (hI : BI S T R) (ht : t < T) : Rd l yX0_priceBehind cX0_priceBehind 6 (some .int) ({ frames := 3, cells := 0, slots := 0, locals := 67 } : Room) (BW D cI cQ a S) [.ref (a 13), .int (nI t), .int (nI k)] (.int (bPb S R t k)) := by
  refine Rd.of (by decide) (Nat.le_of_ble_eq_true rfl) ?_
  intro p e s m args below meth c ls hC hr hlocks hB hl
  have hx := hC.1
  have hb := hC.2.1
  obtain ⟨hT, hR, hT8, hR6⟩ := id hI
  have hl : lv_has ls 6 [(0, .ref (a 13)), (1, .int (nI t)), (2, .int (nI k))] := hl
  refine lv_iload_n hx hb dX0_priceBehind_0 rfl (lv_at hl 2 rfl) ?_
  refine lv_aload_n hx hb dX0_priceBehind_1 rfl (lv_at hl 0 rfl) ?_
  refine gB_untilStroke hC hB dX0_priceBehind_2 ?_
  refine lv_iload_n hx hb dX0_priceBehind_5 rfl (lv_at hl 1 rfl) ?_
  refine lB_untilStroke (t) hC hB rfl (by omega) rfl dX0_priceBehind_6 ?_
  refine lv_isub hx hb dX0_priceBehind_7 ?_
  refine lv_istore_n (lv' := [(3, .int ((nI k) - (S 3 t))), (0, .ref (a 13)), (1, .int (nI t)), (2, .int (nI k))]) hx hb dX0_priceBehind_8 rfl hl (by decide) rfl (fun ls hl => ?_)
  refine lv_iload_n hx hb dX0_priceBehind_9 rfl (lv_at hl 0 rfl) ?_
  refine lv_if_ge (tgt := 36) hx hb dX0_priceBehind_10 (by decide) (fun c1 => ?_) (fun c1 => ?_)
  · refine lv_aload_n hx hb dX0_priceBehind_36 rfl (lv_at hl 1 rfl) ?_
    refine gB_period hC hB dX0_priceBehind_37 ?_
    refine lv_iload_n hx hb dX0_priceBehind_40 rfl (lv_at hl 2 rfl) ?_
    refine lB_period (t) hC hB rfl (by omega) rfl dX0_priceBehind_41 ?_
    refine lv_istore (lv' := [(4, .int (S 1 t)), (3, .int ((nI k) - (S 3 t))), (0, .ref (a 13)), (1, .int (nI t)), (2, .int (nI k))]) hx hb dX0_priceBehind_42 hl (by decide) rfl (fun ls hl => ?_)
    refine lv_iload hx hb dX0_priceBehind_44 (lv_at hl 0 rfl) ?_
    refine lv_iconst (v := 2) hx hb dX0_priceBehind_46 (by decide) ?_
    refine lv_icmp_ge (tgt := 54) hx hb dX0_priceBehind_47 (by decide) (fun c2 => ?_) (fun c2 => ?_)
    · refine lv_iload_n hx hb dX0_priceBehind_54 rfl (lv_at hl 1 rfl) ?_
      refine lv_iload hx hb dX0_priceBehind_55 (lv_at hl 0 rfl) ?_
      refine lv_irem hx hb dX0_priceBehind_57 (fun h0 => absurd (h0 ▸ c2) (by decide)) ?_
      refine lv_istore (lv' := [(5, .int (rmi ((nI k) - (S 3 t)) (S 1 t))), (4, .int (S 1 t)), (3, .int ((nI k) - (S 3 t))), (0, .ref (a 13)), (1, .int (nI t)), (2, .int (nI k))]) hx hb dX0_priceBehind_58 hl (by decide) rfl (fun ls hl => ?_)
      refine lv_iload hx hb dX0_priceBehind_60 (lv_at hl 0 rfl) ?_
      refine lv_aload_n hx hb dX0_priceBehind_62 rfl (lv_at hl 3 rfl) ?_
      refine gB_loudness hC hB dX0_priceBehind_63 ?_
      refine lv_iload_n hx hb dX0_priceBehind_66 rfl (lv_at hl 4 rfl) ?_
      refine lB_loudness (t) hC hB rfl (by omega) rfl dX0_priceBehind_67 ?_
      refine lv_iconst (v := 0) hx hb dX0_priceBehind_68 (by decide) ?_
      refine k_X0_price hC (c_X0_price l (rmi ((nI k) - (S 3 t)) (S 1 t)) (S 0 t) (0)) mov_T trivial rfl ⟨rfl, rfl⟩ ⟨Nat.le_of_ble_eq_true rfl, Nat.le_of_ble_eq_true rfl⟩ ⟨Nat.zero_le _, Nat.zero_le _⟩ hl.1 rfl (Nat.le_of_ble_eq_true rfl) dX0_priceBehind_69 ?_
      exact rd_i hC hr hlocks dX0_priceBehind_72 (by unfold bPb; rw [if_pos c1, if_pos c2])
    · refine lv_iconst (v := 0) hx hb dX0_priceBehind_50 (by decide) ?_
      refine lv_goto (tgt := 58) hx hb dX0_priceBehind_51 (by decide) ?_
      refine lv_istore (lv' := [(5, .int (0)), (4, .int (S 1 t)), (3, .int ((nI k) - (S 3 t))), (0, .ref (a 13)), (1, .int (nI t)), (2, .int (nI k))]) hx hb dX0_priceBehind_58 hl (by decide) rfl (fun ls hl => ?_)
      refine lv_iload hx hb dX0_priceBehind_60 (lv_at hl 0 rfl) ?_
      refine lv_aload_n hx hb dX0_priceBehind_62 rfl (lv_at hl 3 rfl) ?_
      refine gB_loudness hC hB dX0_priceBehind_63 ?_
      refine lv_iload_n hx hb dX0_priceBehind_66 rfl (lv_at hl 4 rfl) ?_
      refine lB_loudness (t) hC hB rfl (by omega) rfl dX0_priceBehind_67 ?_
      refine lv_iconst (v := 0) hx hb dX0_priceBehind_68 (by decide) ?_
      refine k_X0_price hC (c_X0_price l (0) (S 0 t) (0)) mov_T trivial rfl ⟨rfl, rfl⟩ ⟨Nat.le_of_ble_eq_true rfl, Nat.le_of_ble_eq_true rfl⟩ ⟨Nat.zero_le _, Nat.zero_le _⟩ hl.1 rfl (Nat.le_of_ble_eq_true rfl) dX0_priceBehind_69 ?_
      exact rd_i hC hr hlocks dX0_priceBehind_72 (by unfold bPb; rw [if_pos c1, if_neg c2])
  · refine lv_aload_n hx hb dX0_priceBehind_13 rfl (lv_at hl 1 rfl) ?_
    refine gB_silence hC hB dX0_priceBehind_14 ?_
    refine lv_iload_n hx hb dX0_priceBehind_17 rfl (lv_at hl 2 rfl) ?_
    refine lB_silence (t) hC hB rfl (by omega) rfl dX0_priceBehind_18 ?_
    refine lv_iload_n hx hb dX0_priceBehind_19 rfl (lv_at hl 3 rfl) ?_
    refine lv_iadd hx hb dX0_priceBehind_20 ?_
    refine lv_aload_n hx hb dX0_priceBehind_21 rfl (lv_at hl 1 rfl) ?_
    refine gB_loudness hC hB dX0_priceBehind_22 ?_
    refine lv_iload_n hx hb dX0_priceBehind_25 rfl (lv_at hl 2 rfl) ?_
    refine lB_loudness (t) hC hB rfl (by omega) rfl dX0_priceBehind_26 ?_
    refine lv_aload_n hx hb dX0_priceBehind_27 rfl (lv_at hl 1 rfl) ?_
    refine lv_iload_n hx hb dX0_priceBehind_28 rfl (lv_at hl 2 rfl) ?_
    refine k_X0_dovesNow hC (c_X0_dovesNow l D cI cQ a S hI (t := t) (by omega)) hB rfl ⟨rfl, rfl⟩ ⟨Nat.le_of_ble_eq_true rfl, Nat.le_of_ble_eq_true rfl⟩ ⟨Nat.zero_le _, Nat.zero_le _⟩ hl.1 rfl (Nat.le_of_ble_eq_true rfl) dX0_priceBehind_29 ?_
    refine k_X0_price hC (c_X0_price l ((S 2 t) + (nI k)) (S 0 t) (bDv S R t)) mov_T trivial rfl ⟨rfl, rfl⟩ ⟨Nat.le_of_ble_eq_true rfl, Nat.le_of_ble_eq_true rfl⟩ ⟨Nat.zero_le _, Nat.zero_le _⟩ hl.1 rfl (Nat.le_of_ble_eq_true rfl) dX0_priceBehind_32 ?_
    exact rd_i hC hr hlocks dX0_priceBehind_35 (by unfold bPb; rw [if_neg c1])
set_option maxHeartbeats 4000000 in
set_option maxRecDepth 100000 in
theorem c_X0_heldByAll (l : Launch) (D : va_G) (cI cQ : ClassId) (a : Nat → Nat) (S : bS) {T R : Nat} {t : Nat} (hI : BI S T R) (ht : t < T) : Rd l yX0_heldByAll cX0_heldByAll 4 (some .int) ({ frames := 0, cells := 0, slots := 0, locals := 0 } : Room) (BW D cI cQ a S) [.ref (a 13), .int (nI t)] (.int (bOp S R t)) := by
  refine Rd.of (by decide) (Nat.le_of_ble_eq_true rfl) ?_
  intro p e s m args below meth c ls hC hr hlocks hB hl
  have hx := hC.1
  have hb := hC.2.1
  obtain ⟨hT, hR, hT8, hR6⟩ := id hI
  have hl : lv_has ls 4 [(0, .ref (a 13)), (1, .int (nI t))] := hl
  refine lv_iconst (v := 0) hx hb dX0_heldByAll_0 (by decide) ?_
  refine lv_istore_n (lv' := [(2, .int (0)), (0, .ref (a 13)), (1, .int (nI t))]) hx hb dX0_heldByAll_1 rfl hl (by decide) rfl (fun ls hl => ?_)
  refine lv_iconst (v := 0) hx hb dX0_heldByAll_2 (by decide) ?_
  refine lv_istore_n (lv' := [(3, .int (0)), (2, .int (0)), (0, .ref (a 13)), (1, .int (nI t))]) hx hb dX0_heldByAll_3 rfl hl (by decide) rfl (fun ls hl => ?_)
  refine loopU (P := fun i => ∀ ls : Array Slot, lv_has ls 4 [(3, .int (nI i)), (2, .int (bOp S i t)), (0, .ref (a 13)), (1, .int (nI t))] → W p l e ({ frames := 0, cells := 0, slots := 0, locals := 0 } : Room) s m args below meth c s.heap [] 0 0 (MQ below (k2_QcV (.int (bOp S R t))) args s 0 0 (fun _ => False)) (F0 m 4 ls [])) (R) ?_ ?_ 0 (by omega) ls (by first | exact lv_sub hl [0, 1, 2, 3] rfl | (simpa using lv_sub hl [0, 1, 2, 3] rfl))
  · intro ls hl
    refine lv_iload_n hx hb dX0_heldByAll_4 rfl (lv_at hl 0 rfl) ?_
    refine lv_aload_n hx hb dX0_heldByAll_5 rfl (lv_at hl 2 rfl) ?_
    refine gB_traderCount hC hB hR dX0_heldByAll_6 ?_
    refine jge (i := R) (j := R) (tgt := 29) hC dX0_heldByAll_9 (by decide) rfl rfl (by omega) (by omega) (fun c1 => ?_) (fun c1 => ?_)
    · refine lv_iload_n hx hb dX0_heldByAll_29 rfl (lv_at hl 1 rfl) ?_
      exact rd_i hC hr hlocks dX0_heldByAll_30 (by rfl)
    · exfalso; omega
  · intro i hi ih ls hl
    refine lv_iload_n hx hb dX0_heldByAll_4 rfl (lv_at hl 0 rfl) ?_
    refine lv_aload_n hx hb dX0_heldByAll_5 rfl (lv_at hl 2 rfl) ?_
    refine gB_traderCount hC hB hR dX0_heldByAll_6 ?_
    refine jge (i := i) (j := R) (tgt := 29) hC dX0_heldByAll_9 (by decide) rfl rfl (by omega) (by omega) (fun c2 => ?_) (fun c2 => ?_)
    · exfalso; omega
    · refine lv_iload_n hx hb dX0_heldByAll_12 rfl (lv_at hl 1 rfl) ?_
      refine lv_aload_n hx hb dX0_heldByAll_13 rfl (lv_at hl 2 rfl) ?_
      refine gB_held hC hB dX0_heldByAll_14 ?_
      refine lv_iload_n hx hb dX0_heldByAll_17 rfl (lv_at hl 0 rfl) ?_
      refine lB_row (i) hC hB rfl (by omega) dX0_heldByAll_18 ?_
      refine lv_iload_n hx hb dX0_heldByAll_19 rfl (lv_at hl 3 rfl) ?_
      refine lB_held (i) (t) hC hB (by omega) rfl (by omega) rfl dX0_heldByAll_20 ?_
      refine lv_iadd hx hb dX0_heldByAll_21 ?_
      refine lv_istore_n (lv' := [(2, .int ((bOp S i t) + (S (7 + i) t))), (3, .int (nI i)), (0, .ref (a 13)), (1, .int (nI t))]) hx hb dX0_heldByAll_22 rfl hl (by decide) rfl (fun ls hl => ?_)
      refine lv_iinc (v := nI (i + 1)) (lv' := [(3, .int (nI (i + 1))), (2, .int ((bOp S i t) + (S (7 + i) t))), (0, .ref (a 13)), (1, .int (nI t))]) hx hb dX0_heldByAll_23 hl (k := 1) rfl (ninc i) (by decide) rfl (fun ls hl => ?_)
      refine lv_goto (tgt := 4) hx hb dX0_heldByAll_26 (by decide) ?_
      exact ih ls (lv_sub hl [0, 1, 2, 3] rfl)
set_option maxHeartbeats 4000000 in
set_option maxRecDepth 100000 in
theorem c_X0_shortTowers (l : Launch) (D : va_G) (cI cQ : ClassId) (a : Nat → Nat) (S : bS) {T R : Nat} {r : Nat} (hI : BI S T R) (hr9 : r < R) : Rd l yX0_shortTowers cX0_shortTowers 4 (some .int) ({ frames := 0, cells := 0, slots := 0, locals := 0 } : Room) (BW D cI cQ a S) [.ref (a 13), .int (nI r)] (.int (bSh S T r)) := by
  refine Rd.of (by decide) (Nat.le_of_ble_eq_true rfl) ?_
  intro p e s m args below meth c ls hC hr hlocks hB hl
  have hx := hC.1
  have hb := hC.2.1
  obtain ⟨hT, hR, hT8, hR6⟩ := id hI
  have hl : lv_has ls 4 [(0, .ref (a 13)), (1, .int (nI r))] := hl
  refine lv_iconst (v := 0) hx hb dX0_shortTowers_0 (by decide) ?_
  refine lv_istore_n (lv' := [(2, .int (0)), (0, .ref (a 13)), (1, .int (nI r))]) hx hb dX0_shortTowers_1 rfl hl (by decide) rfl (fun ls hl => ?_)
  refine lv_iconst (v := 0) hx hb dX0_shortTowers_2 (by decide) ?_
  refine lv_istore_n (lv' := [(3, .int (0)), (2, .int (0)), (0, .ref (a 13)), (1, .int (nI r))]) hx hb dX0_shortTowers_3 rfl hl (by decide) rfl (fun ls hl => ?_)
  refine loopU (P := fun i => ∀ ls : Array Slot, lv_has ls 4 [(3, .int (nI i)), (2, .int (bSh S i r)), (0, .ref (a 13)), (1, .int (nI r))] → W p l e ({ frames := 0, cells := 0, slots := 0, locals := 0 } : Room) s m args below meth c s.heap [] 0 0 (MQ below (k2_QcV (.int (bSh S T r))) args s 0 0 (fun _ => False)) (F0 m 4 ls [])) (T) ?_ ?_ 0 (by omega) ls (by first | exact lv_sub hl [0, 1, 2, 3] rfl | (simpa using lv_sub hl [0, 1, 2, 3] rfl))
  · intro ls hl
    refine lv_iload_n hx hb dX0_shortTowers_4 rfl (lv_at hl 0 rfl) ?_
    refine lv_aload_n hx hb dX0_shortTowers_5 rfl (lv_at hl 2 rfl) ?_
    refine gB_towerCount hC hB hT dX0_shortTowers_6 ?_
    refine jge (i := T) (j := T) (tgt := 32) hC dX0_shortTowers_9 (by decide) rfl rfl (by omega) (by omega) (fun c1 => ?_) (fun c1 => ?_)
    · refine lv_iload_n hx hb dX0_shortTowers_32 rfl (lv_at hl 1 rfl) ?_
      exact rd_i hC hr hlocks dX0_shortTowers_33 (by rfl)
    · exfalso; omega
  · intro i hi ih ls hl
    refine lv_iload_n hx hb dX0_shortTowers_4 rfl (lv_at hl 0 rfl) ?_
    refine lv_aload_n hx hb dX0_shortTowers_5 rfl (lv_at hl 2 rfl) ?_
    refine gB_towerCount hC hB hT dX0_shortTowers_6 ?_
    refine jge (i := i) (j := T) (tgt := 32) hC dX0_shortTowers_9 (by decide) rfl rfl (by omega) (by omega) (fun c2 => ?_) (fun c2 => ?_)
    · exfalso; omega
    · refine lv_aload_n hx hb dX0_shortTowers_12 rfl (lv_at hl 2 rfl) ?_
      refine gB_held hC hB dX0_shortTowers_13 ?_
      refine lv_iload_n hx hb dX0_shortTowers_16 rfl (lv_at hl 3 rfl) ?_
      refine lB_row (r) hC hB rfl (by omega) dX0_shortTowers_17 ?_
      refine lv_iload_n hx hb dX0_shortTowers_18 rfl (lv_at hl 0 rfl) ?_
      refine lB_held (r) (i) hC hB (by omega) rfl (by omega) rfl dX0_shortTowers_19 ?_
      refine lv_if_ge (tgt := 26) hx hb dX0_shortTowers_20 (by decide) (fun c3 => ?_) (fun c3 => ?_)
      · refine lv_iinc (v := nI (i + 1)) (lv' := [(3, .int (nI (i + 1))), (2, .int (bSh S i r)), (0, .ref (a 13)), (1, .int (nI r))]) hx hb dX0_shortTowers_26 hl (k := 0) rfl (ninc i) (by decide) rfl (fun ls hl => ?_)
        refine lv_goto (tgt := 4) hx hb dX0_shortTowers_29 (by decide) ?_
        have e4 : bSh S (i + 1) r = bSh S i r := by show _ + (if _ then _ else _) = _; rw [if_pos c3, Int32.add_zero]; rfl
        exact ih ls (by rw [e4]; exact lv_sub hl [0, 1, 2, 3] rfl)
      · refine lv_iinc (v := (bSh S i r) + 1) (lv' := [(2, .int ((bSh S i r) + 1)), (3, .int (nI i)), (0, .ref (a 13)), (1, .int (nI r))]) hx hb dX0_shortTowers_23 hl (k := 1) rfl (rfl) (by decide) rfl (fun ls hl => ?_)
        refine lv_iinc (v := nI (i + 1)) (lv' := [(3, .int (nI (i + 1))), (2, .int ((bSh S i r) + 1)), (0, .ref (a 13)), (1, .int (nI r))]) hx hb dX0_shortTowers_26 hl (k := 1) rfl (ninc i) (by decide) rfl (fun ls hl => ?_)
        refine lv_goto (tgt := 4) hx hb dX0_shortTowers_29 (by decide) ?_
        have e5 : bSh S (i + 1) r = (bSh S i r) + 1 := by show _ + (if _ then _ else _) = _; rw [if_neg c3]; rfl
        exact ih ls (by rw [e5]; exact lv_sub hl [0, 1, 2, 3] rfl)
set_option maxHeartbeats 4000000 in
set_option maxRecDepth 100000 in
theorem c_X0_worthBehind (l : Launch) (D : va_G) (cI cQ : ClassId) (a : Nat → Nat) (S : bS) {T R : Nat} {r k : Nat} (hI : BI S T R) (hr9 : r < R) : Rd l yX0_worthBehind cX0_worthBehind 7 (some .int) ({ frames := 4, cells := 0, slots := 0, locals := 92 } : Room) (BW D cI cQ a S) [.ref (a 13), .int (nI r), .int (nI k)] (.int (bWb S T R r k)) := by
  refine Rd.of (by decide) (Nat.le_of_ble_eq_true rfl) ?_
  intro p e s m args below meth c ls hC hr hlocks hB hl
  have hx := hC.1
  have hb := hC.2.1
  obtain ⟨hT, hR, hT8, hR6⟩ := id hI
  have hl : lv_has ls 7 [(0, .ref (a 13)), (1, .int (nI r)), (2, .int (nI k))] := hl
  refine lv_aload_n hx hb dX0_worthBehind_0 rfl (lv_at hl 0 rfl) ?_
  refine gB_purse hC hB dX0_worthBehind_1 ?_
  refine lv_iload_n hx hb dX0_worthBehind_4 rfl (lv_at hl 1 rfl) ?_
  refine lB_purse (r) hC hB rfl (by omega) rfl dX0_worthBehind_5 ?_
  refine lv_istore_n (lv' := [(3, .int (S 5 r)), (0, .ref (a 13)), (1, .int (nI r)), (2, .int (nI k))]) hx hb dX0_worthBehind_6 rfl hl (by decide) rfl (fun ls hl => ?_)
  refine lv_iconst (v := 0) hx hb dX0_worthBehind_7 (by decide) ?_
  refine lv_istore (lv' := [(4, .int (0)), (3, .int (S 5 r)), (0, .ref (a 13)), (1, .int (nI r)), (2, .int (nI k))]) hx hb dX0_worthBehind_8 hl (by decide) rfl (fun ls hl => ?_)
  refine loopU (P := fun i => ∀ ls : Array Slot, lv_has ls 7 [(4, .int (nI i)), (3, .int (bWb S i R r k)), (0, .ref (a 13)), (1, .int (nI r)), (2, .int (nI k))] → W p l e ({ frames := 4, cells := 0, slots := 0, locals := 92 } : Room) s m args below meth c s.heap [] 0 0 (MQ below (k2_QcV (.int (bWb S T R r k))) args s 0 0 (fun _ => False)) (F0 m 10 ls [])) (T) ?_ ?_ 0 (by omega) ls (by first | exact lv_sub hl [0, 1, 2, 3, 4] rfl | (simpa using lv_sub hl [0, 1, 2, 3, 4] rfl))
  · intro ls hl
    refine lv_iload hx hb dX0_worthBehind_10 (lv_at hl 0 rfl) ?_
    refine lv_aload_n hx hb dX0_worthBehind_12 rfl (lv_at hl 2 rfl) ?_
    refine gB_towerCount hC hB hT dX0_worthBehind_13 ?_
    refine jge (i := T) (j := T) (tgt := 81) hC dX0_worthBehind_16 (by decide) rfl rfl (by omega) (by omega) (fun c1 => ?_) (fun c1 => ?_)
    · refine lv_iload_n hx hb dX0_worthBehind_81 rfl (lv_at hl 1 rfl) ?_
      exact rd_i hC hr hlocks dX0_worthBehind_82 (by rfl)
    · exfalso; omega
  · intro i hi ih ls hl
    refine lv_iload hx hb dX0_worthBehind_10 (lv_at hl 0 rfl) ?_
    refine lv_aload_n hx hb dX0_worthBehind_12 rfl (lv_at hl 2 rfl) ?_
    refine gB_towerCount hC hB hT dX0_worthBehind_13 ?_
    refine jge (i := i) (j := T) (tgt := 81) hC dX0_worthBehind_16 (by decide) rfl rfl (by omega) (by omega) (fun c2 => ?_) (fun c2 => ?_)
    · exfalso; omega
    · refine lv_aload_n hx hb dX0_worthBehind_19 rfl (lv_at hl 2 rfl) ?_
      refine gB_untilStroke hC hB dX0_worthBehind_20 ?_
      refine lv_iload hx hb dX0_worthBehind_23 (lv_at hl 0 rfl) ?_
      refine lB_untilStroke (i) hC hB rfl (by omega) rfl dX0_worthBehind_25 ?_
      refine lv_iload_n hx hb dX0_worthBehind_26 rfl (lv_at hl 4 rfl) ?_
      refine lv_icmp_gt (tgt := 34) hx hb dX0_worthBehind_27 (by decide) (fun c3 => ?_) (fun c3 => ?_)
      · refine lv_iconst (v := 0) hx hb dX0_worthBehind_34 (by decide) ?_
        refine lv_istore (lv' := [(5, .int (0)), (4, .int (nI i)), (3, .int (bWb S i R r k)), (0, .ref (a 13)), (1, .int (nI r)), (2, .int (nI k))]) hx hb dX0_worthBehind_35 hl (by decide) rfl (fun ls hl => ?_)
        refine lv_iload hx hb dX0_worthBehind_37 (lv_at hl 0 rfl) ?_
        refine lv_if_eq (tgt := 51) hx hb dX0_worthBehind_39 (by decide) (fun c4 => ?_) (fun c4 => ?_)
        · refine lv_aload_n hx hb dX0_worthBehind_51 rfl (lv_at hl 3 rfl) ?_
          refine lv_iload hx hb dX0_worthBehind_52 (lv_at hl 1 rfl) ?_
          refine lv_iload_n hx hb dX0_worthBehind_54 rfl (lv_at hl 5 rfl) ?_
          refine k_X0_priceBehind hC (c_X0_priceBehind l D cI cQ a S hI (t := i) (k := k) (by omega)) hB rfl ⟨rfl, rfl⟩ ⟨Nat.le_of_ble_eq_true rfl, Nat.le_of_ble_eq_true rfl⟩ ⟨Nat.zero_le _, Nat.zero_le _⟩ hl.1 rfl (Nat.le_of_ble_eq_true rfl) dX0_worthBehind_55 ?_
          refine lv_istore (lv' := [(6, .int (bPb S R i k)), (5, .int (0)), (4, .int (nI i)), (3, .int (bWb S i R r k)), (0, .ref (a 13)), (1, .int (nI r)), (2, .int (nI k))]) hx hb dX0_worthBehind_58 hl (by decide) rfl (fun ls hl => ?_)
          refine lv_iload_n hx hb dX0_worthBehind_60 rfl (lv_at hl 3 rfl) ?_
          refine lv_iload hx hb dX0_worthBehind_61 (lv_at hl 0 rfl) ?_
          refine lv_aload_n hx hb dX0_worthBehind_63 rfl (lv_at hl 4 rfl) ?_
          refine gB_held hC hB dX0_worthBehind_64 ?_
          refine lv_iload_n hx hb dX0_worthBehind_67 rfl (lv_at hl 5 rfl) ?_
          refine lB_row (r) hC hB rfl (by omega) dX0_worthBehind_68 ?_
          refine lv_iload hx hb dX0_worthBehind_69 (lv_at hl 2 rfl) ?_
          refine lB_held (r) (i) hC hB (by omega) rfl (by omega) rfl dX0_worthBehind_71 ?_
          refine lv_imul hx hb dX0_worthBehind_72 ?_
          refine lv_iadd hx hb dX0_worthBehind_73 ?_
          refine lv_istore_n (lv' := [(3, .int ((bWb S i R r k) + ((bPb S R i k) * (S (7 + r) i)))), (6, .int (bPb S R i k)), (5, .int (0)), (4, .int (nI i)), (0, .ref (a 13)), (1, .int (nI r)), (2, .int (nI k))]) hx hb dX0_worthBehind_74 rfl hl (by decide) rfl (fun ls hl => ?_)
          refine lv_iinc (v := nI (i + 1)) (lv' := [(4, .int (nI (i + 1))), (3, .int ((bWb S i R r k) + ((bPb S R i k) * (S (7 + r) i)))), (6, .int (bPb S R i k)), (5, .int (0)), (0, .ref (a 13)), (1, .int (nI r)), (2, .int (nI k))]) hx hb dX0_worthBehind_75 hl (k := 3) rfl (ninc i) (by decide) rfl (fun ls hl => ?_)
          refine lv_goto (tgt := 10) hx hb dX0_worthBehind_78 (by decide) ?_
          have e5 : bWb S (i + 1) R r k = (bWb S i R r k) + ((bPb S R i k) * (S (7 + r) i)) := by show _ + (if _ then _ else _) * _ = _; rw [if_pos c3]; rfl
          exact ih ls (by rw [e5]; exact lv_sub hl [0, 1, 4, 5, 6] rfl)
        · exfalso; revert c4; decide
      · refine lv_iconst (v := 1) hx hb dX0_worthBehind_30 (by decide) ?_
        refine lv_goto (tgt := 35) hx hb dX0_worthBehind_31 (by decide) ?_
        refine lv_istore (lv' := [(5, .int (1)), (4, .int (nI i)), (3, .int (bWb S i R r k)), (0, .ref (a 13)), (1, .int (nI r)), (2, .int (nI k))]) hx hb dX0_worthBehind_35 hl (by decide) rfl (fun ls hl => ?_)
        refine lv_iload hx hb dX0_worthBehind_37 (lv_at hl 0 rfl) ?_
        refine lv_if_eq (tgt := 51) hx hb dX0_worthBehind_39 (by decide) (fun c6 => ?_) (fun c6 => ?_)
        · exfalso; revert c6; decide
        · refine lv_aload_n hx hb dX0_worthBehind_42 rfl (lv_at hl 3 rfl) ?_
          refine lv_iload hx hb dX0_worthBehind_43 (lv_at hl 1 rfl) ?_
          refine k_X0_closing hC (c_X0_closing l D cI cQ a S hI (t := i) (by omega)) hB rfl ⟨rfl, rfl⟩ ⟨Nat.le_of_ble_eq_true rfl, Nat.le_of_ble_eq_true rfl⟩ ⟨Nat.zero_le _, Nat.zero_le _⟩ hl.1 rfl (Nat.le_of_ble_eq_true rfl) dX0_worthBehind_45 ?_
          refine lv_goto (tgt := 58) hx hb dX0_worthBehind_48 (by decide) ?_
          refine lv_istore (lv' := [(6, .int (bCl S R i)), (5, .int (1)), (4, .int (nI i)), (3, .int (bWb S i R r k)), (0, .ref (a 13)), (1, .int (nI r)), (2, .int (nI k))]) hx hb dX0_worthBehind_58 hl (by decide) rfl (fun ls hl => ?_)
          refine lv_iload_n hx hb dX0_worthBehind_60 rfl (lv_at hl 3 rfl) ?_
          refine lv_iload hx hb dX0_worthBehind_61 (lv_at hl 0 rfl) ?_
          refine lv_aload_n hx hb dX0_worthBehind_63 rfl (lv_at hl 4 rfl) ?_
          refine gB_held hC hB dX0_worthBehind_64 ?_
          refine lv_iload_n hx hb dX0_worthBehind_67 rfl (lv_at hl 5 rfl) ?_
          refine lB_row (r) hC hB rfl (by omega) dX0_worthBehind_68 ?_
          refine lv_iload hx hb dX0_worthBehind_69 (lv_at hl 2 rfl) ?_
          refine lB_held (r) (i) hC hB (by omega) rfl (by omega) rfl dX0_worthBehind_71 ?_
          refine lv_imul hx hb dX0_worthBehind_72 ?_
          refine lv_iadd hx hb dX0_worthBehind_73 ?_
          refine lv_istore_n (lv' := [(3, .int ((bWb S i R r k) + ((bCl S R i) * (S (7 + r) i)))), (6, .int (bCl S R i)), (5, .int (1)), (4, .int (nI i)), (0, .ref (a 13)), (1, .int (nI r)), (2, .int (nI k))]) hx hb dX0_worthBehind_74 rfl hl (by decide) rfl (fun ls hl => ?_)
          refine lv_iinc (v := nI (i + 1)) (lv' := [(4, .int (nI (i + 1))), (3, .int ((bWb S i R r k) + ((bCl S R i) * (S (7 + r) i)))), (6, .int (bCl S R i)), (5, .int (1)), (0, .ref (a 13)), (1, .int (nI r)), (2, .int (nI k))]) hx hb dX0_worthBehind_75 hl (k := 3) rfl (ninc i) (by decide) rfl (fun ls hl => ?_)
          refine lv_goto (tgt := 10) hx hb dX0_worthBehind_78 (by decide) ?_
          have e7 : bWb S (i + 1) R r k = (bWb S i R r k) + ((bCl S R i) * (S (7 + r) i)) := by show _ + (if _ then _ else _) * _ = _; rw [if_neg c3]; rfl
          exact ih ls (by rw [e7]; exact lv_sub hl [0, 1, 4, 5, 6] rfl)
end
section
set_option maxHeartbeats 4000000 in
set_option maxRecDepth 100000 in
theorem c_X0_requireTower (l : Launch) (D : va_G) (cI cQ : ClassId) (a : Nat → Nat) (S : bS) {T R : Nat} {t : Nat} (hI : BI S T R) (ht : t < T) : Rn l yX0_requireTower cX0_requireTower 2 none ({ frames := 0, cells := 0, slots := 0, locals := 0 } : Room) (BW D cI cQ a S) [.ref (a 13), .int (nI t)] := by
  refine Rn.of (by decide) (Nat.le_of_ble_eq_true rfl) ?_
  intro p e s m args below meth c ls hC hr hlocks hB hl
  have hx := hC.1
  have hb := hC.2.1
  obtain ⟨hT, hR, hT8, hR6⟩ := id hI
  have hl : lv_has ls 2 [(0, .ref (a 13)), (1, .int (nI t))] := hl
  refine lv_iload_n hx hb dX0_requireTower_0 rfl (lv_at hl 1 rfl) ?_
  refine lv_if_lt (tgt := 12) hx hb dX0_requireTower_1 (by decide) (fun c1 => ?_) (fun c1 => ?_)
  · exfalso; exact absurd c1 (nI_pos (by omega))
  · refine lv_iload_n hx hb dX0_requireTower_4 rfl (lv_at hl 1 rfl) ?_
    refine lv_aload_n hx hb dX0_requireTower_5 rfl (lv_at hl 0 rfl) ?_
    refine gB_towerCount hC hB hT dX0_requireTower_6 ?_
    refine jlt (i := t) (j := T) (tgt := 22) hC dX0_requireTower_9 (by decide) rfl rfl (by omega) (by omega) (fun c2 => ?_) (fun c2 => ?_)
    · exact rd_v hC hr hlocks dX0_requireTower_22
    · exfalso; omega
set_option maxHeartbeats 4000000 in
set_option maxRecDepth 100000 in
theorem c_X0_requireTrader (l : Launch) (D : va_G) (cI cQ : ClassId) (a : Nat → Nat) (S : bS) {T R : Nat} {r : Nat} (hI : BI S T R) (hr9 : r < R) : Rn l yX0_requireTrader cX0_requireTrader 2 none ({ frames := 0, cells := 0, slots := 0, locals := 0 } : Room) (BW D cI cQ a S) [.ref (a 13), .int (nI r)] := by
  refine Rn.of (by decide) (Nat.le_of_ble_eq_true rfl) ?_
  intro p e s m args below meth c ls hC hr hlocks hB hl
  have hx := hC.1
  have hb := hC.2.1
  obtain ⟨hT, hR, hT8, hR6⟩ := id hI
  have hl : lv_has ls 2 [(0, .ref (a 13)), (1, .int (nI r))] := hl
  refine lv_iload_n hx hb dX0_requireTrader_0 rfl (lv_at hl 1 rfl) ?_
  refine lv_if_lt (tgt := 12) hx hb dX0_requireTrader_1 (by decide) (fun c1 => ?_) (fun c1 => ?_)
  · exfalso; exact absurd c1 (nI_pos (by omega))
  · refine lv_iload_n hx hb dX0_requireTrader_4 rfl (lv_at hl 1 rfl) ?_
    refine lv_aload_n hx hb dX0_requireTrader_5 rfl (lv_at hl 0 rfl) ?_
    refine gB_traderCount hC hB hR dX0_requireTrader_6 ?_
    refine jlt (i := r) (j := R) (tgt := 22) hC dX0_requireTrader_9 (by decide) rfl rfl (by omega) (by omega) (fun c2 => ?_) (fun c2 => ?_)
    · exact rd_v hC hr hlocks dX0_requireTrader_22
    · exfalso; omega
set_option maxHeartbeats 4000000 in
set_option maxRecDepth 100000 in
theorem c_X0_requireTradable (l : Launch) {k : Nat} (hk1 : 1 ≤ k) (hk9 : k ≤ 9) : Rn l yX0_requireTradable cX0_requireTradable 1 none ({ frames := 0, cells := 0, slots := 0, locals := 0 } : Room) (fun _ _ => True) [.int (nI k)] := by
  refine Rn.of (by decide) (Nat.le_of_ble_eq_true rfl) ?_
  intro p e s m args below meth c ls hC hr hlocks hB hl
  have hx := hC.1
  have hb := hC.2.1
  have hl : lv_has ls 1 [(0, .int (nI k))] := hl
  refine lv_iload_n hx hb dX0_requireTradable_0 rfl (lv_at hl 0 rfl) ?_
  refine lv_iconst (v := 1) hx hb dX0_requireTradable_1 (by decide) ?_
  refine jlt (i := k) (j := 1) (tgt := 11) hC dX0_requireTradable_2 (by decide) rfl rfl (by omega) (by omega) (fun c1 => ?_) (fun c1 => ?_)
  · exfalso; omega
  · refine lv_iload_n hx hb dX0_requireTradable_5 rfl (lv_at hl 0 rfl) ?_
    refine lv_bipush (v := 9) hx hb dX0_requireTradable_6 (by decide) ?_
    refine jle (i := k) (j := 9) (tgt := 21) hC dX0_requireTradable_8 (by decide) rfl rfl (by omega) (by omega) (fun c2 => ?_) (fun c2 => ?_)
    · exact rd_v hC hr hlocks dX0_requireTradable_21
    · exfalso; omega
set_option maxHeartbeats 4000000 in
set_option maxRecDepth 100000 in
theorem c_X0_requirePassable (l : Launch) {k : Nat} (hk1 : 1 ≤ k) (hk9 : k ≤ 60) : Rn l yX0_requirePassable cX0_requirePassable 1 none ({ frames := 0, cells := 0, slots := 0, locals := 0 } : Room) (fun _ _ => True) [.int (nI k)] := by
  refine Rn.of (by decide) (Nat.le_of_ble_eq_true rfl) ?_
  intro p e s m args below meth c ls hC hr hlocks hB hl
  have hx := hC.1
  have hb := hC.2.1
  have hl : lv_has ls 1 [(0, .int (nI k))] := hl
  refine lv_iload_n hx hb dX0_requirePassable_0 rfl (lv_at hl 0 rfl) ?_
  refine lv_iconst (v := 1) hx hb dX0_requirePassable_1 (by decide) ?_
  refine jlt (i := k) (j := 1) (tgt := 11) hC dX0_requirePassable_2 (by decide) rfl rfl (by omega) (by omega) (fun c1 => ?_) (fun c1 => ?_)
  · exfalso; omega
  · refine lv_iload_n hx hb dX0_requirePassable_5 rfl (lv_at hl 0 rfl) ?_
    refine lv_bipush (v := 60) hx hb dX0_requirePassable_6 (by decide) ?_
    refine jle (i := k) (j := 60) (tgt := 21) hC dX0_requirePassable_8 (by decide) rfl rfl (by omega) (by omega) (fun c2 => ?_) (fun c2 => ?_)
    · exact rd_v hC hr hlocks dX0_requirePassable_21
    · exfalso; omega
set_option maxHeartbeats 4000000 in
set_option maxRecDepth 100000 in
theorem c_X0_second (l : Launch) (D : va_G) (cI cQ : ClassId) (a : Nat → Nat) (S : bS) {T R : Nat} (hI : BI S T R) : Rd l yX0_second cX0_second 1 (some .int) ({ frames := 0, cells := 0, slots := 0, locals := 0 } : Room) (BW D cI cQ a S) [.ref (a 13)] (.int (S 6 0)) := by
  refine Rd.of (by decide) (Nat.le_of_ble_eq_true rfl) ?_
  intro p e s m args below meth c ls hC hr hlocks hB hl
  have hx := hC.1
  have hb := hC.2.1
  obtain ⟨hT, hR, hT8, hR6⟩ := id hI
  have hl : lv_has ls 1 [(0, .ref (a 13))] := hl
  refine lv_aload_n hx hb dX0_second_0 rfl (lv_at hl 0 rfl) ?_
  refine gB_second hC hB rfl dX0_second_1 ?_
  exact rd_i hC hr hlocks dX0_second_4 (by rfl)
set_option maxHeartbeats 4000000 in
set_option maxRecDepth 100000 in
theorem c_X0_towers (l : Launch) (D : va_G) (cI cQ : ClassId) (a : Nat → Nat) (S : bS) {T R : Nat} (hI : BI S T R) : Rd l yX0_towers cX0_towers 1 (some .int) ({ frames := 0, cells := 0, slots := 0, locals := 0 } : Room) (BW D cI cQ a S) [.ref (a 13)] (.int (nI T)) := by
  refine Rd.of (by decide) (Nat.le_of_ble_eq_true rfl) ?_
  intro p e s m args below meth c ls hC hr hlocks hB hl
  have hx := hC.1
  have hb := hC.2.1
  obtain ⟨hT, hR, hT8, hR6⟩ := id hI
  have hl : lv_has ls 1 [(0, .ref (a 13))] := hl
  refine lv_aload_n hx hb dX0_towers_0 rfl (lv_at hl 0 rfl) ?_
  refine gB_towerCount hC hB hT dX0_towers_1 ?_
  exact rd_i hC hr hlocks dX0_towers_4 (by rfl)
set_option maxHeartbeats 4000000 in
set_option maxRecDepth 100000 in
theorem c_X0_traders (l : Launch) (D : va_G) (cI cQ : ClassId) (a : Nat → Nat) (S : bS) {T R : Nat} (hI : BI S T R) : Rd l yX0_traders cX0_traders 1 (some .int) ({ frames := 0, cells := 0, slots := 0, locals := 0 } : Room) (BW D cI cQ a S) [.ref (a 13)] (.int (nI R)) := by
  refine Rd.of (by decide) (Nat.le_of_ble_eq_true rfl) ?_
  intro p e s m args below meth c ls hC hr hlocks hB hl
  have hx := hC.1
  have hb := hC.2.1
  obtain ⟨hT, hR, hT8, hR6⟩ := id hI
  have hl : lv_has ls 1 [(0, .ref (a 13))] := hl
  refine lv_aload_n hx hb dX0_traders_0 rfl (lv_at hl 0 rfl) ?_
  refine gB_traderCount hC hB hR dX0_traders_1 ?_
  exact rd_i hC hr hlocks dX0_traders_4 (by rfl)
set_option maxHeartbeats 4000000 in
set_option maxRecDepth 100000 in
theorem c_X0_silenceOf (l : Launch) (D : va_G) (cI cQ : ClassId) (a : Nat → Nat) (S : bS) {T R : Nat} {t : Nat} (hI : BI S T R) (ht : t < T) : Rd l yX0_silenceOf cX0_silenceOf 2 (some .int) ({ frames := 1, cells := 0, slots := 0, locals := 21 } : Room) (BW D cI cQ a S) [.ref (a 13), .int (nI t)] (.int (S 2 t)) := by
  refine Rd.of (by decide) (Nat.le_of_ble_eq_true rfl) ?_
  intro p e s m args below meth c ls hC hr hlocks hB hl
  have hx := hC.1
  have hb := hC.2.1
  obtain ⟨hT, hR, hT8, hR6⟩ := id hI
  have hl : lv_has ls 2 [(0, .ref (a 13)), (1, .int (nI t))] := hl
  refine lv_aload_n hx hb dX0_silenceOf_0 rfl (lv_at hl 0 rfl) ?_
  refine lv_iload_n hx hb dX0_silenceOf_1 rfl (lv_at hl 1 rfl) ?_
  refine kn_X0_requireTower hC (c_X0_requireTower l D cI cQ a S hI (t := t) (by omega)) hB rfl ⟨rfl, rfl⟩ ⟨Nat.le_of_ble_eq_true rfl, Nat.le_of_ble_eq_true rfl⟩ ⟨Nat.zero_le _, Nat.zero_le _⟩ hl.1 rfl (Nat.le_of_ble_eq_true rfl) dX0_silenceOf_2 ?_
  refine lv_aload_n hx hb dX0_silenceOf_5 rfl (lv_at hl 0 rfl) ?_
  refine gB_silence hC hB dX0_silenceOf_6 ?_
  refine lv_iload_n hx hb dX0_silenceOf_9 rfl (lv_at hl 1 rfl) ?_
  refine lB_silence (t) hC hB rfl (by omega) rfl dX0_silenceOf_10 ?_
  exact rd_i hC hr hlocks dX0_silenceOf_11 (by rfl)
set_option maxHeartbeats 4000000 in
set_option maxRecDepth 100000 in
theorem c_X0_dovesOn (l : Launch) (D : va_G) (cI cQ : ClassId) (a : Nat → Nat) (S : bS) {T R : Nat} {t : Nat} (hI : BI S T R) (ht : t < T) : Rd l yX0_dovesOn cX0_dovesOn 2 (some .int) ({ frames := 3, cells := 0, slots := 0, locals := 67 } : Room) (BW D cI cQ a S) [.ref (a 13), .int (nI t)] (.int (bDv S R t)) := by
  refine Rd.of (by decide) (Nat.le_of_ble_eq_true rfl) ?_
  intro p e s m args below meth c ls hC hr hlocks hB hl
  have hx := hC.1
  have hb := hC.2.1
  obtain ⟨hT, hR, hT8, hR6⟩ := id hI
  have hl : lv_has ls 2 [(0, .ref (a 13)), (1, .int (nI t))] := hl
  refine lv_aload_n hx hb dX0_dovesOn_0 rfl (lv_at hl 0 rfl) ?_
  refine lv_iload_n hx hb dX0_dovesOn_1 rfl (lv_at hl 1 rfl) ?_
  refine kn_X0_requireTower hC (c_X0_requireTower l D cI cQ a S hI (t := t) (by omega)) hB rfl ⟨rfl, rfl⟩ ⟨Nat.le_of_ble_eq_true rfl, Nat.le_of_ble_eq_true rfl⟩ ⟨Nat.zero_le _, Nat.zero_le _⟩ hl.1 rfl (Nat.le_of_ble_eq_true rfl) dX0_dovesOn_2 ?_
  refine lv_aload_n hx hb dX0_dovesOn_5 rfl (lv_at hl 0 rfl) ?_
  refine lv_iload_n hx hb dX0_dovesOn_6 rfl (lv_at hl 1 rfl) ?_
  refine k_X0_dovesNow hC (c_X0_dovesNow l D cI cQ a S hI (t := t) (by omega)) hB rfl ⟨rfl, rfl⟩ ⟨Nat.le_of_ble_eq_true rfl, Nat.le_of_ble_eq_true rfl⟩ ⟨Nat.zero_le _, Nat.zero_le _⟩ hl.1 rfl (Nat.le_of_ble_eq_true rfl) dX0_dovesOn_7 ?_
  exact rd_i hC hr hlocks dX0_dovesOn_10 (by rfl)
set_option maxHeartbeats 4000000 in
set_option maxRecDepth 100000 in
theorem c_X0_priceOf (l : Launch) (D : va_G) (cI cQ : ClassId) (a : Nat → Nat) (S : bS) {T R : Nat} {t : Nat} (hI : BI S T R) (ht : t < T) : Rd l yX0_priceOf cX0_priceOf 2 (some .int) ({ frames := 4, cells := 0, slots := 0, locals := 88 } : Room) (BW D cI cQ a S) [.ref (a 13), .int (nI t)] (.int (bPr S R t)) := by
  refine Rd.of (by decide) (Nat.le_of_ble_eq_true rfl) ?_
  intro p e s m args below meth c ls hC hr hlocks hB hl
  have hx := hC.1
  have hb := hC.2.1
  obtain ⟨hT, hR, hT8, hR6⟩ := id hI
  have hl : lv_has ls 2 [(0, .ref (a 13)), (1, .int (nI t))] := hl
  refine lv_aload_n hx hb dX0_priceOf_0 rfl (lv_at hl 0 rfl) ?_
  refine lv_iload_n hx hb dX0_priceOf_1 rfl (lv_at hl 1 rfl) ?_
  refine kn_X0_requireTower hC (c_X0_requireTower l D cI cQ a S hI (t := t) (by omega)) hB rfl ⟨rfl, rfl⟩ ⟨Nat.le_of_ble_eq_true rfl, Nat.le_of_ble_eq_true rfl⟩ ⟨Nat.zero_le _, Nat.zero_le _⟩ hl.1 rfl (Nat.le_of_ble_eq_true rfl) dX0_priceOf_2 ?_
  refine lv_aload_n hx hb dX0_priceOf_5 rfl (lv_at hl 0 rfl) ?_
  refine lv_iload_n hx hb dX0_priceOf_6 rfl (lv_at hl 1 rfl) ?_
  refine k_X0_priceNow hC (c_X0_priceNow l D cI cQ a S hI (t := t) (by omega)) hB rfl ⟨rfl, rfl⟩ ⟨Nat.le_of_ble_eq_true rfl, Nat.le_of_ble_eq_true rfl⟩ ⟨Nat.zero_le _, Nat.zero_le _⟩ hl.1 rfl (Nat.le_of_ble_eq_true rfl) dX0_priceOf_7 ?_
  exact rd_i hC hr hlocks dX0_priceOf_10 (by rfl)
set_option maxHeartbeats 4000000 in
set_option maxRecDepth 100000 in
theorem c_X0_secondsUntilStroke (l : Launch) (D : va_G) (cI cQ : ClassId) (a : Nat → Nat) (S : bS) {T R : Nat} {t : Nat} (hI : BI S T R) (ht : t < T) : Rd l yX0_secondsUntilStroke cX0_secondsUntilStroke 2 (some .int) ({ frames := 1, cells := 0, slots := 0, locals := 21 } : Room) (BW D cI cQ a S) [.ref (a 13), .int (nI t)] (.int (S 3 t)) := by
  refine Rd.of (by decide) (Nat.le_of_ble_eq_true rfl) ?_
  intro p e s m args below meth c ls hC hr hlocks hB hl
  have hx := hC.1
  have hb := hC.2.1
  obtain ⟨hT, hR, hT8, hR6⟩ := id hI
  have hl : lv_has ls 2 [(0, .ref (a 13)), (1, .int (nI t))] := hl
  refine lv_aload_n hx hb dX0_secondsUntilStroke_0 rfl (lv_at hl 0 rfl) ?_
  refine lv_iload_n hx hb dX0_secondsUntilStroke_1 rfl (lv_at hl 1 rfl) ?_
  refine kn_X0_requireTower hC (c_X0_requireTower l D cI cQ a S hI (t := t) (by omega)) hB rfl ⟨rfl, rfl⟩ ⟨Nat.le_of_ble_eq_true rfl, Nat.le_of_ble_eq_true rfl⟩ ⟨Nat.zero_le _, Nat.zero_le _⟩ hl.1 rfl (Nat.le_of_ble_eq_true rfl) dX0_secondsUntilStroke_2 ?_
  refine lv_aload_n hx hb dX0_secondsUntilStroke_5 rfl (lv_at hl 0 rfl) ?_
  refine gB_untilStroke hC hB dX0_secondsUntilStroke_6 ?_
  refine lv_iload_n hx hb dX0_secondsUntilStroke_9 rfl (lv_at hl 1 rfl) ?_
  refine lB_untilStroke (t) hC hB rfl (by omega) rfl dX0_secondsUntilStroke_10 ?_
  exact rd_i hC hr hlocks dX0_secondsUntilStroke_11 (by rfl)
set_option maxHeartbeats 4000000 in
set_option maxRecDepth 100000 in
theorem c_X0_strokesOf (l : Launch) (D : va_G) (cI cQ : ClassId) (a : Nat → Nat) (S : bS) {T R : Nat} {t : Nat} (hI : BI S T R) (ht : t < T) : Rd l yX0_strokesOf cX0_strokesOf 2 (some .int) ({ frames := 1, cells := 0, slots := 0, locals := 21 } : Room) (BW D cI cQ a S) [.ref (a 13), .int (nI t)] (.int (S 4 t)) := by
  refine Rd.of (by decide) (Nat.le_of_ble_eq_true rfl) ?_
  intro p e s m args below meth c ls hC hr hlocks hB hl
  have hx := hC.1
  have hb := hC.2.1
  obtain ⟨hT, hR, hT8, hR6⟩ := id hI
  have hl : lv_has ls 2 [(0, .ref (a 13)), (1, .int (nI t))] := hl
  refine lv_aload_n hx hb dX0_strokesOf_0 rfl (lv_at hl 0 rfl) ?_
  refine lv_iload_n hx hb dX0_strokesOf_1 rfl (lv_at hl 1 rfl) ?_
  refine kn_X0_requireTower hC (c_X0_requireTower l D cI cQ a S hI (t := t) (by omega)) hB rfl ⟨rfl, rfl⟩ ⟨Nat.le_of_ble_eq_true rfl, Nat.le_of_ble_eq_true rfl⟩ ⟨Nat.zero_le _, Nat.zero_le _⟩ hl.1 rfl (Nat.le_of_ble_eq_true rfl) dX0_strokesOf_2 ?_
  refine lv_aload_n hx hb dX0_strokesOf_5 rfl (lv_at hl 0 rfl) ?_
  refine gB_strokes hC hB dX0_strokesOf_6 ?_
  refine lv_iload_n hx hb dX0_strokesOf_9 rfl (lv_at hl 1 rfl) ?_
  refine lB_strokes (t) hC hB rfl (by omega) rfl dX0_strokesOf_10 ?_
  exact rd_i hC hr hlocks dX0_strokesOf_11 (by rfl)
set_option maxHeartbeats 4000000 in
set_option maxRecDepth 100000 in
theorem c_X0_openSeconds (l : Launch) (D : va_G) (cI cQ : ClassId) (a : Nat → Nat) (S : bS) {T R : Nat} {t : Nat} (hI : BI S T R) (ht : t < T) : Rd l yX0_openSeconds cX0_openSeconds 2 (some .int) ({ frames := 1, cells := 0, slots := 0, locals := 23 } : Room) (BW D cI cQ a S) [.ref (a 13), .int (nI t)] (.int (bOp S R t)) := by
  refine Rd.of (by decide) (Nat.le_of_ble_eq_true rfl) ?_
  intro p e s m args below meth c ls hC hr hlocks hB hl
  have hx := hC.1
  have hb := hC.2.1
  obtain ⟨hT, hR, hT8, hR6⟩ := id hI
  have hl : lv_has ls 2 [(0, .ref (a 13)), (1, .int (nI t))] := hl
  refine lv_aload_n hx hb dX0_openSeconds_0 rfl (lv_at hl 0 rfl) ?_
  refine lv_iload_n hx hb dX0_openSeconds_1 rfl (lv_at hl 1 rfl) ?_
  refine kn_X0_requireTower hC (c_X0_requireTower l D cI cQ a S hI (t := t) (by omega)) hB rfl ⟨rfl, rfl⟩ ⟨Nat.le_of_ble_eq_true rfl, Nat.le_of_ble_eq_true rfl⟩ ⟨Nat.zero_le _, Nat.zero_le _⟩ hl.1 rfl (Nat.le_of_ble_eq_true rfl) dX0_openSeconds_2 ?_
  refine lv_aload_n hx hb dX0_openSeconds_5 rfl (lv_at hl 0 rfl) ?_
  refine lv_iload_n hx hb dX0_openSeconds_6 rfl (lv_at hl 1 rfl) ?_
  refine k_X0_heldByAll hC (c_X0_heldByAll l D cI cQ a S hI (t := t) (by omega)) hB rfl ⟨rfl, rfl⟩ ⟨Nat.le_of_ble_eq_true rfl, Nat.le_of_ble_eq_true rfl⟩ ⟨Nat.zero_le _, Nat.zero_le _⟩ hl.1 rfl (Nat.le_of_ble_eq_true rfl) dX0_openSeconds_7 ?_
  exact rd_i hC hr hlocks dX0_openSeconds_10 (by rfl)
set_option maxHeartbeats 4000000 in
set_option maxRecDepth 100000 in
theorem c_X0_closingPrice (l : Launch) (D : va_G) (cI cQ : ClassId) (a : Nat → Nat) (S : bS) {T R : Nat} {t : Nat} (hI : BI S T R) (ht : t < T) : Rd l yX0_closingPrice cX0_closingPrice 2 (some .int) ({ frames := 4, cells := 0, slots := 0, locals := 89 } : Room) (BW D cI cQ a S) [.ref (a 13), .int (nI t)] (.int (bCl S R t)) := by
  refine Rd.of (by decide) (Nat.le_of_ble_eq_true rfl) ?_
  intro p e s m args below meth c ls hC hr hlocks hB hl
  have hx := hC.1
  have hb := hC.2.1
  obtain ⟨hT, hR, hT8, hR6⟩ := id hI
  have hl : lv_has ls 2 [(0, .ref (a 13)), (1, .int (nI t))] := hl
  refine lv_aload_n hx hb dX0_closingPrice_0 rfl (lv_at hl 0 rfl) ?_
  refine lv_iload_n hx hb dX0_closingPrice_1 rfl (lv_at hl 1 rfl) ?_
  refine kn_X0_requireTower hC (c_X0_requireTower l D cI cQ a S hI (t := t) (by omega)) hB rfl ⟨rfl, rfl⟩ ⟨Nat.le_of_ble_eq_true rfl, Nat.le_of_ble_eq_true rfl⟩ ⟨Nat.zero_le _, Nat.zero_le _⟩ hl.1 rfl (Nat.le_of_ble_eq_true rfl) dX0_closingPrice_2 ?_
  refine lv_aload_n hx hb dX0_closingPrice_5 rfl (lv_at hl 0 rfl) ?_
  refine lv_iload_n hx hb dX0_closingPrice_6 rfl (lv_at hl 1 rfl) ?_
  refine k_X0_closing hC (c_X0_closing l D cI cQ a S hI (t := t) (by omega)) hB rfl ⟨rfl, rfl⟩ ⟨Nat.le_of_ble_eq_true rfl, Nat.le_of_ble_eq_true rfl⟩ ⟨Nat.zero_le _, Nat.zero_le _⟩ hl.1 rfl (Nat.le_of_ble_eq_true rfl) dX0_closingPrice_7 ?_
  exact rd_i hC hr hlocks dX0_closingPrice_10 (by rfl)
set_option maxHeartbeats 4000000 in
set_option maxRecDepth 100000 in
theorem c_X0_purseOf (l : Launch) (D : va_G) (cI cQ : ClassId) (a : Nat → Nat) (S : bS) {T R : Nat} {r : Nat} (hI : BI S T R) (hr9 : r < R) : Rd l yX0_purseOf cX0_purseOf 2 (some .int) ({ frames := 1, cells := 0, slots := 0, locals := 21 } : Room) (BW D cI cQ a S) [.ref (a 13), .int (nI r)] (.int (S 5 r)) := by
  refine Rd.of (by decide) (Nat.le_of_ble_eq_true rfl) ?_
  intro p e s m args below meth c ls hC hr hlocks hB hl
  have hx := hC.1
  have hb := hC.2.1
  obtain ⟨hT, hR, hT8, hR6⟩ := id hI
  have hl : lv_has ls 2 [(0, .ref (a 13)), (1, .int (nI r))] := hl
  refine lv_aload_n hx hb dX0_purseOf_0 rfl (lv_at hl 0 rfl) ?_
  refine lv_iload_n hx hb dX0_purseOf_1 rfl (lv_at hl 1 rfl) ?_
  refine kn_X0_requireTrader hC (c_X0_requireTrader l D cI cQ a S hI (r := r) (by omega)) hB rfl ⟨rfl, rfl⟩ ⟨Nat.le_of_ble_eq_true rfl, Nat.le_of_ble_eq_true rfl⟩ ⟨Nat.zero_le _, Nat.zero_le _⟩ hl.1 rfl (Nat.le_of_ble_eq_true rfl) dX0_purseOf_2 ?_
  refine lv_aload_n hx hb dX0_purseOf_5 rfl (lv_at hl 0 rfl) ?_
  refine gB_purse hC hB dX0_purseOf_6 ?_
  refine lv_iload_n hx hb dX0_purseOf_9 rfl (lv_at hl 1 rfl) ?_
  refine lB_purse (r) hC hB rfl (by omega) rfl dX0_purseOf_10 ?_
  exact rd_i hC hr hlocks dX0_purseOf_11 (by rfl)
set_option maxHeartbeats 4000000 in
set_option maxRecDepth 100000 in
theorem c_X0_worthOf (l : Launch) (D : va_G) (cI cQ : ClassId) (a : Nat → Nat) (S : bS) {T R : Nat} {r : Nat} (hI : BI S T R) (hr9 : r < R) : Rd l yX0_worthOf cX0_worthOf 2 (some .int) ({ frames := 5, cells := 0, slots := 0, locals := 118 } : Room) (BW D cI cQ a S) [.ref (a 13), .int (nI r)] (.int (bWb S T R r 0)) := by
  refine Rd.of (by decide) (Nat.le_of_ble_eq_true rfl) ?_
  intro p e s m args below meth c ls hC hr hlocks hB hl
  have hx := hC.1
  have hb := hC.2.1
  obtain ⟨hT, hR, hT8, hR6⟩ := id hI
  have hl : lv_has ls 2 [(0, .ref (a 13)), (1, .int (nI r))] := hl
  refine lv_aload_n hx hb dX0_worthOf_0 rfl (lv_at hl 0 rfl) ?_
  refine lv_iload_n hx hb dX0_worthOf_1 rfl (lv_at hl 1 rfl) ?_
  refine kn_X0_requireTrader hC (c_X0_requireTrader l D cI cQ a S hI (r := r) (by omega)) hB rfl ⟨rfl, rfl⟩ ⟨Nat.le_of_ble_eq_true rfl, Nat.le_of_ble_eq_true rfl⟩ ⟨Nat.zero_le _, Nat.zero_le _⟩ hl.1 rfl (Nat.le_of_ble_eq_true rfl) dX0_worthOf_2 ?_
  refine lv_aload_n hx hb dX0_worthOf_5 rfl (lv_at hl 0 rfl) ?_
  refine lv_iload_n hx hb dX0_worthOf_6 rfl (lv_at hl 1 rfl) ?_
  refine lv_iconst (v := 0) hx hb dX0_worthOf_7 (by decide) ?_
  refine k_X0_worthBehind hC (c_X0_worthBehind l D cI cQ a S hI (r := r) (k := 0) (by omega)) hB rfl ⟨rfl, rfl⟩ ⟨Nat.le_of_ble_eq_true rfl, Nat.le_of_ble_eq_true rfl⟩ ⟨Nat.zero_le _, Nat.zero_le _⟩ hl.1 rfl (Nat.le_of_ble_eq_true rfl) dX0_worthOf_8 ?_
  exact rd_i hC hr hlocks dX0_worthOf_11 (by rfl)
set_option maxHeartbeats 4000000 in
set_option maxRecDepth 100000 in
theorem c_X0_shortsOf (l : Launch) (D : va_G) (cI cQ : ClassId) (a : Nat → Nat) (S : bS) {T R : Nat} {r : Nat} (hI : BI S T R) (hr9 : r < R) : Rd l yX0_shortsOf cX0_shortsOf 2 (some .int) ({ frames := 1, cells := 0, slots := 0, locals := 23 } : Room) (BW D cI cQ a S) [.ref (a 13), .int (nI r)] (.int (bSh S T r)) := by
  refine Rd.of (by decide) (Nat.le_of_ble_eq_true rfl) ?_
  intro p e s m args below meth c ls hC hr hlocks hB hl
  have hx := hC.1
  have hb := hC.2.1
  obtain ⟨hT, hR, hT8, hR6⟩ := id hI
  have hl : lv_has ls 2 [(0, .ref (a 13)), (1, .int (nI r))] := hl
  refine lv_aload_n hx hb dX0_shortsOf_0 rfl (lv_at hl 0 rfl) ?_
  refine lv_iload_n hx hb dX0_shortsOf_1 rfl (lv_at hl 1 rfl) ?_
  refine kn_X0_requireTrader hC (c_X0_requireTrader l D cI cQ a S hI (r := r) (by omega)) hB rfl ⟨rfl, rfl⟩ ⟨Nat.le_of_ble_eq_true rfl, Nat.le_of_ble_eq_true rfl⟩ ⟨Nat.zero_le _, Nat.zero_le _⟩ hl.1 rfl (Nat.le_of_ble_eq_true rfl) dX0_shortsOf_2 ?_
  refine lv_aload_n hx hb dX0_shortsOf_5 rfl (lv_at hl 0 rfl) ?_
  refine lv_iload_n hx hb dX0_shortsOf_6 rfl (lv_at hl 1 rfl) ?_
  refine k_X0_shortTowers hC (c_X0_shortTowers l D cI cQ a S hI (r := r) (by omega)) hB rfl ⟨rfl, rfl⟩ ⟨Nat.le_of_ble_eq_true rfl, Nat.le_of_ble_eq_true rfl⟩ ⟨Nat.zero_le _, Nat.zero_le _⟩ hl.1 rfl (Nat.le_of_ble_eq_true rfl) dX0_shortsOf_7 ?_
  exact rd_i hC hr hlocks dX0_shortsOf_10 (by rfl)
set_option maxHeartbeats 4000000 in
set_option maxRecDepth 100000 in
theorem c_X0_holds (l : Launch) (D : va_G) (cI cQ : ClassId) (a : Nat → Nat) (S : bS) {T R : Nat} {r t : Nat} (hI : BI S T R) (hr9 : r < R) (ht : t < T) : Rd l yX0_holds cX0_holds 3 (some .int) ({ frames := 1, cells := 0, slots := 0, locals := 21 } : Room) (BW D cI cQ a S) [.ref (a 13), .int (nI r), .int (nI t)] (.int (S (7 + r) t)) := by
  refine Rd.of (by decide) (Nat.le_of_ble_eq_true rfl) ?_
  intro p e s m args below meth c ls hC hr hlocks hB hl
  have hx := hC.1
  have hb := hC.2.1
  obtain ⟨hT, hR, hT8, hR6⟩ := id hI
  have hl : lv_has ls 3 [(0, .ref (a 13)), (1, .int (nI r)), (2, .int (nI t))] := hl
  refine lv_aload_n hx hb dX0_holds_0 rfl (lv_at hl 0 rfl) ?_
  refine lv_iload_n hx hb dX0_holds_1 rfl (lv_at hl 1 rfl) ?_
  refine kn_X0_requireTrader hC (c_X0_requireTrader l D cI cQ a S hI (r := r) (by omega)) hB rfl ⟨rfl, rfl⟩ ⟨Nat.le_of_ble_eq_true rfl, Nat.le_of_ble_eq_true rfl⟩ ⟨Nat.zero_le _, Nat.zero_le _⟩ hl.1 rfl (Nat.le_of_ble_eq_true rfl) dX0_holds_2 ?_
  refine lv_aload_n hx hb dX0_holds_5 rfl (lv_at hl 0 rfl) ?_
  refine lv_iload_n hx hb dX0_holds_6 rfl (lv_at hl 2 rfl) ?_
  refine kn_X0_requireTower hC (c_X0_requireTower l D cI cQ a S hI (t := t) (by omega)) hB rfl ⟨rfl, rfl⟩ ⟨Nat.le_of_ble_eq_true rfl, Nat.le_of_ble_eq_true rfl⟩ ⟨Nat.zero_le _, Nat.zero_le _⟩ hl.1 rfl (Nat.le_of_ble_eq_true rfl) dX0_holds_7 ?_
  refine lv_aload_n hx hb dX0_holds_10 rfl (lv_at hl 0 rfl) ?_
  refine gB_held hC hB dX0_holds_11 ?_
  refine lv_iload_n hx hb dX0_holds_14 rfl (lv_at hl 1 rfl) ?_
  refine lB_row (r) hC hB rfl (by omega) dX0_holds_15 ?_
  refine lv_iload_n hx hb dX0_holds_16 rfl (lv_at hl 2 rfl) ?_
  refine lB_held (r) (t) hC hB (by omega) rfl (by omega) rfl dX0_holds_17 ?_
  exact rd_i hC hr hlocks dX0_holds_18 (by rfl)
set_option maxHeartbeats 4000000 in
set_option maxRecDepth 100000 in
theorem c_X0_dearest (l : Launch) (D : va_G) (cI cQ : ClassId) (a : Nat → Nat) (S : bS) {T R : Nat} (hI : BI S T R) : Rd l yX0_dearest cX0_dearest 3 (some .int) ({ frames := 4, cells := 0, slots := 0, locals := 88 } : Room) (BW D cI cQ a S) [.ref (a 13)] (.int (oI (bDe S T R))) := by
  refine Rd.of (by decide) (Nat.le_of_ble_eq_true rfl) ?_
  intro p e s m args below meth c ls hC hr hlocks hB hl
  have hx := hC.1
  have hb := hC.2.1
  obtain ⟨hT, hR, hT8, hR6⟩ := id hI
  have hl : lv_has ls 3 [(0, .ref (a 13))] := hl
  refine lv_iconst (v := -1) hx hb dX0_dearest_0 (by decide) ?_
  refine lv_istore_n (lv' := [(1, .int (-1)), (0, .ref (a 13))]) hx hb dX0_dearest_1 rfl hl (by decide) rfl (fun ls hl => ?_)
  refine lv_iconst (v := 0) hx hb dX0_dearest_2 (by decide) ?_
  refine lv_istore_n (lv' := [(2, .int (0)), (1, .int (-1)), (0, .ref (a 13))]) hx hb dX0_dearest_3 rfl hl (by decide) rfl (fun ls hl => ?_)
  refine loopU (P := fun i => ∀ ls : Array Slot, lv_has ls 3 [(2, .int (nI i)), (1, .int (oI (amx (bPr S R) i))), (0, .ref (a 13))] → W p l e ({ frames := 4, cells := 0, slots := 0, locals := 88 } : Room) s m args below meth c s.heap [] 0 0 (MQ below (k2_QcV (.int (oI (bDe S T R)))) args s 0 0 (fun _ => False)) (F0 m 4 ls [])) (T) ?_ ?_ 0 (by omega) ls (by first | exact lv_sub hl [0, 1, 2] rfl | (simpa using lv_sub hl [0, 1, 2] rfl))
  · intro ls hl
    refine lv_iload_n hx hb dX0_dearest_4 rfl (lv_at hl 0 rfl) ?_
    refine lv_aload_n hx hb dX0_dearest_5 rfl (lv_at hl 2 rfl) ?_
    refine gB_towerCount hC hB hT dX0_dearest_6 ?_
    refine jge (i := T) (j := T) (tgt := 37) hC dX0_dearest_9 (by decide) rfl rfl (by omega) (by omega) (fun c1 => ?_) (fun c1 => ?_)
    · refine lv_iload_n hx hb dX0_dearest_37 rfl (lv_at hl 1 rfl) ?_
      exact rd_i hC hr hlocks dX0_dearest_38 (by rfl)
    · exfalso; omega
  · intro i hi ih ls hl
    rcases hq : amx (bPr S R) i with _ | b9
    · rw [hq] at hl
      have hl : lv_has ls 3 [(2, .int (nI i)), (1, .int (-1)), (0, .ref (a 13))] := hl
      refine lv_iload_n hx hb dX0_dearest_4 rfl (lv_at hl 0 rfl) ?_
      refine lv_aload_n hx hb dX0_dearest_5 rfl (lv_at hl 2 rfl) ?_
      refine gB_towerCount hC hB hT dX0_dearest_6 ?_
      refine jge (i := i) (j := T) (tgt := 37) hC dX0_dearest_9 (by decide) rfl rfl (by omega) (by omega) (fun c2 => ?_) (fun c2 => ?_)
      · exfalso; omega
      · refine lv_iload_n hx hb dX0_dearest_12 rfl (lv_at hl 1 rfl) ?_
        refine lv_if_lt (tgt := 29) hx hb dX0_dearest_13 (by decide) (fun c3 => ?_) (fun c3 => ?_)
        · refine lv_iload_n hx hb dX0_dearest_29 rfl (lv_at hl 0 rfl) ?_
          refine lv_istore_n (lv' := [(1, .int (nI i)), (2, .int (nI i)), (0, .ref (a 13))]) hx hb dX0_dearest_30 rfl hl (by decide) rfl (fun ls hl => ?_)
          refine lv_iinc (v := nI (i + 1)) (lv' := [(2, .int (nI (i + 1))), (1, .int (nI i)), (0, .ref (a 13))]) hx hb dX0_dearest_31 hl (k := 1) rfl (ninc i) (by decide) rfl (fun ls hl => ?_)
          refine lv_goto (tgt := 4) hx hb dX0_dearest_34 (by decide) ?_
          have e4 : oI (amx (bPr S R) (i + 1)) = nI i := by rw [amx_none hq] <;> rfl
          exact ih ls (by rw [e4]; exact lv_sub hl [0, 1, 2] rfl)
        · exfalso; revert c3; decide
    · rw [hq] at hl
      have hl : lv_has ls 3 [(2, .int (nI i)), (1, .int (nI b9)), (0, .ref (a 13))] := hl
      have hb9 := amx_lt i hq
      refine lv_iload_n hx hb dX0_dearest_4 rfl (lv_at hl 0 rfl) ?_
      refine lv_aload_n hx hb dX0_dearest_5 rfl (lv_at hl 2 rfl) ?_
      refine gB_towerCount hC hB hT dX0_dearest_6 ?_
      refine jge (i := i) (j := T) (tgt := 37) hC dX0_dearest_9 (by decide) rfl rfl (by omega) (by omega) (fun c5 => ?_) (fun c5 => ?_)
      · exfalso; omega
      · refine lv_iload_n hx hb dX0_dearest_12 rfl (lv_at hl 1 rfl) ?_
        refine lv_if_lt (tgt := 29) hx hb dX0_dearest_13 (by decide) (fun c6 => ?_) (fun c6 => ?_)
        · exfalso; exact absurd c6 (nI_pos (by omega))
        · refine lv_aload_n hx hb dX0_dearest_16 rfl (lv_at hl 2 rfl) ?_
          refine lv_iload_n hx hb dX0_dearest_17 rfl (lv_at hl 0 rfl) ?_
          refine k_X0_priceNow hC (c_X0_priceNow l D cI cQ a S hI (t := i) (by omega)) hB rfl ⟨rfl, rfl⟩ ⟨Nat.le_of_ble_eq_true rfl, Nat.le_of_ble_eq_true rfl⟩ ⟨Nat.zero_le _, Nat.zero_le _⟩ hl.1 rfl (Nat.le_of_ble_eq_true rfl) dX0_dearest_18 ?_
          refine lv_aload_n hx hb dX0_dearest_21 rfl (lv_at hl 2 rfl) ?_
          refine lv_iload_n hx hb dX0_dearest_22 rfl (lv_at hl 1 rfl) ?_
          refine k_X0_priceNow hC (c_X0_priceNow l D cI cQ a S hI (t := b9) (by omega)) hB rfl ⟨rfl, rfl⟩ ⟨Nat.le_of_ble_eq_true rfl, Nat.le_of_ble_eq_true rfl⟩ ⟨Nat.zero_le _, Nat.zero_le _⟩ hl.1 rfl (Nat.le_of_ble_eq_true rfl) dX0_dearest_23 ?_
          refine lv_icmp_le (tgt := 31) hx hb dX0_dearest_26 (by decide) (fun c7 => ?_) (fun c7 => ?_)
          · refine lv_iinc (v := nI (i + 1)) (lv' := [(2, .int (nI (i + 1))), (1, .int (nI b9)), (0, .ref (a 13))]) hx hb dX0_dearest_31 hl (k := 0) rfl (ninc i) (by decide) rfl (fun ls hl => ?_)
            refine lv_goto (tgt := 4) hx hb dX0_dearest_34 (by decide) ?_
            have e8 : oI (amx (bPr S R) (i + 1)) = nI b9 := by rw [amx_keep hq c7] <;> rfl
            exact ih ls (by rw [e8]; exact lv_sub hl [0, 1, 2] rfl)
          · refine lv_iload_n hx hb dX0_dearest_29 rfl (lv_at hl 0 rfl) ?_
            refine lv_istore_n (lv' := [(1, .int (nI i)), (2, .int (nI i)), (0, .ref (a 13))]) hx hb dX0_dearest_30 rfl hl (by decide) rfl (fun ls hl => ?_)
            refine lv_iinc (v := nI (i + 1)) (lv' := [(2, .int (nI (i + 1))), (1, .int (nI i)), (0, .ref (a 13))]) hx hb dX0_dearest_31 hl (k := 1) rfl (ninc i) (by decide) rfl (fun ls hl => ?_)
            refine lv_goto (tgt := 4) hx hb dX0_dearest_34 (by decide) ?_
            have e9 : oI (amx (bPr S R) (i + 1)) = nI i := by rw [amx_new hq c7] <;> rfl
            exact ih ls (by rw [e9]; exact lv_sub hl [0, 1, 2] rfl)
set_option maxHeartbeats 4000000 in
set_option maxRecDepth 100000 in
theorem c_X0_nextToStrike (l : Launch) (D : va_G) (cI cQ : ClassId) (a : Nat → Nat) (S : bS) {T R : Nat} (hI : BI S T R) : Rd l yX0_nextToStrike cX0_nextToStrike 3 (some .int) ({ frames := 0, cells := 0, slots := 0, locals := 0 } : Room) (BW D cI cQ a S) [.ref (a 13)] (.int (oI (bNx S T))) := by
  refine Rd.of (by decide) (Nat.le_of_ble_eq_true rfl) ?_
  intro p e s m args below meth c ls hC hr hlocks hB hl
  have hx := hC.1
  have hb := hC.2.1
  obtain ⟨hT, hR, hT8, hR6⟩ := id hI
  have hl : lv_has ls 3 [(0, .ref (a 13))] := hl
  refine lv_iconst (v := -1) hx hb dX0_nextToStrike_0 (by decide) ?_
  refine lv_istore_n (lv' := [(1, .int (-1)), (0, .ref (a 13))]) hx hb dX0_nextToStrike_1 rfl hl (by decide) rfl (fun ls hl => ?_)
  refine lv_iconst (v := 0) hx hb dX0_nextToStrike_2 (by decide) ?_
  refine lv_istore_n (lv' := [(2, .int (0)), (1, .int (-1)), (0, .ref (a 13))]) hx hb dX0_nextToStrike_3 rfl hl (by decide) rfl (fun ls hl => ?_)
  refine loopU (P := fun i => ∀ ls : Array Slot, lv_has ls 3 [(2, .int (nI i)), (1, .int (oI (amn (S 3) i))), (0, .ref (a 13))] → W p l e ({ frames := 0, cells := 0, slots := 0, locals := 0 } : Room) s m args below meth c s.heap [] 0 0 (MQ below (k2_QcV (.int (oI (bNx S T)))) args s 0 0 (fun _ => False)) (F0 m 4 ls [])) (T) ?_ ?_ 0 (by omega) ls (by first | exact lv_sub hl [0, 1, 2] rfl | (simpa using lv_sub hl [0, 1, 2] rfl))
  · intro ls hl
    refine lv_iload_n hx hb dX0_nextToStrike_4 rfl (lv_at hl 0 rfl) ?_
    refine lv_aload_n hx hb dX0_nextToStrike_5 rfl (lv_at hl 2 rfl) ?_
    refine gB_towerCount hC hB hT dX0_nextToStrike_6 ?_
    refine jge (i := T) (j := T) (tgt := 39) hC dX0_nextToStrike_9 (by decide) rfl rfl (by omega) (by omega) (fun c1 => ?_) (fun c1 => ?_)
    · refine lv_iload_n hx hb dX0_nextToStrike_39 rfl (lv_at hl 1 rfl) ?_
      exact rd_i hC hr hlocks dX0_nextToStrike_40 (by rfl)
    · exfalso; omega
  · intro i hi ih ls hl
    rcases hq : amn (S 3) i with _ | b9
    · rw [hq] at hl
      have hl : lv_has ls 3 [(2, .int (nI i)), (1, .int (-1)), (0, .ref (a 13))] := hl
      refine lv_iload_n hx hb dX0_nextToStrike_4 rfl (lv_at hl 0 rfl) ?_
      refine lv_aload_n hx hb dX0_nextToStrike_5 rfl (lv_at hl 2 rfl) ?_
      refine gB_towerCount hC hB hT dX0_nextToStrike_6 ?_
      refine jge (i := i) (j := T) (tgt := 39) hC dX0_nextToStrike_9 (by decide) rfl rfl (by omega) (by omega) (fun c2 => ?_) (fun c2 => ?_)
      · exfalso; omega
      · refine lv_iload_n hx hb dX0_nextToStrike_12 rfl (lv_at hl 1 rfl) ?_
        refine lv_if_lt (tgt := 31) hx hb dX0_nextToStrike_13 (by decide) (fun c3 => ?_) (fun c3 => ?_)
        · refine lv_iload_n hx hb dX0_nextToStrike_31 rfl (lv_at hl 0 rfl) ?_
          refine lv_istore_n (lv' := [(1, .int (nI i)), (2, .int (nI i)), (0, .ref (a 13))]) hx hb dX0_nextToStrike_32 rfl hl (by decide) rfl (fun ls hl => ?_)
          refine lv_iinc (v := nI (i + 1)) (lv' := [(2, .int (nI (i + 1))), (1, .int (nI i)), (0, .ref (a 13))]) hx hb dX0_nextToStrike_33 hl (k := 1) rfl (ninc i) (by decide) rfl (fun ls hl => ?_)
          refine lv_goto (tgt := 4) hx hb dX0_nextToStrike_36 (by decide) ?_
          have e4 : oI (amn (S 3) (i + 1)) = nI i := by rw [amn_none hq] <;> rfl
          exact ih ls (by rw [e4]; exact lv_sub hl [0, 1, 2] rfl)
        · exfalso; revert c3; decide
    · rw [hq] at hl
      have hl : lv_has ls 3 [(2, .int (nI i)), (1, .int (nI b9)), (0, .ref (a 13))] := hl
      have hb9 := amn_lt i hq
      refine lv_iload_n hx hb dX0_nextToStrike_4 rfl (lv_at hl 0 rfl) ?_
      refine lv_aload_n hx hb dX0_nextToStrike_5 rfl (lv_at hl 2 rfl) ?_
      refine gB_towerCount hC hB hT dX0_nextToStrike_6 ?_
      refine jge (i := i) (j := T) (tgt := 39) hC dX0_nextToStrike_9 (by decide) rfl rfl (by omega) (by omega) (fun c5 => ?_) (fun c5 => ?_)
      · exfalso; omega
      · refine lv_iload_n hx hb dX0_nextToStrike_12 rfl (lv_at hl 1 rfl) ?_
        refine lv_if_lt (tgt := 31) hx hb dX0_nextToStrike_13 (by decide) (fun c6 => ?_) (fun c6 => ?_)
        · exfalso; exact absurd c6 (nI_pos (by omega))
        · refine lv_aload_n hx hb dX0_nextToStrike_16 rfl (lv_at hl 2 rfl) ?_
          refine gB_untilStroke hC hB dX0_nextToStrike_17 ?_
          refine lv_iload_n hx hb dX0_nextToStrike_20 rfl (lv_at hl 0 rfl) ?_
          refine lB_untilStroke (i) hC hB rfl (by omega) rfl dX0_nextToStrike_21 ?_
          refine lv_aload_n hx hb dX0_nextToStrike_22 rfl (lv_at hl 2 rfl) ?_
          refine gB_untilStroke hC hB dX0_nextToStrike_23 ?_
          refine lv_iload_n hx hb dX0_nextToStrike_26 rfl (lv_at hl 1 rfl) ?_
          refine lB_untilStroke (b9) hC hB rfl (by omega) rfl dX0_nextToStrike_27 ?_
          refine lv_icmp_ge (tgt := 33) hx hb dX0_nextToStrike_28 (by decide) (fun c7 => ?_) (fun c7 => ?_)
          · refine lv_iinc (v := nI (i + 1)) (lv' := [(2, .int (nI (i + 1))), (1, .int (nI b9)), (0, .ref (a 13))]) hx hb dX0_nextToStrike_33 hl (k := 0) rfl (ninc i) (by decide) rfl (fun ls hl => ?_)
            refine lv_goto (tgt := 4) hx hb dX0_nextToStrike_36 (by decide) ?_
            have e8 : oI (amn (S 3) (i + 1)) = nI b9 := by rw [amn_keep hq c7] <;> rfl
            exact ih ls (by rw [e8]; exact lv_sub hl [0, 1, 2] rfl)
          · refine lv_iload_n hx hb dX0_nextToStrike_31 rfl (lv_at hl 0 rfl) ?_
            refine lv_istore_n (lv' := [(1, .int (nI i)), (2, .int (nI i)), (0, .ref (a 13))]) hx hb dX0_nextToStrike_32 rfl hl (by decide) rfl (fun ls hl => ?_)
            refine lv_iinc (v := nI (i + 1)) (lv' := [(2, .int (nI (i + 1))), (1, .int (nI i)), (0, .ref (a 13))]) hx hb dX0_nextToStrike_33 hl (k := 1) rfl (ninc i) (by decide) rfl (fun ls hl => ?_)
            refine lv_goto (tgt := 4) hx hb dX0_nextToStrike_36 (by decide) ?_
            have e9 : oI (amn (S 3) (i + 1)) = nI i := by rw [amn_new hq c7] <;> rfl
            exact ih ls (by rw [e9]; exact lv_sub hl [0, 1, 2] rfl)
set_option maxHeartbeats 4000000 in
set_option maxRecDepth 100000 in
theorem c_X0_richest (l : Launch) (D : va_G) (cI cQ : ClassId) (a : Nat → Nat) (S : bS) {T R : Nat} (hI : BI S T R) : Rd l yX0_richest cX0_richest 3 (some .int) ({ frames := 5, cells := 0, slots := 0, locals := 118 } : Room) (BW D cI cQ a S) [.ref (a 13)] (.int (oI (bRc S T R))) := by
  refine Rd.of (by decide) (Nat.le_of_ble_eq_true rfl) ?_
  intro p e s m args below meth c ls hC hr hlocks hB hl
  have hx := hC.1
  have hb := hC.2.1
  obtain ⟨hT, hR, hT8, hR6⟩ := id hI
  have hl : lv_has ls 3 [(0, .ref (a 13))] := hl
  refine lv_iconst (v := -1) hx hb dX0_richest_0 (by decide) ?_
  refine lv_istore_n (lv' := [(1, .int (-1)), (0, .ref (a 13))]) hx hb dX0_richest_1 rfl hl (by decide) rfl (fun ls hl => ?_)
  refine lv_iconst (v := 0) hx hb dX0_richest_2 (by decide) ?_
  refine lv_istore_n (lv' := [(2, .int (0)), (1, .int (-1)), (0, .ref (a 13))]) hx hb dX0_richest_3 rfl hl (by decide) rfl (fun ls hl => ?_)
  refine loopU (P := fun i => ∀ ls : Array Slot, lv_has ls 3 [(2, .int (nI i)), (1, .int (oI (amx (fun r => bWb S T R r 0) i))), (0, .ref (a 13))] → W p l e ({ frames := 5, cells := 0, slots := 0, locals := 118 } : Room) s m args below meth c s.heap [] 0 0 (MQ below (k2_QcV (.int (oI (bRc S T R)))) args s 0 0 (fun _ => False)) (F0 m 4 ls [])) (R) ?_ ?_ 0 (by omega) ls (by first | exact lv_sub hl [0, 1, 2] rfl | (simpa using lv_sub hl [0, 1, 2] rfl))
  · intro ls hl
    refine lv_iload_n hx hb dX0_richest_4 rfl (lv_at hl 0 rfl) ?_
    refine lv_aload_n hx hb dX0_richest_5 rfl (lv_at hl 2 rfl) ?_
    refine gB_traderCount hC hB hR dX0_richest_6 ?_
    refine jge (i := R) (j := R) (tgt := 39) hC dX0_richest_9 (by decide) rfl rfl (by omega) (by omega) (fun c1 => ?_) (fun c1 => ?_)
    · refine lv_iload_n hx hb dX0_richest_39 rfl (lv_at hl 1 rfl) ?_
      exact rd_i hC hr hlocks dX0_richest_40 (by rfl)
    · exfalso; omega
  · intro i hi ih ls hl
    rcases hq : amx (fun r => bWb S T R r 0) i with _ | b9
    · rw [hq] at hl
      have hl : lv_has ls 3 [(2, .int (nI i)), (1, .int (-1)), (0, .ref (a 13))] := hl
      refine lv_iload_n hx hb dX0_richest_4 rfl (lv_at hl 0 rfl) ?_
      refine lv_aload_n hx hb dX0_richest_5 rfl (lv_at hl 2 rfl) ?_
      refine gB_traderCount hC hB hR dX0_richest_6 ?_
      refine jge (i := i) (j := R) (tgt := 39) hC dX0_richest_9 (by decide) rfl rfl (by omega) (by omega) (fun c2 => ?_) (fun c2 => ?_)
      · exfalso; omega
      · refine lv_iload_n hx hb dX0_richest_12 rfl (lv_at hl 1 rfl) ?_
        refine lv_if_lt (tgt := 31) hx hb dX0_richest_13 (by decide) (fun c3 => ?_) (fun c3 => ?_)
        · refine lv_iload_n hx hb dX0_richest_31 rfl (lv_at hl 0 rfl) ?_
          refine lv_istore_n (lv' := [(1, .int (nI i)), (2, .int (nI i)), (0, .ref (a 13))]) hx hb dX0_richest_32 rfl hl (by decide) rfl (fun ls hl => ?_)
          refine lv_iinc (v := nI (i + 1)) (lv' := [(2, .int (nI (i + 1))), (1, .int (nI i)), (0, .ref (a 13))]) hx hb dX0_richest_33 hl (k := 1) rfl (ninc i) (by decide) rfl (fun ls hl => ?_)
          refine lv_goto (tgt := 4) hx hb dX0_richest_36 (by decide) ?_
          have e4 : oI (amx (fun r => bWb S T R r 0) (i + 1)) = nI i := by rw [amx_none hq] <;> rfl
          exact ih ls (by rw [e4]; exact lv_sub hl [0, 1, 2] rfl)
        · exfalso; revert c3; decide
    · rw [hq] at hl
      have hl : lv_has ls 3 [(2, .int (nI i)), (1, .int (nI b9)), (0, .ref (a 13))] := hl
      have hb9 := amx_lt i hq
      refine lv_iload_n hx hb dX0_richest_4 rfl (lv_at hl 0 rfl) ?_
      refine lv_aload_n hx hb dX0_richest_5 rfl (lv_at hl 2 rfl) ?_
      refine gB_traderCount hC hB hR dX0_richest_6 ?_
      refine jge (i := i) (j := R) (tgt := 39) hC dX0_richest_9 (by decide) rfl rfl (by omega) (by omega) (fun c5 => ?_) (fun c5 => ?_)
      · exfalso; omega
      · refine lv_iload_n hx hb dX0_richest_12 rfl (lv_at hl 1 rfl) ?_
        refine lv_if_lt (tgt := 31) hx hb dX0_richest_13 (by decide) (fun c6 => ?_) (fun c6 => ?_)
        · exfalso; exact absurd c6 (nI_pos (by omega))
        · refine lv_aload_n hx hb dX0_richest_16 rfl (lv_at hl 2 rfl) ?_
          refine lv_iload_n hx hb dX0_richest_17 rfl (lv_at hl 0 rfl) ?_
          refine lv_iconst (v := 0) hx hb dX0_richest_18 (by decide) ?_
          refine k_X0_worthBehind hC (c_X0_worthBehind l D cI cQ a S hI (r := i) (k := 0) (by omega)) hB rfl ⟨rfl, rfl⟩ ⟨Nat.le_of_ble_eq_true rfl, Nat.le_of_ble_eq_true rfl⟩ ⟨Nat.zero_le _, Nat.zero_le _⟩ hl.1 rfl (Nat.le_of_ble_eq_true rfl) dX0_richest_19 ?_
          refine lv_aload_n hx hb dX0_richest_22 rfl (lv_at hl 2 rfl) ?_
          refine lv_iload_n hx hb dX0_richest_23 rfl (lv_at hl 1 rfl) ?_
          refine lv_iconst (v := 0) hx hb dX0_richest_24 (by decide) ?_
          refine k_X0_worthBehind hC (c_X0_worthBehind l D cI cQ a S hI (r := b9) (k := 0) (by omega)) hB rfl ⟨rfl, rfl⟩ ⟨Nat.le_of_ble_eq_true rfl, Nat.le_of_ble_eq_true rfl⟩ ⟨Nat.zero_le _, Nat.zero_le _⟩ hl.1 rfl (Nat.le_of_ble_eq_true rfl) dX0_richest_25 ?_
          refine lv_icmp_le (tgt := 33) hx hb dX0_richest_28 (by decide) (fun c7 => ?_) (fun c7 => ?_)
          · refine lv_iinc (v := nI (i + 1)) (lv' := [(2, .int (nI (i + 1))), (1, .int (nI b9)), (0, .ref (a 13))]) hx hb dX0_richest_33 hl (k := 0) rfl (ninc i) (by decide) rfl (fun ls hl => ?_)
            refine lv_goto (tgt := 4) hx hb dX0_richest_36 (by decide) ?_
            have e8 : oI (amx (fun r => bWb S T R r 0) (i + 1)) = nI b9 := by rw [amx_keep hq c7] <;> rfl
            exact ih ls (by rw [e8]; exact lv_sub hl [0, 1, 2] rfl)
          · refine lv_iload_n hx hb dX0_richest_31 rfl (lv_at hl 0 rfl) ?_
            refine lv_istore_n (lv' := [(1, .int (nI i)), (2, .int (nI i)), (0, .ref (a 13))]) hx hb dX0_richest_32 rfl hl (by decide) rfl (fun ls hl => ?_)
            refine lv_iinc (v := nI (i + 1)) (lv' := [(2, .int (nI (i + 1))), (1, .int (nI i)), (0, .ref (a 13))]) hx hb dX0_richest_33 hl (k := 1) rfl (ninc i) (by decide) rfl (fun ls hl => ?_)
            refine lv_goto (tgt := 4) hx hb dX0_richest_36 (by decide) ?_
            have e9 : oI (amx (fun r => bWb S T R r 0) (i + 1)) = nI i := by rw [amx_new hq c7] <;> rfl
            exact ih ls (by rw [e9]; exact lv_sub hl [0, 1, 2] rfl)
set_option maxHeartbeats 4000000 in
set_option maxRecDepth 100000 in
theorem c_X0_inDebt (l : Launch) (D : va_G) (cI cQ : ClassId) (a : Nat → Nat) (S : bS) {T R : Nat} (hI : BI S T R) : Rd l yX0_inDebt cX0_inDebt 3 (some .int) ({ frames := 0, cells := 0, slots := 0, locals := 0 } : Room) (BW D cI cQ a S) [.ref (a 13)] (.int (bOw S R)) := by
  refine Rd.of (by decide) (Nat.le_of_ble_eq_true rfl) ?_
  intro p e s m args below meth c ls hC hr hlocks hB hl
  have hx := hC.1
  have hb := hC.2.1
  obtain ⟨hT, hR, hT8, hR6⟩ := id hI
  have hl : lv_has ls 3 [(0, .ref (a 13))] := hl
  refine lv_iconst (v := 0) hx hb dX0_inDebt_0 (by decide) ?_
  refine lv_istore_n (lv' := [(1, .int (0)), (0, .ref (a 13))]) hx hb dX0_inDebt_1 rfl hl (by decide) rfl (fun ls hl => ?_)
  refine lv_iconst (v := 0) hx hb dX0_inDebt_2 (by decide) ?_
  refine lv_istore_n (lv' := [(2, .int (0)), (1, .int (0)), (0, .ref (a 13))]) hx hb dX0_inDebt_3 rfl hl (by decide) rfl (fun ls hl => ?_)
  refine loopU (P := fun i => ∀ ls : Array Slot, lv_has ls 3 [(2, .int (nI i)), (1, .int (bOw S i)), (0, .ref (a 13))] → W p l e ({ frames := 0, cells := 0, slots := 0, locals := 0 } : Room) s m args below meth c s.heap [] 0 0 (MQ below (k2_QcV (.int (bOw S R))) args s 0 0 (fun _ => False)) (F0 m 4 ls [])) (R) ?_ ?_ 0 (by omega) ls (by first | exact lv_sub hl [0, 1, 2] rfl | (simpa using lv_sub hl [0, 1, 2] rfl))
  · intro ls hl
    refine lv_iload_n hx hb dX0_inDebt_4 rfl (lv_at hl 0 rfl) ?_
    refine lv_aload_n hx hb dX0_inDebt_5 rfl (lv_at hl 2 rfl) ?_
    refine gB_traderCount hC hB hR dX0_inDebt_6 ?_
    refine jge (i := R) (j := R) (tgt := 30) hC dX0_inDebt_9 (by decide) rfl rfl (by omega) (by omega) (fun c1 => ?_) (fun c1 => ?_)
    · refine lv_iload_n hx hb dX0_inDebt_30 rfl (lv_at hl 1 rfl) ?_
      exact rd_i hC hr hlocks dX0_inDebt_31 (by rfl)
    · exfalso; omega
  · intro i hi ih ls hl
    refine lv_iload_n hx hb dX0_inDebt_4 rfl (lv_at hl 0 rfl) ?_
    refine lv_aload_n hx hb dX0_inDebt_5 rfl (lv_at hl 2 rfl) ?_
    refine gB_traderCount hC hB hR dX0_inDebt_6 ?_
    refine jge (i := i) (j := R) (tgt := 30) hC dX0_inDebt_9 (by decide) rfl rfl (by omega) (by omega) (fun c2 => ?_) (fun c2 => ?_)
    · exfalso; omega
    · refine lv_aload_n hx hb dX0_inDebt_12 rfl (lv_at hl 2 rfl) ?_
      refine gB_purse hC hB dX0_inDebt_13 ?_
      refine lv_iload_n hx hb dX0_inDebt_16 rfl (lv_at hl 0 rfl) ?_
      refine lB_purse (i) hC hB rfl (by omega) rfl dX0_inDebt_17 ?_
      refine lv_if_ge (tgt := 24) hx hb dX0_inDebt_18 (by decide) (fun c3 => ?_) (fun c3 => ?_)
      · refine lv_iinc (v := nI (i + 1)) (lv' := [(2, .int (nI (i + 1))), (1, .int (bOw S i)), (0, .ref (a 13))]) hx hb dX0_inDebt_24 hl (k := 0) rfl (ninc i) (by decide) rfl (fun ls hl => ?_)
        refine lv_goto (tgt := 4) hx hb dX0_inDebt_27 (by decide) ?_
        have e4 : bOw S (i + 1) = bOw S i := by show _ + (if _ then _ else _) = _; rw [if_pos c3, Int32.add_zero]; rfl
        exact ih ls (by rw [e4]; exact lv_sub hl [0, 1, 2] rfl)
      · refine lv_iinc (v := (bOw S i) + 1) (lv' := [(1, .int ((bOw S i) + 1)), (2, .int (nI i)), (0, .ref (a 13))]) hx hb dX0_inDebt_21 hl (k := 1) rfl (rfl) (by decide) rfl (fun ls hl => ?_)
        refine lv_iinc (v := nI (i + 1)) (lv' := [(2, .int (nI (i + 1))), (1, .int ((bOw S i) + 1)), (0, .ref (a 13))]) hx hb dX0_inDebt_24 hl (k := 1) rfl (ninc i) (by decide) rfl (fun ls hl => ?_)
        refine lv_goto (tgt := 4) hx hb dX0_inDebt_27 (by decide) ?_
        have e5 : bOw S (i + 1) = (bOw S i) + 1 := by show _ + (if _ then _ else _) = _; rw [if_neg c3]; rfl
        exact ih ls (by rw [e5]; exact lv_sub hl [0, 1, 2] rfl)
set_option maxHeartbeats 4000000 in
set_option maxRecDepth 100000 in
theorem c_X0_bestToBuy (l : Launch) (D : va_G) (cI cQ : ClassId) (a : Nat → Nat) (S : bS) {T R : Nat} (hI : BI S T R) : Rd l yX0_bestToBuy cX0_bestToBuy 4 (some .int) ({ frames := 5, cells := 0, slots := 0, locals := 110 } : Room) (BW D cI cQ a S) [.ref (a 13)] (.int (oI (bBu S T R))) := by
  refine Rd.of (by decide) (Nat.le_of_ble_eq_true rfl) ?_
  intro p e s m args below meth c ls hC hr hlocks hB hl
  have hx := hC.1
  have hb := hC.2.1
  obtain ⟨hT, hR, hT8, hR6⟩ := id hI
  have hl : lv_has ls 4 [(0, .ref (a 13))] := hl
  refine lv_iconst (v := -1) hx hb dX0_bestToBuy_0 (by decide) ?_
  refine lv_istore_n (lv' := [(1, .int (-1)), (0, .ref (a 13))]) hx hb dX0_bestToBuy_1 rfl hl (by decide) rfl (fun ls hl => ?_)
  refine lv_iconst (v := 0) hx hb dX0_bestToBuy_2 (by decide) ?_
  refine lv_istore_n (lv' := [(2, .int (0)), (1, .int (-1)), (0, .ref (a 13))]) hx hb dX0_bestToBuy_3 rfl hl (by decide) rfl (fun ls hl => ?_)
  refine loopU (P := fun i => ∀ ls : Array Slot, lv_has ls 4 [(2, .int (nI i)), (1, .int (oI (ab (bRi S R) i))), (0, .ref (a 13))] → W p l e ({ frames := 5, cells := 0, slots := 0, locals := 110 } : Room) s m args below meth c s.heap [] 0 0 (MQ below (k2_QcV (.int (oI (bBu S T R)))) args s 0 0 (fun _ => False)) (F0 m 4 ls [])) (T) ?_ ?_ 0 (by omega) ls (by first | exact lv_sub hl [0, 1, 2] rfl | (simpa using lv_sub hl [0, 1, 2] rfl))
  · intro ls hl
    refine lv_iload_n hx hb dX0_bestToBuy_4 rfl (lv_at hl 0 rfl) ?_
    refine lv_aload_n hx hb dX0_bestToBuy_5 rfl (lv_at hl 2 rfl) ?_
    refine gB_towerCount hC hB hT dX0_bestToBuy_6 ?_
    refine jge (i := T) (j := T) (tgt := 43) hC dX0_bestToBuy_9 (by decide) rfl rfl (by omega) (by omega) (fun c1 => ?_) (fun c1 => ?_)
    · refine lv_iload_n hx hb dX0_bestToBuy_43 rfl (lv_at hl 1 rfl) ?_
      exact rd_i hC hr hlocks dX0_bestToBuy_44 (by rfl)
    · exfalso; omega
  · intro i hi ih ls hl
    rcases hq : ab (bRi S R) i with _ | b9
    · rw [hq] at hl
      have hl : lv_has ls 4 [(2, .int (nI i)), (1, .int (-1)), (0, .ref (a 13))] := hl
      refine lv_iload_n hx hb dX0_bestToBuy_4 rfl (lv_at hl 0 rfl) ?_
      refine lv_aload_n hx hb dX0_bestToBuy_5 rfl (lv_at hl 2 rfl) ?_
      refine gB_towerCount hC hB hT dX0_bestToBuy_6 ?_
      refine jge (i := i) (j := T) (tgt := 43) hC dX0_bestToBuy_9 (by decide) rfl rfl (by omega) (by omega) (fun c2 => ?_) (fun c2 => ?_)
      · exfalso; omega
      · refine lv_aload_n hx hb dX0_bestToBuy_12 rfl (lv_at hl 2 rfl) ?_
        refine lv_iload_n hx hb dX0_bestToBuy_13 rfl (lv_at hl 0 rfl) ?_
        refine k_X0_riseUntilStroke hC (c_X0_riseUntilStroke l D cI cQ a S hI (t := i) (by omega)) hB rfl ⟨rfl, rfl⟩ ⟨Nat.le_of_ble_eq_true rfl, Nat.le_of_ble_eq_true rfl⟩ ⟨Nat.zero_le _, Nat.zero_le _⟩ hl.1 rfl (Nat.le_of_ble_eq_true rfl) dX0_bestToBuy_14 ?_
        refine lv_istore_n (lv' := [(3, .int (bRi S R i)), (2, .int (nI i)), (1, .int (-1)), (0, .ref (a 13))]) hx hb dX0_bestToBuy_17 rfl hl (by decide) rfl (fun ls hl => ?_)
        refine lv_iload_n hx hb dX0_bestToBuy_18 rfl (lv_at hl 0 rfl) ?_
        refine lv_if_le (tgt := 37) hx hb dX0_bestToBuy_19 (by decide) (fun c3 => ?_) (fun c3 => ?_)
        · refine lv_iinc (v := nI (i + 1)) (lv' := [(2, .int (nI (i + 1))), (3, .int (bRi S R i)), (1, .int (-1)), (0, .ref (a 13))]) hx hb dX0_bestToBuy_37 hl (k := 1) rfl (ninc i) (by decide) rfl (fun ls hl => ?_)
          refine lv_goto (tgt := 4) hx hb dX0_bestToBuy_40 (by decide) ?_
          have e4 : oI (ab (bRi S R) (i + 1)) = -1 := by rw [ab_skip c3, hq] <;> rfl
          exact ih ls (by rw [e4]; exact lv_sub hl [0, 2, 3] rfl)
        · refine lv_iload_n hx hb dX0_bestToBuy_22 rfl (lv_at hl 2 rfl) ?_
          refine lv_if_lt (tgt := 35) hx hb dX0_bestToBuy_23 (by decide) (fun c5 => ?_) (fun c5 => ?_)
          · refine lv_iload_n hx hb dX0_bestToBuy_35 rfl (lv_at hl 1 rfl) ?_
            refine lv_istore_n (lv' := [(1, .int (nI i)), (3, .int (bRi S R i)), (2, .int (nI i)), (0, .ref (a 13))]) hx hb dX0_bestToBuy_36 rfl hl (by decide) rfl (fun ls hl => ?_)
            refine lv_iinc (v := nI (i + 1)) (lv' := [(2, .int (nI (i + 1))), (1, .int (nI i)), (3, .int (bRi S R i)), (0, .ref (a 13))]) hx hb dX0_bestToBuy_37 hl (k := 2) rfl (ninc i) (by decide) rfl (fun ls hl => ?_)
            refine lv_goto (tgt := 4) hx hb dX0_bestToBuy_40 (by decide) ?_
            have e6 : oI (ab (bRi S R) (i + 1)) = nI i := by rw [ab_none c3 hq] <;> rfl
            exact ih ls (by rw [e6]; exact lv_sub hl [0, 1, 3] rfl)
          · exfalso; revert c5; decide
    · rw [hq] at hl
      have hl : lv_has ls 4 [(2, .int (nI i)), (1, .int (nI b9)), (0, .ref (a 13))] := hl
      have hb9 := ab_lt i hq
      refine lv_iload_n hx hb dX0_bestToBuy_4 rfl (lv_at hl 0 rfl) ?_
      refine lv_aload_n hx hb dX0_bestToBuy_5 rfl (lv_at hl 2 rfl) ?_
      refine gB_towerCount hC hB hT dX0_bestToBuy_6 ?_
      refine jge (i := i) (j := T) (tgt := 43) hC dX0_bestToBuy_9 (by decide) rfl rfl (by omega) (by omega) (fun c7 => ?_) (fun c7 => ?_)
      · exfalso; omega
      · refine lv_aload_n hx hb dX0_bestToBuy_12 rfl (lv_at hl 2 rfl) ?_
        refine lv_iload_n hx hb dX0_bestToBuy_13 rfl (lv_at hl 0 rfl) ?_
        refine k_X0_riseUntilStroke hC (c_X0_riseUntilStroke l D cI cQ a S hI (t := i) (by omega)) hB rfl ⟨rfl, rfl⟩ ⟨Nat.le_of_ble_eq_true rfl, Nat.le_of_ble_eq_true rfl⟩ ⟨Nat.zero_le _, Nat.zero_le _⟩ hl.1 rfl (Nat.le_of_ble_eq_true rfl) dX0_bestToBuy_14 ?_
        refine lv_istore_n (lv' := [(3, .int (bRi S R i)), (2, .int (nI i)), (1, .int (nI b9)), (0, .ref (a 13))]) hx hb dX0_bestToBuy_17 rfl hl (by decide) rfl (fun ls hl => ?_)
        refine lv_iload_n hx hb dX0_bestToBuy_18 rfl (lv_at hl 0 rfl) ?_
        refine lv_if_le (tgt := 37) hx hb dX0_bestToBuy_19 (by decide) (fun c8 => ?_) (fun c8 => ?_)
        · refine lv_iinc (v := nI (i + 1)) (lv' := [(2, .int (nI (i + 1))), (3, .int (bRi S R i)), (1, .int (nI b9)), (0, .ref (a 13))]) hx hb dX0_bestToBuy_37 hl (k := 1) rfl (ninc i) (by decide) rfl (fun ls hl => ?_)
          refine lv_goto (tgt := 4) hx hb dX0_bestToBuy_40 (by decide) ?_
          have e9 : oI (ab (bRi S R) (i + 1)) = nI b9 := by rw [ab_skip c8, hq] <;> rfl
          exact ih ls (by rw [e9]; exact lv_sub hl [0, 2, 3] rfl)
        · refine lv_iload_n hx hb dX0_bestToBuy_22 rfl (lv_at hl 2 rfl) ?_
          refine lv_if_lt (tgt := 35) hx hb dX0_bestToBuy_23 (by decide) (fun c10 => ?_) (fun c10 => ?_)
          · exfalso; exact absurd c10 (nI_pos (by omega))
          · refine lv_iload_n hx hb dX0_bestToBuy_26 rfl (lv_at hl 0 rfl) ?_
            refine lv_aload_n hx hb dX0_bestToBuy_27 rfl (lv_at hl 3 rfl) ?_
            refine lv_iload_n hx hb dX0_bestToBuy_28 rfl (lv_at hl 2 rfl) ?_
            refine k_X0_riseUntilStroke hC (c_X0_riseUntilStroke l D cI cQ a S hI (t := b9) (by omega)) hB rfl ⟨rfl, rfl⟩ ⟨Nat.le_of_ble_eq_true rfl, Nat.le_of_ble_eq_true rfl⟩ ⟨Nat.zero_le _, Nat.zero_le _⟩ hl.1 rfl (Nat.le_of_ble_eq_true rfl) dX0_bestToBuy_29 ?_
            refine lv_icmp_le (tgt := 37) hx hb dX0_bestToBuy_32 (by decide) (fun c11 => ?_) (fun c11 => ?_)
            · refine lv_iinc (v := nI (i + 1)) (lv' := [(2, .int (nI (i + 1))), (3, .int (bRi S R i)), (1, .int (nI b9)), (0, .ref (a 13))]) hx hb dX0_bestToBuy_37 hl (k := 1) rfl (ninc i) (by decide) rfl (fun ls hl => ?_)
              refine lv_goto (tgt := 4) hx hb dX0_bestToBuy_40 (by decide) ?_
              have e12 : oI (ab (bRi S R) (i + 1)) = nI b9 := by rw [ab_keep c8 hq c11] <;> rfl
              exact ih ls (by rw [e12]; exact lv_sub hl [0, 2, 3] rfl)
            · refine lv_iload_n hx hb dX0_bestToBuy_35 rfl (lv_at hl 1 rfl) ?_
              refine lv_istore_n (lv' := [(1, .int (nI i)), (3, .int (bRi S R i)), (2, .int (nI i)), (0, .ref (a 13))]) hx hb dX0_bestToBuy_36 rfl hl (by decide) rfl (fun ls hl => ?_)
              refine lv_iinc (v := nI (i + 1)) (lv' := [(2, .int (nI (i + 1))), (1, .int (nI i)), (3, .int (bRi S R i)), (0, .ref (a 13))]) hx hb dX0_bestToBuy_37 hl (k := 2) rfl (ninc i) (by decide) rfl (fun ls hl => ?_)
              refine lv_goto (tgt := 4) hx hb dX0_bestToBuy_40 (by decide) ?_
              have e13 : oI (ab (bRi S R) (i + 1)) = nI i := by rw [ab_new c8 hq c11] <;> rfl
              exact ih ls (by rw [e13]; exact lv_sub hl [0, 1, 3] rfl)
end
section
/-- as Rd.of, for a method of a class that is not plainly named -/
theorem Rd.ofF {l : Launch} {y : MethodName} {bytes : ByteArray} {n : Nat} {ret : Option FieldType} {rm : Room} {Wd : State → Heap → Prop} {As : List Value} {v : Value} (hy : plainFor y = true) (hn : (lg_sl As).length ≤ n)
    (body : ∀ (p : Program) (e : Env) (s : State) (m : MethodId) (args : Array Value) (below : List Frame) (meth : Method) (c : Code) (ls : Array Slot), CallFix p m c bytes n s args wsL_law y.cls → meth.sig.returnType = ret → meth.locks = false → Wd s s.heap → lv_has ls n (lv_args 0 As) →
      W p l e rm s m args below meth c s.heap [] 0 0 (MQ below (k2_QcV v) args s 0 0 (fun _ => False)) (F0 m 0 ls [])) : Rd l y bytes n ret rm Wd As v := by
  unfold Rd Met
  refine MetFree.of_bodySF (code := bytes) (maxLocals := n) (ret := ret) hy ?_ ?_
  · intro args s m h hn
    obtain ⟨meth, c, h1, h2, h3, h4, h5, h6, -, -⟩ := Cond.code_spec hn (atoms_spec (ws := wq y bytes n ret) h _ List.mem_cons_self)
    exact ⟨meth, c, h1, h2, h3, h4, h5, h6⟩
  · intro p e s m args below meth c s₁ B hml hP _
    have hh0 : s₁.heap = s.heap := by rw [B.state]; rfl
    obtain ⟨rfl, hw⟩ := hP
    have hl := lv_entry As (n := n) hn
    have key := body p e s m _ below meth c _ ⟨B.exec, B.bytes, hml, findClass_of_methodNamed B.named, fun w h => atoms_spec (ws := wq y bytes n ret) B.pre w (List.mem_cons_of_mem _ h)⟩ B.returns B.notSynchronized hw hl
    rw [← lg_entry_eq] at key
    obtain ⟨t, a1, o, b1, b2, b3⟩ := key s₁ hh0 (Stand.of_body B)
    exact ⟨t, o, a1, b1, b2, ⟨b3.1, b3.2⟩⟩
set_option maxHeartbeats 4000000 in
set_option maxRecDepth 100000 in
theorem c_J9_floorMod_7cf53 (l : Launch) (x y : Int32) (hy : ¬ y = 0) : Rd l yJ9_floorMod_7cf53 cJ9_floorMod_7cf53 3 (some .int) ({ frames := 0, cells := 0, slots := 0, locals := 0 } : Room) (fun _ _ => True) [.int (x), .int (y)] (.int (flm x y)) := by
  refine Rd.ofF (by decide +kernel) (Nat.le_of_ble_eq_true rfl) ?_
  intro p e s m args below meth c ls hC hr hlocks hB hl
  have hx := hC.1
  have hb := hC.2.1
  have hl : lv_has ls 3 [(0, .int (x)), (1, .int (y))] := hl
  refine lv_iload_n hx hb dJ9_floorMod_7cf53_0 rfl (lv_at hl 0 rfl) ?_
  refine lv_iload_n hx hb dJ9_floorMod_7cf53_1 rfl (lv_at hl 1 rfl) ?_
  refine lv_irem hx hb dJ9_floorMod_7cf53_2 (hy) ?_
  refine lv_istore_n (lv' := [(2, .int (rmi x y)), (0, .int (x)), (1, .int (y))]) hx hb dJ9_floorMod_7cf53_3 rfl hl (by decide) rfl (fun ls hl => ?_)
  refine lv_iload_n hx hb dJ9_floorMod_7cf53_4 rfl (lv_at hl 1 rfl) ?_
  refine lv_iload_n hx hb dJ9_floorMod_7cf53_5 rfl (lv_at hl 2 rfl) ?_
  refine lv_ixor hx hb dJ9_floorMod_7cf53_6 ?_
  refine lv_if_ge (tgt := 18) hx hb dJ9_floorMod_7cf53_7 (by decide) (fun c1 => ?_) (fun c1 => ?_)
  · refine lv_iload_n hx hb dJ9_floorMod_7cf53_18 rfl (lv_at hl 0 rfl) ?_
    exact rd_i hC hr hlocks dJ9_floorMod_7cf53_19 (by unfold flm; rw [if_pos c1])
  · refine lv_iload_n hx hb dJ9_floorMod_7cf53_10 rfl (lv_at hl 0 rfl) ?_
    refine lv_if_eq (tgt := 18) hx hb dJ9_floorMod_7cf53_11 (by decide) (fun c2 => ?_) (fun c2 => ?_)
    · refine lv_iload_n hx hb dJ9_floorMod_7cf53_18 rfl (lv_at hl 0 rfl) ?_
      exact rd_i hC hr hlocks dJ9_floorMod_7cf53_19 (by unfold flm; rw [if_neg c1, if_pos c2])
    · refine lv_iload_n hx hb dJ9_floorMod_7cf53_14 rfl (lv_at hl 0 rfl) ?_
      refine lv_iload_n hx hb dJ9_floorMod_7cf53_15 rfl (lv_at hl 2 rfl) ?_
      refine lv_iadd hx hb dJ9_floorMod_7cf53_16 ?_
      exact rd_i hC hr hlocks dJ9_floorMod_7cf53_17 (by unfold flm; rw [if_neg c1, if_neg c2])
set_option maxHeartbeats 4000000 in
set_option maxRecDepth 100000 in
theorem c_X0_strike (l : Launch) (D : va_G) (cI cQ : ClassId) (a : Nat → Nat) (S : bS) {T R : Nat} {t : Nat} (hI : BI S T R) (ht : t < T) : Wr l yX0_strike cX0_strike 4 none ({ frames := 4, cells := 0, slots := 0, locals := 88 } : Room) (BW D cI cQ a S) (BW D cI cQ a (bStr S R t)) (inB a) [.ref (a 13), .int (nI t)] none 0 0 := by
  refine Wr.of (by decide) (Nat.le_of_ble_eq_true rfl) ?_
  intro p e s m args below meth c ls hC hr hlocks hB hS hl
  have hx := hC.1
  have hb := hC.2.1
  have hA : ∀ q, (inB a) q → (inB a) q := fun _ h => h
  obtain ⟨hT, hR, hT8, hR6⟩ := id hI
  have hl : lv_has ls 4 [(0, .ref (a 13)), (1, .int (nI t))] := hl
  refine lv_aload_n hx hb dX0_strike_0 rfl (lv_at hl 0 rfl) ?_
  refine lv_iload_n hx hb dX0_strike_1 rfl (lv_at hl 1 rfl) ?_
  refine k_X0_priceNow hC (c_X0_priceNow l D cI cQ a S hI (t := t) (by omega)) hB rfl ⟨rfl, rfl⟩ ⟨Nat.le_of_ble_eq_true rfl, Nat.le_of_ble_eq_true rfl⟩ ⟨Nat.zero_le _, Nat.zero_le _⟩ hl.1 rfl (Nat.le_of_ble_eq_true rfl) dX0_strike_2 ?_
  refine lv_istore_n (lv' := [(2, .int (bPr S R t)), (0, .ref (a 13)), (1, .int (nI t))]) hx hb dX0_strike_5 rfl hl (by decide) rfl (fun ls hl => ?_)
  refine lv_iconst (v := 0) hx hb dX0_strike_6 (by decide) ?_
  refine lv_istore_n (lv' := [(3, .int (0)), (2, .int (bPr S R t)), (0, .ref (a 13)), (1, .int (nI t))]) hx hb dX0_strike_7 rfl hl (by decide) rfl (fun ls hl => ?_)
  refine loopU (P := fun i => ∀ (H : Heap) (locs : List Loc), BW D cI cQ a (bSt1 S (bPr S R t) t i) s H → va_S (inB a) s.heap H locs → ∀ ls : Array Slot, lv_has ls 4 [(3, .int (nI i)), (2, .int (bPr S R t)), (0, .ref (a 13)), (1, .int (nI t))] → W p l e ({ frames := 4, cells := 0, slots := 0, locals := 88 } : Room) s m args below meth c H locs 0 0 (MQ below (qW none (BW D cI cQ a (bStr S R t)) (inB a)) args s 0 0 (inB a)) (F0 m 8 ls [])) (R) ?_ ?_ 0 (by omega) s.heap [] hB hS ls (by first | exact lv_sub hl [0, 1, 2, 3] rfl | (simpa using lv_sub hl [0, 1, 2, 3] rfl))
  · intro H locs hB hS ls hl
    refine lv_iload_n hx hb dX0_strike_8 rfl (lv_at hl 0 rfl) ?_
    refine lv_aload_n hx hb dX0_strike_9 rfl (lv_at hl 2 rfl) ?_
    refine gB_traderCount hC hB ((bSt1_row S _ t 2 (by decide) (by decide) _).trans hR) dX0_strike_10 ?_
    refine jge (i := R) (j := R) (tgt := 50) hC dX0_strike_13 (by decide) rfl rfl (by omega) (by omega) (fun c1 => ?_) (fun c1 => ?_)
    · refine lv_aload_n hx hb dX0_strike_50 rfl (lv_at hl 2 rfl) ?_
      refine gB_silence hC hB dX0_strike_51 ?_
      refine lv_iload_n hx hb dX0_strike_54 rfl (lv_at hl 3 rfl) ?_
      refine lv_iconst (v := 0) hx hb dX0_strike_55 (by decide) ?_
      refine sB_silence (t) hC hB rfl (by omega) hS hA dX0_strike_56 (fun H locs hB hS => ?_)
      refine lv_aload_n hx hb dX0_strike_57 rfl (lv_at hl 2 rfl) ?_
      refine gB_strokes hC hB dX0_strike_58 ?_
      refine lv_iload_n hx hb dX0_strike_61 rfl (lv_at hl 3 rfl) ?_
      refine lv_dup2_11 hx hb dX0_strike_62 rfl rfl ?_
      refine lB_strokes (v := (bSt1 S (bPr S R t) t R) 4 t) (t) hC hB rfl (by omega) (by rw [up2_ne _ _ (by omega)]) dX0_strike_63 ?_
      refine lv_iconst (v := 1) hx hb dX0_strike_64 (by decide) ?_
      refine lv_iadd hx hb dX0_strike_65 ?_
      refine sB_strokes (t) hC hB rfl (by omega) hS hA dX0_strike_66 (fun H locs hB hS => ?_)
      refine lv_aload_n hx hb dX0_strike_67 rfl (lv_at hl 2 rfl) ?_
      refine gB_untilStroke hC hB dX0_strike_68 ?_
      refine lv_iload_n hx hb dX0_strike_71 rfl (lv_at hl 3 rfl) ?_
      refine lv_aload_n hx hb dX0_strike_72 rfl (lv_at hl 2 rfl) ?_
      refine gB_period hC hB dX0_strike_73 ?_
      refine lv_iload_n hx hb dX0_strike_76 rfl (lv_at hl 3 rfl) ?_
      refine lB_period (v := (bSt1 S (bPr S R t) t R) 1 t) (t) hC hB rfl (by omega) (by rw [up2_ne _ _ (by omega), up2_ne _ _ (by omega)]) dX0_strike_77 ?_
      refine sB_untilStroke (t) hC hB rfl (by omega) hS hA dX0_strike_78 (fun H locs hB hS => ?_)
      exact wr_v hC hr hlocks mov_B (hB) hS dX0_strike_79
    · exfalso; omega
  · intro i hi ih H locs hB hS ls hl
    refine lv_iload_n hx hb dX0_strike_8 rfl (lv_at hl 0 rfl) ?_
    refine lv_aload_n hx hb dX0_strike_9 rfl (lv_at hl 2 rfl) ?_
    refine gB_traderCount hC hB ((bSt1_row S _ t 2 (by decide) (by decide) _).trans hR) dX0_strike_10 ?_
    refine jge (i := i) (j := R) (tgt := 50) hC dX0_strike_13 (by decide) rfl rfl (by omega) (by omega) (fun c5 => ?_) (fun c5 => ?_)
    · exfalso; omega
    · refine lv_aload_n hx hb dX0_strike_16 rfl (lv_at hl 2 rfl) ?_
      refine gB_purse hC hB dX0_strike_17 ?_
      refine lv_iload_n hx hb dX0_strike_20 rfl (lv_at hl 0 rfl) ?_
      refine lv_dup2_11 hx hb dX0_strike_21 rfl rfl ?_
      refine lB_purse (i) hC hB rfl (by omega) rfl dX0_strike_22 ?_
      refine lv_iload_n hx hb dX0_strike_23 rfl (lv_at hl 1 rfl) ?_
      refine lv_aload_n hx hb dX0_strike_24 rfl (lv_at hl 2 rfl) ?_
      refine gB_held hC hB dX0_strike_25 ?_
      refine lv_iload_n hx hb dX0_strike_28 rfl (lv_at hl 0 rfl) ?_
      refine lB_row (i) hC hB rfl (by omega) dX0_strike_29 ?_
      refine lv_iload_n hx hb dX0_strike_30 rfl (lv_at hl 3 rfl) ?_
      refine lB_held (i) (t) hC hB (by omega) rfl (by omega) rfl dX0_strike_31 ?_
      refine lv_imul hx hb dX0_strike_32 ?_
      refine lv_iadd hx hb dX0_strike_33 ?_
      refine sB_purse (i) hC hB rfl (by omega) hS hA dX0_strike_34 (fun H locs hB hS => ?_)
      refine lv_aload_n hx hb dX0_strike_35 rfl (lv_at hl 2 rfl) ?_
      refine gB_held hC hB dX0_strike_36 ?_
      refine lv_iload_n hx hb dX0_strike_39 rfl (lv_at hl 0 rfl) ?_
      refine lB_row (i) hC hB rfl (by omega) dX0_strike_40 ?_
      refine lv_iload_n hx hb dX0_strike_41 rfl (lv_at hl 3 rfl) ?_
      refine lv_iconst (v := 0) hx hb dX0_strike_42 (by decide) ?_
      refine sB_held (i) (t) hC hB (by omega) rfl (by omega) hS hA dX0_strike_43 (fun H locs hB hS => ?_)
      refine lv_iinc (v := nI (i + 1)) (lv' := [(3, .int (nI (i + 1))), (2, .int (bPr S R t)), (0, .ref (a 13)), (1, .int (nI t))]) hx hb dX0_strike_44 hl (k := 0) rfl (ninc i) (by decide) rfl (fun ls hl => ?_)
      refine lv_goto (tgt := 8) hx hb dX0_strike_47 (by decide) ?_
      exact ih H locs (hB) hS ls (lv_sub hl [0, 1, 2, 3] rfl)
set_option maxHeartbeats 4000000 in
set_option maxRecDepth 100000 in
theorem c_X0_goOneSecond (l : Launch) (D : va_G) (cI cQ : ClassId) (a : Nat → Nat) (S : bS) {T R : Nat} (hI : BI S T R) : Wr l yX0_goOneSecond cX0_goOneSecond 3 (some .int) ({ frames := 5, cells := 0, slots := 0, locals := 111 } : Room) (BW D cI cQ a S) (BW D cI cQ a (bGo S R T)) (inB a) [.ref (a 13)] (some (.int (bGc S R T))) 0 0 := by
  refine Wr.of (by decide) (Nat.le_of_ble_eq_true rfl) ?_
  intro p e s m args below meth c ls hC hr hlocks hB hS hl
  have hx := hC.1
  have hb := hC.2.1
  have hA : ∀ q, (inB a) q → (inB a) q := fun _ h => h
  obtain ⟨hT, hR, hT8, hR6⟩ := id hI
  have hl : lv_has ls 3 [(0, .ref (a 13))] := hl
  refine lv_aload_n hx hb dX0_goOneSecond_0 rfl (lv_at hl 0 rfl) ?_
  refine lv_dup hx hb dX0_goOneSecond_1 rfl ?_
  refine gB_second hC hB rfl dX0_goOneSecond_2 ?_
  refine lv_iconst (v := 1) hx hb dX0_goOneSecond_5 (by decide) ?_
  refine lv_iadd hx hb dX0_goOneSecond_6 ?_
  refine pB_second hC hB hS hA dX0_goOneSecond_7 (fun H locs hB hS => ?_)
  refine lv_iconst (v := 0) hx hb dX0_goOneSecond_10 (by decide) ?_
  refine lv_istore_n (lv' := [(1, .int (0)), (0, .ref (a 13))]) hx hb dX0_goOneSecond_11 rfl hl (by decide) rfl (fun ls hl => ?_)
  refine lv_iconst (v := 0) hx hb dX0_goOneSecond_12 (by decide) ?_
  refine lv_istore_n (lv' := [(2, .int (0)), (1, .int (0)), (0, .ref (a 13))]) hx hb dX0_goOneSecond_13 rfl hl (by decide) rfl (fun ls hl => ?_)
  refine loopU (P := fun i => ∀ (H : Heap) (locs : List Loc), BW D cI cQ a (bGo S R i) s H → va_S (inB a) s.heap H locs → ∀ ls : Array Slot, lv_has ls 3 [(2, .int (nI i)), (1, .int (bGc S R i)), (0, .ref (a 13))] → W p l e ({ frames := 5, cells := 0, slots := 0, locals := 111 } : Room) s m args below meth c H locs 0 0 (MQ below (qW (some (.int (bGc S R T))) (BW D cI cQ a (bGo S R T)) (inB a)) args s 0 0 (inB a)) (F0 m 14 ls [])) (T) ?_ ?_ 0 (by omega) H locs hB hS ls (by first | exact lv_sub hl [0, 1, 2] rfl | (simpa using lv_sub hl [0, 1, 2] rfl))
  · intro H locs hB hS ls hl
    refine lv_iload_n hx hb dX0_goOneSecond_14 rfl (lv_at hl 0 rfl) ?_
    refine lv_aload_n hx hb dX0_goOneSecond_15 rfl (lv_at hl 2 rfl) ?_
    refine gB_towerCount hC hB ((BI_go hI).1) dX0_goOneSecond_16 ?_
    refine jge (i := T) (j := T) (tgt := 69) hC dX0_goOneSecond_19 (by decide) rfl rfl (by omega) (by omega) (fun c1 => ?_) (fun c1 => ?_)
    · refine lv_iload_n hx hb dX0_goOneSecond_69 rfl (lv_at hl 1 rfl) ?_
      exact wr_i hC hr hlocks mov_B (hB) hS dX0_goOneSecond_70 (by rfl)
    · exfalso; omega
  · intro i hi ih H locs hB hS ls hl
    refine lv_iload_n hx hb dX0_goOneSecond_14 rfl (lv_at hl 0 rfl) ?_
    refine lv_aload_n hx hb dX0_goOneSecond_15 rfl (lv_at hl 2 rfl) ?_
    refine gB_towerCount hC hB ((BI_go hI).1) dX0_goOneSecond_16 ?_
    refine jge (i := i) (j := T) (tgt := 69) hC dX0_goOneSecond_19 (by decide) rfl rfl (by omega) (by omega) (fun c2 => ?_) (fun c2 => ?_)
    · exfalso; omega
    · refine lv_aload_n hx hb dX0_goOneSecond_22 rfl (lv_at hl 2 rfl) ?_
      refine gB_untilStroke hC hB dX0_goOneSecond_23 ?_
      refine lv_iload_n hx hb dX0_goOneSecond_26 rfl (lv_at hl 0 rfl) ?_
      refine lB_untilStroke (i) hC hB rfl (by omega) rfl dX0_goOneSecond_27 ?_
      refine lv_iconst (v := 1) hx hb dX0_goOneSecond_28 (by decide) ?_
      refine lv_icmp_gt (tgt := 43) hx hb dX0_goOneSecond_29 (by decide) (fun c3 => ?_) (fun c3 => ?_)
      · refine lv_aload_n hx hb dX0_goOneSecond_43 rfl (lv_at hl 2 rfl) ?_
        refine gB_untilStroke hC hB dX0_goOneSecond_44 ?_
        refine lv_iload_n hx hb dX0_goOneSecond_47 rfl (lv_at hl 0 rfl) ?_
        refine lv_dup2_11 hx hb dX0_goOneSecond_48 rfl rfl ?_
        refine lB_untilStroke (i) hC hB rfl (by omega) rfl dX0_goOneSecond_49 ?_
        refine lv_iconst (v := 1) hx hb dX0_goOneSecond_50 (by decide) ?_
        refine lv_isub hx hb dX0_goOneSecond_51 ?_
        refine sB_untilStroke (i) hC hB rfl (by omega) hS hA dX0_goOneSecond_52 (fun H locs hB hS => ?_)
        refine lv_aload_n hx hb dX0_goOneSecond_53 rfl (lv_at hl 2 rfl) ?_
        refine gB_silence hC hB dX0_goOneSecond_54 ?_
        refine lv_iload_n hx hb dX0_goOneSecond_57 rfl (lv_at hl 0 rfl) ?_
        refine lv_dup2_11 hx hb dX0_goOneSecond_58 rfl rfl ?_
        refine lB_silence (v := (bGo S R i) 2 i) (i) hC hB rfl (by omega) (by rw [up2_ne _ _ (by omega)]) dX0_goOneSecond_59 ?_
        refine lv_iconst (v := 1) hx hb dX0_goOneSecond_60 (by decide) ?_
        refine lv_iadd hx hb dX0_goOneSecond_61 ?_
        refine sB_silence (i) hC hB rfl (by omega) hS hA dX0_goOneSecond_62 (fun H locs hB hS => ?_)
        refine lv_iinc (v := nI (i + 1)) (lv' := [(2, .int (nI (i + 1))), (1, .int (bGc S R i)), (0, .ref (a 13))]) hx hb dX0_goOneSecond_63 hl (k := 0) rfl (ninc i) (by decide) rfl (fun ls hl => ?_)
        refine lv_goto (tgt := 14) hx hb dX0_goOneSecond_66 (by decide) ?_
        have e6 : bGc S R (i + 1) = bGc S R i := by rw [bGc_keep c3] <;> rfl
        exact ih H locs (by rw [bGo_keep c3]; exact hB) hS ls (by rw [e6]; exact lv_sub hl [0, 1, 2] rfl)
      · refine lv_aload_n hx hb dX0_goOneSecond_32 rfl (lv_at hl 2 rfl) ?_
        refine lv_iload_n hx hb dX0_goOneSecond_33 rfl (lv_at hl 0 rfl) ?_
        refine kw_X0_strike hC (c_X0_strike l D cI cQ a (bGo S R i) (BI_go hI) (t := i) (by omega)) hB rfl ⟨rfl, rfl⟩ ⟨Nat.le_of_ble_eq_true rfl, Nat.le_of_ble_eq_true rfl⟩ ⟨Nat.le_of_ble_eq_true rfl, Nat.le_of_ble_eq_true rfl⟩ hS hA hl.1 rfl (Nat.le_of_ble_eq_true rfl) dX0_goOneSecond_34 (fun H locs hB hS => ?_)
        refine lv_iinc (v := (bGc S R i) + 1) (lv' := [(1, .int ((bGc S R i) + 1)), (2, .int (nI i)), (0, .ref (a 13))]) hx hb dX0_goOneSecond_37 hl (k := 1) rfl (rfl) (by decide) rfl (fun ls hl => ?_)
        refine lv_goto (tgt := 63) hx hb dX0_goOneSecond_40 (by decide) ?_
        refine lv_iinc (v := nI (i + 1)) (lv' := [(2, .int (nI (i + 1))), (1, .int ((bGc S R i) + 1)), (0, .ref (a 13))]) hx hb dX0_goOneSecond_63 hl (k := 1) rfl (ninc i) (by decide) rfl (fun ls hl => ?_)
        refine lv_goto (tgt := 14) hx hb dX0_goOneSecond_66 (by decide) ?_
        have e7 : bGc S R (i + 1) = (bGc S R i) + 1 := by rw [bGc_str c3] <;> rfl
        exact ih H locs (by rw [bGo_str c3]; exact hB) hS ls (by rw [e7]; exact lv_sub hl [0, 1, 2] rfl)
set_option maxHeartbeats 4000000 in
set_option maxRecDepth 100000 in
theorem c_X0_pass (l : Launch) (D : va_G) (cI cQ : ClassId) (a : Nat → Nat) (S : bS) {T R : Nat} {k : Nat} (hI : BI S T R) (hk1 : 1 ≤ k) (hk9 : k ≤ 60) : Wr l yX0_pass cX0_pass 4 (some .int) ({ frames := 6, cells := 0, slots := 0, locals := 133 } : Room) (BW D cI cQ a S) (BW D cI cQ a (bPa S T R k)) (inB a) [.ref (a 13), .int (nI k)] (some (.int (bPc S T R k))) 0 0 := by
  refine Wr.of (by decide) (Nat.le_of_ble_eq_true rfl) ?_
  intro p e s m args below meth c ls hC hr hlocks hB hS hl
  have hx := hC.1
  have hb := hC.2.1
  have hA : ∀ q, (inB a) q → (inB a) q := fun _ h => h
  obtain ⟨hT, hR, hT8, hR6⟩ := id hI
  have hl : lv_has ls 4 [(0, .ref (a 13)), (1, .int (nI k))] := hl
  refine lv_iload_n hx hb dX0_pass_0 rfl (lv_at hl 1 rfl) ?_
  refine kn_X0_requirePassable hC (c_X0_requirePassable l (k := k) (by omega) (by omega)) mov_T trivial rfl ⟨rfl, rfl⟩ ⟨Nat.le_of_ble_eq_true rfl, Nat.le_of_ble_eq_true rfl⟩ ⟨Nat.zero_le _, Nat.zero_le _⟩ hl.1 rfl (Nat.le_of_ble_eq_true rfl) dX0_pass_1 ?_
  refine lv_iconst (v := 0) hx hb dX0_pass_4 (by decide) ?_
  refine lv_istore_n (lv' := [(2, .int (0)), (0, .ref (a 13)), (1, .int (nI k))]) hx hb dX0_pass_5 rfl hl (by decide) rfl (fun ls hl => ?_)
  refine lv_iconst (v := 0) hx hb dX0_pass_6 (by decide) ?_
  refine lv_istore_n (lv' := [(3, .int (0)), (2, .int (0)), (0, .ref (a 13)), (1, .int (nI k))]) hx hb dX0_pass_7 rfl hl (by decide) rfl (fun ls hl => ?_)
  refine loopU (P := fun i => ∀ (H : Heap) (locs : List Loc), BW D cI cQ a (bPa S T R i) s H → va_S (inB a) s.heap H locs → ∀ ls : Array Slot, lv_has ls 4 [(3, .int (nI i)), (2, .int (bPc S T R i)), (0, .ref (a 13)), (1, .int (nI k))] → W p l e ({ frames := 6, cells := 0, slots := 0, locals := 133 } : Room) s m args below meth c H locs 0 0 (MQ below (qW (some (.int (bPc S T R k))) (BW D cI cQ a (bPa S T R k)) (inB a)) args s 0 0 (inB a)) (F0 m 8 ls [])) (k) ?_ ?_ 0 (by omega) s.heap [] hB hS ls (by first | exact lv_sub hl [0, 1, 2, 3] rfl | (simpa using lv_sub hl [0, 1, 2, 3] rfl))
  · intro H locs hB hS ls hl
    refine lv_iload_n hx hb dX0_pass_8 rfl (lv_at hl 0 rfl) ?_
    refine lv_iload_n hx hb dX0_pass_9 rfl (lv_at hl 3 rfl) ?_
    refine jge (i := k) (j := k) (tgt := 26) hC dX0_pass_10 (by decide) rfl rfl (by omega) (by omega) (fun c1 => ?_) (fun c1 => ?_)
    · refine lv_iload_n hx hb dX0_pass_26 rfl (lv_at hl 1 rfl) ?_
      exact wr_i hC hr hlocks mov_B (hB) hS dX0_pass_27 (by rfl)
    · exfalso; omega
  · intro i hi ih H locs hB hS ls hl
    refine lv_iload_n hx hb dX0_pass_8 rfl (lv_at hl 0 rfl) ?_
    refine lv_iload_n hx hb dX0_pass_9 rfl (lv_at hl 3 rfl) ?_
    refine jge (i := i) (j := k) (tgt := 26) hC dX0_pass_10 (by decide) rfl rfl (by omega) (by omega) (fun c2 => ?_) (fun c2 => ?_)
    · exfalso; omega
    · refine lv_iload_n hx hb dX0_pass_13 rfl (lv_at hl 1 rfl) ?_
      refine lv_aload_n hx hb dX0_pass_14 rfl (lv_at hl 2 rfl) ?_
      refine kw_X0_goOneSecond hC (c_X0_goOneSecond l D cI cQ a (bPa S T R i) (BI_pa hI _)) hB rfl ⟨rfl, rfl⟩ ⟨Nat.le_of_ble_eq_true rfl, Nat.le_of_ble_eq_true rfl⟩ ⟨Nat.le_of_ble_eq_true rfl, Nat.le_of_ble_eq_true rfl⟩ hS hA hl.1 rfl (Nat.le_of_ble_eq_true rfl) dX0_pass_15 (fun H locs hB hS => ?_)
      refine lv_iadd hx hb dX0_pass_18 ?_
      refine lv_istore_n (lv' := [(2, .int ((bPc S T R i) + (bGc (bPa S T R i) R T))), (3, .int (nI i)), (0, .ref (a 13)), (1, .int (nI k))]) hx hb dX0_pass_19 rfl hl (by decide) rfl (fun ls hl => ?_)
      refine lv_iinc (v := nI (i + 1)) (lv' := [(3, .int (nI (i + 1))), (2, .int ((bPc S T R i) + (bGc (bPa S T R i) R T))), (0, .ref (a 13)), (1, .int (nI k))]) hx hb dX0_pass_20 hl (k := 1) rfl (ninc i) (by decide) rfl (fun ls hl => ?_)
      refine lv_goto (tgt := 8) hx hb dX0_pass_23 (by decide) ?_
      exact ih H locs (hB) hS ls (lv_sub hl [0, 1, 2, 3] rfl)
set_option maxHeartbeats 4000000 in
set_option maxRecDepth 100000 in
theorem c_X0_addTrader (l : Launch) (D : va_G) (cI cQ : ClassId) (a : Nat → Nat) (S : bS) {T R : Nat} (hI : BI S T R) (hlt : R < 6) : Wr l yX0_addTrader cX0_addTrader 2 (some .int) ({ frames := 0, cells := 0, slots := 0, locals := 0 } : Room) (BW D cI cQ a S) (BW D cI cQ a (up2 (up2 S 5 R 100) 6 2 (nI (R + 1)))) (inB a) [.ref (a 13)] (some (.int (nI R))) 0 0 := by
  refine Wr.of (by decide) (Nat.le_of_ble_eq_true rfl) ?_
  intro p e s m args below meth c ls hC hr hlocks hB hS hl
  have hx := hC.1
  have hb := hC.2.1
  have hA : ∀ q, (inB a) q → (inB a) q := fun _ h => h
  obtain ⟨hT, hR, hT8, hR6⟩ := id hI
  have hl : lv_has ls 2 [(0, .ref (a 13))] := hl
  refine lv_aload_n hx hb dX0_addTrader_0 rfl (lv_at hl 0 rfl) ?_
  refine gB_traderCount hC hB hR dX0_addTrader_1 ?_
  refine lv_bipush (v := 6) hx hb dX0_addTrader_4 (by decide) ?_
  refine jlt (i := R) (j := 6) (tgt := 19) hC dX0_addTrader_6 (by decide) rfl rfl (by omega) (by omega) (fun c1 => ?_) (fun c1 => ?_)
  · refine lv_aload_n hx hb dX0_addTrader_19 rfl (lv_at hl 0 rfl) ?_
    refine gB_traderCount hC hB hR dX0_addTrader_20 ?_
    refine lv_istore_n (lv' := [(1, .int (nI R)), (0, .ref (a 13))]) hx hb dX0_addTrader_23 rfl hl (by decide) rfl (fun ls hl => ?_)
    refine lv_aload_n hx hb dX0_addTrader_24 rfl (lv_at hl 1 rfl) ?_
    refine gB_purse hC hB dX0_addTrader_25 ?_
    refine lv_iload_n hx hb dX0_addTrader_28 rfl (lv_at hl 0 rfl) ?_
    refine lv_bipush (v := 100) hx hb dX0_addTrader_29 (by decide) ?_
    refine sB_purse (R) hC hB rfl (by omega) hS hA dX0_addTrader_31 (fun H locs hB hS => ?_)
    refine lv_aload_n hx hb dX0_addTrader_32 rfl (lv_at hl 1 rfl) ?_
    refine lv_iload_n hx hb dX0_addTrader_33 rfl (lv_at hl 0 rfl) ?_
    refine lv_iconst (v := 1) hx hb dX0_addTrader_34 (by decide) ?_
    refine xadd (v := nI (R + 1)) hC dX0_addTrader_35 (nadd (i := R) (j := 1) rfl rfl) ?_
    refine pB_traderCount hC hB hS hA dX0_addTrader_36 (fun H locs hB hS => ?_)
    refine lv_iload_n hx hb dX0_addTrader_39 rfl (lv_at hl 0 rfl) ?_
    exact wr_i hC hr hlocks mov_B (hB) hS dX0_addTrader_40 (by rfl)
  · exfalso; omega
set_option maxHeartbeats 4000000 in
set_option maxRecDepth 100000 in
theorem c_X0_buy (l : Launch) (D : va_G) (cI cQ : ClassId) (a : Nat → Nat) (S : bS) {T R : Nat} {r t k : Nat} (hI : BI S T R) (hr9 : r < R) (ht : t < T) (hk1 : 1 ≤ k) (hk9 : k ≤ 9) (h1 : S (7 + r) t + nI k ≤ 9) (h2 : bPr S R t * nI k ≤ S 5 r) : Wr l yX0_buy cX0_buy 5 (some .int) ({ frames := 4, cells := 0, slots := 0, locals := 88 } : Room) (BW D cI cQ a S) (BW D cI cQ a (up2 (up2 S 5 r (S 5 r - bPr S R t * nI k)) (7 + r) t (S (7 + r) t + nI k))) (inB a) [.ref (a 13), .int (nI r), .int (nI t), .int (nI k)] (some (.int (bPr S R t * nI k))) 0 0 := by
  refine Wr.of (by decide) (Nat.le_of_ble_eq_true rfl) ?_
  intro p e s m args below meth c ls hC hr hlocks hB hS hl
  have hx := hC.1
  have hb := hC.2.1
  have hA : ∀ q, (inB a) q → (inB a) q := fun _ h => h
  obtain ⟨hT, hR, hT8, hR6⟩ := id hI
  have hl : lv_has ls 5 [(0, .ref (a 13)), (1, .int (nI r)), (2, .int (nI t)), (3, .int (nI k))] := hl
  refine lv_aload_n hx hb dX0_buy_0 rfl (lv_at hl 0 rfl) ?_
  refine lv_iload_n hx hb dX0_buy_1 rfl (lv_at hl 1 rfl) ?_
  refine kn_X0_requireTrader hC (c_X0_requireTrader l D cI cQ a S hI (r := r) (by omega)) hB rfl ⟨rfl, rfl⟩ ⟨Nat.le_of_ble_eq_true rfl, Nat.le_of_ble_eq_true rfl⟩ ⟨Nat.zero_le _, Nat.zero_le _⟩ hl.1 rfl (Nat.le_of_ble_eq_true rfl) dX0_buy_2 ?_
  refine lv_aload_n hx hb dX0_buy_5 rfl (lv_at hl 0 rfl) ?_
  refine lv_iload_n hx hb dX0_buy_6 rfl (lv_at hl 2 rfl) ?_
  refine kn_X0_requireTower hC (c_X0_requireTower l D cI cQ a S hI (t := t) (by omega)) hB rfl ⟨rfl, rfl⟩ ⟨Nat.le_of_ble_eq_true rfl, Nat.le_of_ble_eq_true rfl⟩ ⟨Nat.zero_le _, Nat.zero_le _⟩ hl.1 rfl (Nat.le_of_ble_eq_true rfl) dX0_buy_7 ?_
  refine lv_iload_n hx hb dX0_buy_10 rfl (lv_at hl 3 rfl) ?_
  refine kn_X0_requireTradable hC (c_X0_requireTradable l (k := k) (by omega) (by omega)) mov_T trivial rfl ⟨rfl, rfl⟩ ⟨Nat.le_of_ble_eq_true rfl, Nat.le_of_ble_eq_true rfl⟩ ⟨Nat.zero_le _, Nat.zero_le _⟩ hl.1 rfl (Nat.le_of_ble_eq_true rfl) dX0_buy_11 ?_
  refine lv_aload_n hx hb dX0_buy_14 rfl (lv_at hl 0 rfl) ?_
  refine lv_iload_n hx hb dX0_buy_15 rfl (lv_at hl 2 rfl) ?_
  refine k_X0_priceNow hC (c_X0_priceNow l D cI cQ a S hI (t := t) (by omega)) hB rfl ⟨rfl, rfl⟩ ⟨Nat.le_of_ble_eq_true rfl, Nat.le_of_ble_eq_true rfl⟩ ⟨Nat.zero_le _, Nat.zero_le _⟩ hl.1 rfl (Nat.le_of_ble_eq_true rfl) dX0_buy_16 ?_
  refine lv_iload_n hx hb dX0_buy_19 rfl (lv_at hl 3 rfl) ?_
  refine lv_imul hx hb dX0_buy_20 ?_
  refine lv_istore (lv' := [(4, .int ((bPr S R t) * (nI k))), (0, .ref (a 13)), (1, .int (nI r)), (2, .int (nI t)), (3, .int (nI k))]) hx hb dX0_buy_21 hl (by decide) rfl (fun ls hl => ?_)
  refine lv_aload_n hx hb dX0_buy_23 rfl (lv_at hl 1 rfl) ?_
  refine gB_held hC hB dX0_buy_24 ?_
  refine lv_iload_n hx hb dX0_buy_27 rfl (lv_at hl 2 rfl) ?_
  refine lB_row (r) hC hB rfl (by omega) dX0_buy_28 ?_
  refine lv_iload_n hx hb dX0_buy_29 rfl (lv_at hl 3 rfl) ?_
  refine lB_held (r) (t) hC hB (by omega) rfl (by omega) rfl dX0_buy_30 ?_
  refine lv_iload_n hx hb dX0_buy_31 rfl (lv_at hl 4 rfl) ?_
  refine lv_iadd hx hb dX0_buy_32 ?_
  refine lv_bipush (v := 9) hx hb dX0_buy_33 (by decide) ?_
  refine lv_icmp_le (tgt := 48) hx hb dX0_buy_35 (by decide) (fun c1 => ?_) (fun c1 => ?_)
  · refine lv_aload_n hx hb dX0_buy_48 rfl (lv_at hl 1 rfl) ?_
    refine gB_purse hC hB dX0_buy_49 ?_
    refine lv_iload_n hx hb dX0_buy_52 rfl (lv_at hl 2 rfl) ?_
    refine lB_purse (r) hC hB rfl (by omega) rfl dX0_buy_53 ?_
    refine lv_iload hx hb dX0_buy_54 (lv_at hl 0 rfl) ?_
    refine lv_icmp_ge (tgt := 69) hx hb dX0_buy_56 (by decide) (fun c2 => ?_) (fun c2 => ?_)
    · refine lv_aload_n hx hb dX0_buy_69 rfl (lv_at hl 1 rfl) ?_
      refine gB_purse hC hB dX0_buy_70 ?_
      refine lv_iload_n hx hb dX0_buy_73 rfl (lv_at hl 2 rfl) ?_
      refine lv_dup2_11 hx hb dX0_buy_74 rfl rfl ?_
      refine lB_purse (r) hC hB rfl (by omega) rfl dX0_buy_75 ?_
      refine lv_iload hx hb dX0_buy_76 (lv_at hl 0 rfl) ?_
      refine lv_isub hx hb dX0_buy_78 ?_
      refine sB_purse (r) hC hB rfl (by omega) hS hA dX0_buy_79 (fun H locs hB hS => ?_)
      refine lv_aload_n hx hb dX0_buy_80 rfl (lv_at hl 1 rfl) ?_
      refine gB_held hC hB dX0_buy_81 ?_
      refine lv_iload_n hx hb dX0_buy_84 rfl (lv_at hl 2 rfl) ?_
      refine lB_row (r) hC hB rfl (by omega) dX0_buy_85 ?_
      refine lv_iload_n hx hb dX0_buy_86 rfl (lv_at hl 3 rfl) ?_
      refine lv_dup2_11 hx hb dX0_buy_87 rfl rfl ?_
      refine lB_held (v := S (7 + r) t) (r) (t) hC hB (by omega) rfl (by omega) (by rw [up2_ne _ _ (by omega)]) dX0_buy_88 ?_
      refine lv_iload_n hx hb dX0_buy_89 rfl (lv_at hl 4 rfl) ?_
      refine lv_iadd hx hb dX0_buy_90 ?_
      refine sB_held (r) (t) hC hB (by omega) rfl (by omega) hS hA dX0_buy_91 (fun H locs hB hS => ?_)
      refine lv_iload hx hb dX0_buy_92 (lv_at hl 0 rfl) ?_
      exact wr_i hC hr hlocks mov_B (hB) hS dX0_buy_94 (by rfl)
    · exfalso; exact c2 h2
  · exfalso; exact c1 h1
set_option maxHeartbeats 4000000 in
set_option maxRecDepth 100000 in
theorem c_X0_sell (l : Launch) (D : va_G) (cI cQ : ClassId) (a : Nat → Nat) (S : bS) {T R : Nat} {r t k : Nat} (hI : BI S T R) (hr9 : r < R) (ht : t < T) (hk1 : 1 ≤ k) (hk9 : k ≤ 9) (h1 : -9 ≤ S (7 + r) t - nI k) : Wr l yX0_sell cX0_sell 5 (some .int) ({ frames := 4, cells := 0, slots := 0, locals := 88 } : Room) (BW D cI cQ a S) (BW D cI cQ a (up2 (up2 S 5 r (S 5 r + bPr S R t * nI k)) (7 + r) t (S (7 + r) t - nI k))) (inB a) [.ref (a 13), .int (nI r), .int (nI t), .int (nI k)] (some (.int (bPr S R t * nI k))) 0 0 := by
  refine Wr.of (by decide) (Nat.le_of_ble_eq_true rfl) ?_
  intro p e s m args below meth c ls hC hr hlocks hB hS hl
  have hx := hC.1
  have hb := hC.2.1
  have hA : ∀ q, (inB a) q → (inB a) q := fun _ h => h
  obtain ⟨hT, hR, hT8, hR6⟩ := id hI
  have hl : lv_has ls 5 [(0, .ref (a 13)), (1, .int (nI r)), (2, .int (nI t)), (3, .int (nI k))] := hl
  refine lv_aload_n hx hb dX0_sell_0 rfl (lv_at hl 0 rfl) ?_
  refine lv_iload_n hx hb dX0_sell_1 rfl (lv_at hl 1 rfl) ?_
  refine kn_X0_requireTrader hC (c_X0_requireTrader l D cI cQ a S hI (r := r) (by omega)) hB rfl ⟨rfl, rfl⟩ ⟨Nat.le_of_ble_eq_true rfl, Nat.le_of_ble_eq_true rfl⟩ ⟨Nat.zero_le _, Nat.zero_le _⟩ hl.1 rfl (Nat.le_of_ble_eq_true rfl) dX0_sell_2 ?_
  refine lv_aload_n hx hb dX0_sell_5 rfl (lv_at hl 0 rfl) ?_
  refine lv_iload_n hx hb dX0_sell_6 rfl (lv_at hl 2 rfl) ?_
  refine kn_X0_requireTower hC (c_X0_requireTower l D cI cQ a S hI (t := t) (by omega)) hB rfl ⟨rfl, rfl⟩ ⟨Nat.le_of_ble_eq_true rfl, Nat.le_of_ble_eq_true rfl⟩ ⟨Nat.zero_le _, Nat.zero_le _⟩ hl.1 rfl (Nat.le_of_ble_eq_true rfl) dX0_sell_7 ?_
  refine lv_iload_n hx hb dX0_sell_10 rfl (lv_at hl 3 rfl) ?_
  refine kn_X0_requireTradable hC (c_X0_requireTradable l (k := k) (by omega) (by omega)) mov_T trivial rfl ⟨rfl, rfl⟩ ⟨Nat.le_of_ble_eq_true rfl, Nat.le_of_ble_eq_true rfl⟩ ⟨Nat.zero_le _, Nat.zero_le _⟩ hl.1 rfl (Nat.le_of_ble_eq_true rfl) dX0_sell_11 ?_
  refine lv_aload_n hx hb dX0_sell_14 rfl (lv_at hl 0 rfl) ?_
  refine gB_held hC hB dX0_sell_15 ?_
  refine lv_iload_n hx hb dX0_sell_18 rfl (lv_at hl 1 rfl) ?_
  refine lB_row (r) hC hB rfl (by omega) dX0_sell_19 ?_
  refine lv_iload_n hx hb dX0_sell_20 rfl (lv_at hl 2 rfl) ?_
  refine lB_held (r) (t) hC hB (by omega) rfl (by omega) rfl dX0_sell_21 ?_
  refine lv_iload_n hx hb dX0_sell_22 rfl (lv_at hl 3 rfl) ?_
  refine lv_isub hx hb dX0_sell_23 ?_
  refine lv_bipush (v := -9) hx hb dX0_sell_24 (by decide) ?_
  refine lv_icmp_ge (tgt := 39) hx hb dX0_sell_26 (by decide) (fun c1 => ?_) (fun c1 => ?_)
  · refine lv_aload_n hx hb dX0_sell_39 rfl (lv_at hl 0 rfl) ?_
    refine lv_iload_n hx hb dX0_sell_40 rfl (lv_at hl 2 rfl) ?_
    refine k_X0_priceNow hC (c_X0_priceNow l D cI cQ a S hI (t := t) (by omega)) hB rfl ⟨rfl, rfl⟩ ⟨Nat.le_of_ble_eq_true rfl, Nat.le_of_ble_eq_true rfl⟩ ⟨Nat.zero_le _, Nat.zero_le _⟩ hl.1 rfl (Nat.le_of_ble_eq_true rfl) dX0_sell_41 ?_
    refine lv_iload_n hx hb dX0_sell_44 rfl (lv_at hl 3 rfl) ?_
    refine lv_imul hx hb dX0_sell_45 ?_
    refine lv_istore (lv' := [(4, .int ((bPr S R t) * (nI k))), (0, .ref (a 13)), (1, .int (nI r)), (2, .int (nI t)), (3, .int (nI k))]) hx hb dX0_sell_46 hl (by decide) rfl (fun ls hl => ?_)
    refine lv_aload_n hx hb dX0_sell_48 rfl (lv_at hl 1 rfl) ?_
    refine gB_purse hC hB dX0_sell_49 ?_
    refine lv_iload_n hx hb dX0_sell_52 rfl (lv_at hl 2 rfl) ?_
    refine lv_dup2_11 hx hb dX0_sell_53 rfl rfl ?_
    refine lB_purse (r) hC hB rfl (by omega) rfl dX0_sell_54 ?_
    refine lv_iload hx hb dX0_sell_55 (lv_at hl 0 rfl) ?_
    refine lv_iadd hx hb dX0_sell_57 ?_
    refine sB_purse (r) hC hB rfl (by omega) hS hA dX0_sell_58 (fun H locs hB hS => ?_)
    refine lv_aload_n hx hb dX0_sell_59 rfl (lv_at hl 1 rfl) ?_
    refine gB_held hC hB dX0_sell_60 ?_
    refine lv_iload_n hx hb dX0_sell_63 rfl (lv_at hl 2 rfl) ?_
    refine lB_row (r) hC hB rfl (by omega) dX0_sell_64 ?_
    refine lv_iload_n hx hb dX0_sell_65 rfl (lv_at hl 3 rfl) ?_
    refine lv_dup2_11 hx hb dX0_sell_66 rfl rfl ?_
    refine lB_held (v := S (7 + r) t) (r) (t) hC hB (by omega) rfl (by omega) (by rw [up2_ne _ _ (by omega)]) dX0_sell_67 ?_
    refine lv_iload_n hx hb dX0_sell_68 rfl (lv_at hl 4 rfl) ?_
    refine lv_isub hx hb dX0_sell_69 ?_
    refine sB_held (r) (t) hC hB (by omega) rfl (by omega) hS hA dX0_sell_70 (fun H locs hB hS => ?_)
    refine lv_iload hx hb dX0_sell_71 (lv_at hl 0 rfl) ?_
    exact wr_i hC hr hlocks mov_B (hB) hS dX0_sell_73 (by rfl)
  · exfalso; exact c1 h1
set_option maxHeartbeats 4000000 in
set_option maxRecDepth 100000 in
theorem c_X0_list (l : Launch) (D : va_G) (cI cQ : ClassId) (a : Nat → Nat) (S : bS) {T R : Nat} {w0 p0 b0 : Nat} (hI : BI S T R) (hT7 : T < 8) (hw1 : 1 ≤ w0) (hw9 : w0 ≤ 9) (hp2 : 2 ≤ p0) (hp20 : p0 ≤ 20) (hb0 : b0 < p0) : Wr l yX0_list cX0_list 6 (some .int) ({ frames := 1, cells := 0, slots := 0, locals := 22 } : Room) (BW D cI cQ a S) (BW D cI cQ a (up2 (up2 (up2 (up2 S 0 T (nI w0)) 1 T (nI p0)) 3 T (if flm (nI b0 - S 6 0) (nI p0) = 0 then nI p0 else flm (nI b0 - S 6 0) (nI p0))) 6 1 (nI (T + 1)))) (inB a) [.ref (a 13), .int (nI w0), .int (nI p0), .int (nI b0)] (some (.int (nI T))) 0 0 := by
  refine Wr.of (by decide) (Nat.le_of_ble_eq_true rfl) ?_
  intro p e s m args below meth c ls hC hr hlocks hB hS hl
  have hx := hC.1
  have hb := hC.2.1
  have hA : ∀ q, (inB a) q → (inB a) q := fun _ h => h
  obtain ⟨hT, hR, hT8, hR6⟩ := id hI
  have hl : lv_has ls 6 [(0, .ref (a 13)), (1, .int (nI w0)), (2, .int (nI p0)), (3, .int (nI b0))] := hl
  have hp0 : ¬ nI p0 = 0 := nI_ne0 (by omega) (by omega)
  refine lv_iload_n hx hb dX0_list_0 rfl (lv_at hl 1 rfl) ?_
  refine lv_iconst (v := 1) hx hb dX0_list_1 (by decide) ?_
  refine jlt (i := w0) (j := 1) (tgt := 11) hC dX0_list_2 (by decide) rfl rfl (by omega) (by omega) (fun c1 => ?_) (fun c1 => ?_)
  · exfalso; omega
  · refine lv_iload_n hx hb dX0_list_5 rfl (lv_at hl 1 rfl) ?_
    refine lv_bipush (v := 9) hx hb dX0_list_6 (by decide) ?_
    refine jle (i := w0) (j := 9) (tgt := 21) hC dX0_list_8 (by decide) rfl rfl (by omega) (by omega) (fun c2 => ?_) (fun c2 => ?_)
    · refine lv_iload_n hx hb dX0_list_21 rfl (lv_at hl 2 rfl) ?_
      refine lv_iconst (v := 2) hx hb dX0_list_22 (by decide) ?_
      refine jlt (i := p0) (j := 2) (tgt := 32) hC dX0_list_23 (by decide) rfl rfl (by omega) (by omega) (fun c3 => ?_) (fun c3 => ?_)
      · exfalso; omega
      · refine lv_iload_n hx hb dX0_list_26 rfl (lv_at hl 2 rfl) ?_
        refine lv_bipush (v := 20) hx hb dX0_list_27 (by decide) ?_
        refine jle (i := p0) (j := 20) (tgt := 42) hC dX0_list_29 (by decide) rfl rfl (by omega) (by omega) (fun c4 => ?_) (fun c4 => ?_)
        · refine lv_iload_n hx hb dX0_list_42 rfl (lv_at hl 3 rfl) ?_
          refine lv_if_lt (tgt := 51) hx hb dX0_list_43 (by decide) (fun c5 => ?_) (fun c5 => ?_)
          · exfalso; exact absurd c5 (nI_pos (by omega))
          · refine lv_iload_n hx hb dX0_list_46 rfl (lv_at hl 3 rfl) ?_
            refine lv_iload_n hx hb dX0_list_47 rfl (lv_at hl 2 rfl) ?_
            refine jlt (i := b0) (j := p0) (tgt := 61) hC dX0_list_48 (by decide) rfl rfl (by omega) (by omega) (fun c6 => ?_) (fun c6 => ?_)
            · refine lv_aload_n hx hb dX0_list_61 rfl (lv_at hl 0 rfl) ?_
              refine gB_towerCount hC hB hT dX0_list_62 ?_
              refine lv_bipush (v := 8) hx hb dX0_list_65 (by decide) ?_
              refine jlt (i := T) (j := 8) (tgt := 80) hC dX0_list_67 (by decide) rfl rfl (by omega) (by omega) (fun c7 => ?_) (fun c7 => ?_)
              · refine lv_aload_n hx hb dX0_list_80 rfl (lv_at hl 0 rfl) ?_
                refine gB_towerCount hC hB hT dX0_list_81 ?_
                refine lv_istore (lv' := [(4, .int (nI T)), (0, .ref (a 13)), (1, .int (nI w0)), (2, .int (nI p0)), (3, .int (nI b0))]) hx hb dX0_list_84 hl (by decide) rfl (fun ls hl => ?_)
                refine lv_iload_n hx hb dX0_list_86 rfl (lv_at hl 4 rfl) ?_
                refine lv_aload_n hx hb dX0_list_87 rfl (lv_at hl 1 rfl) ?_
                refine gB_second hC hB rfl dX0_list_88 ?_
                refine lv_isub hx hb dX0_list_91 ?_
                refine lv_iload_n hx hb dX0_list_92 rfl (lv_at hl 3 rfl) ?_
                refine k_J9_floorMod_7cf53 hC (c_J9_floorMod_7cf53 l ((nI b0) - (S 6 0)) (nI p0) (by exact hp0)) mov_T trivial rfl ⟨rfl, rfl⟩ ⟨Nat.le_of_ble_eq_true rfl, Nat.le_of_ble_eq_true rfl⟩ ⟨Nat.zero_le _, Nat.zero_le _⟩ hl.1 rfl (Nat.le_of_ble_eq_true rfl) dX0_list_93 ?_
                refine lv_istore (lv' := [(5, .int (flm ((nI b0) - (S 6 0)) (nI p0))), (4, .int (nI T)), (0, .ref (a 13)), (1, .int (nI w0)), (2, .int (nI p0)), (3, .int (nI b0))]) hx hb dX0_list_96 hl (by decide) rfl (fun ls hl => ?_)
                refine lv_aload_n hx hb dX0_list_98 rfl (lv_at hl 2 rfl) ?_
                refine gB_loudness hC hB dX0_list_99 ?_
                refine lv_iload hx hb dX0_list_102 (lv_at hl 1 rfl) ?_
                refine lv_iload_n hx hb dX0_list_104 rfl (lv_at hl 3 rfl) ?_
                refine sB_loudness (T) hC hB rfl (by omega) hS hA dX0_list_105 (fun H locs hB hS => ?_)
                refine lv_aload_n hx hb dX0_list_106 rfl (lv_at hl 2 rfl) ?_
                refine gB_period hC hB dX0_list_107 ?_
                refine lv_iload hx hb dX0_list_110 (lv_at hl 1 rfl) ?_
                refine lv_iload_n hx hb dX0_list_112 rfl (lv_at hl 4 rfl) ?_
                refine sB_period (T) hC hB rfl (by omega) hS hA dX0_list_113 (fun H locs hB hS => ?_)
                refine lv_aload_n hx hb dX0_list_114 rfl (lv_at hl 2 rfl) ?_
                refine gB_untilStroke hC hB dX0_list_115 ?_
                refine lv_iload hx hb dX0_list_118 (lv_at hl 1 rfl) ?_
                refine lv_iload hx hb dX0_list_120 (lv_at hl 0 rfl) ?_
                refine lv_if_ne (tgt := 129) hx hb dX0_list_122 (by decide) (fun c10 => ?_) (fun c10 => ?_)
                · refine lv_iload hx hb dX0_list_129 (lv_at hl 0 rfl) ?_
                  refine sB_untilStroke (T) hC hB rfl (by omega) hS hA dX0_list_131 (fun H locs hB hS => ?_)
                  refine lv_aload_n hx hb dX0_list_132 rfl (lv_at hl 2 rfl) ?_
                  refine lv_iload hx hb dX0_list_133 (lv_at hl 1 rfl) ?_
                  refine lv_iconst (v := 1) hx hb dX0_list_135 (by decide) ?_
                  refine xadd (v := nI (T + 1)) hC dX0_list_136 (nadd (i := T) (j := 1) rfl rfl) ?_
                  refine pB_towerCount hC hB hS hA dX0_list_137 (fun H locs hB hS => ?_)
                  refine lv_iload hx hb dX0_list_140 (lv_at hl 1 rfl) ?_
                  exact wr_i hC hr hlocks mov_B (by rw [if_neg c10]; exact hB) hS dX0_list_142 (by rfl)
                · refine lv_iload_n hx hb dX0_list_125 rfl (lv_at hl 4 rfl) ?_
                  refine lv_goto (tgt := 131) hx hb dX0_list_126 (by decide) ?_
                  refine sB_untilStroke (T) hC hB rfl (by omega) hS hA dX0_list_131 (fun H locs hB hS => ?_)
                  refine lv_aload_n hx hb dX0_list_132 rfl (lv_at hl 2 rfl) ?_
                  refine lv_iload hx hb dX0_list_133 (lv_at hl 1 rfl) ?_
                  refine lv_iconst (v := 1) hx hb dX0_list_135 (by decide) ?_
                  refine xadd (v := nI (T + 1)) hC dX0_list_136 (nadd (i := T) (j := 1) rfl rfl) ?_
                  refine pB_towerCount hC hB hS hA dX0_list_137 (fun H locs hB hS => ?_)
                  refine lv_iload hx hb dX0_list_140 (lv_at hl 1 rfl) ?_
                  exact wr_i hC hr hlocks mov_B (by rw [if_pos c10]; exact hB) hS dX0_list_142 (by rfl)
              · exfalso; omega
            · exfalso; omega
        · exfalso; omega
    · exfalso; omega
end
section
def bMe (S : bS) (T R : Nat) : UInt64 := if T < 1 then FP.dconst0 else FP.ddiv (FP.i2d (sma 0 (bPr S R) T)) (FP.i2d (nI T))
set_option maxHeartbeats 4000000 in
set_option maxRecDepth 100000 in
theorem c_X0_meanPrice (l : Launch) (D : va_G) (cI cQ : ClassId) (a : Nat → Nat) (S : bS) {T R : Nat} (hI : BI S T R) (hn : 1 ≤ T → vf_n64 (FP.ddiv (FP.i2d (sma 0 (bPr S R) T)) (FP.i2d (nI T)))) : Rd l yX0_meanPrice cX0_meanPrice 3 (some .double) ({ frames := 4, cells := 0, slots := 0, locals := 88 } : Room) (BW D cI cQ a S) [.ref (a 13)] (.double (bMe S T R)) := by
  refine Rd.of (by decide) (Nat.le_of_ble_eq_true rfl) ?_
  intro p e s m args below meth c ls hC hr hlocks hB hl
  have hx := hC.1
  have hb := hC.2.1
  obtain ⟨hT, hR, hT8, hR6⟩ := id hI
  have hl : lv_has ls 3 [(0, .ref (a 13))] := hl
  refine lv_aload_n hx hb dX0_meanPrice_0 rfl (lv_at hl 0 rfl) ?_
  refine gB_towerCount hC hB hT dX0_meanPrice_1 ?_
  refine lv_iconst (v := 1) hx hb dX0_meanPrice_4 (by decide) ?_
  refine jge (i := T) (j := 1) (tgt := 10) hC dX0_meanPrice_5 (by decide) rfl rfl (by omega) (by omega) (fun c1 => ?_) (fun c1 => ?_)
  · refine lv_iconst (v := 0) hx hb dX0_meanPrice_10 (by decide) ?_
    refine lv_istore_n (lv' := [(1, .int (0)), (0, .ref (a 13))]) hx hb dX0_meanPrice_11 rfl hl (by decide) rfl (fun ls hl => ?_)
    refine lv_iconst (v := 0) hx hb dX0_meanPrice_12 (by decide) ?_
    refine lv_istore_n (lv' := [(2, .int (0)), (1, .int (0)), (0, .ref (a 13))]) hx hb dX0_meanPrice_13 rfl hl (by decide) rfl (fun ls hl => ?_)
    refine loopU (P := fun i => ∀ ls : Array Slot, lv_has ls 3 [(2, .int (nI i)), (1, .int (sma 0 (bPr S R) i)), (0, .ref (a 13))] → W p l e ({ frames := 4, cells := 0, slots := 0, locals := 88 } : Room) s m args below meth c s.heap [] 0 0 (MQ below (k2_QcV (.double (bMe S T R))) args s 0 0 (fun _ => False)) (F0 m 14 ls [])) (T) ?_ ?_ 0 (by omega) ls (by first | exact lv_sub hl [0, 1, 2] rfl | (simpa using lv_sub hl [0, 1, 2] rfl))
    · intro ls hl
      refine lv_iload_n hx hb dX0_meanPrice_14 rfl (lv_at hl 0 rfl) ?_
      refine lv_aload_n hx hb dX0_meanPrice_15 rfl (lv_at hl 2 rfl) ?_
      refine gB_towerCount hC hB hT dX0_meanPrice_16 ?_
      refine jge (i := T) (j := T) (tgt := 36) hC dX0_meanPrice_19 (by decide) rfl rfl (by omega) (by omega) (fun c2 => ?_) (fun c2 => ?_)
      · refine lv_iload_n hx hb dX0_meanPrice_36 rfl (lv_at hl 1 rfl) ?_
        refine lv_i2d hx hb dX0_meanPrice_37 ?_
        refine lv_aload_n hx hb dX0_meanPrice_38 rfl (lv_at hl 2 rfl) ?_
        refine gB_towerCount hC hB hT dX0_meanPrice_39 ?_
        refine lv_i2d hx hb dX0_meanPrice_42 ?_
        refine lv_ddiv hx hb dX0_meanPrice_43 (hn c1) ?_
        exact rd_d hC hr hlocks dX0_meanPrice_44 (by unfold bMe; rw [if_neg (by omega)])
      · exfalso; omega
    · intro i hi ih ls hl
      refine lv_iload_n hx hb dX0_meanPrice_14 rfl (lv_at hl 0 rfl) ?_
      refine lv_aload_n hx hb dX0_meanPrice_15 rfl (lv_at hl 2 rfl) ?_
      refine gB_towerCount hC hB hT dX0_meanPrice_16 ?_
      refine jge (i := i) (j := T) (tgt := 36) hC dX0_meanPrice_19 (by decide) rfl rfl (by omega) (by omega) (fun c3 => ?_) (fun c3 => ?_)
      · exfalso; omega
      · refine lv_iload_n hx hb dX0_meanPrice_22 rfl (lv_at hl 1 rfl) ?_
        refine lv_aload_n hx hb dX0_meanPrice_23 rfl (lv_at hl 2 rfl) ?_
        refine lv_iload_n hx hb dX0_meanPrice_24 rfl (lv_at hl 0 rfl) ?_
        refine k_X0_priceNow hC (c_X0_priceNow l D cI cQ a S hI (t := i) (by omega)) hB rfl ⟨rfl, rfl⟩ ⟨Nat.le_of_ble_eq_true rfl, Nat.le_of_ble_eq_true rfl⟩ ⟨Nat.zero_le _, Nat.zero_le _⟩ hl.1 rfl (Nat.le_of_ble_eq_true rfl) dX0_meanPrice_25 ?_
        refine lv_iadd hx hb dX0_meanPrice_28 ?_
        refine lv_istore_n (lv' := [(1, .int ((sma 0 (bPr S R) i) + (bPr S R i))), (2, .int (nI i)), (0, .ref (a 13))]) hx hb dX0_meanPrice_29 rfl hl (by decide) rfl (fun ls hl => ?_)
        refine lv_iinc (v := nI (i + 1)) (lv' := [(2, .int (nI (i + 1))), (1, .int ((sma 0 (bPr S R) i) + (bPr S R i))), (0, .ref (a 13))]) hx hb dX0_meanPrice_30 hl (k := 1) rfl (ninc i) (by decide) rfl (fun ls hl => ?_)
        refine lv_goto (tgt := 14) hx hb dX0_meanPrice_33 (by decide) ?_
        exact ih ls (lv_sub hl [0, 1, 2] rfl)
  · refine lv_dconst0 hx hb dX0_meanPrice_8 ?_
    exact rd_d hC hr hlocks dX0_meanPrice_9 (by unfold bMe; rw [if_pos c1])
end
section
/-! ===== pure words: what Sim's methods answer ===== -/
def sDv (N : bS) (t n : Nat) : Int32 := sma 0 (fun r => if 0 ≤ N (7 + r) t then 0 else -(N (7 + r) t)) n
def sPz (N : bS) (t : Nat) : Int32 := N (20 + t) 3 * N (20 + t) 0 - sDv N t 6 - sDv N t 6
def sPr (N : bS) (t : Nat) : Int32 := if 0 ≤ sPz N t then sPz N t else 0
def sUz (N : bS) (t : Nat) : Int32 := rmi (N (20 + t) 2 - N 6 0) (N (20 + t) 1)
def sUn (N : bS) (t : Nat) : Int32 := if sUz N t ≤ 0 then sUz N t + N (20 + t) 1 else sUz N t
def sWo (N : bS) (T r : Nat) : Int32 := sma (N 5 r) (fun t => N (7 + r) t * sPr N t) T
def nSl (N : bS) (r t : Nat) (x : Int32) : bS := up2 (up2 N 5 r (N 5 r + x * sPr N t)) (7 + r) t (N (7 + r) t - x)
end
section
set_option maxHeartbeats 4000000 in
set_option maxRecDepth 100000 in
theorem c_X1_doves (l : Launch) (D : va_G) (cI cQ : ClassId) (b : Nat → Nat) (N : bS) {T R : Nat} (hT8 : T ≤ 8) (hR6 : R ≤ 6) {t : Nat} (ht : t < 8) : Rd l yX1_doves cX1_doves 7 (some .int) ({ frames := 0, cells := 0, slots := 0, locals := 0 } : Room) (SW D cI cQ b N T R) [.ref (b 0), .int (nI t)] (.int (sDv N t 6)) := by
  refine Rd.of (by decide) (Nat.le_of_ble_eq_true rfl) ?_
  intro p e s m args below meth c ls hC hr hlocks hN hl
  have hx := hC.1
  have hb := hC.2.1
  have hl : lv_has ls 7 [(0, .ref (b 0)), (1, .int (nI t))] := hl
  refine lv_iconst (v := 0) hx hb dX1_doves_0 (by decide) ?_
  refine lv_istore_n (lv' := [(2, .int (0)), (0, .ref (b 0)), (1, .int (nI t))]) hx hb dX1_doves_1 rfl hl (by decide) rfl (fun ls hl => ?_)
  refine lv_aload_n hx hb dX1_doves_2 rfl (lv_at hl 1 rfl) ?_
  refine gX1_held hC hN dX1_doves_3 ?_
  refine lv_astore_n (lv' := [(3, .ref (b 3)), (2, .int (0)), (0, .ref (b 0)), (1, .int (nI t))]) hx hb dX1_doves_6 rfl hl (by decide) rfl (fun ls hl => ?_)
  refine lv_aload_n hx hb dX1_doves_7 rfl (lv_at hl 0 rfl) ?_
  refine nS_held hC hN dX1_doves_8 ?_
  refine lv_istore (lv' := [(4, .int (nI 6)), (3, .ref (b 3)), (2, .int (0)), (0, .ref (b 0)), (1, .int (nI t))]) hx hb dX1_doves_9 hl (by decide) rfl (fun ls hl => ?_)
  refine lv_iconst (v := 0) hx hb dX1_doves_11 (by decide) ?_
  refine lv_istore (lv' := [(5, .int (0)), (4, .int (nI 6)), (3, .ref (b 3)), (2, .int (0)), (0, .ref (b 0)), (1, .int (nI t))]) hx hb dX1_doves_12 hl (by decide) rfl (fun ls hl => ?_)
  refine loopU (P := fun i => ∀ ls : Array Slot, lv_has ls 7 [(5, .int (nI i)), (2, .int (sDv N t i)), (0, .ref (b 0)), (1, .int (nI t)), (3, .ref (b 3)), (4, .int (nI 6))] → W p l e ({ frames := 0, cells := 0, slots := 0, locals := 0 } : Room) s m args below meth c s.heap [] 0 0 (MQ below (k2_QcV (.int (sDv N t 6))) args s 0 0 (fun _ => False)) (F0 m 14 ls [])) (6) ?_ ?_ 0 (by omega) ls (by first | exact lv_sub hl [0, 3, 4, 5, 2, 1] rfl | (simpa using lv_sub hl [0, 3, 4, 5, 2, 1] rfl))
  · intro ls hl
    refine lv_iload hx hb dX1_doves_14 (lv_at hl 0 rfl) ?_
    refine lv_iload hx hb dX1_doves_16 (lv_at hl 5 rfl) ?_
    refine jge (i := 6) (j := 6) (tgt := 52) hC dX1_doves_18 (by decide) rfl rfl (by omega) (by omega) (fun c1 => ?_) (fun c1 => ?_)
    · refine lv_iload_n hx hb dX1_doves_52 rfl (lv_at hl 1 rfl) ?_
      exact rd_i hC hr hlocks dX1_doves_53 (by rfl)
    · exfalso; omega
  · intro i hi ih ls hl
    refine lv_iload hx hb dX1_doves_14 (lv_at hl 0 rfl) ?_
    refine lv_iload hx hb dX1_doves_16 (lv_at hl 5 rfl) ?_
    refine jge (i := i) (j := 6) (tgt := 52) hC dX1_doves_18 (by decide) rfl rfl (by omega) (by omega) (fun c2 => ?_) (fun c2 => ?_)
    · exfalso; omega
    · refine lv_aload_n hx hb dX1_doves_21 rfl (lv_at hl 4 rfl) ?_
      refine lv_iload hx hb dX1_doves_22 (lv_at hl 0 rfl) ?_
      refine lS_hr (i) hC hN rfl (by omega) dX1_doves_24 ?_
      refine lv_astore (lv' := [(6, .ref (b (4 + i))), (5, .int (nI i)), (2, .int (sDv N t i)), (0, .ref (b 0)), (1, .int (nI t)), (3, .ref (b 3)), (4, .int (nI 6))]) hx hb dX1_doves_25 hl (by decide) rfl (fun ls hl => ?_)
      refine lv_iload_n hx hb dX1_doves_27 rfl (lv_at hl 2 rfl) ?_
      refine lv_aload hx hb dX1_doves_28 (lv_at hl 0 rfl) ?_
      refine lv_iload_n hx hb dX1_doves_30 rfl (lv_at hl 4 rfl) ?_
      refine lS_held (i) (t) hC hN (by omega) rfl (by omega) rfl dX1_doves_31 ?_
      refine lv_if_ge (tgt := 43) hx hb dX1_doves_32 (by decide) (fun c3 => ?_) (fun c3 => ?_)
      · refine lv_iconst (v := 0) hx hb dX1_doves_43 (by decide) ?_
        refine lv_iadd hx hb dX1_doves_44 ?_
        refine lv_istore_n (lv' := [(2, .int ((sDv N t i) + 0)), (6, .ref (b (4 + i))), (5, .int (nI i)), (0, .ref (b 0)), (1, .int (nI t)), (3, .ref (b 3)), (4, .int (nI 6))]) hx hb dX1_doves_45 rfl hl (by decide) rfl (fun ls hl => ?_)
        refine lv_iinc (v := nI (i + 1)) (lv' := [(5, .int (nI (i + 1))), (2, .int ((sDv N t i) + 0)), (6, .ref (b (4 + i))), (0, .ref (b 0)), (1, .int (nI t)), (3, .ref (b 3)), (4, .int (nI 6))]) hx hb dX1_doves_46 hl (k := 2) rfl (ninc i) (by decide) rfl (fun ls hl => ?_)
        refine lv_goto (tgt := 14) hx hb dX1_doves_49 (by decide) ?_
        have e4 : sDv N t (i + 1) = (sDv N t i) + 0 := by show _ + (if _ then _ else _) = _; rw [if_pos c3] <;> rfl
        exact ih ls (by rw [e4]; exact lv_sub hl [0, 1, 3, 4, 5, 6] rfl)
      · refine lv_aload hx hb dX1_doves_35 (lv_at hl 0 rfl) ?_
        refine lv_iload_n hx hb dX1_doves_37 rfl (lv_at hl 4 rfl) ?_
        refine lS_held (i) (t) hC hN (by omega) rfl (by omega) rfl dX1_doves_38 ?_
        refine lv_ineg hx hb dX1_doves_39 ?_
        refine lv_goto (tgt := 44) hx hb dX1_doves_40 (by decide) ?_
        refine lv_iadd hx hb dX1_doves_44 ?_
        refine lv_istore_n (lv' := [(2, .int ((sDv N t i) + (-(N (7 + i) t)))), (6, .ref (b (4 + i))), (5, .int (nI i)), (0, .ref (b 0)), (1, .int (nI t)), (3, .ref (b 3)), (4, .int (nI 6))]) hx hb dX1_doves_45 rfl hl (by decide) rfl (fun ls hl => ?_)
        refine lv_iinc (v := nI (i + 1)) (lv' := [(5, .int (nI (i + 1))), (2, .int ((sDv N t i) + (-(N (7 + i) t)))), (6, .ref (b (4 + i))), (0, .ref (b 0)), (1, .int (nI t)), (3, .ref (b 3)), (4, .int (nI 6))]) hx hb dX1_doves_46 hl (k := 2) rfl (ninc i) (by decide) rfl (fun ls hl => ?_)
        refine lv_goto (tgt := 14) hx hb dX1_doves_49 (by decide) ?_
        have e5 : sDv N t (i + 1) = (sDv N t i) + (-(N (7 + i) t)) := by show _ + (if _ then _ else _) = _; rw [if_neg c3] <;> rfl
        exact ih ls (by rw [e5]; exact lv_sub hl [0, 1, 3, 4, 5, 6] rfl)
set_option maxHeartbeats 4000000 in
set_option maxRecDepth 100000 in
theorem c_X1_price (l : Launch) (D : va_G) (cI cQ : ClassId) (b : Nat → Nat) (N : bS) {T R : Nat} (hT8 : T ≤ 8) (hR6 : R ≤ 6) {t : Nat} (ht : t < T) : Rd l yX1_price cX1_price 3 (some .int) ({ frames := 1, cells := 0, slots := 0, locals := 26 } : Room) (SW D cI cQ b N T R) [.ref (b 0), .int (nI t)] (.int (sPr N t)) := by
  refine Rd.of (by decide) (Nat.le_of_ble_eq_true rfl) ?_
  intro p e s m args below meth c ls hC hr hlocks hN hl
  have hx := hC.1
  have hb := hC.2.1
  have hl : lv_has ls 3 [(0, .ref (b 0)), (1, .int (nI t))] := hl
  refine lv_aload_n hx hb dX1_price_0 rfl (lv_at hl 0 rfl) ?_
  refine gX1_towers hC hN dX1_price_1 ?_
  refine lv_iload_n hx hb dX1_price_4 rfl (lv_at hl 1 rfl) ?_
  refine lS_tw (t) hC hN rfl (by omega) (by omega) dX1_price_5 ?_
  refine lv_iconst (v := 3) hx hb dX1_price_6 (by decide) ?_
  refine lS_row (t) (3) hC hN (by omega) rfl (by omega) rfl dX1_price_7 ?_
  refine lv_aload_n hx hb dX1_price_8 rfl (lv_at hl 0 rfl) ?_
  refine gX1_towers hC hN dX1_price_9 ?_
  refine lv_iload_n hx hb dX1_price_12 rfl (lv_at hl 1 rfl) ?_
  refine lS_tw (t) hC hN rfl (by omega) (by omega) dX1_price_13 ?_
  refine lv_iconst (v := 0) hx hb dX1_price_14 (by decide) ?_
  refine lS_row (t) (0) hC hN (by omega) rfl (by omega) rfl dX1_price_15 ?_
  refine lv_imul hx hb dX1_price_16 ?_
  refine lv_aload_n hx hb dX1_price_17 rfl (lv_at hl 0 rfl) ?_
  refine lv_iload_n hx hb dX1_price_18 rfl (lv_at hl 1 rfl) ?_
  refine k1_X1_doves hC (c_X1_doves l D cI cQ b N hT8 hR6 (t := t) (by omega)) hN rfl ⟨rfl, rfl⟩ ⟨Nat.le_of_ble_eq_true rfl, Nat.le_of_ble_eq_true rfl⟩ ⟨Nat.zero_le _, Nat.zero_le _⟩ hl.1 rfl (Nat.le_of_ble_eq_true rfl) dX1_price_19 ?_
  refine lv_isub hx hb dX1_price_22 ?_
  refine lv_aload_n hx hb dX1_price_23 rfl (lv_at hl 0 rfl) ?_
  refine lv_iload_n hx hb dX1_price_24 rfl (lv_at hl 1 rfl) ?_
  refine k1_X1_doves hC (c_X1_doves l D cI cQ b N hT8 hR6 (t := t) (by omega)) hN rfl ⟨rfl, rfl⟩ ⟨Nat.le_of_ble_eq_true rfl, Nat.le_of_ble_eq_true rfl⟩ ⟨Nat.zero_le _, Nat.zero_le _⟩ hl.1 rfl (Nat.le_of_ble_eq_true rfl) dX1_price_25 ?_
  refine lv_isub hx hb dX1_price_28 ?_
  refine lv_istore_n (lv' := [(2, .int ((((N (20 + t) 3) * (N (20 + t) 0)) - (sDv N t 6)) - (sDv N t 6))), (0, .ref (b 0)), (1, .int (nI t))]) hx hb dX1_price_29 rfl hl (by decide) rfl (fun ls hl => ?_)
  refine lv_iload_n hx hb dX1_price_30 rfl (lv_at hl 0 rfl) ?_
  refine lv_if_ge (tgt := 38) hx hb dX1_price_31 (by decide) (fun c1 => ?_) (fun c1 => ?_)
  · refine lv_iload_n hx hb dX1_price_38 rfl (lv_at hl 0 rfl) ?_
    exact rd_i hC hr hlocks dX1_price_39 (by unfold sPr sPz; rw [if_pos c1] <;> rfl)
  · refine lv_iconst (v := 0) hx hb dX1_price_34 (by decide) ?_
    refine lv_goto (tgt := 39) hx hb dX1_price_35 (by decide) ?_
    exact rd_i hC hr hlocks dX1_price_39 (by unfold sPr sPz; rw [if_neg c1] <;> rfl)
set_option maxHeartbeats 4000000 in
set_option maxRecDepth 100000 in
theorem c_X1_until (l : Launch) (D : va_G) (cI cQ : ClassId) (b : Nat → Nat) (N : bS) {T R : Nat} (hT8 : T ≤ 8) (hR6 : R ≤ 6) {t : Nat} (ht : t < T) (hP : ∀ t, t < T → ¬ N (20 + t) 1 = 0) : Rd l yX1_until cX1_until 3 (some .int) ({ frames := 0, cells := 0, slots := 0, locals := 0 } : Room) (SW D cI cQ b N T R) [.ref (b 0), .int (nI t)] (.int (sUn N t)) := by
  refine Rd.of (by decide) (Nat.le_of_ble_eq_true rfl) ?_
  intro p e s m args below meth c ls hC hr hlocks hN hl
  have hx := hC.1
  have hb := hC.2.1
  have hl : lv_has ls 3 [(0, .ref (b 0)), (1, .int (nI t))] := hl
  refine lv_aload_n hx hb dX1_until_0 rfl (lv_at hl 0 rfl) ?_
  refine gX1_towers hC hN dX1_until_1 ?_
  refine lv_iload_n hx hb dX1_until_4 rfl (lv_at hl 1 rfl) ?_
  refine lS_tw (t) hC hN rfl (by omega) (by omega) dX1_until_5 ?_
  refine lv_iconst (v := 2) hx hb dX1_until_6 (by decide) ?_
  refine lS_row (t) (2) hC hN (by omega) rfl (by omega) rfl dX1_until_7 ?_
  refine lv_aload_n hx hb dX1_until_8 rfl (lv_at hl 0 rfl) ?_
  refine gX1_second hC hN rfl dX1_until_9 ?_
  refine lv_isub hx hb dX1_until_12 ?_
  refine lv_aload_n hx hb dX1_until_13 rfl (lv_at hl 0 rfl) ?_
  refine gX1_towers hC hN dX1_until_14 ?_
  refine lv_iload_n hx hb dX1_until_17 rfl (lv_at hl 1 rfl) ?_
  refine lS_tw (t) hC hN rfl (by omega) (by omega) dX1_until_18 ?_
  refine lv_iconst (v := 1) hx hb dX1_until_19 (by decide) ?_
  refine lS_row (t) (1) hC hN (by omega) rfl (by omega) rfl dX1_until_20 ?_
  refine lv_irem hx hb dX1_until_21 (hP t ht) ?_
  refine lv_istore_n (lv' := [(2, .int (rmi ((N (20 + t) 2) - (N 6 0)) (N (20 + t) 1))), (0, .ref (b 0)), (1, .int (nI t))]) hx hb dX1_until_22 rfl hl (by decide) rfl (fun ls hl => ?_)
  refine lv_iload_n hx hb dX1_until_23 rfl (lv_at hl 0 rfl) ?_
  refine lv_if_le (tgt := 31) hx hb dX1_until_24 (by decide) (fun c1 => ?_) (fun c1 => ?_)
  · refine lv_iload_n hx hb dX1_until_31 rfl (lv_at hl 0 rfl) ?_
    refine lv_aload_n hx hb dX1_until_32 rfl (lv_at hl 1 rfl) ?_
    refine gX1_towers hC hN dX1_until_33 ?_
    refine lv_iload_n hx hb dX1_until_36 rfl (lv_at hl 2 rfl) ?_
    refine lS_tw (t) hC hN rfl (by omega) (by omega) dX1_until_37 ?_
    refine lv_iconst (v := 1) hx hb dX1_until_38 (by decide) ?_
    refine lS_row (t) (1) hC hN (by omega) rfl (by omega) rfl dX1_until_39 ?_
    refine lv_iadd hx hb dX1_until_40 ?_
    exact rd_i hC hr hlocks dX1_until_41 (by unfold sUn sUz; rw [if_pos c1] <;> rfl)
  · refine lv_iload_n hx hb dX1_until_27 rfl (lv_at hl 0 rfl) ?_
    refine lv_goto (tgt := 41) hx hb dX1_until_28 (by decide) ?_
    exact rd_i hC hr hlocks dX1_until_41 (by unfold sUn sUz; rw [if_neg c1] <;> rfl)
set_option maxHeartbeats 4000000 in
set_option maxRecDepth 100000 in
theorem c_X1_worth (l : Launch) (D : va_G) (cI cQ : ClassId) (b : Nat → Nat) (N : bS) {T R : Nat} (hT8 : T ≤ 8) (hR6 : R ≤ 6) {r : Nat} (hr9 : r < R) : Rd l yX1_worth cX1_worth 4 (some .int) ({ frames := 2, cells := 0, slots := 0, locals := 48 } : Room) (SW D cI cQ b N T R) [.ref (b 0), .int (nI r)] (.int (sWo N T r)) := by
  refine Rd.of (by decide) (Nat.le_of_ble_eq_true rfl) ?_
  intro p e s m args below meth c ls hC hr hlocks hN hl
  have hx := hC.1
  have hb := hC.2.1
  have hl : lv_has ls 4 [(0, .ref (b 0)), (1, .int (nI r))] := hl
  refine lv_aload_n hx hb dX1_worth_0 rfl (lv_at hl 0 rfl) ?_
  refine gX1_purses hC hN dX1_worth_1 ?_
  refine lv_iload_n hx hb dX1_worth_4 rfl (lv_at hl 1 rfl) ?_
  refine lS_pur (r) hC hN rfl (by omega) (by omega) rfl dX1_worth_5 ?_
  refine lv_istore_n (lv' := [(2, .int (N 5 r)), (0, .ref (b 0)), (1, .int (nI r))]) hx hb dX1_worth_6 rfl hl (by decide) rfl (fun ls hl => ?_)
  refine lv_iconst (v := 0) hx hb dX1_worth_7 (by decide) ?_
  refine lv_istore_n (lv' := [(3, .int (0)), (2, .int (N 5 r)), (0, .ref (b 0)), (1, .int (nI r))]) hx hb dX1_worth_8 rfl hl (by decide) rfl (fun ls hl => ?_)
  refine loopU (P := fun i => ∀ ls : Array Slot, lv_has ls 4 [(3, .int (nI i)), (2, .int (sWo N i r)), (0, .ref (b 0)), (1, .int (nI r))] → W p l e ({ frames := 2, cells := 0, slots := 0, locals := 48 } : Room) s m args below meth c s.heap [] 0 0 (MQ below (k2_QcV (.int (sWo N T r))) args s 0 0 (fun _ => False)) (F0 m 9 ls [])) (T) ?_ ?_ 0 (by omega) ls (by first | exact lv_sub hl [0, 1, 2, 3] rfl | (simpa using lv_sub hl [0, 1, 2, 3] rfl))
  · intro ls hl
    refine lv_iload_n hx hb dX1_worth_9 rfl (lv_at hl 0 rfl) ?_
    refine lv_aload_n hx hb dX1_worth_10 rfl (lv_at hl 2 rfl) ?_
    refine gX1_towers hC hN dX1_worth_11 ?_
    refine nS_towers hC hN dX1_worth_14 ?_
    refine jge (i := T) (j := T) (tgt := 41) hC dX1_worth_15 (by decide) rfl rfl (by omega) (by omega) (fun c1 => ?_) (fun c1 => ?_)
    · refine lv_iload_n hx hb dX1_worth_41 rfl (lv_at hl 1 rfl) ?_
      exact rd_i hC hr hlocks dX1_worth_42 (by rfl)
    · exfalso; omega
  · intro i hi ih ls hl
    refine lv_iload_n hx hb dX1_worth_9 rfl (lv_at hl 0 rfl) ?_
    refine lv_aload_n hx hb dX1_worth_10 rfl (lv_at hl 2 rfl) ?_
    refine gX1_towers hC hN dX1_worth_11 ?_
    refine nS_towers hC hN dX1_worth_14 ?_
    refine jge (i := i) (j := T) (tgt := 41) hC dX1_worth_15 (by decide) rfl rfl (by omega) (by omega) (fun c2 => ?_) (fun c2 => ?_)
    · exfalso; omega
    · refine lv_iload_n hx hb dX1_worth_18 rfl (lv_at hl 1 rfl) ?_
      refine lv_aload_n hx hb dX1_worth_19 rfl (lv_at hl 2 rfl) ?_
      refine gX1_held hC hN dX1_worth_20 ?_
      refine lv_iload_n hx hb dX1_worth_23 rfl (lv_at hl 3 rfl) ?_
      refine lS_hr (r) hC hN rfl (by omega) dX1_worth_24 ?_
      refine lv_iload_n hx hb dX1_worth_25 rfl (lv_at hl 0 rfl) ?_
      refine lS_held (r) (i) hC hN (by omega) rfl (by omega) rfl dX1_worth_26 ?_
      refine lv_aload_n hx hb dX1_worth_27 rfl (lv_at hl 2 rfl) ?_
      refine lv_iload_n hx hb dX1_worth_28 rfl (lv_at hl 0 rfl) ?_
      refine k1_X1_price hC (c_X1_price l D cI cQ b N hT8 hR6 (t := i) (by omega)) hN rfl ⟨rfl, rfl⟩ ⟨Nat.le_of_ble_eq_true rfl, Nat.le_of_ble_eq_true rfl⟩ ⟨Nat.zero_le _, Nat.zero_le _⟩ hl.1 rfl (Nat.le_of_ble_eq_true rfl) dX1_worth_29 ?_
      refine lv_imul hx hb dX1_worth_32 ?_
      refine lv_iadd hx hb dX1_worth_33 ?_
      refine lv_istore_n (lv' := [(2, .int ((sWo N i r) + ((N (7 + r) i) * (sPr N i)))), (3, .int (nI i)), (0, .ref (b 0)), (1, .int (nI r))]) hx hb dX1_worth_34 rfl hl (by decide) rfl (fun ls hl => ?_)
      refine lv_iinc (v := nI (i + 1)) (lv' := [(3, .int (nI (i + 1))), (2, .int ((sWo N i r) + ((N (7 + r) i) * (sPr N i)))), (0, .ref (b 0)), (1, .int (nI r))]) hx hb dX1_worth_35 hl (k := 1) rfl (ninc i) (by decide) rfl (fun ls hl => ?_)
      refine lv_goto (tgt := 9) hx hb dX1_worth_38 (by decide) ?_
      exact ih ls (lv_sub hl [0, 1, 2, 3] rfl)
set_option maxHeartbeats 4000000 in
set_option maxRecDepth 100000 in
theorem c_X1_sell (l : Launch) (D : va_G) (cI cQ : ClassId) (b : Nat → Nat) (N : bS) {T R : Nat} (hT8 : T ≤ 8) (hR6 : R ≤ 6) {r t : Nat} {x : Int32} (hr9 : r < R) (ht : t < T) : Wr l yX1_sell cX1_sell 4 none ({ frames := 2, cells := 0, slots := 0, locals := 48 } : Room) (SW D cI cQ b N T R) (SW D cI cQ b (nSl N r t x) T R) (inG (10 + T) b) [.ref (b 0), .int (nI r), .int (nI t), .int (x)] none 0 0 := by
  refine Wr.of (by decide) (Nat.le_of_ble_eq_true rfl) ?_
  intro p e s m args below meth c ls hC hr hlocks hN hS hl
  have hx := hC.1
  have hb := hC.2.1
  have hA : ∀ q, (inG (10 + T) b) q → (inG (10 + T) b) q := fun _ h => h
  have hl : lv_has ls 4 [(0, .ref (b 0)), (1, .int (nI r)), (2, .int (nI t)), (3, .int (x))] := hl
  refine lv_aload_n hx hb dX1_sell_0 rfl (lv_at hl 0 rfl) ?_
  refine gX1_purses hC hN dX1_sell_1 ?_
  refine lv_iload_n hx hb dX1_sell_4 rfl (lv_at hl 1 rfl) ?_
  refine lv_dup2_11 hx hb dX1_sell_5 rfl rfl ?_
  refine lS_pur (r) hC hN rfl (by omega) (by omega) rfl dX1_sell_6 ?_
  refine lv_iload_n hx hb dX1_sell_7 rfl (lv_at hl 3 rfl) ?_
  refine lv_aload_n hx hb dX1_sell_8 rfl (lv_at hl 0 rfl) ?_
  refine lv_iload_n hx hb dX1_sell_9 rfl (lv_at hl 2 rfl) ?_
  refine k1_X1_price hC (c_X1_price l D cI cQ b N hT8 hR6 (t := t) (by omega)) hN rfl ⟨rfl, rfl⟩ ⟨Nat.le_of_ble_eq_true rfl, Nat.le_of_ble_eq_true rfl⟩ ⟨Nat.zero_le _, Nat.zero_le _⟩ hl.1 rfl (Nat.le_of_ble_eq_true rfl) dX1_sell_10 ?_
  refine lv_imul hx hb dX1_sell_13 ?_
  refine lv_iadd hx hb dX1_sell_14 ?_
  refine sS_pur (r) hC hN (by omega) rfl (by omega) hS hA dX1_sell_15 (fun H locs hN hS hz hf => ?_)
  refine lv_aload_n hx hb dX1_sell_16 rfl (lv_at hl 0 rfl) ?_
  refine gX1_held hC hN dX1_sell_17 ?_
  refine lv_iload_n hx hb dX1_sell_20 rfl (lv_at hl 1 rfl) ?_
  refine lS_hr (r) hC hN rfl (by omega) dX1_sell_21 ?_
  refine lv_iload_n hx hb dX1_sell_22 rfl (lv_at hl 2 rfl) ?_
  refine lv_dup2_11 hx hb dX1_sell_23 rfl rfl ?_
  refine lS_held (v := N (7 + r) t) (r) (t) hC hN (by omega) rfl (by omega) (by rw [up2_ne _ _ (by omega)]) dX1_sell_24 ?_
  refine lv_iload_n hx hb dX1_sell_25 rfl (lv_at hl 3 rfl) ?_
  refine lv_isub hx hb dX1_sell_26 ?_
  refine sS_held (r) (t) hC hN (by omega) rfl (by omega) hS hA dX1_sell_27 (fun H locs hN hS hz hf => ?_)
  exact wr_v hC hr hlocks mov_S (hN) hS dX1_sell_28
end
section
/-! ===== new arrays; Sim's cells beside one array ===== -/
def fpre (f : Nat → Int32) (i : Nat) : Nat → Int32 := fun j => if j < i then f j else 0
theorem fpre_0 (f : Nat → Int32) : (fun _ => 0) = fpre f 0 := funext fun j => (if_neg (Nat.not_lt_zero j)).symm
theorem fpre_at {f : Nat → Int32} {i j : Nat} (h : j < i) : fpre f i j = f j := if_pos h
theorem fpre_up (f : Nat → Int32) (i : Nat) : upd (fpre f i) i (f i) = fpre f (i + 1) := by
  funext j
  unfold upd fpre
  by_cases e : j = i
  · rw [if_pos e, if_pos (by omega), e]
  · rw [if_neg e]
    by_cases h : j < i
    · rw [if_pos h, if_pos (by omega)]
    · rw [if_neg h, if_neg (by omega)]
theorem nm_eq {s : State} {c0 c1 : ClassId} (h0 : va_RA s c0 .int) (h1 : va_RA s c1 .int) : c0 = c1 := Option.some.inj ((va_nm_int h0).symm.trans (va_nm_int h1))
theorem S_up {A0 : Nat → Prop} {H0 H H1 : Heap} {locs : List Loc} (hS : va_S A0 H0 H locs) (hz : H.size ≤ H1.size) (ho : ∀ q : Nat, q < H.size → H1[q]? = H[q]?) : va_S A0 H0 H1 locs := ⟨Nat.le_trans hS.1 hz, fun q h1 h2 => (ho q (Nat.lt_of_lt_of_le h1 hS.1)).trans (hS.2.1 q h1 h2), hS.2.2⟩
theorem GW.one {D : va_G} {cI cQ : ClassId} {q : Nat} {x : va_E} {U : State} {H : Heap} (hK : va_K D vwCl (tyB cI cQ) U) (h : va_at D vwCl (q, x) H) : GW D cI cQ 1 (fun _ => q) (fun _ => x) U H := ⟨hK, fun _ _ => h, fun i j hi hj _ => by omega⟩
section NW
variable {p : Program} {l : Launch} {e : Env} {R : Room} {s : State} {m : MethodId} {args : Array Value} {below : List Frame} {meth : Method} {c : Code} {H : Heap} {locs : List Loc} {cells slots : Nat} {Q : State → Prop}
variable {cc : ByteArray} {pc nL : Nat} {ls : Array Slot} {rest : List Value} {D : va_G} {cI cQ : ClassId} {b : Nat → Nat} {A0 : Nat → Prop} {H0 : Heap} {own : String} {x v : Int32}
theorem nwG (n : Nat) (hC : CallFix p m c cc nL s args wsL_law own) (hK : va_K D vwCl (tyB cI cQ) s) (hx : x = nI n) (hn : n ≤ 71) (hS : va_S A0 H0 H locs) (hcells : cells + 1 ≤ R.cells) (hslots : slots + n ≤ R.slots) (hdg : decode cc pc = .ok (.newarray .int, 2))
    (kk : ∀ H1 : Heap, GW D cI cQ 1 (fun _ => H.size) (fun _ => eI cI n (fun _ => 0)) s H1 → va_S A0 H0 H1 locs → H1.size = H.size + 1 → (∀ q : Nat, q < H.size → H1[q]? = H[q]?) → W p l e R s m args below meth c H1 locs (cells + 1) (slots + n) Q (F0 m (pc + 2) ls (.ref H.size :: rest))) : W p l e R s m args below meth c H locs cells slots Q (F0 m pc ls (.int x :: rest)) := by
  subst hx
  refine va_newaK (atype := .int) (N := n) (h := H.size) hC.1 hC.2.1 (hC.2.2.2.2 _ (List.mem_of_getElem? (i := 3) (by decide +kernel))) rfl hdg rfl (nI_pos (by omega)) (nI_clamp (by omega)) (by show n * 4 ≤ _; omega) hcells hslots rfl (fun H1 cA e1 z1 o1 hAr hNm => ?_)
  have ec : cI = cA := nm_eq (hK.2 0 (cI, .int) rfl).2 hNm
  subst ec
  exact kk H1 (GW.one hK e1) (S_up hS (by omega) o1) z1 o1
theorem nqG (n : Nat) {index : Nat} (hC : CallFix p m c cc nL s args wsL_law own) (hK : va_K D vwCl (tyB cI cQ) s) (hAO : va_AOA .int s) (hcl : Cond.classLink own index "[I" ∈ wsL_law) (hx : x = nI n) (hn : n ≤ 71) (hS : va_S A0 H0 H locs) (hcells : cells + 1 ≤ R.cells) (hslots : slots + n ≤ R.slots) (hdg : decode cc pc = .ok (.anewarray index, 3))
    (kk : ∀ H1 : Heap, GW D cI cQ 1 (fun _ => H.size) (fun _ => eQ cQ n (fun _ => none)) s H1 → va_S A0 H0 H1 locs → H1.size = H.size + 1 → (∀ q : Nat, q < H.size → H1[q]? = H[q]?) → W p l e R s m args below meth c H1 locs (cells + 1) (slots + n) Q (F0 m (pc + 3) ls (.ref H.size :: rest))) : W p l e R s m args below meth c H locs cells slots Q (F0 m pc ls (.int x :: rest)) := by
  subst hx
  have hcn : (nI n).toNatClampNeg = n := nI_clamp (by omega)
  refine W.anewA (t := .int) hC.1 hC.2.1 hC.2.2.2.1 (hC.2.2.2.2 _ hcl) (va_AOA.use hAO) rfl hdg rfl (nI_pos (by omega)) (by rw [hcn]; omega) hcells (by rw [hcn]; exact hslots) fun cA kA comp f1 f2 f3 f4 => ?_
  have ec : cQ = cA := Option.some.inj ((hK.2 1 (cQ, .array .int) rfl).2.symm.trans f1)
  subst ec
  rw [hcn]
  generalize hH1 : H.push ({ cls := cQ, slots := Array.replicate n .null, vm := .none } : Cell) = H1
  have z1 : H1.size = H.size + 1 := by rw [← hH1, Array.size_push]
  have e1 : H1[H.size]? = some (arrV cQ n (fun _ => .null)) := by rw [← hH1, Array.getElem?_push_size, ← arrV_new]
  have o1 : ∀ q : Nat, q < H.size → H1[q]? = H[q]? := fun q hq => by rw [← hH1, Array.getElem?_push, if_neg (Nat.ne_of_lt hq)]
  exact kk H1 (GW.one hK e1) (S_up hS (by omega) o1) z1 o1
theorem saG {K k n n2 q : Nat} {E : Nat → va_E} {F : Nat → Int32} {f : Nat → Option Nat} (i : Nat) (hC : CallFix p m c cc nL s args wsL_law own) (hG : GW D cI cQ K b E s H) (hAO : va_AOA .int s) (hk : k < K) (hE : E k = eQ cQ n f) (hx : x = nI i) (hi : i < n) (hn : n ≤ 71) (hv : va_at D vwCl (q, eI cI n2 F) H) (hS : va_S A0 H0 H locs) (hA : A0 (b k)) (hdg : decode cc pc = .ok (.aastore, 1))
    (kk : ∀ (H1 : Heap) (locs1 : List Loc), GW D cI cQ K b (eU E k (eQ cQ n (va_up f i (some q)))) s H1 → va_S A0 H0 H1 locs1 → H1.size = H.size → (∀ q : Nat, q ≠ b k → H1[q]? = H[q]?) → W p l e R s m args below meth c H1 locs1 cells slots Q (F0 m (pc + 1) ls rest)) : W p l e R s m args below meth c H locs cells slots Q (F0 m pc ls (.ref q :: .int x :: .ref (b k) :: rest)) := by
  subst hx
  have h1 := hG.2.1 k hk
  rw [hE] at h1
  have hcn : (nI i).toNatClampNeg = i := nI_clamp (by omega)
  obtain ⟨comp, cA, kA, g1, g2, g3, g4, g5⟩ := arrayOverA_spec (va_AOA.use (A := args) hAO)
  have e1 : cQ = cA := Option.some.inj ((hG.1.2 1 (cQ, .array .int) rfl).2.symm.trans g5)
  have e2 : cI = comp := Option.some.inj ((hG.1.2 0 (cI, .int) rfl).2.symm.trans g1)
  subst e1
  subst e2
  obtain ⟨kI, hkI, -⟩ := Vm.findClass_spec g1
  refine W.aast hC.1 hC.2.1 h1 (fun q h => by cases h) (fun h => by cases h) g3 g4 rfl hkI ⟨nI_pos (by omega), by show _ < (arrV _ _ _).slots.size; rw [arrV_size, hcn]; exact hi⟩ hv (fun q h => by cases h) hkI ?_ rfl rfl hdg fun H1 e z oq => ?_
  · exact va_asg _ _
  refine kk H1 _ (hG.put hk ?_ oq) (hS.put z oq hA) z oq
  show H1[b k]? = some (vp_cell _ _)
  rw [e]
  rw [vp_cell_q, vp_cell_q, arrV_store, hcn]
  refine congrArg some (congrArg (arrV cQ n) (funext fun q => ?_))
  by_cases hq : q = i
  · subst hq
    simp [updV, va_up, va_rf]
  · simp [updV, va_up, hq]
end NW
def PW (D : va_G) (cI cQ : ClassId) (b : Nat → Nat) (T R q n : Nat) (G : Nat → Int32) (N : bS) (U : State) (H : Heap) : Prop := SW D cI cQ b N T R U H ∧ GW D cI cQ 1 (fun _ => q) (fun _ => eI cI n G) U H ∧ ∀ k : Nat, k < 10 + T → b k ≠ q
section PR
variable {p : Program} {l : Launch} {e : Env} {R : Room} {s : State} {m : MethodId} {args : Array Value} {below : List Frame} {meth : Method} {c : Code} {H : Heap} {locs : List Loc} {cells slots : Nat} {Q : State → Prop}
variable {cc : ByteArray} {pc nL : Nat} {ls : Array Slot} {rest : List Value} {D : va_G} {cI cQ : ClassId} {b : Nat → Nat} {A0 : Nat → Prop} {H0 : Heap} {own : String} {x v : Int32} {T R9 q n : Nat} {G : Nat → Int32} {N : bS}
theorem ldP (i : Nat) (hC : CallFix p m c cc nL s args wsL_law own) (hW : PW D cI cQ b T R9 q n G N s H) (hn9 : n ≤ 71) (hx : x = nI i) (hi : i < n) (hv : G i = v) (hdg : decode cc pc = .ok (.iaload, 1)) (kk : W p l e R s m args below meth c H locs cells slots Q (F0 m (pc + 1) ls (.int v :: rest))) : W p l e R s m args below meth c H locs cells slots Q (F0 m pc ls (.int x :: .ref q :: rest)) :=
  ldG (b := fun _ => q) (k := 0) (E := fun _ => eI cI n G) i hC hW.2.1 (by decide) rfl hx hi (by omega) hv hdg kk
theorem stP (i : Nat) (hC : CallFix p m c cc nL s args wsL_law own) (hW : PW D cI cQ b T R9 q n G N s H) (hn9 : n ≤ 71) (hx : x = nI i) (hi : i < n) (hS : va_S A0 H0 H locs) (hA : A0 q) (hdg : decode cc pc = .ok (.iastore, 1)) (kk : ∀ (H1 : Heap) (locs1 : List Loc), PW D cI cQ b T R9 q n (upd G i v) N s H1 → va_S A0 H0 H1 locs1 → W p l e R s m args below meth c H1 locs1 cells slots Q (F0 m (pc + 1) ls rest)) : W p l e R s m args below meth c H locs cells slots Q (F0 m pc ls (.int v :: .int x :: .ref q :: rest)) :=
  stG (b := fun _ => q) (k := 0) (E := fun _ => eI cI n G) i hC hW.2.1 (by decide) rfl hx hi (by omega) hS hA hdg (fun H1 locs1 h1 h2 _ h4 => kk H1 locs1 ⟨hW.1.kept (fun k hk => h4 _ (hW.2.2 k hk)), h1.cg (fun k hk => by rw [show k = 0 by omega, eU_self]), hW.2.2⟩ h2)
theorem PW.past {N' : bS} {k : Nat} {H1 : Heap} (hW : PW D cI cQ b T R9 q n G N s H) (hN : SW D cI cQ b N' T R9 s H1) (hk : k < 10 + T) (h4 : ∀ z : Nat, z ≠ b k → H1[z]? = H[z]?) : PW D cI cQ b T R9 q n G N' s H1 := ⟨hN, hW.2.1.kept (fun _ _ => h4 _ (fun z => hW.2.2 k hk z.symm)), hW.2.2⟩
theorem sP_row (t i : Nat) (hC : CallFix p m c cc nL s args wsL_law own) (hW : PW D cI cQ b T R9 q n G N s H) (ht : t < T) (hx : x = nI i) (hi : i < 5) (hS : va_S A0 H0 H locs) (hA : ∀ q, inG (10 + T) b q → A0 q) (hdg : decode cc pc = .ok (.iastore, 1)) (kk : ∀ (H1 : Heap) (locs1 : List Loc), PW D cI cQ b T R9 q n G (up2 N (20 + t) i v) s H1 → va_S A0 H0 H1 locs1 → W p l e R s m args below meth c H1 locs1 cells slots Q (F0 m (pc + 1) ls rest)) : W p l e R s m args below meth c H locs cells slots Q (F0 m pc ls (.int v :: .int x :: .ref (b (10 + t)) :: rest)) :=
  sS_row t i hC hW.1 ht hx hi hS hA hdg (fun H1 locs1 h1 h2 _ h4 => kk H1 locs1 (hW.past h1 (by omega) h4) h2)
theorem sP_held (r i : Nat) (hC : CallFix p m c cc nL s args wsL_law own) (hW : PW D cI cQ b T R9 q n G N s H) (hr : r < 6) (hx : x = nI i) (hi : i < 8) (hS : va_S A0 H0 H locs) (hA : ∀ q, inG (10 + T) b q → A0 q) (hdg : decode cc pc = .ok (.iastore, 1)) (kk : ∀ (H1 : Heap) (locs1 : List Loc), PW D cI cQ b T R9 q n G (up2 N (7 + r) i v) s H1 → va_S A0 H0 H1 locs1 → W p l e R s m args below meth c H1 locs1 cells slots Q (F0 m (pc + 1) ls rest)) : W p l e R s m args below meth c H locs cells slots Q (F0 m pc ls (.int v :: .int x :: .ref (b (4 + r)) :: rest)) :=
  sS_held r i hC hW.1 hr hx hi hS hA hdg (fun H1 locs1 h1 h2 _ h4 => kk H1 locs1 (hW.past h1 (by omega) h4) h2)
theorem sP_pur (i : Nat) (hC : CallFix p m c cc nL s args wsL_law own) (hW : PW D cI cQ b T R9 q n G N s H) (h6 : R9 ≤ 6) (hx : x = nI i) (hi : i < R9) (hS : va_S A0 H0 H locs) (hA : ∀ q, inG (10 + T) b q → A0 q) (hdg : decode cc pc = .ok (.iastore, 1)) (kk : ∀ (H1 : Heap) (locs1 : List Loc), PW D cI cQ b T R9 q n G (up2 N 5 i v) s H1 → va_S A0 H0 H1 locs1 → W p l e R s m args below meth c H1 locs1 cells slots Q (F0 m (pc + 1) ls rest)) : W p l e R s m args below meth c H locs cells slots Q (F0 m pc ls (.int v :: .int x :: .ref (b 2) :: rest)) :=
  sS_pur i hC hW.1 h6 hx hi hS hA hdg (fun H1 locs1 h1 h2 _ h4 => kk H1 locs1 (hW.past h1 (by omega) h4) h2)
theorem qX1_second (hC : CallFix p m c cc nL s args wsL_law RX1) (hW : PW D cI cQ b T R9 q n G N s H) (hS : va_S A0 H0 H locs) (hA : ∀ q, inG (10 + T) b q → A0 q) (hdg : decode cc pc = .ok (.putfield 26, 3)) (kk : ∀ (H1 : Heap) (locs1 : List Loc), PW D cI cQ b T R9 q n G (up2 N 6 0 v) s H1 → va_S A0 H0 H1 locs1 → W p l e R s m args below meth c H1 locs1 cells slots Q (F0 m (pc + 3) ls rest)) : W p l e R s m args below meth c H locs cells slots Q (F0 m pc ls (.int v :: .ref (b 0) :: rest)) :=
  pX1_second hC hW.1 hS hA hdg (fun H1 locs1 h1 h2 _ h4 => kk H1 locs1 (hW.past h1 (by omega) h4) h2)
end PR
section BQ
variable {p : Program} {l : Launch} {e : Env} {R : Room} {s : State} {m : MethodId} {args : Array Value} {below : List Frame} {meth : Method} {c : Code} {H : Heap} {locs : List Loc} {cells slots : Nat} {Q : State → Prop}
variable {cc bytes : ByteArray} {pc nL n index : Nat} {ls : Array Slot} {rest st0 : List Value} {y : MethodName} {ret : Option FieldType} {rm : Room} {own : String} {As : List Value} {A : Nat → Prop}
/-- a call of a static method, whatever its post -/
theorem kSq {Pw : State → Prop} {Qc : Array Value → State → Outcome → State → Prop} {mc ms : Nat} (hC : CallFix p m c cc nL s args wsL_law own) (hM : Met l y (wq y bytes n ret) rm (va_Pc As Pw) Qc mc ms A) (hbl : FrameBlind (va_Pc As Pw)) (hp : ∀ U : State, U.heap = H → s.WarmedH U.vm → Pw U) (hG : GoodIn wsL_law (va_wsS own index y (wq y bytes n ret))) (hrc : rm.cells = mc) (hrs : rm.slots = ms)
    (hd : y.cls ≠ "java/lang/invoke/MethodHandle" ∧ y.cls ≠ "java/lang/invoke/VarHandle" ∧ (parseMethodDescriptor y.desc).map (fun d => d.parameters.length) = some As.length) (hR : rm.frames + 1 ≤ R.frames ∧ 8 + (n + 11) + rm.locals ≤ R.locals) (hf : cells + mc ≤ R.cells ∧ slots + ms ≤ R.slots) (hls : ls.size = nL) (hst : st0 = As.reverse ++ rest) (hr8 : (rest.map fun v => v.category).sum ≤ 8) (hdg : decode cc pc = .ok (.invokestatic index, 3))
    (kk : ∀ (v : Option Value) (st t : State) (L : List Loc), st.heap = H → s.vm.Alike t.vm → Qc As.toArray st (.returned v) t → (∀ z ∈ L, A z.base) → W p l e R s m args below meth c t.heap (locs ++ L) (cells + mc) (slots + ms) Q (F0 m (pc + 3) ls (v.toList ++ rest))) : W p l e R s m args below meth c H locs cells slots Q (F0 m pc ls st0) := by
  have hr := va_runS (e := e) (H := H) (As := As) (rest := rest) (locs := locs) (cells := cells) (slots := slots) (below := below) (meth := meth) hC hM (va_cwS As.length hC.2.2.2.2 hG rfl hrc hrs hd hR) ⟨hbl, fun U hU hW1 => ⟨rfl, hp U hU hW1⟩⟩ (g := F0 m pc ls st0) rfl rfl hls hst (lv_room hr8) hdg hf
  intro T hT X
  obtain ⟨v, st₀, t, T', L, h1, X', hL, e1, e2, hq, st⟩ := hr T hT X
  obtain ⟨t2, a1, b1⟩ := kk v st₀ t L h1 (by rw [← e2]; exact X'.warmed.alike) hq hL T' e1 X'
  exact ⟨t2, st t2 a1, b1⟩
end BQ
theorem S_more {A B : Nat → Prop} {H0 H : Heap} {st t : State} {locs L : List Loc} (hS : va_S A H0 H locs) (hst : st.heap = H) (hF : va_F B st t) (hB : ∀ q, B q → A q) (hL : ∀ z ∈ L, B z.base) : va_S A H0 t.heap (locs ++ L) := by
  obtain ⟨hz, hk⟩ := hF
  rw [hst] at hz hk
  exact ⟨Nat.le_trans hS.1 hz, fun q h1 h2 => by rw [hk q (Nat.lt_of_lt_of_le h1 hS.1) (fun z => h2 (hB q z))]; exact hS.2.1 q h1 h2, fun q hq => by
    rcases List.mem_append.mp hq with h | h
    · exact hS.2.2 q h
    · exact hB _ (hL q h)⟩
/-! a second of Sim -/
def nY (X : bS) (t : Nat) : bS := up2 X (20 + t) 3 (X (20 + t) 3 + 1)
def nZ (X : bS) (t : Nat) : Int32 := rmi (X 6 0 - X (20 + t) 2) (X (20 + t) 1)
def nZs (X : bS) (t : Nat) : bS := up2 (up2 (nY X t) (20 + t) 3 0) (20 + t) 4 (X (20 + t) 4 + 1)
def nGo (N : bS) (P : Nat → Int32) (R : Nat) : Nat → bS
  | 0 => up2 N 6 0 (N 6 0 + 1)
  | t + 1 => if nZ (nGo N P R t) t = 0 then bSt1 (nZs (nGo N P R t) t) (P t) t R else nY (nGo N P R t) t
def nGc (N : bS) (P : Nat → Int32) (R : Nat) : Nat → Int32
  | 0 => 0
  | t + 1 => if nZ (nGo N P R t) t = 0 then nGc N P R t + 1 else nGc N P R t
theorem nGo_s {N : bS} {P : Nat → Int32} {R t : Nat} (c : nZ (nGo N P R t) t = 0) : nGo N P R (t + 1) = bSt1 (nZs (nGo N P R t) t) (P t) t R := if_pos c
theorem nGo_k {N : bS} {P : Nat → Int32} {R t : Nat} (c : ¬ nZ (nGo N P R t) t = 0) : nGo N P R (t + 1) = nY (nGo N P R t) t := if_neg c
theorem nGc_s {N : bS} {P : Nat → Int32} {R t : Nat} (c : nZ (nGo N P R t) t = 0) : nGc N P R (t + 1) = nGc N P R t + 1 := if_pos c
theorem nGc_k {N : bS} {P : Nat → Int32} {R t : Nat} (c : ¬ nZ (nGo N P R t) t = 0) : nGc N P R (t + 1) = nGc N P R t := if_neg c
theorem nGo_1 {N : bS} {P : Nat → Int32} {R k : Nat} (hk : k ≠ 6) (h5 : k ≠ 5) (h7 : k < 7 ∨ 20 ≤ k) (hR : R ≤ 6) {j : Nat} (hj : j < 3) : ∀ t : Nat, nGo N P R t k j = N k j
  | 0 => up2_ne _ _ (Or.inl hk)
  | t + 1 => by
    have ih := nGo_1 (N := N) (P := P) (R := R) hk h5 h7 hR hj t
    by_cases c : nZ (nGo N P R t) t = 0
    · rw [nGo_s c]
      have key : ∀ i : Nat, i ≤ 6 → bSt1 (nZs (nGo N P R t) t) (P t) t i k j = nZs (nGo N P R t) t k j := by
        intro i
        induction i with
        | zero => intro _; rfl
        | succ i ih2 =>
          intro hi
          unfold bSt1
          rw [up2_ne _ _ (Or.inl (by omega)), up2_ne _ _ (Or.inl h5), ih2 (by omega)]
      rw [key R hR]
      unfold nZs nY
      rw [up2_ne _ _ (Or.inr (by omega)), up2_ne _ _ (Or.inr (by omega)), up2_ne _ _ (Or.inr (by omega))]
      exact ih
    · rw [nGo_k c]
      unfold nY
      rw [up2_ne _ _ (Or.inr (by omega))]
      exact ih
end
section
set_option maxHeartbeats 4000000 in
set_option maxRecDepth 100000 in
theorem c_X1_pass (l : Launch) (D : va_G) (cI cQ : ClassId) (b : Nat → Nat) (N : bS) {T R : Nat} (hT8 : T ≤ 8) (hR6 : R ≤ 6)  {sz : Nat} (hP : ∀ t, t < T → ¬ N (20 + t) 1 = 0) : Wr l yX1_pass cX1_pass 6 (some .int) ({ frames := 2, cells := 1, slots := 8, locals := 48 } : Room) (fun U Hx => Hx.size = sz ∧ SW D cI cQ b N T R U Hx) (SW D cI cQ b (nGo N (sPr N) R T) T R) (fun q => inG (10 + T) b q ∨ sz ≤ q) [.ref (b 0)] (some (.int (nGc N (sPr N) R T))) 1 8 := by
  refine Wr.of (by decide) (Nat.le_of_ble_eq_true rfl) ?_
  intro p e s m args below meth c ls hC hr hlocks hN hS hl
  obtain ⟨hsz, hN⟩ := hN
  have hx := hC.1
  have hb := hC.2.1
  have hA : ∀ q, inG (10 + T) b q → (fun q => inG (10 + T) b q ∨ sz ≤ q) q := fun _ h => Or.inl h
  have hA1 : ∀ q, s.heap.size ≤ q → (fun q => inG (10 + T) b q ∨ sz ≤ q) q := fun q h => Or.inr (hsz ▸ h)
  have hl : lv_has ls 6 [(0, .ref (b 0))] := hl
  refine lv_iconst (v := 0) hx hb dX1_pass_0 (by decide) ?_
  refine lv_istore_n (lv' := [(1, .int (0)), (0, .ref (b 0))]) hx hb dX1_pass_1 rfl hl (by decide) rfl (fun ls hl => ?_)
  refine lv_aload_n hx hb dX1_pass_2 rfl (lv_at hl 1 rfl) ?_
  refine gX1_towers hC hN dX1_pass_3 ?_
  refine nS_towers hC hN dX1_pass_6 ?_
  refine nwG T hC hN.1.1 rfl (by omega) hS (Nat.le_of_ble_eq_true rfl) (by show _ ≤ 8; omega) dX1_pass_7 (fun H hG hS hz hf => ?_)
  have hW : PW D cI cQ b T R s.heap.size T (fpre (sPr N) 0) (N) s H := ⟨hN.kept (fun k hk => hf _ (hN.1.lt k hk)), by rw [← fpre_0]; exact hG, fun k hk => Nat.ne_of_lt (hN.1.lt k hk)⟩
  have hN := hW.1
  refine lv_astore_n (lv' := [(2, .ref (s.heap.size)), (1, .int (0)), (0, .ref (b 0))]) hx hb dX1_pass_9 rfl hl (by decide) rfl (fun ls hl => ?_)
  refine lv_iconst (v := 0) hx hb dX1_pass_10 (by decide) ?_
  refine lv_istore_n (lv' := [(3, .int (0)), (2, .ref (s.heap.size)), (1, .int (0)), (0, .ref (b 0))]) hx hb dX1_pass_11 rfl hl (by decide) rfl (fun ls hl => ?_)
  refine loopU (P := fun i => ∀ (H : Heap) (locs : List Loc), PW D cI cQ b T R s.heap.size T (fpre (sPr N) i) (N) s H → va_S (fun q => inG (10 + T) b q ∨ sz ≤ q) s.heap H locs → ∀ ls : Array Slot, lv_has ls 6 [(3, .int (nI i)), (1, .int (0)), (0, .ref (b 0)), (2, .ref (s.heap.size))] → W p l e ({ frames := 2, cells := 1, slots := 8, locals := 48 } : Room) s m args below meth c H locs (0 + 1) (0 + T) (MQ below (qW (some (.int (nGc N (sPr N) R T))) (SW D cI cQ b (nGo N (sPr N) R T) T R) (fun q => inG (10 + T) b q ∨ sz ≤ q)) args s 1 8 (fun q => inG (10 + T) b q ∨ sz ≤ q)) (F0 m 12 ls [])) (T) ?_ ?_ 0 (by omega) H [] hW hS ls (by first | exact lv_sub hl [0, 2, 3, 1] rfl | (simpa using lv_sub hl [0, 2, 3, 1] rfl))
  · intro H locs hW hS ls hl
    have hN := hW.1
    refine lv_iload_n hx hb dX1_pass_12 rfl (lv_at hl 0 rfl) ?_
    refine lv_aload_n hx hb dX1_pass_13 rfl (lv_at hl 2 rfl) ?_
    refine gX1_towers hC hN dX1_pass_14 ?_
    refine nS_towers hC hN dX1_pass_17 ?_
    refine jge (i := T) (j := T) (tgt := 35) hC dX1_pass_18 (by decide) rfl rfl (by omega) (by omega) (fun c1 => ?_) (fun c1 => ?_)
    · refine lv_aload_n hx hb dX1_pass_35 rfl (lv_at hl 2 rfl) ?_
      refine lv_dup hx hb dX1_pass_36 rfl ?_
      refine gX1_second hC hN rfl dX1_pass_37 ?_
      refine lv_iconst (v := 1) hx hb dX1_pass_40 (by decide) ?_
      refine lv_iadd hx hb dX1_pass_41 ?_
      refine qX1_second hC hW hS hA dX1_pass_42 (fun H locs hW hS => ?_)
      have hN := hW.1
      refine lv_iconst (v := 0) hx hb dX1_pass_45 (by decide) ?_
      refine lv_istore_n (lv' := [(3, .int (0)), (1, .int (0)), (0, .ref (b 0)), (2, .ref (s.heap.size))]) hx hb dX1_pass_46 rfl hl (by decide) rfl (fun ls hl => ?_)
      refine loopU (P := fun i => ∀ (H : Heap) (locs : List Loc), PW D cI cQ b T R s.heap.size T (fpre (sPr N) T) ((nGo N (sPr N) R i)) s H → va_S (fun q => inG (10 + T) b q ∨ sz ≤ q) s.heap H locs → ∀ ls : Array Slot, lv_has ls 6 [(3, .int (nI i)), (1, .int (nGc N (sPr N) R i)), (0, .ref (b 0)), (2, .ref (s.heap.size))] → W p l e ({ frames := 2, cells := 1, slots := 8, locals := 48 } : Room) s m args below meth c H locs (0 + 1) (0 + T) (MQ below (qW (some (.int (nGc N (sPr N) R T))) (SW D cI cQ b (nGo N (sPr N) R T) T R) (fun q => inG (10 + T) b q ∨ sz ≤ q)) args s 1 8 (fun q => inG (10 + T) b q ∨ sz ≤ q)) (F0 m 47 ls [])) (T) ?_ ?_ 0 (by omega) H locs hW hS ls (by first | exact lv_sub hl [0, 1, 2, 3] rfl | (simpa using lv_sub hl [0, 1, 2, 3] rfl))
      · intro H locs hW hS ls hl
        have hN := hW.1
        refine lv_iload_n hx hb dX1_pass_47 rfl (lv_at hl 0 rfl) ?_
        refine lv_aload_n hx hb dX1_pass_48 rfl (lv_at hl 2 rfl) ?_
        refine gX1_towers hC hN dX1_pass_49 ?_
        refine nS_towers hC hN dX1_pass_52 ?_
        refine jge (i := T) (j := T) (tgt := 166) hC dX1_pass_53 (by decide) rfl rfl (by omega) (by omega) (fun c2 => ?_) (fun c2 => ?_)
        · refine lv_iload_n hx hb dX1_pass_166 rfl (lv_at hl 1 rfl) ?_
          refine W.widen (k := 1) (n := 8) (by omega) (by omega) ?_
          exact wr_i hC hr hlocks mov_S (hW.1) hS dX1_pass_167 (by rfl)
        · exfalso; omega
      · intro i hi ih H locs hW hS ls hl
        have hN := hW.1
        have hnz : ¬ nGo N (sPr N) R i (20 + i) 1 = 0 := by rw [nGo_1 (by omega) (by omega) (by omega) hR6 (by omega)]; exact hP i hi
        refine lv_iload_n hx hb dX1_pass_47 rfl (lv_at hl 0 rfl) ?_
        refine lv_aload_n hx hb dX1_pass_48 rfl (lv_at hl 2 rfl) ?_
        refine gX1_towers hC hN dX1_pass_49 ?_
        refine nS_towers hC hN dX1_pass_52 ?_
        refine jge (i := i) (j := T) (tgt := 166) hC dX1_pass_53 (by decide) rfl rfl (by omega) (by omega) (fun c3 => ?_) (fun c3 => ?_)
        · exfalso; omega
        · refine lv_aload_n hx hb dX1_pass_56 rfl (lv_at hl 2 rfl) ?_
          refine gX1_towers hC hN dX1_pass_57 ?_
          refine lv_iload_n hx hb dX1_pass_60 rfl (lv_at hl 0 rfl) ?_
          refine lS_tw (i) hC hN rfl (by omega) (by omega) dX1_pass_61 ?_
          refine lv_astore (lv' := [(4, .ref (b (10 + i))), (3, .int (nI i)), (1, .int (nGc N (sPr N) R i)), (0, .ref (b 0)), (2, .ref (s.heap.size))]) hx hb dX1_pass_62 hl (by decide) rfl (fun ls hl => ?_)
          refine lv_aload hx hb dX1_pass_64 (lv_at hl 0 rfl) ?_
          refine lv_iconst (v := 3) hx hb dX1_pass_66 (by decide) ?_
          refine lv_dup2_11 hx hb dX1_pass_67 rfl rfl ?_
          refine lS_row (i) (3) hC hN (by omega) rfl (by omega) rfl dX1_pass_68 ?_
          refine lv_iconst (v := 1) hx hb dX1_pass_69 (by decide) ?_
          refine lv_iadd hx hb dX1_pass_70 ?_
          refine sP_row (i) (3) hC hW (by omega) rfl (by omega) hS hA dX1_pass_71 (fun H locs hW hS => ?_)
          have hN := hW.1
          refine lv_aload_n hx hb dX1_pass_72 rfl (lv_at hl 3 rfl) ?_
          refine gX1_second (v := ((nGo N (sPr N) R i)) 6 0) hC hN (by rw [up2_ne _ _ (by omega)]) dX1_pass_73 ?_
          refine lv_aload hx hb dX1_pass_76 (lv_at hl 0 rfl) ?_
          refine lv_iconst (v := 2) hx hb dX1_pass_78 (by decide) ?_
          refine lS_row (v := ((nGo N (sPr N) R i)) (20 + i) 2) (i) (2) hC hN (by omega) rfl (by omega) (by rw [up2_ne _ _ (by omega)]) dX1_pass_79 ?_
          refine lv_isub hx hb dX1_pass_80 ?_
          refine lv_aload hx hb dX1_pass_81 (lv_at hl 0 rfl) ?_
          refine lv_iconst (v := 1) hx hb dX1_pass_83 (by decide) ?_
          refine lS_row (v := ((nGo N (sPr N) R i)) (20 + i) 1) (i) (1) hC hN (by omega) rfl (by omega) (by rw [up2_ne _ _ (by omega)]) dX1_pass_84 ?_
          refine lv_irem hx hb dX1_pass_85 (hnz) ?_
          refine lv_if_eq (tgt := 92) hx hb dX1_pass_86 (by decide) (fun c4 => ?_) (fun c4 => ?_)
          · refine lv_aload hx hb dX1_pass_92 (lv_at hl 0 rfl) ?_
            refine lv_iconst (v := 3) hx hb dX1_pass_94 (by decide) ?_
            refine lv_iconst (v := 0) hx hb dX1_pass_95 (by decide) ?_
            refine sP_row (i) (3) hC hW (by omega) rfl (by omega) hS hA dX1_pass_96 (fun H locs hW hS => ?_)
            have hN := hW.1
            refine lv_aload hx hb dX1_pass_97 (lv_at hl 0 rfl) ?_
            refine lv_iconst (v := 4) hx hb dX1_pass_99 (by decide) ?_
            refine lv_dup2_11 hx hb dX1_pass_100 rfl rfl ?_
            refine lS_row (v := ((nGo N (sPr N) R i)) (20 + i) 4) (i) (4) hC hN (by omega) rfl (by omega) (by rw [up2_ne _ _ (by omega), up2_ne _ _ (by omega)]) dX1_pass_101 ?_
            refine lv_iconst (v := 1) hx hb dX1_pass_102 (by decide) ?_
            refine lv_iadd hx hb dX1_pass_103 ?_
            refine sP_row (i) (4) hC hW (by omega) rfl (by omega) hS hA dX1_pass_104 (fun H locs hW hS => ?_)
            have hN := hW.1
            refine lv_iinc (v := (nGc N (sPr N) R i) + 1) (lv' := [(1, .int ((nGc N (sPr N) R i) + 1)), (4, .ref (b (10 + i))), (3, .int (nI i)), (0, .ref (b 0)), (2, .ref (s.heap.size))]) hx hb dX1_pass_105 hl (k := 2) rfl (rfl) (by decide) rfl (fun ls hl => ?_)
            refine lv_iconst (v := 0) hx hb dX1_pass_108 (by decide) ?_
            refine lv_istore (lv' := [(5, .int (0)), (1, .int ((nGc N (sPr N) R i) + 1)), (4, .ref (b (10 + i))), (3, .int (nI i)), (0, .ref (b 0)), (2, .ref (s.heap.size))]) hx hb dX1_pass_109 hl (by decide) rfl (fun ls hl => ?_)
            refine loopU (P := fun r => ∀ (H : Heap) (locs : List Loc), PW D cI cQ b T R s.heap.size T (fpre (sPr N) T) ((bSt1 (nZs (nGo N (sPr N) R i) i) (sPr N i) i r)) s H → va_S (fun q => inG (10 + T) b q ∨ sz ≤ q) s.heap H locs → ∀ ls : Array Slot, lv_has ls 6 [(5, .int (nI r)), (1, .int (nGc N (sPr N) R i + 1)), (3, .int (nI i)), (0, .ref (b 0)), (2, .ref (s.heap.size))] → W p l e ({ frames := 2, cells := 1, slots := 8, locals := 48 } : Room) s m args below meth c H locs (0 + 1) (0 + T) (MQ below (qW (some (.int (nGc N (sPr N) R T))) (SW D cI cQ b (nGo N (sPr N) R T) T R) (fun q => inG (10 + T) b q ∨ sz ≤ q)) args s 1 8 (fun q => inG (10 + T) b q ∨ sz ≤ q)) (F0 m 111 ls [])) (R) ?_ ?_ 0 (by omega) H locs hW hS ls (by first | exact lv_sub hl [0, 1, 3, 4, 5] rfl | (simpa using lv_sub hl [0, 1, 3, 4, 5] rfl))
            · intro H locs hW hS ls hl
              have hN := hW.1
              refine lv_iload hx hb dX1_pass_111 (lv_at hl 0 rfl) ?_
              refine lv_aload_n hx hb dX1_pass_113 rfl (lv_at hl 3 rfl) ?_
              refine gX1_purses hC hN dX1_pass_114 ?_
              refine nS_purses hC hN dX1_pass_117 ?_
              refine jge (i := R) (j := R) (tgt := 160) hC dX1_pass_118 (by decide) rfl rfl (by omega) (by omega) (fun c5 => ?_) (fun c5 => ?_)
              · refine lv_iinc (v := nI (i + 1)) (lv' := [(3, .int (nI (i + 1))), (5, .int (nI R)), (1, .int (nGc N (sPr N) R i + 1)), (0, .ref (b 0)), (2, .ref (s.heap.size))]) hx hb dX1_pass_160 hl (k := 2) rfl (ninc i) (by decide) rfl (fun ls hl => ?_)
                refine lv_goto (tgt := 47) hx hb dX1_pass_163 (by decide) ?_
                have e6 : nGc N (sPr N) R (i + 1) = nGc N (sPr N) R i + 1 := by rw [nGc_s c4] <;> rfl
                exact ih H locs (by rw [nGo_s c4]; exact hW) hS ls (by rw [e6]; exact lv_sub hl [0, 2, 3, 4] rfl)
              · exfalso; omega
            · intro r hr rh H locs hW hS ls hl
              have hN := hW.1
              refine lv_iload hx hb dX1_pass_111 (lv_at hl 0 rfl) ?_
              refine lv_aload_n hx hb dX1_pass_113 rfl (lv_at hl 3 rfl) ?_
              refine gX1_purses hC hN dX1_pass_114 ?_
              refine nS_purses hC hN dX1_pass_117 ?_
              refine jge (i := r) (j := R) (tgt := 160) hC dX1_pass_118 (by decide) rfl rfl (by omega) (by omega) (fun c7 => ?_) (fun c7 => ?_)
              · exfalso; omega
              · refine lv_aload_n hx hb dX1_pass_121 rfl (lv_at hl 3 rfl) ?_
                refine gX1_purses hC hN dX1_pass_122 ?_
                refine lv_iload hx hb dX1_pass_125 (lv_at hl 0 rfl) ?_
                refine lv_dup2_11 hx hb dX1_pass_127 rfl rfl ?_
                refine lS_pur (r) hC hN rfl (by omega) (by omega) rfl dX1_pass_128 ?_
                refine lv_aload_n hx hb dX1_pass_129 rfl (lv_at hl 4 rfl) ?_
                refine lv_iload_n hx hb dX1_pass_130 rfl (lv_at hl 2 rfl) ?_
                refine ldP (v := sPr N i) (i) hC hW (by omega) rfl (by omega) (fpre_at (by omega)) dX1_pass_131 ?_
                refine lv_aload_n hx hb dX1_pass_132 rfl (lv_at hl 3 rfl) ?_
                refine gX1_held hC hN dX1_pass_133 ?_
                refine lv_iload hx hb dX1_pass_136 (lv_at hl 0 rfl) ?_
                refine lS_hr (r) hC hN rfl (by omega) dX1_pass_138 ?_
                refine lv_iload_n hx hb dX1_pass_139 rfl (lv_at hl 2 rfl) ?_
                refine lS_held (r) (i) hC hN (by omega) rfl (by omega) rfl dX1_pass_140 ?_
                refine lv_imul hx hb dX1_pass_141 ?_
                refine lv_iadd hx hb dX1_pass_142 ?_
                refine sP_pur (r) hC hW (by omega) rfl (by omega) hS hA dX1_pass_143 (fun H locs hW hS => ?_)
                have hN := hW.1
                refine lv_aload_n hx hb dX1_pass_144 rfl (lv_at hl 3 rfl) ?_
                refine gX1_held hC hN dX1_pass_145 ?_
                refine lv_iload hx hb dX1_pass_148 (lv_at hl 0 rfl) ?_
                refine lS_hr (r) hC hN rfl (by omega) dX1_pass_150 ?_
                refine lv_iload_n hx hb dX1_pass_151 rfl (lv_at hl 2 rfl) ?_
                refine lv_iconst (v := 0) hx hb dX1_pass_152 (by decide) ?_
                refine sP_held (r) (i) hC hW (by omega) rfl (by omega) hS hA dX1_pass_153 (fun H locs hW hS => ?_)
                have hN := hW.1
                refine lv_iinc (v := nI (r + 1)) (lv' := [(5, .int (nI (r + 1))), (1, .int (nGc N (sPr N) R i + 1)), (3, .int (nI i)), (0, .ref (b 0)), (2, .ref (s.heap.size))]) hx hb dX1_pass_154 hl (k := 0) rfl (ninc r) (by decide) rfl (fun ls hl => ?_)
                refine lv_goto (tgt := 111) hx hb dX1_pass_157 (by decide) ?_
                exact rh H locs (hW) hS ls (lv_sub hl [0, 1, 2, 3, 4] rfl)
          · refine lv_goto (tgt := 160) hx hb dX1_pass_89 (by decide) ?_
            refine lv_iinc (v := nI (i + 1)) (lv' := [(3, .int (nI (i + 1))), (4, .ref (b (10 + i))), (1, .int (nGc N (sPr N) R i)), (0, .ref (b 0)), (2, .ref (s.heap.size))]) hx hb dX1_pass_160 hl (k := 1) rfl (ninc i) (by decide) rfl (fun ls hl => ?_)
            refine lv_goto (tgt := 47) hx hb dX1_pass_163 (by decide) ?_
            have e8 : nGc N (sPr N) R (i + 1) = nGc N (sPr N) R i := by rw [nGc_k c4] <;> rfl
            exact ih H locs (by rw [nGo_k c4]; exact hW) hS ls (by rw [e8]; exact lv_sub hl [0, 2, 3, 4] rfl)
    · exfalso; omega
  · intro i hi ih H locs hW hS ls hl
    have hN := hW.1
    refine lv_iload_n hx hb dX1_pass_12 rfl (lv_at hl 0 rfl) ?_
    refine lv_aload_n hx hb dX1_pass_13 rfl (lv_at hl 2 rfl) ?_
    refine gX1_towers hC hN dX1_pass_14 ?_
    refine nS_towers hC hN dX1_pass_17 ?_
    refine jge (i := i) (j := T) (tgt := 35) hC dX1_pass_18 (by decide) rfl rfl (by omega) (by omega) (fun c9 => ?_) (fun c9 => ?_)
    · exfalso; omega
    · refine lv_aload_n hx hb dX1_pass_21 rfl (lv_at hl 3 rfl) ?_
      refine lv_iload_n hx hb dX1_pass_22 rfl (lv_at hl 0 rfl) ?_
      refine lv_aload_n hx hb dX1_pass_23 rfl (lv_at hl 2 rfl) ?_
      refine lv_iload_n hx hb dX1_pass_24 rfl (lv_at hl 0 rfl) ?_
      refine k1_X1_price hC (c_X1_price l D cI cQ b N hT8 hR6 (t := i) (by omega)) hN rfl ⟨rfl, rfl⟩ ⟨Nat.le_of_ble_eq_true rfl, Nat.le_of_ble_eq_true rfl⟩ ⟨by show 0 + 1 ≤ 1; omega, by show 0 + T ≤ 8; omega⟩ hl.1 rfl (Nat.le_of_ble_eq_true rfl) dX1_pass_25 ?_
      refine stP (i) hC hW (by omega) rfl (by omega) hS (hA1 _ (Nat.le_refl _)) dX1_pass_28 (fun H locs hW hS => ?_)
      have hN := hW.1
      refine lv_iinc (v := nI (i + 1)) (lv' := [(3, .int (nI (i + 1))), (1, .int (0)), (0, .ref (b 0)), (2, .ref (s.heap.size))]) hx hb dX1_pass_29 hl (k := 0) rfl (ninc i) (by decide) rfl (fun ls hl => ?_)
      refine lv_goto (tgt := 12) hx hb dX1_pass_32 (by decide) ?_
      exact ih H locs (by rw [← fpre_up]; exact hW) hS ls (lv_sub hl [0, 1, 2, 3] rfl)
def nPa (N : bS) (T R : Nat) : Nat → bS
  | 0 => N
  | i + 1 => nGo (nPa N T R i) (sPr (nPa N T R i)) R T
def nPc (N : bS) (T R : Nat) : Nat → Int32
  | 0 => 0
  | i + 1 => nPc N T R i + nGc (nPa N T R i) (sPr (nPa N T R i)) R T
theorem nPa_1 {N : bS} {T R t j : Nat} (hR : R ≤ 6) (hj : j < 3) : ∀ i : Nat, nPa N T R i (20 + t) j = N (20 + t) j
  | 0 => rfl
  | i + 1 => (nGo_1 (by omega) (by omega) (by omega) hR hj T).trans (nPa_1 hR hj i)
theorem nPa_P {N : bS} {T R : Nat} (hR : R ≤ 6) (hP : ∀ t, t < T → ¬ N (20 + t) 1 = 0) (i : Nat) : ∀ t, t < T → ¬ nPa N T R i (20 + t) 1 = 0 := fun t ht => by rw [nPa_1 hR (by omega) i]; exact hP t ht
set_option maxHeartbeats 4000000 in
set_option maxRecDepth 100000 in
theorem c_X1_behind (l : Launch) (D : va_G) (cI cQ : ClassId) (b : Nat → Nat) (N : bS) {T R : Nat} (hT8 : T ≤ 8) (hR6 : R ≤ 6) {k : Nat} {sz : Nat} (hk60 : k ≤ 60) (hP : ∀ t, t < T → ¬ N (20 + t) 1 = 0) : Wr l yX1_behind cX1_behind 4 (some .int) ({ frames := 3, cells := 60, slots := 480, locals := 73 } : Room) (fun U Hx => Hx.size = sz ∧ SW D cI cQ b N T R U Hx) (SW D cI cQ b (nPa N T R k) T R) (fun q => inG (10 + T) b q ∨ sz ≤ q) [.ref (b 0), .int (nI k)] (some (.int (nPc N T R k))) 60 480 := by
  refine Wr.of (by decide) (Nat.le_of_ble_eq_true rfl) ?_
  intro p e s m args below meth c ls hC hr hlocks hN hS hl
  obtain ⟨hsz, hN⟩ := hN
  have hx := hC.1
  have hb := hC.2.1
  have hA : ∀ q, inG (10 + T) b q → (fun q => inG (10 + T) b q ∨ sz ≤ q) q := fun _ h => Or.inl h
  have hA1 : ∀ q, s.heap.size ≤ q → (fun q => inG (10 + T) b q ∨ sz ≤ q) q := fun q h => Or.inr (hsz ▸ h)
  have hl : lv_has ls 4 [(0, .ref (b 0)), (1, .int (nI k))] := hl
  refine lv_iconst (v := 0) hx hb dX1_behind_0 (by decide) ?_
  refine lv_istore_n (lv' := [(2, .int (0)), (0, .ref (b 0)), (1, .int (nI k))]) hx hb dX1_behind_1 rfl hl (by decide) rfl (fun ls hl => ?_)
  refine lv_iconst (v := 0) hx hb dX1_behind_2 (by decide) ?_
  refine lv_istore_n (lv' := [(3, .int (0)), (2, .int (0)), (0, .ref (b 0)), (1, .int (nI k))]) hx hb dX1_behind_3 rfl hl (by decide) rfl (fun ls hl => ?_)
  refine loopU (P := fun i => ∀ (H : Heap) (locs : List Loc), SW D cI cQ b (nPa N T R i) T R s H → va_S (fun q => inG (10 + T) b q ∨ sz ≤ q) s.heap H locs → ∀ ls : Array Slot, lv_has ls 4 [(3, .int (nI i)), (2, .int (nPc N T R i)), (0, .ref (b 0)), (1, .int (nI k))] → W p l e ({ frames := 3, cells := 60, slots := 480, locals := 73 } : Room) s m args below meth c H locs (i) (8 * i) (MQ below (qW (some (.int (nPc N T R k))) (SW D cI cQ b (nPa N T R k) T R) (fun q => inG (10 + T) b q ∨ sz ≤ q)) args s 60 480 (fun q => inG (10 + T) b q ∨ sz ≤ q)) (F0 m 4 ls [])) (k) ?_ ?_ 0 (by omega) s.heap [] hN hS ls (by first | exact lv_sub hl [0, 1, 2, 3] rfl | (simpa using lv_sub hl [0, 1, 2, 3] rfl))
  · intro H locs hN hS ls hl
    refine lv_iload_n hx hb dX1_behind_4 rfl (lv_at hl 0 rfl) ?_
    refine lv_iload_n hx hb dX1_behind_5 rfl (lv_at hl 3 rfl) ?_
    refine jge (i := k) (j := k) (tgt := 22) hC dX1_behind_6 (by decide) rfl rfl (by omega) (by omega) (fun c1 => ?_) (fun c1 => ?_)
    · refine lv_iload_n hx hb dX1_behind_22 rfl (lv_at hl 1 rfl) ?_
      refine W.widen (k := 60) (n := 480) (by omega) (by omega) ?_
      exact wr_i hC hr hlocks mov_S (hN) hS dX1_behind_23 (by rfl)
    · exfalso; omega
  · intro i hi ih H locs hN hS ls hl
    refine lv_iload_n hx hb dX1_behind_4 rfl (lv_at hl 0 rfl) ?_
    refine lv_iload_n hx hb dX1_behind_5 rfl (lv_at hl 3 rfl) ?_
    refine jge (i := i) (j := k) (tgt := 22) hC dX1_behind_6 (by decide) rfl rfl (by omega) (by omega) (fun c2 => ?_) (fun c2 => ?_)
    · exfalso; omega
    · refine lv_iload_n hx hb dX1_behind_9 rfl (lv_at hl 1 rfl) ?_
      refine lv_aload_n hx hb dX1_behind_10 rfl (lv_at hl 2 rfl) ?_
      refine kz1_X1_pass hC (c_X1_pass l D cI cQ b (nPa N T R i) hT8 hR6 (nPa_P hR6 hP i)) mov_S hN rfl ⟨rfl, rfl⟩ ⟨Nat.le_of_ble_eq_true rfl, Nat.le_of_ble_eq_true rfl⟩ ⟨by show _ ≤ 60; omega, by show _ ≤ 480; omega⟩ hS hA hA1 hl.1 rfl (Nat.le_of_ble_eq_true rfl) dX1_behind_11 (fun H locs hN hS hz hf => ?_)
      refine lv_iadd hx hb dX1_behind_14 ?_
      refine lv_istore_n (lv' := [(2, .int ((nPc N T R i) + (nGc (nPa N T R i) (sPr (nPa N T R i)) R T))), (3, .int (nI i)), (0, .ref (b 0)), (1, .int (nI k))]) hx hb dX1_behind_15 rfl hl (by decide) rfl (fun ls hl => ?_)
      refine lv_iinc (v := nI (i + 1)) (lv' := [(3, .int (nI (i + 1))), (2, .int ((nPc N T R i) + (nGc (nPa N T R i) (sPr (nPa N T R i)) R T))), (0, .ref (b 0)), (1, .int (nI k))]) hx hb dX1_behind_16 hl (k := 1) rfl (ninc i) (by decide) rfl (fun ls hl => ?_)
      refine lv_goto (tgt := 4) hx hb dX1_behind_19 (by decide) ?_
      exact ih H locs (hN) hS ls (lv_sub hl [0, 1, 2, 3] rfl)
end
section
/-! ===== Sim.with, Sim.addTrader, new Sim() ===== -/
def bA (b : Nat → Nat) (k0 q : Nat) : Nat → Nat := fun k => if k = k0 then q else b k
theorem bA_at {b : Nat → Nat} {k q : Nat} : bA b k q k = q := if_pos rfl
theorem bA_ne {b : Nat → Nat} {k k0 q : Nat} (h : k ≠ k0) : bA b k0 q k = b k := if_neg h
theorem bA_inj {b : Nat → Nat} {K k0 q : Nat} (h : ∀ i j : Nat, i < K → j < K → b i = b j → i = j) (hq : ∀ k, k < K → b k ≠ q) : ∀ i j : Nat, i < K → j < K → bA b k0 q i = bA b k0 q j → i = j := by
  intro i j hi hj e
  by_cases e1 : i = k0
  · by_cases e2 : j = k0
    · omega
    · rw [e1, bA_at, bA_ne e2] at e
      exact absurd e.symm (hq j hj)
  · by_cases e2 : j = k0
    · rw [e2, bA_at, bA_ne e1] at e
      exact absurd e (hq i hi)
    · rw [bA_ne e1, bA_ne e2] at e
      exact h i j hi hj e
theorem bA_ext {b : Nat → Nat} {K q : Nat} (h : ∀ i j : Nat, i < K → j < K → b i = b j → i = j) (hq : ∀ k, k < K → b k ≠ q) : ∀ i j : Nat, i < K + 1 → j < K + 1 → bA b K q i = bA b K q j → i = j := by
  intro i j hi hj e
  by_cases e1 : i = K
  · by_cases e2 : j = K
    · omega
    · rw [e1, bA_at, bA_ne e2] at e
      exact absurd e.symm (hq j (by omega))
  · by_cases e2 : j = K
    · rw [e2, bA_at, bA_ne e1] at e
      exact absurd e (hq i (by omega))
    · rw [bA_ne e1, bA_ne e2] at e
      exact h i j (by omega) (by omega) e
def WiW (D : va_G) (cI cQ : ClassId) (tw : Nat) (g : Nat → Nat) (T sz : Nat) (U : State) (H : Heap) : Prop := va_K D vwCl (tyB cI cQ) U ∧ va_AOA .int U ∧ H.size = sz ∧ va_at D vwCl (tw, eQ cQ T (fun i => if i < T then some (g i) else none)) H ∧ ∀ i : Nat, i ≤ T → ∃ (n : Nat) (F : Nat → Int32), va_at D vwCl (g i, eI cI n F) H
def WoW (D : va_G) (cQ : ClassId) (g : Nat → Nat) (T sz : Nat) (_ : State) (H : Heap) : Prop := va_at D vwCl (sz, eQ cQ (T + 1) (fun i => if i < T + 1 then some (g i) else none)) H
theorem mov_Wi {D : va_G} {cI cQ : ClassId} {tw : Nat} {g : Nat → Nat} {T sz : Nat} : Mov (WiW D cI cQ tw g T sz) := fun _ _ _ hvm h => ⟨va_K.moved hvm h.1, AOA_mv hvm h.2.1, h.2.2⟩
theorem mov_Wo {D : va_G} {cQ : ClassId} {g : Nat → Nat} {T sz : Nat} : Mov (WoW D cQ g T sz) := fun _ _ _ _ h => h
theorem up_g {g : Nat → Nat} (i : Nat) : va_up (fun j => if j < i then some (g j) else none) i (some (g i)) = fun j => if j < i + 1 then some (g j) else none := by
  funext j
  unfold va_up
  dsimp only
  by_cases e : j = i
  · rw [if_pos e, if_pos (by omega), e]
  · rw [if_neg e]
    by_cases h : j < i
    · rw [if_pos h, if_pos (by omega)]
    · rw [if_neg h, if_neg (by omega)]
set_option maxHeartbeats 4000000 in
set_option maxRecDepth 100000 in
theorem c_X1_with (l : Launch) (D : va_G) (cI cQ : ClassId) (tw : Nat) (g : Nat → Nat) (T sz : Nat) (hT8 : T < 8) : Wr l yX1_with cX1_with 4 (some (.array (.array .int))) ({ frames := 0, cells := 1, slots := 9, locals := 0 } : Room) (WiW D cI cQ tw g T sz) (WoW D cQ g T sz) (fun q => sz ≤ q) [.ref tw, .ref (g T)] (some (.ref sz)) 1 9 := by
  refine Wr.of (by decide) (Nat.le_of_ble_eq_true rfl) ?_
  intro p e s m args below meth c ls hC hr hlocks hW hS hl
  obtain ⟨hK, hAO, hsz, hT, hG⟩ := hW
  subst hsz
  have hx := hC.1
  have hb := hC.2.1
  have hl : lv_has ls 4 [(0, .ref tw), (1, .ref (g T))] := hl
  have hTw : GW D cI cQ 1 (fun _ => tw) (fun _ => eQ cQ T (fun i => if i < T then some (g i) else none)) s s.heap := GW.one hK hT
  have htw : tw < s.heap.size := va_at.lt hT
  refine lv_aload_n hx hb dX1_with_0 rfl (lv_at hl 0 rfl) ?_
  refine lqG (b := fun _ => tw) (k := 0) hC hTw (by decide) rfl dX1_with_1 ?_
  refine lv_iconst (v := 1) hx hb dX1_with_2 (by decide) ?_
  refine xadd (v := nI (T + 1)) hC dX1_with_3 (nadd (i := T) (j := 1) rfl rfl) ?_
  refine nqG (T + 1) hC hK hAO (List.mem_of_getElem? (i := 37) (by decide +kernel)) rfl (by omega) hS (Nat.le_of_ble_eq_true rfl) (by show 0 + (T + 1) ≤ 9; omega) dX1_with_4 (fun H hG1 hS hz hf => ?_)
  refine lv_astore_n (lv' := [(2, .ref (s.heap.size)), (0, .ref tw), (1, .ref (g T))]) hx hb dX1_with_7 rfl hl (by decide) rfl (fun ls hl => ?_)
  refine lv_iconst (v := 0) hx hb dX1_with_8 (by decide) ?_
  refine lv_istore_n (lv' := [(3, .int 0), (2, .ref (s.heap.size)), (0, .ref tw), (1, .ref (g T))]) hx hb dX1_with_9 rfl hl (by decide) rfl (fun ls hl => ?_)
  have hold : ∀ q : Nat, q < s.heap.size → H[q]? = s.heap[q]? := hf
  refine loopU (P := fun i => ∀ (H : Heap) (locs : List Loc), GW D cI cQ 1 (fun _ => s.heap.size) (fun _ => eQ cQ (T + 1) (fun j => if j < i then some (g j) else none)) s H → (∀ q : Nat, q < s.heap.size → H[q]? = s.heap[q]?) → va_S (fun q => s.heap.size ≤ q) s.heap H locs → ∀ ls : Array Slot, lv_has ls 4 [(3, .int (nI i)), (2, .ref (s.heap.size)), (0, .ref tw), (1, .ref (g T))] → W p l e ({ frames := 0, cells := 1, slots := 9, locals := 0 } : Room) s m args below meth c H locs (0 + 1) (0 + (T + 1)) (MQ below (qW (some (.ref s.heap.size)) (WoW D cQ g T s.heap.size) (fun q => s.heap.size ≤ q)) args s 1 9 (fun q => s.heap.size ≤ q)) (F0 m 10 ls [])) T ?_ ?_ 0 (by omega) H [] (hG1.cg (fun _ _ => congrArg (eQ cQ (T + 1)) (funext fun j => (if_neg (Nat.not_lt_zero j)).symm))) hold hS ls (lv_sub hl [0, 1, 2, 3] rfl)
  · intro H locs hG1 hold hS ls hl
    have hTw := hTw.kept (H1 := H) (fun _ _ => hold _ htw)
    refine lv_iload_n hx hb dX1_with_10 rfl (lv_at hl 0 rfl) ?_
    refine lv_aload_n hx hb dX1_with_11 rfl (lv_at hl 2 rfl) ?_
    refine lqG (b := fun _ => tw) (k := 0) hC hTw (by decide) rfl dX1_with_12 ?_
    refine jge (i := T) (j := T) (tgt := 28) hC dX1_with_13 (by decide) rfl rfl (by omega) (by omega) (fun c1 => ?_) (fun c1 => ?_)
    · refine lv_aload_n hx hb dX1_with_28 rfl (lv_at hl 1 rfl) ?_
      refine lv_aload_n hx hb dX1_with_29 rfl (lv_at hl 2 rfl) ?_
      refine lqG (b := fun _ => tw) (k := 0) hC hTw (by decide) rfl dX1_with_30 ?_
      refine lv_aload_n hx hb dX1_with_31 rfl (lv_at hl 3 rfl) ?_
      obtain ⟨n2, F2, hv⟩ := hG T (Nat.le_refl T)
      refine saG (b := fun _ => s.heap.size) (k := 0) T hC hG1 hAO (by decide) rfl rfl (by omega) (by omega) (va_at.kept hv (hold _ (va_at.lt hv))) hS (Nat.le_refl _) dX1_with_32 (fun H1 locs1 h1 h2 h3 h4 => ?_)
      refine lv_aload_n hx hb dX1_with_33 rfl (lv_at hl 1 rfl) ?_
      refine W.widen (k := 1) (n := 9) (by omega) (by omega) ?_
      have h5 := h1.2.1 0 (by decide)
      rw [eU_self, up_g] at h5
      exact W.aret (v := .ref s.heap.size) hx hb hr (Or.inr ⟨_, rfl⟩) (Or.inr ⟨_, rfl⟩) (fun t ht hW1 => ⟨rfl, by rw [ht]; exact h5, h2.F ht⟩) h2.2.2 dX1_with_34 hlocks
    · exfalso; omega
  · intro i hi ih H locs hG1 hold hS ls hl
    have hTw := hTw.kept (H1 := H) (fun _ _ => hold _ htw)
    refine lv_iload_n hx hb dX1_with_10 rfl (lv_at hl 0 rfl) ?_
    refine lv_aload_n hx hb dX1_with_11 rfl (lv_at hl 2 rfl) ?_
    refine lqG (b := fun _ => tw) (k := 0) hC hTw (by decide) rfl dX1_with_12 ?_
    refine jge (i := i) (j := T) (tgt := 28) hC dX1_with_13 (by decide) rfl rfl (by omega) (by omega) (fun c1 => ?_) (fun c1 => ?_)
    · exfalso; omega
    · refine lv_aload_n hx hb dX1_with_16 rfl (lv_at hl 1 rfl) ?_
      refine lv_iload_n hx hb dX1_with_17 rfl (lv_at hl 0 rfl) ?_
      refine lv_aload_n hx hb dX1_with_18 rfl (lv_at hl 2 rfl) ?_
      refine lv_iload_n hx hb dX1_with_19 rfl (lv_at hl 0 rfl) ?_
      refine aaG (b := fun _ => tw) (k := 0) i hC hTw (by decide) rfl rfl hi (by omega) (if_pos hi) dX1_with_20 ?_
      obtain ⟨n2, F2, hv⟩ := hG i (by omega)
      refine saG (b := fun _ => s.heap.size) (k := 0) i hC hG1 hAO (by decide) rfl rfl (by omega) (by omega) (va_at.kept hv (hold _ (va_at.lt hv))) hS (Nat.le_refl _) dX1_with_21 (fun H1 locs1 h1 h2 h3 h4 => ?_)
      refine lv_iinc (v := nI (i + 1)) (lv' := [(3, .int (nI (i + 1))), (2, .ref (s.heap.size)), (0, .ref tw), (1, .ref (g T))]) hx hb dX1_with_22 hl (k := 0) rfl (ninc i) (by decide) rfl (fun ls hl => ?_)
      refine lv_goto (tgt := 10) hx hb dX1_with_25 (by decide) ?_
      exact ih H1 locs1 (h1.cg (fun k hk => by rw [show k = 0 by omega, eU_self, up_g])) (fun q hq => (h4 q (Nat.ne_of_lt hq)).trans (hold q hq)) h2 ls hl
/-- one trader more: the purses anew -/
def nAd (N : bS) (R : Nat) : bS := fun k => if k = 5 then upd (fpre (N 5) R) R 100 else N k
theorem nAd_ne {N : bS} {R k : Nat} (h : k ≠ 5) : nAd N R k = N k := if_neg h
theorem sE_ad {cI cQ : ClassId} {b : Nat → Nat} {N : bS} {T R q : Nat} : ∀ k : Nat, k ≠ 2 → k ≠ 0 → sE cI cQ b N T R k = sE cI cQ (bA b 2 q) (nAd N R) T (R + 1) k
  | 0, _, h => absurd rfl h
  | 1, _, _ => by
    show eQ cQ T _ = eQ cQ T _
    refine congrArg (eQ cQ T) (funext fun i => ?_)
    rw [bA_ne (by omega)]
  | 2, h, _ => absurd rfl h
  | 3, _, _ => by
    show eQ cQ 6 _ = eQ cQ 6 _
    refine congrArg (eQ cQ 6) (funext fun i => ?_)
    rw [bA_ne (by omega)]
  | k + 4, _, _ => by
    show (if k < 6 then eI cI 8 (N (7 + k)) else eI cI 5 (N (14 + k))) = if k < 6 then eI cI 8 (nAd N R (7 + k)) else eI cI 5 (nAd N R (14 + k))
    rw [nAd_ne (by omega), nAd_ne (by omega)]
theorem SW.adT {D : va_G} {cI cQ : ClassId} {b : Nat → Nat} {N : bS} {T R q : Nat} {s : State} {H H1 : Heap} (hW : PW D cI cQ b T R q (R + 1) (upd (fpre (N 5) R) R 100) N s H) (h1 : GW D cI cQ (10 + T) b (eU (sE cI cQ b N T R) 0 (.inr (1, [.int (N 6 0), .ref (b 1), .ref q, .ref (b 3)]))) s H1) (h4 : ∀ z : Nat, z ≠ b 0 → H1[z]? = H[z]?) : SW D cI cQ (bA b 2 q) (nAd N R) T (R + 1) s H1 := by
  refine ⟨⟨hW.1.1.1, fun k hk => ?_, bA_inj hW.1.1.2.2 hW.2.2⟩, hW.1.2⟩
  by_cases e : k = 2
  · subst e
    exact (hW.2.1.kept (fun _ _ => h4 _ (fun z => hW.2.2 0 (by omega) z.symm))).2.1 0 (by decide)
  · have h5 := h1.2.1 k hk
    rw [bA_ne e]
    by_cases e0 : k = 0
    · subst e0
      rw [eU_self] at h5
      exact h5
    · rw [eU_ne _ _ e0] at h5
      rw [← sE_ad k e e0]
      exact h5
set_option maxHeartbeats 4000000 in
set_option maxRecDepth 100000 in
theorem c_X1_addTrader (l : Launch) (D : va_G) (cI cQ : ClassId) (b : Nat → Nat) (N : bS) {T R : Nat} (hT8 : T ≤ 8) (hR6 : R ≤ 6)  {sz : Nat} (hR5 : R < 6) : Wr l yX1_addTrader cX1_addTrader 3 none ({ frames := 0, cells := 1, slots := 6, locals := 0 } : Room) (fun U Hx => Hx.size = sz ∧ SW D cI cQ b N T R U Hx) (SW D cI cQ (bA b 2 sz) (nAd N R) T (R + 1)) (fun q => inG (10 + T) b q ∨ sz ≤ q) [.ref (b 0)] none 1 6 := by
  refine Wr.of (by decide) (Nat.le_of_ble_eq_true rfl) ?_
  intro p e s m args below meth c ls hC hr hlocks hN hS hl
  obtain ⟨hsz, hN⟩ := hN
  have hx := hC.1
  have hb := hC.2.1
  have hA : ∀ q, inG (10 + T) b q → (fun q => inG (10 + T) b q ∨ sz ≤ q) q := fun _ h => Or.inl h
  have hA1 : ∀ q, s.heap.size ≤ q → (fun q => inG (10 + T) b q ∨ sz ≤ q) q := fun q h => Or.inr (hsz ▸ h)
  have hl : lv_has ls 3 [(0, .ref (b 0))] := hl
  refine lv_aload_n hx hb dX1_addTrader_0 rfl (lv_at hl 0 rfl) ?_
  refine gX1_purses hC hN dX1_addTrader_1 ?_
  refine nS_purses hC hN dX1_addTrader_4 ?_
  refine lv_iconst (v := 1) hx hb dX1_addTrader_5 (by decide) ?_
  refine xadd (v := nI (R + 1)) hC dX1_addTrader_6 (nadd (i := R) (j := 1) rfl rfl) ?_
  refine nwG (R + 1) hC hN.1.1 rfl (by omega) hS (Nat.le_of_ble_eq_true rfl) (by show _ ≤ 6; omega) dX1_addTrader_7 (fun H hG hS hz hf => ?_)
  have hW : PW D cI cQ b T R s.heap.size (R + 1) (fpre (N 5) 0) N s H := ⟨hN.kept (fun k hk => hf _ (hN.1.lt k hk)), by rw [← fpre_0]; exact hG, fun k hk => Nat.ne_of_lt (hN.1.lt k hk)⟩
  have hN := hW.1
  refine lv_astore_n (lv' := [(1, .ref (s.heap.size)), (0, .ref (b 0))]) hx hb dX1_addTrader_9 rfl hl (by decide) rfl (fun ls hl => ?_)
  refine lv_iconst (v := 0) hx hb dX1_addTrader_10 (by decide) ?_
  refine lv_istore_n (lv' := [(2, .int (0)), (1, .ref (s.heap.size)), (0, .ref (b 0))]) hx hb dX1_addTrader_11 rfl hl (by decide) rfl (fun ls hl => ?_)
  refine loopU (P := fun i => ∀ (H : Heap) (locs : List Loc), PW D cI cQ b T R s.heap.size (R + 1) (fpre (N 5) i) N s H → va_S (fun q => inG (10 + T) b q ∨ sz ≤ q) s.heap H locs → ∀ ls : Array Slot, lv_has ls 3 [(2, .int (nI i)), (0, .ref (b 0)), (1, .ref (s.heap.size))] → W p l e ({ frames := 0, cells := 1, slots := 6, locals := 0 } : Room) s m args below meth c H locs (0 + 1) (0 + (R + 1)) (MQ below (qW none (SW D cI cQ (bA b 2 sz) (nAd N R) T (R + 1)) (fun q => inG (10 + T) b q ∨ sz ≤ q)) args s 1 6 (fun q => inG (10 + T) b q ∨ sz ≤ q)) (F0 m 12 ls [])) (R) ?_ ?_ 0 (by omega) H [] hW hS ls (by first | exact lv_sub hl [0, 2, 1] rfl | (simpa using lv_sub hl [0, 2, 1] rfl))
  · intro H locs hW hS ls hl
    have hN := hW.1
    refine lv_iload_n hx hb dX1_addTrader_12 rfl (lv_at hl 0 rfl) ?_
    refine lv_aload_n hx hb dX1_addTrader_13 rfl (lv_at hl 1 rfl) ?_
    refine gX1_purses hC hN dX1_addTrader_14 ?_
    refine nS_purses hC hN dX1_addTrader_17 ?_
    refine jge (i := R) (j := R) (tgt := 36) hC dX1_addTrader_18 (by decide) rfl rfl (by omega) (by omega) (fun c1 => ?_) (fun c1 => ?_)
    · refine lv_aload_n hx hb dX1_addTrader_36 rfl (lv_at hl 2 rfl) ?_
      refine lv_aload_n hx hb dX1_addTrader_37 rfl (lv_at hl 1 rfl) ?_
      refine gX1_purses hC hN dX1_addTrader_38 ?_
      refine nS_purses hC hN dX1_addTrader_41 ?_
      refine lv_bipush (v := 100) hx hb dX1_addTrader_42 (by decide) ?_
      refine stP (R) hC hW (by omega) rfl (by omega) hS (hA1 _ (Nat.le_refl _)) dX1_addTrader_44 (fun H locs hW hS => ?_)
      have hN := hW.1
      refine lv_aload_n hx hb dX1_addTrader_45 rfl (lv_at hl 1 rfl) ?_
      refine lv_aload_n hx hb dX1_addTrader_46 rfl (lv_at hl 2 rfl) ?_
      refine ptG (k := 0) (g := 2) (w := .ref s.heap.size) (ty := .array .int) hC hN.1 (by omega) rfl hS (hA _ ⟨0, by omega, rfl⟩) (by decide) (List.mem_of_getElem? (i := 39) (by decide +kernel)) rfl (fun _ h9 => h9) (by decide +kernel) rfl rfl (Nat.le_of_ble_eq_true rfl) dX1_addTrader_47 (fun H1 locs1 h1 h2 h3 h4 => ?_)
      refine W.widen (k := 1) (n := 6) (by omega) (by omega) ?_
      exact wr_v hC hr hlocks mov_S (hsz ▸ SW.adT hW h1 h4) h2 dX1_addTrader_50
    · exfalso; omega
  · intro i hi ih H locs hW hS ls hl
    have hN := hW.1
    refine lv_iload_n hx hb dX1_addTrader_12 rfl (lv_at hl 0 rfl) ?_
    refine lv_aload_n hx hb dX1_addTrader_13 rfl (lv_at hl 1 rfl) ?_
    refine gX1_purses hC hN dX1_addTrader_14 ?_
    refine nS_purses hC hN dX1_addTrader_17 ?_
    refine jge (i := i) (j := R) (tgt := 36) hC dX1_addTrader_18 (by decide) rfl rfl (by omega) (by omega) (fun c2 => ?_) (fun c2 => ?_)
    · exfalso; omega
    · refine lv_aload_n hx hb dX1_addTrader_21 rfl (lv_at hl 2 rfl) ?_
      refine lv_iload_n hx hb dX1_addTrader_22 rfl (lv_at hl 0 rfl) ?_
      refine lv_aload_n hx hb dX1_addTrader_23 rfl (lv_at hl 1 rfl) ?_
      refine gX1_purses hC hN dX1_addTrader_24 ?_
      refine lv_iload_n hx hb dX1_addTrader_27 rfl (lv_at hl 0 rfl) ?_
      refine lS_pur (i) hC hN rfl (by omega) (by omega) rfl dX1_addTrader_28 ?_
      refine stP (i) hC hW (by omega) rfl (by omega) hS (hA1 _ (Nat.le_refl _)) dX1_addTrader_29 (fun H locs hW hS => ?_)
      have hN := hW.1
      refine lv_iinc (v := nI (i + 1)) (lv' := [(2, .int (nI (i + 1))), (0, .ref (b 0)), (1, .ref (s.heap.size))]) hx hb dX1_addTrader_30 hl (k := 0) rfl (ninc i) (by decide) rfl (fun ls hl => ?_)
      refine lv_goto (tgt := 12) hx hb dX1_addTrader_33 (by decide) ?_
      exact ih H locs (by rw [← fpre_up]; exact hW) hS ls (lv_sub hl [0, 1, 2] rfl)
end
section
/-! ===== the constructors ===== -/
theorem D_one {A : Nat → Prop} {a : Nat} {e : va_E} (h : A a) : va_D A [(a, e)] := by
  refine ⟨fun i j p q hi hj _ => ?_, fun k q hk => ?_⟩
  · have h1 := (List.getElem?_eq_some_iff.mp hi).1
    have h2 := (List.getElem?_eq_some_iff.mp hj).1
    simp only [List.length_cons, List.length_nil] at h1 h2
    omega
  · have h1 := (List.getElem?_eq_some_iff.mp hk).1
    simp only [List.length_cons, List.length_nil] at h1
    have h2 : k = 0 := by omega
    subst h2
    cases hk
    exact h
theorem AOA_warm {s U : State} (hW : s.vm.Alike U.vm) (h : va_AOA .int s) : va_AOA .int U := by
  have h1 : (Cond.arrayOver (.array .int)).before #[] (s.setVm U.vm) = true := by rw [Cond.arrayOver_setVmC hW]; exact h
  exact h1
theorem vwB_get {cI cQ : ClassId} {a : Nat → Nat} {S : bS} {k : Nat} (hk : k < 14) : ∃ e : va_E, (vwB cI cQ a S)[(k + 1) % 14]? = some (a k, e) := by
  have hl : ((k + 1) % 14) < (vwB cI cQ a S).length := by show _ < 14; omega
  have h1 := List.getElem?_eq_getElem hl
  have h2 := (vwB_at ((k + 1) % 14) _ h1).2
  rw [show ((k + 1) % 14 + 13) % 14 = k by omega] at h2
  exact ⟨((vwB cI cQ a S)[(k + 1) % 14]).2, by rw [h1, ← h2]⟩
theorem BW_of {D : va_G} {cI cQ : ClassId} {a : Nat → Nat} {S : bS} {U : State} {H : Heap} {A : Nat → Prop} (hK : va_K D vwCl (tyB cI cQ) U) (hP : va_P D vwCl (vwB cI cQ a S) H) (hD : va_D A (vwB cI cQ a S)) : BW D cI cQ a S U H ∧ ∀ k, k < 14 → A (a k) := by
  refine ⟨⟨hK, hP, fun i j hi hj hij => ?_⟩, fun k hk => ?_⟩
  · obtain ⟨e1, h1⟩ := vwB_get (cI := cI) (cQ := cQ) (a := a) (S := S) hi
    obtain ⟨e2, h2⟩ := vwB_get (cI := cI) (cQ := cQ) (a := a) (S := S) hj
    have := hD.1 _ _ _ _ h1 h2 hij
    omega
  · obtain ⟨e1, h1⟩ := vwB_get (cI := cI) (cQ := cQ) (a := a) (S := S) hk
    exact hD.2 _ _ h1
theorem pl_const {f : Nat → va_E} {L : List Nat} {e : va_E} : va_pl ([] ++ L) (vr_up f L e) = L.map (fun x => (x, e)) := by
  unfold va_pl
  rw [List.nil_append]
  apply List.map_congr_left
  intro x hx
  rw [vr_up_in hx]
def aof (q0 q1 q2 q3 q4 q5 q6 h0 : Nat) (r : Nat → Nat) : Nat → Nat
  | 0 => q0
  | 1 => q1
  | 2 => q2
  | 3 => q3
  | 4 => q4
  | 5 => q5
  | 6 => q6
  | 7 => r 0
  | 8 => r 1
  | 9 => r 2
  | 10 => r 3
  | 11 => r 4
  | 12 => r 5
  | _ => h0
theorem aof_r {q0 q1 q2 q3 q4 q5 q6 h0 : Nat} {r : Nat → Nat} : (fun i => if i < 6 then some (aof q0 q1 q2 q3 q4 q5 q6 h0 r (7 + i)) else none) = (fun i => if i < 6 then some (r i) else none : Nat → Option Nat) := by
  funext i
  match i with
  | 0 => rfl
  | 1 => rfl
  | 2 => rfl
  | 3 => rfl
  | 4 => rfl
  | 5 => rfl
  | i + 6 => rw [if_neg (by omega), if_neg (by omega)]
def iP_X0 (D : va_G) (h0 sz : Nat) (U : State) : Prop := U.heap.size = sz ∧ va_K D vwCl [] U ∧ va_AOA .int U ∧ va_P D vwCl [(h0, .inr (0, [.null, .null, .null, .null, .null, .null, .null, .int 0, .int 0, .int 0]))] U.heap
def iQ_X0 (D : va_G) (h0 sz : Nat) : Array Value → State → Outcome → State → Prop := fun _ st oc t => oc = .returned none ∧ (∃ (cI cQ : ClassId) (a : Nat → Nat), a 13 = h0 ∧ (∀ k, k < 13 → sz ≤ a k) ∧ BW D cI cQ a (fun _ _ => 0) t t.heap) ∧ va_F (fun q => q = h0 ∨ sz ≤ q) st t
set_option maxHeartbeats 4000000 in
set_option maxRecDepth 100000 in
theorem i_X0 (l : Launch) (D : va_G) (h0 sz : Nat) : Met l yX0_init (wq yX0_init cX0_init 1 none) ({ frames := 1, cells := 13, slots := 100, locals := 32 } : Room) (va_Pc [.ref h0] (iP_X0 D h0 sz)) (iQ_X0 D h0 sz) 13 100 (fun q => q = h0 ∨ sz ≤ q) := by
  refine Met.ofW (cc := cX0_init) (maxL := 1) (ret := none) (by decide) rfl ?_
  intro p e s m args below meth c s₁ B hml hv
  obtain ⟨rfl, hsz, hK, hAO, hP⟩ := hv
  subst hsz
  have hC : CallFix p m c cX0_init 1 s (List.toArray [.ref h0]) wsL_law RX0 := ⟨B.exec, B.bytes, hml, findClass_of_methodNamed B.named, fun w h => atoms_spec (ws := wq yX0_init cX0_init 1 none) B.pre w (List.mem_cons_of_mem _ h)⟩
  have hin : meth.name = "<init>" := (name_of_methodNamed B.named B.method).1
  have hr := B.returns
  have hlocks := B.notSynchronized
  have hx := hC.1
  have hb := hC.2.1
  have hts := hC.2.2.2.2
  have hA : ∀ q : Nat, s.heap.size ≤ q → (fun q => q = h0 ∨ s.heap.size ≤ q) q := fun q h => Or.inr h
  have hS : va_S (fun q => q = h0 ∨ s.heap.size ≤ q) s.heap s.heap [] := va_S.rf
  have hD : va_D (fun q => q = h0 ∨ s.heap.size ≤ q) [(h0, .inr (0, [.null, .null, .null, .null, .null, .null, .null, .int 0, .int 0, .int 0]))] := D_one (Or.inl rfl)
  have hl := lv_entry ([.ref h0]) (n := 1) (Nat.le_of_ble_eq_true rfl)
  rw [lg_entry_eq]
  generalize (lg_sl ([.ref h0]) ++ List.replicate (1 - (lg_sl ([.ref h0])).length) Slot.unset).toArray = ls at hl ⊢
  have hl : lv_has ls 1 [(0, .ref h0)] := hl
  refine lv_aload_n hx hb dX0_init_0 rfl (lv_at hl 0 rfl) ?_
  refine W.objInit hx hb hC.2.2.2.1 (hts _ (List.mem_of_getElem? (i := 16) (by decide +kernel))) (hts _ (List.mem_of_getElem? (i := 17) (by decide +kernel))) (hts _ (List.mem_of_getElem? (i := 18) (by decide +kernel))) rfl (by rw [hml]; exact hl.1) rfl dX0_init_1 (Nat.le_of_ble_eq_true rfl) (Nat.le_of_ble_eq_true rfl) ?_
  refine W.eq (g2 := F0 m 4 ls []) rfl ?_
  refine lv_aload_n hx hb dX0_init_4 rfl (lv_at hl 0 rfl) ?_
  refine lv_bipush (v := 8) hx hb dX0_init_5 (by decide) ?_
  refine va_newa (atype := .int) (ty := .int) hx hb (hts _ (List.mem_of_getElem? (i := 3) (by decide +kernel))) rfl hK hP hD hS hA (N' := 8) (a0 := (8, .inl (fun _ => 0))) (fun _ => rfl) (by decide) (by decide) (by decide) (Nat.le_of_ble_eq_true rfl) (Nat.le_of_ble_eq_true rfl) dX0_init_7 (fun q0 c0 H hK hP hD hS => ?_)
  have hP : va_P D vwCl [(h0, .inr (0, [.null, .null, .null, .null, .null, .null, .null, .int 0, .int 0, .int 0])), (q0, .inl (c0, 8, .inl (fun _ => 0)))] H := hP
  have hD : va_D _ [(h0, .inr (0, [.null, .null, .null, .null, .null, .null, .null, .int 0, .int 0, .int 0])), (q0, .inl (c0, 8, .inl (fun _ => 0)))] := hD
  refine va_putF (D := D) (ci := 0) (v := .ref q0) (ty := .array .int) (C := RX0) (T := TX0) (N := 10) hx hb hts inlX0 tyX0 tyX0_ok nmX0 hC.2.2.2.1 hK hP hD hS 0 rfl rfl 0 (by decide) (hts _ (List.mem_of_getElem? (i := 19) (by decide +kernel))) (fun _ h9 => h9) rfl hin rfl (by decide +kernel) rfl rfl (Nat.le_of_ble_eq_true rfl) dX0_init_9 (fun H locs hP hD hS => ?_)
  have hP : va_P D vwCl [(h0, .inr (0, [.ref q0, .null, .null, .null, .null, .null, .null, .int 0, .int 0, .int 0])), (q0, .inl (c0, 8, .inl (fun _ => 0)))] H := hP
  have hD : va_D _ [(h0, .inr (0, [.ref q0, .null, .null, .null, .null, .null, .null, .int 0, .int 0, .int 0])), (q0, .inl (c0, 8, .inl (fun _ => 0)))] := hD
  refine lv_aload_n hx hb dX0_init_12 rfl (lv_at hl 0 rfl) ?_
  refine lv_bipush (v := 8) hx hb dX0_init_13 (by decide) ?_
  refine va_newa (atype := .int) (ty := .int) hx hb (hts _ (List.mem_of_getElem? (i := 3) (by decide +kernel))) rfl hK hP hD hS hA (N' := 8) (a0 := (8, .inl (fun _ => 0))) (fun _ => rfl) (by decide) (by decide) (by decide) (Nat.le_of_ble_eq_true rfl) (Nat.le_of_ble_eq_true rfl) dX0_init_15 (fun q1 c1 H hK hP hD hS => ?_)
  have ec := nm_eq (hK.2 0 (c0, .int) rfl).2 (hK.2 1 (c1, .int) rfl).2
  subst ec
  have hP : va_P D vwCl [(h0, .inr (0, [.ref q0, .null, .null, .null, .null, .null, .null, .int 0, .int 0, .int 0])), (q0, .inl (c0, 8, .inl (fun _ => 0))), (q1, .inl (c0, 8, .inl (fun _ => 0)))] H := hP
  have hD : va_D _ [(h0, .inr (0, [.ref q0, .null, .null, .null, .null, .null, .null, .int 0, .int 0, .int 0])), (q0, .inl (c0, 8, .inl (fun _ => 0))), (q1, .inl (c0, 8, .inl (fun _ => 0)))] := hD
  refine va_putF (D := D) (ci := 0) (v := .ref q1) (ty := .array .int) (C := RX0) (T := TX0) (N := 10) hx hb hts inlX0 tyX0 tyX0_ok nmX0 hC.2.2.2.1 hK hP hD hS 0 rfl rfl 1 (by decide) (hts _ (List.mem_of_getElem? (i := 20) (by decide +kernel))) (fun _ h9 => h9) rfl hin rfl (by decide +kernel) rfl rfl (Nat.le_of_ble_eq_true rfl) dX0_init_17 (fun H locs hP hD hS => ?_)
  have hP : va_P D vwCl [(h0, .inr (0, [.ref q0, .ref q1, .null, .null, .null, .null, .null, .int 0, .int 0, .int 0])), (q0, .inl (c0, 8, .inl (fun _ => 0))), (q1, .inl (c0, 8, .inl (fun _ => 0)))] H := hP
  have hD : va_D _ [(h0, .inr (0, [.ref q0, .ref q1, .null, .null, .null, .null, .null, .int 0, .int 0, .int 0])), (q0, .inl (c0, 8, .inl (fun _ => 0))), (q1, .inl (c0, 8, .inl (fun _ => 0)))] := hD
  refine lv_aload_n hx hb dX0_init_20 rfl (lv_at hl 0 rfl) ?_
  refine lv_bipush (v := 8) hx hb dX0_init_21 (by decide) ?_
  refine va_newa (atype := .int) (ty := .int) hx hb (hts _ (List.mem_of_getElem? (i := 3) (by decide +kernel))) rfl hK hP hD hS hA (N' := 8) (a0 := (8, .inl (fun _ => 0))) (fun _ => rfl) (by decide) (by decide) (by decide) (Nat.le_of_ble_eq_true rfl) (Nat.le_of_ble_eq_true rfl) dX0_init_23 (fun q2 c2 H hK hP hD hS => ?_)
  have ec := nm_eq (hK.2 0 (c0, .int) rfl).2 (hK.2 2 (c2, .int) rfl).2
  subst ec
  have hP : va_P D vwCl [(h0, .inr (0, [.ref q0, .ref q1, .null, .null, .null, .null, .null, .int 0, .int 0, .int 0])), (q0, .inl (c0, 8, .inl (fun _ => 0))), (q1, .inl (c0, 8, .inl (fun _ => 0))), (q2, .inl (c0, 8, .inl (fun _ => 0)))] H := hP
  have hD : va_D _ [(h0, .inr (0, [.ref q0, .ref q1, .null, .null, .null, .null, .null, .int 0, .int 0, .int 0])), (q0, .inl (c0, 8, .inl (fun _ => 0))), (q1, .inl (c0, 8, .inl (fun _ => 0))), (q2, .inl (c0, 8, .inl (fun _ => 0)))] := hD
  refine va_putF (D := D) (ci := 0) (v := .ref q2) (ty := .array .int) (C := RX0) (T := TX0) (N := 10) hx hb hts inlX0 tyX0 tyX0_ok nmX0 hC.2.2.2.1 hK hP hD hS 0 rfl rfl 2 (by decide) (hts _ (List.mem_of_getElem? (i := 21) (by decide +kernel))) (fun _ h9 => h9) rfl hin rfl (by decide +kernel) rfl rfl (Nat.le_of_ble_eq_true rfl) dX0_init_25 (fun H locs hP hD hS => ?_)
  have hP : va_P D vwCl [(h0, .inr (0, [.ref q0, .ref q1, .ref q2, .null, .null, .null, .null, .int 0, .int 0, .int 0])), (q0, .inl (c0, 8, .inl (fun _ => 0))), (q1, .inl (c0, 8, .inl (fun _ => 0))), (q2, .inl (c0, 8, .inl (fun _ => 0)))] H := hP
  have hD : va_D _ [(h0, .inr (0, [.ref q0, .ref q1, .ref q2, .null, .null, .null, .null, .int 0, .int 0, .int 0])), (q0, .inl (c0, 8, .inl (fun _ => 0))), (q1, .inl (c0, 8, .inl (fun _ => 0))), (q2, .inl (c0, 8, .inl (fun _ => 0)))] := hD
  refine lv_aload_n hx hb dX0_init_28 rfl (lv_at hl 0 rfl) ?_
  refine lv_bipush (v := 8) hx hb dX0_init_29 (by decide) ?_
  refine va_newa (atype := .int) (ty := .int) hx hb (hts _ (List.mem_of_getElem? (i := 3) (by decide +kernel))) rfl hK hP hD hS hA (N' := 8) (a0 := (8, .inl (fun _ => 0))) (fun _ => rfl) (by decide) (by decide) (by decide) (Nat.le_of_ble_eq_true rfl) (Nat.le_of_ble_eq_true rfl) dX0_init_31 (fun q3 c3 H hK hP hD hS => ?_)
  have ec := nm_eq (hK.2 0 (c0, .int) rfl).2 (hK.2 3 (c3, .int) rfl).2
  subst ec
  have hP : va_P D vwCl [(h0, .inr (0, [.ref q0, .ref q1, .ref q2, .null, .null, .null, .null, .int 0, .int 0, .int 0])), (q0, .inl (c0, 8, .inl (fun _ => 0))), (q1, .inl (c0, 8, .inl (fun _ => 0))), (q2, .inl (c0, 8, .inl (fun _ => 0))), (q3, .inl (c0, 8, .inl (fun _ => 0)))] H := hP
  have hD : va_D _ [(h0, .inr (0, [.ref q0, .ref q1, .ref q2, .null, .null, .null, .null, .int 0, .int 0, .int 0])), (q0, .inl (c0, 8, .inl (fun _ => 0))), (q1, .inl (c0, 8, .inl (fun _ => 0))), (q2, .inl (c0, 8, .inl (fun _ => 0))), (q3, .inl (c0, 8, .inl (fun _ => 0)))] := hD
  refine va_putF (D := D) (ci := 0) (v := .ref q3) (ty := .array .int) (C := RX0) (T := TX0) (N := 10) hx hb hts inlX0 tyX0 tyX0_ok nmX0 hC.2.2.2.1 hK hP hD hS 0 rfl rfl 3 (by decide) (hts _ (List.mem_of_getElem? (i := 22) (by decide +kernel))) (fun _ h9 => h9) rfl hin rfl (by decide +kernel) rfl rfl (Nat.le_of_ble_eq_true rfl) dX0_init_33 (fun H locs hP hD hS => ?_)
  have hP : va_P D vwCl [(h0, .inr (0, [.ref q0, .ref q1, .ref q2, .ref q3, .null, .null, .null, .int 0, .int 0, .int 0])), (q0, .inl (c0, 8, .inl (fun _ => 0))), (q1, .inl (c0, 8, .inl (fun _ => 0))), (q2, .inl (c0, 8, .inl (fun _ => 0))), (q3, .inl (c0, 8, .inl (fun _ => 0)))] H := hP
  have hD : va_D _ [(h0, .inr (0, [.ref q0, .ref q1, .ref q2, .ref q3, .null, .null, .null, .int 0, .int 0, .int 0])), (q0, .inl (c0, 8, .inl (fun _ => 0))), (q1, .inl (c0, 8, .inl (fun _ => 0))), (q2, .inl (c0, 8, .inl (fun _ => 0))), (q3, .inl (c0, 8, .inl (fun _ => 0)))] := hD
  refine lv_aload_n hx hb dX0_init_36 rfl (lv_at hl 0 rfl) ?_
  refine lv_bipush (v := 8) hx hb dX0_init_37 (by decide) ?_
  refine va_newa (atype := .int) (ty := .int) hx hb (hts _ (List.mem_of_getElem? (i := 3) (by decide +kernel))) rfl hK hP hD hS hA (N' := 8) (a0 := (8, .inl (fun _ => 0))) (fun _ => rfl) (by decide) (by decide) (by decide) (Nat.le_of_ble_eq_true rfl) (Nat.le_of_ble_eq_true rfl) dX0_init_39 (fun q4 c4 H hK hP hD hS => ?_)
  have ec := nm_eq (hK.2 0 (c0, .int) rfl).2 (hK.2 4 (c4, .int) rfl).2
  subst ec
  have hP : va_P D vwCl [(h0, .inr (0, [.ref q0, .ref q1, .ref q2, .ref q3, .null, .null, .null, .int 0, .int 0, .int 0])), (q0, .inl (c0, 8, .inl (fun _ => 0))), (q1, .inl (c0, 8, .inl (fun _ => 0))), (q2, .inl (c0, 8, .inl (fun _ => 0))), (q3, .inl (c0, 8, .inl (fun _ => 0))), (q4, .inl (c0, 8, .inl (fun _ => 0)))] H := hP
  have hD : va_D _ [(h0, .inr (0, [.ref q0, .ref q1, .ref q2, .ref q3, .null, .null, .null, .int 0, .int 0, .int 0])), (q0, .inl (c0, 8, .inl (fun _ => 0))), (q1, .inl (c0, 8, .inl (fun _ => 0))), (q2, .inl (c0, 8, .inl (fun _ => 0))), (q3, .inl (c0, 8, .inl (fun _ => 0))), (q4, .inl (c0, 8, .inl (fun _ => 0)))] := hD
  refine va_putF (D := D) (ci := 0) (v := .ref q4) (ty := .array .int) (C := RX0) (T := TX0) (N := 10) hx hb hts inlX0 tyX0 tyX0_ok nmX0 hC.2.2.2.1 hK hP hD hS 0 rfl rfl 4 (by decide) (hts _ (List.mem_of_getElem? (i := 23) (by decide +kernel))) (fun _ h9 => h9) rfl hin rfl (by decide +kernel) rfl rfl (Nat.le_of_ble_eq_true rfl) dX0_init_41 (fun H locs hP hD hS => ?_)
  have hP : va_P D vwCl [(h0, .inr (0, [.ref q0, .ref q1, .ref q2, .ref q3, .ref q4, .null, .null, .int 0, .int 0, .int 0])), (q0, .inl (c0, 8, .inl (fun _ => 0))), (q1, .inl (c0, 8, .inl (fun _ => 0))), (q2, .inl (c0, 8, .inl (fun _ => 0))), (q3, .inl (c0, 8, .inl (fun _ => 0))), (q4, .inl (c0, 8, .inl (fun _ => 0)))] H := hP
  have hD : va_D _ [(h0, .inr (0, [.ref q0, .ref q1, .ref q2, .ref q3, .ref q4, .null, .null, .int 0, .int 0, .int 0])), (q0, .inl (c0, 8, .inl (fun _ => 0))), (q1, .inl (c0, 8, .inl (fun _ => 0))), (q2, .inl (c0, 8, .inl (fun _ => 0))), (q3, .inl (c0, 8, .inl (fun _ => 0))), (q4, .inl (c0, 8, .inl (fun _ => 0)))] := hD
  refine lv_aload_n hx hb dX0_init_44 rfl (lv_at hl 0 rfl) ?_
  refine lv_bipush (v := 6) hx hb dX0_init_45 (by decide) ?_
  refine va_newa (atype := .int) (ty := .int) hx hb (hts _ (List.mem_of_getElem? (i := 3) (by decide +kernel))) rfl hK hP hD hS hA (N' := 6) (a0 := (6, .inl (fun _ => 0))) (fun _ => rfl) (by decide) (by decide) (by decide) (Nat.le_of_ble_eq_true rfl) (Nat.le_of_ble_eq_true rfl) dX0_init_47 (fun q5 c5 H hK hP hD hS => ?_)
  have ec := nm_eq (hK.2 0 (c0, .int) rfl).2 (hK.2 5 (c5, .int) rfl).2
  subst ec
  have hP : va_P D vwCl [(h0, .inr (0, [.ref q0, .ref q1, .ref q2, .ref q3, .ref q4, .null, .null, .int 0, .int 0, .int 0])), (q0, .inl (c0, 8, .inl (fun _ => 0))), (q1, .inl (c0, 8, .inl (fun _ => 0))), (q2, .inl (c0, 8, .inl (fun _ => 0))), (q3, .inl (c0, 8, .inl (fun _ => 0))), (q4, .inl (c0, 8, .inl (fun _ => 0))), (q5, .inl (c0, 6, .inl (fun _ => 0)))] H := hP
  have hD : va_D _ [(h0, .inr (0, [.ref q0, .ref q1, .ref q2, .ref q3, .ref q4, .null, .null, .int 0, .int 0, .int 0])), (q0, .inl (c0, 8, .inl (fun _ => 0))), (q1, .inl (c0, 8, .inl (fun _ => 0))), (q2, .inl (c0, 8, .inl (fun _ => 0))), (q3, .inl (c0, 8, .inl (fun _ => 0))), (q4, .inl (c0, 8, .inl (fun _ => 0))), (q5, .inl (c0, 6, .inl (fun _ => 0)))] := hD
  refine va_putF (D := D) (ci := 0) (v := .ref q5) (ty := .array .int) (C := RX0) (T := TX0) (N := 10) hx hb hts inlX0 tyX0 tyX0_ok nmX0 hC.2.2.2.1 hK hP hD hS 0 rfl rfl 5 (by decide) (hts _ (List.mem_of_getElem? (i := 24) (by decide +kernel))) (fun _ h9 => h9) rfl hin rfl (by decide +kernel) rfl rfl (Nat.le_of_ble_eq_true rfl) dX0_init_49 (fun H locs hP hD hS => ?_)
  have hP : va_P D vwCl [(h0, .inr (0, [.ref q0, .ref q1, .ref q2, .ref q3, .ref q4, .ref q5, .null, .int 0, .int 0, .int 0])), (q0, .inl (c0, 8, .inl (fun _ => 0))), (q1, .inl (c0, 8, .inl (fun _ => 0))), (q2, .inl (c0, 8, .inl (fun _ => 0))), (q3, .inl (c0, 8, .inl (fun _ => 0))), (q4, .inl (c0, 8, .inl (fun _ => 0))), (q5, .inl (c0, 6, .inl (fun _ => 0)))] H := hP
  have hD : va_D _ [(h0, .inr (0, [.ref q0, .ref q1, .ref q2, .ref q3, .ref q4, .ref q5, .null, .int 0, .int 0, .int 0])), (q0, .inl (c0, 8, .inl (fun _ => 0))), (q1, .inl (c0, 8, .inl (fun _ => 0))), (q2, .inl (c0, 8, .inl (fun _ => 0))), (q3, .inl (c0, 8, .inl (fun _ => 0))), (q4, .inl (c0, 8, .inl (fun _ => 0))), (q5, .inl (c0, 6, .inl (fun _ => 0)))] := hD
  refine lv_aload_n hx hb dX0_init_52 rfl (lv_at hl 0 rfl) ?_
  refine lv_bipush (v := 6) hx hb dX0_init_53 (by decide) ?_
  refine lv_bipush (v := 8) hx hb dX0_init_55 (by decide) ?_
  refine va_mna (X := [(h0, .inr (0, [.ref q0, .ref q1, .ref q2, .ref q3, .ref q4, .ref q5, .null, .int 0, .int 0, .int 0])), (q0, .inl (c0, 8, .inl (fun _ => 0))), (q1, .inl (c0, 8, .inl (fun _ => 0))), (q2, .inl (c0, 8, .inl (fun _ => 0))), (q3, .inl (c0, 8, .inl (fun _ => 0))), (q4, .inl (c0, 8, .inl (fun _ => 0))), (q5, .inl (c0, 6, .inl (fun _ => 0)))]) (L := []) (f := fun _ => .inl (c0, 8, .inl (fun _ => 0))) (ty := .int) hx hb hC.2.2.2.1 (hts _ (List.mem_of_getElem? (i := 25) (by decide +kernel))) hAO (hts _ (List.mem_of_getElem? (i := 3) (by decide +kernel))) (cy := c0) (va_nm_int (hK.2 0 (c0, .int) rfl).2) hK (by show va_P D vwCl (_ ++ []) H; rw [List.append_nil]; exact hP) (by show va_D _ (_ ++ []); rw [List.append_nil]; exact hD) hS hA (N' := 6) (K' := 8) (z := (8, .inl (fun _ => 0))) (by decide) (by decide) (by decide) (by decide) (by decide) (by decide) (by decide) (by decide) (by decide) (Nat.le_of_ble_eq_true rfl) (Nat.le_of_ble_eq_true rfl) (fun _ => rfl) dX0_init_57 (fun q6 r cQ H hri hrL hK hP hD hS => ?_)
  rw [pl_const] at hP hD
  have hP : va_P D vwCl [(h0, .inr (0, [.ref q0, .ref q1, .ref q2, .ref q3, .ref q4, .ref q5, .null, .int 0, .int 0, .int 0])), (q0, .inl (c0, 8, .inl (fun _ => 0))), (q1, .inl (c0, 8, .inl (fun _ => 0))), (q2, .inl (c0, 8, .inl (fun _ => 0))), (q3, .inl (c0, 8, .inl (fun _ => 0))), (q4, .inl (c0, 8, .inl (fun _ => 0))), (q5, .inl (c0, 6, .inl (fun _ => 0))), (q6, .inl (cQ, 6, .inr (.inr (.inr (.inr (fun i => if i < 6 then some (r i) else none)))))), (r 0, .inl (c0, 8, .inl (fun _ => 0))), (r 1, .inl (c0, 8, .inl (fun _ => 0))), (r 2, .inl (c0, 8, .inl (fun _ => 0))), (r 3, .inl (c0, 8, .inl (fun _ => 0))), (r 4, .inl (c0, 8, .inl (fun _ => 0))), (r 5, .inl (c0, 8, .inl (fun _ => 0)))] H := hP
  have hD : va_D _ [(h0, .inr (0, [.ref q0, .ref q1, .ref q2, .ref q3, .ref q4, .ref q5, .null, .int 0, .int 0, .int 0])), (q0, .inl (c0, 8, .inl (fun _ => 0))), (q1, .inl (c0, 8, .inl (fun _ => 0))), (q2, .inl (c0, 8, .inl (fun _ => 0))), (q3, .inl (c0, 8, .inl (fun _ => 0))), (q4, .inl (c0, 8, .inl (fun _ => 0))), (q5, .inl (c0, 6, .inl (fun _ => 0))), (q6, .inl (cQ, 6, .inr (.inr (.inr (.inr (fun i => if i < 6 then some (r i) else none)))))), (r 0, .inl (c0, 8, .inl (fun _ => 0))), (r 1, .inl (c0, 8, .inl (fun _ => 0))), (r 2, .inl (c0, 8, .inl (fun _ => 0))), (r 3, .inl (c0, 8, .inl (fun _ => 0))), (r 4, .inl (c0, 8, .inl (fun _ => 0))), (r 5, .inl (c0, 8, .inl (fun _ => 0)))] := hD
  refine va_putF (D := D) (ci := 0) (v := .ref q6) (ty := .array (.array .int)) (C := RX0) (T := TX0) (N := 10) hx hb hts inlX0 tyX0 tyX0_ok nmX0 hC.2.2.2.1 hK hP hD hS 0 rfl rfl 6 (by decide) (hts _ (List.mem_of_getElem? (i := 26) (by decide +kernel))) (fun _ h9 => h9) rfl hin rfl (by decide +kernel) rfl rfl (Nat.le_of_ble_eq_true rfl) dX0_init_61 (fun H locs hP hD hS => ?_)
  have hP : va_P D vwCl [(h0, .inr (0, [.ref q0, .ref q1, .ref q2, .ref q3, .ref q4, .ref q5, .ref q6, .int 0, .int 0, .int 0])), (q0, .inl (c0, 8, .inl (fun _ => 0))), (q1, .inl (c0, 8, .inl (fun _ => 0))), (q2, .inl (c0, 8, .inl (fun _ => 0))), (q3, .inl (c0, 8, .inl (fun _ => 0))), (q4, .inl (c0, 8, .inl (fun _ => 0))), (q5, .inl (c0, 6, .inl (fun _ => 0))), (q6, .inl (cQ, 6, .inr (.inr (.inr (.inr (fun i => if i < 6 then some (r i) else none)))))), (r 0, .inl (c0, 8, .inl (fun _ => 0))), (r 1, .inl (c0, 8, .inl (fun _ => 0))), (r 2, .inl (c0, 8, .inl (fun _ => 0))), (r 3, .inl (c0, 8, .inl (fun _ => 0))), (r 4, .inl (c0, 8, .inl (fun _ => 0))), (r 5, .inl (c0, 8, .inl (fun _ => 0)))] H := hP
  have hD : va_D _ [(h0, .inr (0, [.ref q0, .ref q1, .ref q2, .ref q3, .ref q4, .ref q5, .ref q6, .int 0, .int 0, .int 0])), (q0, .inl (c0, 8, .inl (fun _ => 0))), (q1, .inl (c0, 8, .inl (fun _ => 0))), (q2, .inl (c0, 8, .inl (fun _ => 0))), (q3, .inl (c0, 8, .inl (fun _ => 0))), (q4, .inl (c0, 8, .inl (fun _ => 0))), (q5, .inl (c0, 6, .inl (fun _ => 0))), (q6, .inl (cQ, 6, .inr (.inr (.inr (.inr (fun i => if i < 6 then some (r i) else none)))))), (r 0, .inl (c0, 8, .inl (fun _ => 0))), (r 1, .inl (c0, 8, .inl (fun _ => 0))), (r 2, .inl (c0, 8, .inl (fun _ => 0))), (r 3, .inl (c0, 8, .inl (fun _ => 0))), (r 4, .inl (c0, 8, .inl (fun _ => 0))), (r 5, .inl (c0, 8, .inl (fun _ => 0)))] := hD
  rw [← aof_r (q0 := q0) (q1 := q1) (q2 := q2) (q3 := q3) (q4 := q4) (q5 := q5) (q6 := q6) (h0 := h0)] at hP hD
  have hW := BW_of (a := aof q0 q1 q2 q3 q4 q5 q6 h0 r) (cI := c0) (cQ := cQ) (S := fun _ _ => 0) (hK.sub [0, 6] rfl) hP hD
  refine W.widen (k := 13) (n := 100) (Nat.le_of_ble_eq_true rfl) (Nat.le_of_ble_eq_true rfl) ?_
  exact W.vret hx hb hr (fun t ht hW1 => ⟨rfl, ⟨c0, cQ, aof q0 q1 q2 q3 q4 q5 q6 h0 r, rfl, fun k hk => (hW.2 k (by omega)).elim (fun z => absurd (hW.1.2.2 k 13 (by omega) (by omega) z) (by omega)) (fun z => z), by rw [ht]; exact hW.1.moved hW1.alike⟩, hS.F ht⟩) hS.2.2 dX0_init_64 hlocks

theorem bl_X0 {D : va_G} {h0 sz : Nat} : FrameBlind (va_Pc [.ref h0] (iP_X0 D h0 sz)) := fun a U g mk h => ⟨h.1, h.2.1, va_K.moved (u := U) (U := U.calling g mk a) (Vm.Alike.refl U.vm) h.2.2.1, AOA_warm (s := U) (U := U.calling g mk a) (Vm.Alike.refl U.vm) h.2.2.2.1, h.2.2.2.2⟩
section BI9
variable {p : Program} {l : Launch} {e : Env} {R : Room} {s : State} {m : MethodId} {args : Array Value} {below : List Frame} {meth : Method} {c : Code} {H : Heap} {locs : List Loc} {cells slots : Nat} {Q : State → Prop}
variable {cc : ByteArray} {pc nL n index : Nat} {ls : Array Slot} {rest st0 : List Value} {A : Nat → Prop} {rm : Room} {own : String} {y : MethodName} {bytes : ByteArray} {h0 mc ms : Nat}
theorem kI {iP : State → Prop} {Qc : Array Value → State → Outcome → State → Prop} (hC : CallFix p m c cc nL s args wsL_law own) (hM : Met l y (wq y bytes n none) rm (va_Pc [.ref h0] iP) Qc mc ms A) (hbl : FrameBlind (va_Pc [.ref h0] iP)) (hp : ∀ U : State, U.heap = H → s.WarmedH U.vm → iP U) (hy : y.name = "<init>") (hm0 : Cond.code y bytes n none ∈ wsL_law) (hm1 : Cond.methodLink own index y ∈ wsL_law) (hm2 : Cond.instanceMethod y ∈ wsL_law) (hm3 : Cond.initialized y.cls ∈ wsL_law) (hrc : rm.cells = mc) (hrs : rm.slots = ms)
    (hd : y.cls ≠ "java/lang/invoke/MethodHandle" ∧ y.cls ≠ "java/lang/invoke/VarHandle" ∧ (parseMethodDescriptor y.desc).map (fun d => d.parameters.length) = some 0) (hR : rm.frames + 1 ≤ R.frames ∧ 8 + (n + 11) + rm.locals ≤ R.locals) (hf : cells + mc ≤ R.cells ∧ slots + ms ≤ R.slots) (hls : ls.size = nL) (hr8 : (rest.map fun v => v.category).sum ≤ 8) (hdg : decode cc pc = .ok (.invokespecial index, 3))
    (kk : ∀ (v : Option Value) (st t : State) (L : List Loc), st.heap = H → s.vm.Alike t.vm → Qc (List.toArray [.ref h0]) st (.returned v) t → (∀ z ∈ L, A z.base) → W p l e R s m args below meth c t.heap (locs ++ L) (cells + mc) (slots + ms) Q (F0 m (pc + 3) ls (v.toList ++ rest))) : W p l e R s m args below meth c H locs cells slots Q (F0 m pc ls (.ref h0 :: rest)) := by
  have hG : GoodIn wsL_law (wq y bytes n none) := good_in (fun w hw => (List.mem_cons.mp hw).elim (fun e => by rw [e]; exact hm0) (fun h => h))
  have hr := va_runI (e := e) (H := H) (As := []) (rest := rest) (locs := locs) (cells := cells) (slots := slots) (below := below) (meth := meth) hC hM (cwI 0 hC.2.2.2.2 hG rfl hrc hrs (hC.2.2.2.2 _ hm3) (hC.2.2.2.2 _ hm1) (hC.2.2.2.2 _ hm2) hy hd hR) ⟨hbl, fun U hU hW1 => ⟨rfl, hp U hU hW1⟩⟩ (g := F0 m pc ls (.ref h0 :: rest)) rfl rfl hls rfl (lv_room hr8) hdg hf
  intro T hT X
  obtain ⟨v, st₀, t, T', L, h1, X', hL, e1, e2, hq, st⟩ := hr T hT X
  obtain ⟨t2, a1, b1⟩ := kk v st₀ t L h1 (by rw [← e2]; exact X'.warmed.alike) hq hL T' e1 X'
  exact ⟨t2, st t2 a1, b1⟩
end BI9
theorem at3 {D : va_G} {cl : List vw_C} {p q r : Nat × va_E} {H : Heap} (h1 : va_at D cl p H) (h2 : va_at D cl q H) (h3 : va_at D cl r H) : va_P D cl [p, q, r] H := fun k x hk => by
  match k, hk with
  | 0, hk => cases hk; exact h1
  | 1, hk => cases hk; exact h2
  | 2, hk => cases hk; exact h3
  | k + 3, hk => simp at hk
theorem D3 {A : Nat → Prop} {a b c : Nat} {e f g : va_E} (h1 : A a) (h2 : A b) (h3 : A c) (n1 : a ≠ b) (n2 : a ≠ c) (n3 : b ≠ c) : va_D A [(a, e), (b, f), (c, g)] := by
  refine ⟨fun i j p q hi hj hpq => ?_, fun k q hk => ?_⟩
  · match i, hi, j, hj with
    | 0, hi, 0, hj => rfl
    | 0, hi, 1, hj => cases hi; cases hj; exact absurd hpq n1
    | 0, hi, 2, hj => cases hi; cases hj; exact absurd hpq n2
    | 1, hi, 0, hj => cases hi; cases hj; exact absurd hpq n1.symm
    | 1, hi, 1, hj => rfl
    | 1, hi, 2, hj => cases hi; cases hj; exact absurd hpq n3
    | 2, hi, 0, hj => cases hi; cases hj; exact absurd hpq n2.symm
    | 2, hi, 1, hj => cases hi; cases hj; exact absurd hpq n3.symm
    | 2, hi, 2, hj => rfl
    | i + 3, hi, _, _ => simp at hi
    | 0, _, j + 3, hj => simp at hj
    | 1, _, j + 3, hj => simp at hj
    | 2, _, j + 3, hj => simp at hj
  · match k, hk with
    | 0, hk => cases hk; exact h1
    | 1, hk => cases hk; exact h2
    | 2, hk => cases hk; exact h3
    | k + 3, hk => simp at hk
def bof (h0 q1 q2 q3 : Nat) (r : Nat → Nat) : Nat → Nat
  | 0 => h0
  | 1 => q1
  | 2 => q2
  | 3 => q3
  | k + 4 => r k
def iP_X1 (D : va_G) (cI cQ : ClassId) (h0 sz : Nat) (U : State) : Prop := U.heap.size = sz ∧ va_K D vwCl (tyB cI cQ) U ∧ va_AOA .int U ∧ va_at D vwCl (h0, .inr (1, [.int 0, .null, .null, .null])) U.heap
def iQ_X1 (D : va_G) (cI cQ : ClassId) (h0 sz : Nat) : Array Value → State → Outcome → State → Prop := fun _ st oc t => oc = .returned none ∧ (∃ b : Nat → Nat, b 0 = h0 ∧ (∀ k : Nat, 0 < k → k < 10 → sz ≤ b k) ∧ SW D cI cQ b (fun _ _ => 0) 0 0 t t.heap) ∧ va_F (fun q => q = h0 ∨ sz ≤ q) st t
theorem bl_X1 {D : va_G} {cI cQ : ClassId} {h0 sz : Nat} : FrameBlind (va_Pc [.ref h0] (iP_X1 D cI cQ h0 sz)) := fun a U g mk h => ⟨h.1, h.2.1, va_K.moved (u := U) (U := U.calling g mk a) (Vm.Alike.refl U.vm) h.2.2.1, AOA_mv (s := U) (U := U.calling g mk a) (Vm.Alike.refl U.vm) h.2.2.2.1, h.2.2.2.2⟩
set_option maxHeartbeats 4000000 in
set_option maxRecDepth 100000 in
theorem i_X1 (l : Launch) (D : va_G) (cI cQ : ClassId) (h0 sz : Nat) : Met l yX1_init (wq yX1_init cX1_init 1 none) ({ frames := 1, cells := 9, slots := 54, locals := 32 } : Room) (va_Pc [.ref h0] (iP_X1 D cI cQ h0 sz)) (iQ_X1 D cI cQ h0 sz) 9 54 (fun q => q = h0 ∨ sz ≤ q) := by
  refine Met.ofW (cc := cX1_init) (maxL := 1) (ret := none) (by decide) rfl ?_
  intro p e s m args below meth c s₁ B hml hv
  obtain ⟨rfl, hsz, hK, hAO, hP⟩ := hv
  subst hsz
  have hC : CallFix p m c cX1_init 1 s (List.toArray [.ref h0]) wsL_law RX1 := ⟨B.exec, B.bytes, hml, findClass_of_methodNamed B.named, fun w h => atoms_spec (ws := wq yX1_init cX1_init 1 none) B.pre w (List.mem_cons_of_mem _ h)⟩
  have hr := B.returns
  have hlocks := B.notSynchronized
  have hx := hC.1
  have hb := hC.2.1
  have hts := hC.2.2.2.2
  have hA : ∀ q : Nat, s.heap.size ≤ q → (fun q => q = h0 ∨ s.heap.size ≤ q) q := fun q h => Or.inr h
  have hS : va_S (fun q => q = h0 ∨ s.heap.size ≤ q) s.heap s.heap [] := va_S.rf
  have hlt : h0 < s.heap.size := va_at.lt hP
  have hl := lv_entry ([.ref h0]) (n := 1) (Nat.le_of_ble_eq_true rfl)
  rw [lg_entry_eq]
  generalize (lg_sl ([.ref h0]) ++ List.replicate (1 - (lg_sl ([.ref h0])).length) Slot.unset).toArray = ls at hl ⊢
  have hl : lv_has ls 1 [(0, .ref h0)] := hl
  refine lv_aload_n hx hb dX1_init_0 rfl (lv_at hl 0 rfl) ?_
  refine W.objInit hx hb hC.2.2.2.1 (hts _ (List.mem_of_getElem? (i := 36) (by decide +kernel))) (hts _ (List.mem_of_getElem? (i := 17) (by decide +kernel))) (hts _ (List.mem_of_getElem? (i := 18) (by decide +kernel))) rfl (by rw [hml]; exact hl.1) rfl dX1_init_1 (Nat.le_of_ble_eq_true rfl) (Nat.le_of_ble_eq_true rfl) ?_
  refine W.eq (g2 := F0 m 4 ls []) rfl ?_
  refine lv_aload_n hx hb dX1_init_4 rfl (lv_at hl 0 rfl) ?_
  refine lv_iconst (v := 0) hx hb dX1_init_5 (by decide) ?_
  refine nqG 0 hC hK hAO (List.mem_of_getElem? (i := 37) (by decide +kernel)) rfl (by omega) hS (Nat.le_of_ble_eq_true rfl) (Nat.le_of_ble_eq_true rfl) dX1_init_6 (fun H1 g1 hS z1 f1 => ?_)
  have go : GW D cI cQ 1 (fun _ => h0) (fun _ => .inr (1, [.int 0, .null, .null, .null])) s H1 := (GW.one hK hP).kept (fun _ _ => f1 _ hlt)
  refine ptG (b := fun _ => h0) (k := 0) (g := 1) (w := .ref s.heap.size) (ty := .array (.array .int)) hC go (by decide) rfl hS (Or.inl rfl) (by decide) (List.mem_of_getElem? (i := 38) (by decide +kernel)) rfl (fun _ h9 => h9) (by decide +kernel) rfl rfl (Nat.le_of_ble_eq_true rfl) dX1_init_9 (fun H2 locs2 go hS z2 f2 => ?_)
  have go : GW D cI cQ 1 (fun _ => h0) (fun _ => .inr (1, [.int 0, .ref s.heap.size, .null, .null])) s H2 := go.cg (fun k hk => by rw [show k = 0 by omega, eU_self]; rfl)
  have g1 := g1.kept (H1 := H2) (fun _ _ => f2 _ (Nat.ne_of_gt hlt))
  refine lv_aload_n hx hb dX1_init_12 rfl (lv_at hl 0 rfl) ?_
  refine lv_iconst (v := 0) hx hb dX1_init_13 (by decide) ?_
  refine nwG 0 hC hK rfl (by omega) hS (Nat.le_of_ble_eq_true rfl) (Nat.le_of_ble_eq_true rfl) dX1_init_14 (fun H3 g2 hS z3 f3 => ?_)
  have e2 : H2.size = s.heap.size + 1 := z2.trans z1
  have go := go.kept (H1 := H3) (fun _ _ => f3 _ (by omega))
  have g1 := g1.kept (H1 := H3) (fun _ _ => f3 _ (by omega))
  refine ptG (b := fun _ => h0) (k := 0) (g := 2) (w := .ref H2.size) (ty := .array .int) hC go (by decide) rfl hS (Or.inl rfl) (by decide) (List.mem_of_getElem? (i := 39) (by decide +kernel)) rfl (fun _ h9 => h9) (by decide +kernel) rfl rfl (Nat.le_of_ble_eq_true rfl) dX1_init_16 (fun H4 locs4 go hS z4 f4 => ?_)
  have go : GW D cI cQ 1 (fun _ => h0) (fun _ => .inr (1, [.int 0, .ref s.heap.size, .ref H2.size, .null])) s H4 := go.cg (fun k hk => by rw [show k = 0 by omega, eU_self]; rfl)
  have g1 := g1.kept (H1 := H4) (fun _ _ => f4 _ (Nat.ne_of_gt hlt))
  have g2 := g2.kept (H1 := H4) (fun _ _ => f4 _ (show H2.size ≠ h0 by omega))
  have hP := at3 (go.2.1 0 (by decide)) (g1.2.1 0 (by decide)) (g2.2.1 0 (by decide))
  have hD := D3 (A := fun q => q = h0 ∨ s.heap.size ≤ q) (e := .inr (1, [.int 0, .ref s.heap.size, .ref H2.size, .null])) (f := eQ cQ 0 (fun _ => none)) (g := eI cI 0 (fun _ => 0)) (Or.inl rfl) (Or.inr (Nat.le_refl s.heap.size)) (Or.inr (show s.heap.size ≤ H2.size by omega)) (Nat.ne_of_lt hlt) (show h0 ≠ H2.size by omega) (show s.heap.size ≠ H2.size by omega)
  refine lv_aload_n hx hb dX1_init_19 rfl (lv_at hl 0 rfl) ?_
  refine lv_bipush (v := 6) hx hb dX1_init_20 (by decide) ?_
  refine lv_bipush (v := 8) hx hb dX1_init_22 (by decide) ?_
  refine va_mna (X := [(h0, .inr (1, [.int 0, .ref s.heap.size, .ref H2.size, .null])), (s.heap.size, eQ cQ 0 (fun _ => none)), (H2.size, eI cI 0 (fun _ => 0))]) (L := []) (f := fun _ => .inl (cI, 8, .inl (fun _ => 0))) (ty := .int) hx hb hC.2.2.2.1 (hts _ (List.mem_of_getElem? (i := 40) (by decide +kernel))) hAO (hts _ (List.mem_of_getElem? (i := 3) (by decide +kernel))) (cy := cI) (va_nm_int (hK.2 0 (cI, .int) rfl).2) hK (by show va_P D vwCl (_ ++ []) H4; rw [List.append_nil]; exact hP) (by show va_D _ (_ ++ []); rw [List.append_nil]; exact hD) hS hA (N' := 6) (K' := 8) (z := (8, .inl (fun _ => 0))) (by decide) (by decide) (by decide) (by decide) (by decide) (by decide) (by decide) (by decide) (by decide) (Nat.le_of_ble_eq_true rfl) (Nat.le_of_ble_eq_true rfl) (fun _ => rfl) dX1_init_24 (fun q6 r cA H5 hri hrL hK5 hP hD hS => ?_)
  rw [pl_const] at hP hD
  have ec : cQ = cA := Option.some.inj ((hK.2 1 (cQ, .array .int) rfl).2.symm.trans (hK5.2 2 (cA, .array .int) rfl).2)
  subst ec
  have hP : va_P D vwCl [(h0, .inr (1, [.int 0, .ref s.heap.size, .ref H2.size, .null])), (s.heap.size, eQ cQ 0 (fun _ => none)), (H2.size, eI cI 0 (fun _ => 0)), (q6, eQ cQ 6 (fun i => if i < 6 then some (r i) else none)), (r 0, eI cI 8 (fun _ => 0)), (r 1, eI cI 8 (fun _ => 0)), (r 2, eI cI 8 (fun _ => 0)), (r 3, eI cI 8 (fun _ => 0)), (r 4, eI cI 8 (fun _ => 0)), (r 5, eI cI 8 (fun _ => 0))] H5 := hP
  have hD : va_D (fun q => q = h0 ∨ s.heap.size ≤ q) [(h0, .inr (1, [.int 0, .ref s.heap.size, .ref H2.size, .null])), (s.heap.size, eQ cQ 0 (fun _ => none)), (H2.size, eI cI 0 (fun _ => 0)), (q6, eQ cQ 6 (fun i => if i < 6 then some (r i) else none)), (r 0, eI cI 8 (fun _ => 0)), (r 1, eI cI 8 (fun _ => 0)), (r 2, eI cI 8 (fun _ => 0)), (r 3, eI cI 8 (fun _ => 0)), (r 4, eI cI 8 (fun _ => 0)), (r 5, eI cI 8 (fun _ => 0))] := hD
  have go : GW D cI cQ 1 (fun _ => h0) (fun _ => .inr (1, [.int 0, .ref s.heap.size, .ref H2.size, .null])) s H5 := GW.one hK (hP 0 _ rfl)
  refine ptG (b := fun _ => h0) (k := 0) (g := 3) (w := .ref q6) (ty := .array (.array .int)) hC go (by decide) rfl hS (Or.inl rfl) (by decide) (List.mem_of_getElem? (i := 41) (by decide +kernel)) rfl (fun _ h9 => h9) (by decide +kernel) rfl rfl (Nat.le_of_ble_eq_true rfl) dX1_init_28 (fun H6 locs6 go hS z6 f6 => ?_)
  have kp : ∀ (k : Nat) (q : Nat × va_E), 0 < k → [(h0, (.inr (1, [.int 0, .ref s.heap.size, .ref H2.size, .null]) : va_E)), (s.heap.size, eQ cQ 0 (fun _ => none)), (H2.size, eI cI 0 (fun _ => 0)), (q6, eQ cQ 6 (fun i => if i < 6 then some (r i) else none)), (r 0, eI cI 8 (fun _ => 0)), (r 1, eI cI 8 (fun _ => 0)), (r 2, eI cI 8 (fun _ => 0)), (r 3, eI cI 8 (fun _ => 0)), (r 4, eI cI 8 (fun _ => 0)), (r 5, eI cI 8 (fun _ => 0))][k]? = some q → va_at D vwCl q H6 := fun k q h0k hk => va_at.kept (hP k q hk) (f6 _ (fun z => by have := hD.1 k 0 _ _ hk rfl z; omega))
  have hat : ∀ k : Nat, k < 10 → va_at D vwCl (bof h0 s.heap.size H2.size q6 r k, sE cI cQ (bof h0 s.heap.size H2.size q6 r) (fun _ _ => 0) 0 0 k) H6 := by
    intro k hk
    match k, hk with
    | 0, _ =>
      have h5 := go.2.1 0 (by decide)
      rw [eU_self] at h5
      exact h5
    | 1, _ => 
      have h5 := kp 1 _ (by omega) rfl
      have e9 : (eQ cQ 0 (fun _ => none) : va_E) = sE cI cQ (bof h0 s.heap.size H2.size q6 r) (fun _ _ => 0) 0 0 1 := congrArg (eQ cQ 0) (funext fun i => (if_neg (Nat.not_lt_zero i)).symm)
      rw [← e9]
      exact h5
    | 2, _ => exact kp 2 _ (by omega) rfl
    | 3, _ =>
      have h5 := kp 3 _ (by omega) rfl
      have e9 : (eQ cQ 6 (fun i => if i < 6 then some (r i) else none) : va_E) = sE cI cQ (bof h0 s.heap.size H2.size q6 r) (fun _ _ => 0) 0 0 3 := congrArg (eQ cQ 6) (funext fun i => by rw [Nat.add_comm 4 i]; rfl)
      rw [← e9]
      exact h5
    | 4, _ => exact kp 4 _ (by omega) rfl
    | 5, _ => exact kp 5 _ (by omega) rfl
    | 6, _ => exact kp 6 _ (by omega) rfl
    | 7, _ => exact kp 7 _ (by omega) rfl
    | 8, _ => exact kp 8 _ (by omega) rfl
    | 9, _ => exact kp 9 _ (by omega) rfl
    | k + 10, hk => exact absurd hk (by omega)
  have hpos : ∀ k : Nat, k < 10 → ∃ e : va_E, [(h0, (.inr (1, [.int 0, .ref s.heap.size, .ref H2.size, .null]) : va_E)), (s.heap.size, eQ cQ 0 (fun _ => none)), (H2.size, eI cI 0 (fun _ => 0)), (q6, eQ cQ 6 (fun i => if i < 6 then some (r i) else none)), (r 0, eI cI 8 (fun _ => 0)), (r 1, eI cI 8 (fun _ => 0)), (r 2, eI cI 8 (fun _ => 0)), (r 3, eI cI 8 (fun _ => 0)), (r 4, eI cI 8 (fun _ => 0)), (r 5, eI cI 8 (fun _ => 0))][k]? = some (bof h0 s.heap.size H2.size q6 r k, e) := by
    intro k hk
    match k, hk with
    | 0, _ => exact ⟨_, rfl⟩
    | 1, _ => exact ⟨_, rfl⟩
    | 2, _ => exact ⟨_, rfl⟩
    | 3, _ => exact ⟨_, rfl⟩
    | 4, _ => exact ⟨_, rfl⟩
    | 5, _ => exact ⟨_, rfl⟩
    | 6, _ => exact ⟨_, rfl⟩
    | 7, _ => exact ⟨_, rfl⟩
    | 8, _ => exact ⟨_, rfl⟩
    | 9, _ => exact ⟨_, rfl⟩
    | k + 10, hk => exact absurd hk (by omega)
  have hinj : ∀ i j : Nat, i < 10 + 0 → j < 10 + 0 → bof h0 s.heap.size H2.size q6 r i = bof h0 s.heap.size H2.size q6 r j → i = j := by
    intro i j hi hj hij
    obtain ⟨e1, h1⟩ := hpos i (by omega)
    obtain ⟨e2, h2⟩ := hpos j (by omega)
    exact hD.1 _ _ _ _ h1 h2 hij
  have hge : ∀ k : Nat, 0 < k → k < 10 → s.heap.size ≤ bof h0 s.heap.size H2.size q6 r k := by
    intro k h0k hk
    obtain ⟨e1, h1⟩ := hpos k hk
    rcases hD.2 _ _ h1 with z | z
    · have := hD.1 k 0 _ _ h1 rfl z
      omega
    · exact z
  refine W.widen (k := 9) (n := 54) (Nat.le_of_ble_eq_true rfl) (Nat.le_of_ble_eq_true rfl) ?_
  exact W.vret hx hb hr (fun t ht hW1 => ⟨rfl, ⟨bof h0 s.heap.size H2.size q6 r, rfl, hge, ⟨⟨va_K.moved hW1.alike hK, by rw [ht]; exact hat, hinj⟩, AOA_mv hW1.alike hAO⟩⟩, hS.F ht⟩) hS.2.2 dX1_init_31 hlocks
end
section
/-! ===== pure: what serves both claims ===== -/
theorem sma_congr {a a' : Int32} {f g : Nat → Int32} (ha : a = a') : ∀ n : Nat, (∀ i, i < n → f i = g i) → sma a f n = sma a' g n
  | 0, _ => ha
  | n + 1, h => by
    show sma a f n + f n = sma a' g n + g n
    rw [sma_congr ha n (fun i hi => h i (by omega)), h n (by omega)]
theorem amx_congr {f g : Nat → Int32} : ∀ n : Nat, (∀ i, i < n → f i = g i) → amx f n = amx g n
  | 0, _ => rfl
  | n + 1, h => by
    have ih := amx_congr (f := f) (g := g) n (fun i hi => h i (by omega))
    cases e : amx g n with
    | none => rw [amx_none e, amx_none (ih.trans e)]
    | some b =>
      have hb := amx_lt n e
      by_cases c : g n ≤ g b
      · rw [amx_keep e c, amx_keep (ih.trans e) (by rw [h n (by omega), h b (by omega)]; exact c)]
      · rw [amx_new e c, amx_new (ih.trans e) (by rw [h n (by omega), h b (by omega)]; exact c)]
theorem mod_same {x u v p : Nat} (h : (x + u) % p = (x + v) % p) (huv : u ≤ v) (hp : v - u < p) : u = v := by
  have h1 := Nat.sub_mod_eq_zero_of_mod_eq h.symm
  rw [show x + v - (x + u) = v - u by omega, Nat.mod_eq_of_lt hp] at h1
  omega
theorem rmi_nI {a d : Nat} (ha : a < 2 ^ 31) (h0 : 0 < d) (hd : d < 2 ^ 31) : rmi (nI a) (nI d) = nI (a % d) := pk_rem ha h0 hd
theorem tI_add {a b : Int32} (h1 : -2147483648 ≤ a.toInt + b.toInt) (h2 : a.toInt + b.toInt < 2147483648) : (a + b).toInt = a.toInt + b.toInt := by
  rw [Int32.toInt_add]
  exact Int.bmod_eq_of_le (by omega) (by omega)
theorem tI_sub {a b : Int32} (h1 : -2147483648 ≤ a.toInt - b.toInt) (h2 : a.toInt - b.toInt < 2147483648) : (a - b).toInt = a.toInt - b.toInt := by
  rw [Int32.toInt_sub]
  exact Int.bmod_eq_of_le (by omega) (by omega)
theorem tI_mul {a b : Int32} (h1 : -2147483648 ≤ a.toInt * b.toInt) (h2 : a.toInt * b.toInt < 2147483648) : (a * b).toInt = a.toInt * b.toInt := by
  rw [Int32.toInt_mul]
  exact Int.bmod_eq_of_le (by omega) (by omega)
theorem tI_neg {a : Int32} (h1 : -2147483648 < a.toInt) : (-a).toInt = -a.toInt := by
  have h2 := a.toInt_lt
  have h3 := a.le_toInt
  rw [Int32.toInt_neg]
  exact Int.bmod_eq_of_le (by omega) (by omega)
theorem mx_toInt (y : Int32) : (mx 0 y).toInt = if 0 < y.toInt then y.toInt else 0 := by
  unfold mx
  by_cases h : (0 : Int32) < y
  · rw [if_pos h]
    have h1 := Int32.lt_iff_toInt_lt.mp h
    rw [Int32.toInt_zero] at h1
    rw [if_pos h1]
  · rw [if_neg h]
    have h1 : ¬ (0 : Int32).toInt < y.toInt := fun q => h (Int32.lt_iff_toInt_lt.mpr q)
    rw [Int32.toInt_zero] at h1
    rw [if_neg h1, Int32.toInt_zero]
theorem mul_bd {x y : Int} {a b : Nat} (h1 : -(a : Int) ≤ x) (h2 : x ≤ a) (h3 : -(b : Int) ≤ y) (h4 : y ≤ b) : -((a * b : Nat) : Int) ≤ x * y ∧ x * y ≤ ((a * b : Nat) : Int) := by
  have h5 : x.natAbs ≤ a := by omega
  have h6 : y.natAbs ≤ b := by omega
  have h7 : (x * y).natAbs ≤ a * b := by rw [Int.natAbs_mul]; exact Nat.mul_le_mul h5 h6
  omega
theorem sma_bd {f : Nat → Int32} {a : Int32} {A c : Nat} (ha : -(A : Int) ≤ a.toInt ∧ a.toInt ≤ A) : ∀ n : Nat, (∀ i, i < n → -(c : Int) ≤ (f i).toInt ∧ (f i).toInt ≤ c) → A + c * n < 2147483647 → -((A + c * n : Nat) : Int) ≤ (sma a f n).toInt ∧ (sma a f n).toInt ≤ ((A + c * n : Nat) : Int)
  | 0, _, _ => by
    show -((A + c * 0 : Nat) : Int) ≤ a.toInt ∧ a.toInt ≤ _
    rw [Nat.mul_zero]
    exact ha
  | n + 1, h, hb => by
    have e : c * (n + 1) = c * n + c := Nat.mul_succ c n
    have ih := sma_bd ha n (fun i hi => h i (by omega)) (by omega)
    have h1 := h n (by omega)
    show -((A + c * (n + 1) : Nat) : Int) ≤ (sma a f n + f n).toInt ∧ (sma a f n + f n).toInt ≤ _
    rw [tI_add (by omega) (by omega)]
    omega
theorem sma_sma {a : Int32} {f g : Nat → Int32} : ∀ n : Nat, sma (sma a f n) g n = sma a (fun i => f i + g i) n := by
  have key : ∀ (n : Nat) (x y : Int32), sma (x + y) g n = sma x g n + y := by
    intro n
    induction n with
    | zero => intro x y; rfl
    | succ n ih =>
      intro x y
      show sma (x + y) g n + g n = sma x g n + g n + y
      rw [ih]
      grind
  intro n
  induction n with
  | zero => rfl
  | succ n ih =>
    show sma (sma a f n + f n) g n + g n = sma a (fun i => f i + g i) n + (f n + g n)
    rw [key, ih]
    grind
theorem sma_out {a : Int32} {g : Nat → Int32} : ∀ n : Nat, sma a g n = a + sma 0 g n
  | 0 => (Int32.add_zero a).symm
  | n + 1 => by
    show sma a g n + g n = a + (sma 0 g n + g n)
    rw [sma_out n, Int32.add_assoc]
theorem sma_zero {a : Int32} {g : Nat → Int32} : ∀ n : Nat, (∀ i, i < n → g i = 0) → sma a g n = a
  | 0, _ => rfl
  | n + 1, h => by
    show sma a g n + g n = a
    rw [sma_zero n (fun i hi => h i (by omega)), h n (by omega), Int32.add_zero]
theorem sma_nn {f : Nat → Int32} {c : Nat} : ∀ n : Nat, (∀ i, i < n → 0 ≤ (f i).toInt ∧ (f i).toInt ≤ c) → c * n < 2147483647 → 0 ≤ (sma 0 f n).toInt ∧ (sma 0 f n).toInt ≤ ((c * n : Nat) : Int)
  | 0, _, _ => by
    show 0 ≤ (0 : Int32).toInt ∧ (0 : Int32).toInt ≤ _
    rw [Int32.toInt_zero]
    omega
  | n + 1, h, hb => by
    have e : c * (n + 1) = c * n + c := Nat.mul_succ c n
    have ih := sma_nn n (fun i hi => h i (by omega)) (by omega)
    have h1 := h n (by omega)
    show 0 ≤ (sma 0 f n + f n).toInt ∧ (sma 0 f n + f n).toInt ≤ _
    rw [tI_add (by omega) (by omega)]
    omega
theorem dv_term {x : Int32} (h1 : -9 ≤ x.toInt) (h2 : x.toInt ≤ 9) : 0 ≤ (mx 0 (-x)).toInt ∧ (mx 0 (-x)).toInt ≤ (9 : Nat) := by
  rw [mx_toInt, tI_neg (by omega)]
  split <;> omega
theorem pr_bd {x w : Nat} {dv : Int32} (hx : x ≤ 20) (hw : w ≤ 9) (h0 : 0 ≤ dv.toInt) (h1 : dv.toInt ≤ 54) : 0 ≤ (mx 0 (nI x * nI w - 2 * dv)).toInt ∧ (mx 0 (nI x * nI w - 2 * dv)).toInt ≤ 180 := by
  have e2 : (2 : Int32).toInt = 2 := by decide
  have ex := nI_toInt (n := x) (by omega)
  have ew := nI_toInt (n := w) (by omega)
  have hm := mul_bd (x := x) (y := w) (a := 20) (b := 9) (by omega) (by omega) (by omega) (by omega)
  have e3 : (nI x * nI w).toInt = x * w := by rw [tI_mul (by rw [ex, ew]; omega) (by rw [ex, ew]; omega), ex, ew]
  have e4 : (2 * dv).toInt = 2 * dv.toInt := by rw [tI_mul (by rw [e2]; omega) (by rw [e2]; omega), e2]
  rw [mx_toInt, tI_sub (by rw [e3, e4]; omega) (by rw [e3, e4]; omega), e3, e4]
  split <;> omega
theorem sub_nn {k v : Nat} (hk : k < 2 ^ 30) (hv : v < 2 ^ 30) : 0 ≤ nI k - nI v ↔ v ≤ k := by
  rw [Int32.le_iff_toInt_le, Int32.toInt_zero, pk_sub_toInt hk hv]
  omega
def nf (f : Nat → Nat) (T v : Nat) : Nat → Nat := fun t => if t = T then v else f t
def u1 (p u : Nat → Nat) (t : Nat) : Nat := if u t = 1 then p t else u t - 1
def q1 (u q : Nat → Nat) (t : Nat) : Nat := if u t = 1 then 0 else q t + 1
theorem nn_msb (z : Int32) : 0 ≤ z ↔ z.toBitVec.msb = false := by
  rw [Int32.le_iff_toInt_le, Int32.toInt_zero, BitVec.msb_eq_toInt]
  show 0 ≤ z.toBitVec.toInt ↔ _
  simp
theorem flm_z {b0 sec p0 : Nat} (hb : b0 < p0) (hp : 2 ≤ p0) (hp9 : p0 ≤ 20) (hs : sec < 2 ^ 29) : ∃ z : Nat, flm (nI b0 - nI sec) (nI p0) = nI z ∧ z < p0 ∧ (sec + z) % p0 = b0 := by
  have ex := pk_sub_toInt (a := b0) (b := sec) (by omega) (by omega)
  have ep := nI_toInt (n := p0) (by omega)
  have er : (rmi (nI b0 - nI sec) (nI p0)).toInt = ((b0 : Int) - sec).tmod p0 := by
    unfold rmi
    rw [rem_toInt, ex, ep]
  have hpn : (nI p0).toBitVec.msb = false := (nn_msb _).mp (by rw [Int32.le_iff_toInt_le, Int32.toInt_zero, ep]; omega)
  have hx : 0 ≤ (nI b0 - nI sec) ^^^ nI p0 ↔ 0 ≤ nI b0 - nI sec := by
    rw [nn_msb, nn_msb, Int32.toBitVec_xor, BitVec.msb_xor, hpn, Bool.xor_false]
  have h0 : 0 ≤ nI b0 - nI sec ↔ sec ≤ b0 := sub_nn (by omega) (by omega)
  unfold flm
  by_cases c : sec ≤ b0
  · rw [if_pos (hx.mpr (h0.mpr c))]
    refine ⟨b0 - sec, ?_, by omega, by rw [show sec + (b0 - sec) = b0 by omega]; exact Nat.mod_eq_of_lt hb⟩
    apply Int32.toInt_inj.mp
    rw [er, nI_toInt (by omega), Int.tmod_eq_emod_of_nonneg (by omega), Int.emod_eq_of_lt (by omega) (by omega)]
    omega
  · rw [if_neg (fun z => c (h0.mp (hx.mp z)))]
    have hd : ((b0 : Int) - sec).tmod p0 = -(((sec - b0) % p0 : Nat) : Int) := by
      rw [show (b0 : Int) - sec = -((sec - b0 : Nat) : Int) by omega, Int.neg_tmod, Int.tmod_eq_emod_of_nonneg (by omega)]
      rfl
    have hl := Nat.mod_lt (sec - b0) (show p0 > 0 by omega)
    have hdm := Nat.div_add_mod (sec - b0) p0
    by_cases c2 : (sec - b0) % p0 = 0
    · have e : rmi (nI b0 - nI sec) (nI p0) = 0 := by
        apply Int32.toInt_inj.mp
        rw [er, hd, c2, Int32.toInt_zero]
        rfl
      rw [if_pos e, e]
      refine ⟨0, rfl, by omega, ?_⟩
      rw [show sec + 0 = b0 + p0 * ((sec - b0) / p0) by omega, Nat.add_mul_mod_self_left]
      exact Nat.mod_eq_of_lt hb
    · have e : ¬ rmi (nI b0 - nI sec) (nI p0) = 0 := fun z => by
        have := congrArg Int32.toInt z
        rw [er, hd, Int32.toInt_zero] at this
        omega
      rw [if_neg e]
      refine ⟨p0 - (sec - b0) % p0, ?_, by omega, ?_⟩
      · apply Int32.toInt_inj.mp
        rw [tI_add (by rw [er, hd, ep]; omega) (by rw [er, hd, ep]; omega), er, hd, ep, nI_toInt (by omega)]
        omega
      · have e2 : p0 * ((sec - b0) / p0 + 1) = p0 * ((sec - b0) / p0) + p0 := Nat.mul_succ _ _
        rw [show sec + (p0 - (sec - b0) % p0) = b0 + p0 * ((sec - b0) / p0 + 1) by omega, Nat.add_mul_mod_self_left]
        exact Nat.mod_eq_of_lt hb

theorem bStr_row (S : bS) (R t : Nat) {k : Nat} (j : Nat) (hk : k < 2) : bStr S R t k j = S k j := by
  unfold bStr
  rw [up2_ne _ _ (Or.inl (by omega)), up2_ne _ _ (Or.inl (by omega)), up2_ne _ _ (Or.inl (by omega))]
  exact bSt1_row S _ t j (by omega) (by omega) R
theorem bGo_row (S : bS) (R : Nat) {k : Nat} (j : Nat) (hk : k < 2) : ∀ i : Nat, bGo S R i k j = S k j
  | 0 => up2_ne _ _ (Or.inl (by omega))
  | i + 1 => by
    by_cases c : 1 < bGo S R i 3 i
    · rw [bGo_keep c, up2_ne _ _ (Or.inl (by omega)), up2_ne _ _ (Or.inl (by omega))]
      exact bGo_row S R j hk i
    · rw [bGo_str c, bStr_row _ R i j hk]
      exact bGo_row S R j hk i
end
section
/-! ===== pure: both hold the same; a second of both ===== -/
theorem mx0 (y : Int32) : mx 0 y = if 0 ≤ y then y else 0 := by
  unfold mx
  by_cases h : (0 : Int32) < y
  · rw [if_pos h, if_pos (Int32.le_of_lt h)]
  · rw [if_neg h]
    by_cases h2 : (0 : Int32) ≤ y
    · rw [if_pos h2]
      exact Int32.le_antisymm h2 (Int32.not_lt.mp h)
    · rw [if_neg h2]
theorem dvt {x : Int32} (h1 : -9 ≤ x.toInt) (h2 : x.toInt ≤ 9) : mx 0 (-x) = if 0 ≤ x then 0 else -x := by
  have e := tI_neg (a := x) (by omega)
  apply Int32.toInt_inj.mp
  rw [mx_toInt, e]
  by_cases c : 0 ≤ x
  · have c1 := Int32.le_iff_toInt_le.mp c
    rw [Int32.toInt_zero] at c1
    rw [if_pos c, if_neg (by omega), Int32.toInt_zero]
  · have c1 : ¬ (0 : Int32).toInt ≤ x.toInt := fun z => c (Int32.le_iff_toInt_le.mpr z)
    rw [Int32.toInt_zero] at c1
    rw [if_neg c, if_pos (by omega), e]
theorem sma_tail {a : Int32} {f : Nat → Int32} {R : Nat} : ∀ n : Nat, R ≤ n → (∀ i, R ≤ i → i < n → f i = 0) → sma a f n = sma a f R
  | 0, h, _ => by rw [show R = 0 by omega]
  | n + 1, h, hz => by
    by_cases e : R = n + 1
    · rw [e]
    · show sma a f n + f n = _
      rw [hz n (by omega) (by omega), Int32.add_zero]
      exact sma_tail n (by omega) (fun i h1 h2 => hz i h1 (by omega))
theorem amn_congr {f g : Nat → Int32} : ∀ n : Nat, (∀ i, i < n → f i = g i) → amn f n = amn g n
  | 0, _ => rfl
  | n + 1, h => by
    have ih := amn_congr (f := f) (g := g) n (fun i hi => h i (by omega))
    cases e : amn g n with
    | none => rw [amn_none e, amn_none (ih.trans e)]
    | some b =>
      have hb := amn_lt n e
      by_cases c : g b ≤ g n
      · rw [amn_keep e c, amn_keep (ih.trans e) (by rw [h n (by omega), h b (by omega)]; exact c)]
      · rw [amn_new e c, amn_new (ih.trans e) (by rw [h n (by omega), h b (by omega)]; exact c)]
theorem mod_same2 {x u v p : Nat} (h : (x + u) % p = (x + v) % p) (hu : 1 ≤ u ∧ u ≤ p) (hv : 1 ≤ v ∧ v ≤ p) : u = v := by
  rcases Nat.le_total u v with z | z
  · exact mod_same h z (by omega)
  · exact (mod_same h.symm z (by omega)).symm
theorem rmi_v {a b p : Nat} (ha : a < 2 ^ 30) (hb : b < 2 ^ 30) (hp : p < 2 ^ 31) : (rmi (nI a - nI b) (nI p)).toInt = ((a : Int) - b).tmod p := by
  unfold rmi
  rw [rem_toInt, pk_sub_toInt ha hb, nI_toInt hp]
theorem un_val {b0 sec p0 u : Nat} (hb : b0 < p0) (hp : 2 ≤ p0) (hp9 : p0 ≤ 20) (hs : sec < 2 ^ 29) (hu : 1 ≤ u ∧ u ≤ p0) (hm : (sec + u) % p0 = b0) : (if rmi (nI b0 - nI sec) (nI p0) ≤ 0 then rmi (nI b0 - nI sec) (nI p0) + nI p0 else rmi (nI b0 - nI sec) (nI p0)) = nI u := by
  have er := rmi_v (a := b0) (b := sec) (p := p0) (by omega) (by omega) (by omega)
  have ep := nI_toInt (n := p0) (by omega)
  have eu := nI_toInt (n := u) (by omega)
  by_cases c : sec ≤ b0
  · have e1 : ((b0 : Int) - sec).tmod p0 = (b0 : Int) - sec := by rw [Int.tmod_eq_emod_of_nonneg (by omega), Int.emod_eq_of_lt (by omega) (by omega)]
    rw [e1] at er
    by_cases c2 : b0 = sec
    · have hup : u = p0 := mod_same2 (x := sec) (u := u) (v := p0) (p := p0) (by rw [hm, Nat.add_mod_right, ← c2, Nat.mod_eq_of_lt hb]) hu ⟨by omega, Nat.le_refl _⟩
      rw [if_pos (by rw [Int32.le_iff_toInt_le, er, Int32.toInt_zero]; omega)]
      apply Int32.toInt_inj.mp
      rw [tI_add (by rw [er, ep]; omega) (by rw [er, ep]; omega), er, ep, eu]
      omega
    · have hup : u = b0 - sec := mod_same2 (x := sec) (p := p0) (by rw [hm, show sec + (b0 - sec) = b0 by omega, Nat.mod_eq_of_lt hb]) hu ⟨by omega, by omega⟩
      rw [if_neg (by rw [Int32.le_iff_toInt_le, er, Int32.toInt_zero]; omega)]
      apply Int32.toInt_inj.mp
      rw [er, eu]
      omega
  · have hd : ((b0 : Int) - sec).tmod p0 = -(((sec - b0) % p0 : Nat) : Int) := by
      rw [show (b0 : Int) - sec = -((sec - b0 : Nat) : Int) by omega, Int.neg_tmod, Int.tmod_eq_emod_of_nonneg (by omega)]
      rfl
    rw [hd] at er
    have hl := Nat.mod_lt (sec - b0) (show p0 > 0 by omega)
    have hdm := Nat.div_add_mod (sec - b0) p0
    have e2 : p0 * ((sec - b0) / p0 + 1) = p0 * ((sec - b0) / p0) + p0 := Nat.mul_succ _ _
    have hup : u = p0 - (sec - b0) % p0 := mod_same2 (x := sec) (p := p0) (by
      rw [hm, show sec + (p0 - (sec - b0) % p0) = b0 + p0 * ((sec - b0) / p0 + 1) by omega, Nat.add_mul_mod_self_left]
      exact (Nat.mod_eq_of_lt hb).symm) hu ⟨by omega, by omega⟩
    rw [if_pos (by rw [Int32.le_iff_toInt_le, er, Int32.toInt_zero]; omega)]
    apply Int32.toInt_inj.mp
    rw [tI_add (by rw [er, ep]; omega) (by rw [er, ep]; omega), er, ep, eu]
    omega
theorem nz_iff {b0 x p0 : Nat} (hb : b0 < p0) (hp9 : p0 ≤ 20) (hx : x < 2 ^ 30) : rmi (nI x - nI b0) (nI p0) = 0 ↔ x % p0 = b0 := by
  have er := rmi_v (a := x) (b := b0) (p := p0) hx (by omega) (by omega)
  constructor
  · intro h
    have h1 := congrArg Int32.toInt h
    rw [er, Int32.toInt_zero] at h1
    obtain ⟨k, hk⟩ := Int.dvd_of_tmod_eq_zero h1
    have hk0 : 0 ≤ k := by
      rcases Int.lt_or_le k 0 with z | z
      · have h2 : (p0 : Int) * k ≤ (p0 : Int) * (-1) := Int.mul_le_mul_of_nonneg_left (by omega) (by omega)
        omega
      · exact z
    obtain ⟨m, rfl⟩ := Int.eq_ofNat_of_zero_le hk0
    have h3 : x = b0 + p0 * m := by
      have h4 : (x : Int) = ((b0 + p0 * m : Nat) : Int) := by
        rw [Int.natCast_add, Int.natCast_mul]
        omega
      exact Int.ofNat_inj.mp h4
    rw [h3, Nat.add_mul_mod_self_left]
    exact Nat.mod_eq_of_lt hb
  · intro h
    apply Int32.toInt_inj.mp
    rw [er, Int32.toInt_zero]
    have h1 := Nat.div_add_mod x p0
    have h2 : (x : Int) - b0 = (p0 : Int) * ((x / p0 : Nat) : Int) := by
      rw [← Int.natCast_mul]
      omega
    rw [h2]
    exact Int.mul_tmod_right _ _
/-! the rows that a stroke leaves -/
theorem bS1_h {X : bS} {p : Int32} {t r t' : Nat} : ∀ j : Nat, bSt1 X p t j (7 + r) t' = if r < j ∧ t' = t then 0 else X (7 + r) t'
  | 0 => (if_neg (by omega)).symm
  | j + 1 => by
    unfold bSt1
    by_cases e : r = j ∧ t' = t
    · rw [if_pos (by omega), e.1, e.2, up2_eq]
    · rw [up2_ne _ _ (by omega), up2_ne _ _ (Or.inl (by omega)), bS1_h j]
      by_cases e2 : r < j ∧ t' = t
      · rw [if_pos e2, if_pos (by omega)]
      · rw [if_neg e2, if_neg (by omega)]
theorem bS1_p {X : bS} {p : Int32} {t r : Nat} : ∀ j : Nat, bSt1 X p t j 5 r = if r < j then X 5 r + p * X (7 + r) t else X 5 r
  | 0 => (if_neg (by omega)).symm
  | j + 1 => by
    unfold bSt1
    rw [up2_ne _ _ (Or.inl (by omega))]
    by_cases e : r = j
    · rw [if_pos (by omega), e, up2_eq, bS1_p j, if_neg (by omega), bS1_h j, if_neg (by omega)]
    · rw [up2_ne _ _ (Or.inr e), bS1_p j]
      by_cases e2 : r < j
      · rw [if_pos e2, if_pos (by omega)]
      · rw [if_neg e2, if_neg (by omega)]
theorem bS1_o {X : bS} {p : Int32} {t k c : Nat} (h5 : k ≠ 5) (h : k < 7 ∨ 13 ≤ k) : ∀ j : Nat, j ≤ 6 → bSt1 X p t j k c = X k c
  | 0, _ => rfl
  | j + 1, hj => by
    unfold bSt1
    rw [up2_ne _ _ (Or.inl (by omega)), up2_ne _ _ (Or.inl h5)]
    exact bS1_o h5 h j (by omega)
/-- what is held and the purses, i towers done -/
def CfH (S X : bS) (P : Nat → Int32) (R i : Nat) (u : Nat → Nat) : Prop := (∀ r t, r < 6 → t < 8 → X (7 + r) t = if t < i ∧ r < R ∧ u t = 1 then 0 else S (7 + r) t) ∧ ∀ r, r < R → X 5 r = sma (S 5 r) (fun t => if u t = 1 then P t * S (7 + r) t else 0) i
theorem CfH.ext {S X Y : bS} {P : Nat → Int32} {R i : Nat} {u : Nat → Nat} (h : CfH S X P R i u) (h1 : ∀ r t, r < 6 → Y (7 + r) t = X (7 + r) t) (h2 : ∀ r, Y 5 r = X 5 r) : CfH S Y P R i u := ⟨fun r t hr ht => (h1 r t hr).trans (h.1 r t hr ht), fun r hr => (h2 r).trans (h.2 r hr)⟩
theorem CfH.kp {S X : bS} {P : Nat → Int32} {R i : Nat} {u : Nat → Nat} (h : CfH S X P R i u) (c : ¬ u i = 1) : CfH S X P R (i + 1) u := by
  refine ⟨fun r t hr ht => ?_, fun r hr => ?_⟩
  · rw [h.1 r t hr ht]
    by_cases e : t < i ∧ r < R ∧ u t = 1
    · rw [if_pos e, if_pos ⟨by omega, e.2⟩]
    · rw [if_neg e, if_neg (fun z => by
        rcases (show t < i ∨ t = i by omega) with z1 | z1
        · exact e ⟨z1, z.2⟩
        · exact c (z1 ▸ z.2.2))]
  · rw [h.2 r hr]
    show _ = sma _ _ i + (if u i = 1 then _ else _)
    rw [if_neg c, Int32.add_zero]
theorem CfH.st {S X : bS} {P : Nat → Int32} {R i : Nat} {u : Nat → Nat} (h : CfH S X P R i u) (c : u i = 1) (hi : i < 8) (hR : R ≤ 6) : CfH S (bSt1 X (P i) i R) P R (i + 1) u := by
  refine ⟨fun r t hr ht => ?_, fun r hr => ?_⟩
  · rw [bS1_h, h.1 r t hr ht]
    by_cases e : r < R ∧ t = i
    · rw [if_pos e, if_pos ⟨by omega, e.1, by rw [e.2]; exact c⟩]
    · rw [if_neg e]
      by_cases e2 : t < i ∧ r < R ∧ u t = 1
      · rw [if_pos e2, if_pos ⟨by omega, e2.2⟩]
      · rw [if_neg e2, if_neg (fun z => by
          rcases (show t < i ∨ t = i by omega) with z1 | z1
          · exact e2 ⟨z1, z.2⟩
          · exact e ⟨z.2.1, z1⟩)]
  · rw [bS1_p, if_pos hr, h.2 r hr, h.1 r i (by omega) hi, if_neg (by omega)]
    show _ = sma _ _ i + (if u i = 1 then _ else _)
    rw [if_pos c]
/-- how many strike -/
def dueN (u : Nat → Nat) (i : Nat) : Int32 := sma 0 (fun t => if u t = 1 then 1 else 0) i
/-- what is so of the class's towers -/
def HS (S : bS) (T : Nat) (p u q : Nat → Nat) : Prop := ∀ t, t < T → S 1 t = nI (p t) ∧ S 2 t = nI (q t) ∧ S 3 t = nI (u t) ∧ (1 ≤ u t ∧ u t ≤ 20) ∧ q t ≤ 20
def CfS (S X : bS) (T R i : Nat) (p u q : Nat → Nat) : Prop := X 6 0 = S 6 0 + 1 ∧ (∀ t, t < T → X 3 t = nI (if t < i then u1 p u t else u t) ∧ X 2 t = nI (if t < i then q1 u q t else q t)) ∧ (∀ t, t < 8 → X 4 t = if t < i ∧ u t = 1 then S 4 t + 1 else S 4 t) ∧ (∀ t, t < 8 → T ≤ t → X 2 t = S 2 t) ∧ CfH S X (bPr S R) R i u
theorem bPr_of {X S : bS} {R t : Nat} (h2 : X 2 t = S 2 t) (h0 : X 0 t = S 0 t) (hh : ∀ r, r < R → X (7 + r) t = S (7 + r) t) : bPr X R t = bPr S R t := by
  unfold bPr bDv
  rw [h2, h0, sma_congr rfl R (fun r hr => by rw [hh r hr])]
theorem cfS {S : bS} {T R : Nat} {p u q : Nat → Nat} (h : HS S T p u q) (hT : T ≤ 8) (hR : R ≤ 6) : ∀ i : Nat, i ≤ T → CfS S (bGo S R i) T R i p u q ∧ bGc S R i = dueN u i
  | 0, _ => by
    refine ⟨⟨up2_eq _ _ _ _, fun t ht => ?_, fun t ht => ?_, fun t ht hTt => ?_, fun r t hr ht => ?_, fun r hr => ?_⟩, rfl⟩
    · rw [if_neg (by omega), if_neg (by omega)]
      exact ⟨(up2_ne _ _ (Or.inl (by omega))).trans (h t ht).2.2.1, (up2_ne _ _ (Or.inl (by omega))).trans (h t ht).2.1⟩
    · rw [if_neg (by omega)]
      exact up2_ne _ _ (Or.inl (by omega))
    · exact up2_ne _ _ (Or.inl (by omega))
    · rw [if_neg (by omega)]
      exact up2_ne _ _ (Or.inl (by omega))
    · exact up2_ne _ _ (Or.inl (by omega))
  | i + 1, hi => by
    obtain ⟨⟨c1, c2, c3, c4, c5⟩, c6⟩ := cfS h hT hR i (by omega)
    obtain ⟨hp, hq, hu3, hu, hq9⟩ := h i (by omega)
    obtain ⟨e3, e2⟩ := c2 i (by omega)
    rw [if_neg (by omega)] at e3 e2
    have hbc : 1 < bGo S R i 3 i ↔ ¬ u i = 1 := by
      rw [e3]
      exact (nI_ltI (a := 1) (by omega) (by omega)).trans (by omega)
    have hP : bPr (bGo S R i) R i = bPr S R i := bPr_of (e2.trans hq.symm) (bGo_row S R i (by omega) i) (fun r hr => by rw [c5.1 r i (by omega) (by omega), if_neg (by omega)])
    by_cases c : u i = 1
    · have n1 : ¬ 1 < bGo S R i 3 i := fun z => hbc.mp z c
      rw [bGo_str n1, bGc_str n1]
      unfold bStr
      rw [hP]
      refine ⟨⟨?_, fun t ht => ?_, fun t ht => ?_, fun t ht hTt => ?_, ?_⟩, ?_⟩
      · rw [up2_ne _ _ (Or.inl (by omega)), up2_ne _ _ (Or.inl (by omega)), up2_ne _ _ (Or.inl (by omega)), bS1_o (by omega) (by omega) R hR, c1]
      · obtain ⟨f3, f2⟩ := c2 t ht
        by_cases e : t = i
        · rw [e, up2_eq, if_pos (by omega), if_pos (by omega), bS1_o (by omega) (by omega) R hR, bGo_row S R i (by omega) i, hp, up2_ne _ _ (Or.inl (by omega)), up2_ne _ _ (Or.inl (by omega)), up2_eq]
          unfold u1 q1
          rw [if_pos c, if_pos c]
          exact ⟨rfl, rfl⟩
        · rw [up2_ne _ _ (Or.inr e), up2_ne _ _ (Or.inl (by omega)), up2_ne _ _ (Or.inl (by omega)), bS1_o (by omega) (by omega) R hR, f3, up2_ne _ _ (Or.inl (by omega)), up2_ne _ _ (Or.inl (by omega)), up2_ne _ _ (Or.inr e), bS1_o (by omega) (by omega) R hR, f2]
          by_cases e2 : t < i
          · rw [if_pos e2, if_pos (by omega), if_pos e2, if_pos (by omega)]
            exact ⟨rfl, rfl⟩
          · rw [if_neg e2, if_neg (by omega), if_neg e2, if_neg (by omega)]
            exact ⟨rfl, rfl⟩
      · rw [up2_ne _ _ (Or.inl (by omega))]
        by_cases e : t = i
        · rw [e, up2_eq, if_pos ⟨by omega, c⟩, bS1_o (by omega) (by omega) R hR, c3 i (by omega), if_neg (by omega)]
        · rw [up2_ne _ _ (Or.inr e), up2_ne _ _ (Or.inl (by omega)), bS1_o (by omega) (by omega) R hR, c3 t ht]
          by_cases e2 : t < i ∧ u t = 1
          · rw [if_pos e2, if_pos ⟨by omega, e2.2⟩]
          · rw [if_neg e2, if_neg (fun z => e2 ⟨by omega, z.2⟩)]
      · rw [up2_ne _ _ (Or.inl (by omega)), up2_ne _ _ (Or.inl (by omega)), up2_ne _ _ (Or.inr (by omega)), bS1_o (by omega) (by omega) R hR, c4 t ht hTt]
      · exact (c5.st c (by omega) hR).ext (fun r t _ => by rw [up2_ne _ _ (Or.inl (by omega)), up2_ne _ _ (Or.inl (by omega)), up2_ne _ _ (Or.inl (by omega))]) (fun r => by rw [up2_ne _ _ (Or.inl (by omega)), up2_ne _ _ (Or.inl (by omega)), up2_ne _ _ (Or.inl (by omega))])
      · rw [c6]
        show _ = sma _ _ i + (if u i = 1 then _ else _)
        rw [if_pos c]
        rfl
    · have n1 : 1 < bGo S R i 3 i := hbc.mpr c
      rw [bGo_keep n1, bGc_keep n1]
      refine ⟨⟨?_, fun t ht => ?_, fun t ht => ?_, fun t ht hTt => ?_, ?_⟩, ?_⟩
      · rw [up2_ne _ _ (Or.inl (by omega)), up2_ne _ _ (Or.inl (by omega)), c1]
      · obtain ⟨f3, f2⟩ := c2 t ht
        by_cases e : t = i
        · rw [e, up2_ne _ _ (Or.inl (by omega)), up2_eq, if_pos (by omega), if_pos (by omega), e3, up2_eq, e2]
          unfold u1 q1
          rw [if_neg c, if_neg c]
          exact ⟨pk_sub (a := u i) (b := 1) (by omega), nI_1 _⟩
        · rw [up2_ne _ _ (Or.inl (by omega)), up2_ne _ _ (Or.inr e), f3, up2_ne _ _ (Or.inr e), up2_ne _ _ (Or.inl (by omega)), f2]
          by_cases e2 : t < i
          · rw [if_pos e2, if_pos (by omega), if_pos e2, if_pos (by omega)]
            exact ⟨rfl, rfl⟩
          · rw [if_neg e2, if_neg (by omega), if_neg e2, if_neg (by omega)]
            exact ⟨rfl, rfl⟩
      · rw [up2_ne _ _ (Or.inl (by omega)), up2_ne _ _ (Or.inl (by omega)), c3 t ht]
        by_cases e2 : t < i ∧ u t = 1
        · rw [if_pos e2, if_pos ⟨by omega, e2.2⟩]
        · rw [if_neg e2, if_neg (fun z => by
            rcases (show t < i ∨ t = i by omega) with z1 | z1
            · exact e2 ⟨z1, z.2⟩
            · exact c (z1 ▸ z.2))]
      · rw [up2_ne _ _ (Or.inr (by omega)), up2_ne _ _ (Or.inl (by omega)), c4 t ht hTt]
      · exact (c5.kp c).ext (fun r t _ => by rw [up2_ne _ _ (Or.inl (by omega)), up2_ne _ _ (Or.inl (by omega))]) (fun r => by rw [up2_ne _ _ (Or.inl (by omega)), up2_ne _ _ (Or.inl (by omega))])
      · rw [c6]
        show _ = sma _ _ i + (if u i = 1 then _ else _)
        rw [if_neg c, Int32.add_zero]
        rfl
/-- what is so of Sim's towers -/
def HN (N : bS) (T sec : Nat) (p bt u q : Nat → Nat) : Prop := (N 6 0 = nI sec ∧ sec < 2 ^ 29) ∧ ∀ t, t < T → N (20 + t) 1 = nI (p t) ∧ N (20 + t) 2 = nI (bt t) ∧ N (20 + t) 3 = nI (q t) ∧ (2 ≤ p t ∧ p t ≤ 20) ∧ bt t < p t ∧ (1 ≤ u t ∧ u t ≤ p t) ∧ (sec + u t) % p t = bt t
def CfN (N X : bS) (P : Nat → Int32) (T R i : Nat) (u q : Nat → Nat) : Prop := X 6 0 = N 6 0 + 1 ∧ (∀ t, t < T → X (20 + t) 3 = nI (if t < i then q1 u q t else q t) ∧ X (20 + t) 4 = if t < i ∧ u t = 1 then N (20 + t) 4 + 1 else N (20 + t) 4) ∧ CfH N X P R i u
theorem nGo_0 {N : bS} {P : Nat → Int32} {R t j : Nat} (hR : R ≤ 6) : ∀ i : Nat, i ≤ t → t < 8 → nGo N P R i (20 + t) j = N (20 + t) j
  | 0, _, _ => up2_ne _ _ (Or.inl (by omega))
  | i + 1, hi, ht => by
    have ih := nGo_0 (N := N) (P := P) (R := R) (t := t) (j := j) hR i (by omega) ht
    by_cases c : nZ (nGo N P R i) i = 0
    · rw [nGo_s c, bS1_o (by omega) (by omega) R hR]
      unfold nZs nY
      rw [up2_ne _ _ (Or.inl (by omega)), up2_ne _ _ (Or.inl (by omega)), up2_ne _ _ (Or.inl (by omega)), ih]
    · rw [nGo_k c]
      unfold nY
      rw [up2_ne _ _ (Or.inl (by omega)), ih]
theorem cfN {N : bS} {P : Nat → Int32} {T R sec : Nat} {p bt u q : Nat → Nat} (h : HN N T sec p bt u q) (hT : T ≤ 8) (hR : R ≤ 6) : ∀ i : Nat, i ≤ T → CfN N (nGo N P R i) P T R i u q ∧ nGc N P R i = dueN u i
  | 0, _ => by
    refine ⟨⟨up2_eq _ _ _ _, fun t ht => ?_, fun r t hr ht => ?_, fun r hr => ?_⟩, rfl⟩
    · rw [if_neg (by omega), if_neg (by omega)]
      exact ⟨(up2_ne _ _ (Or.inl (by omega))).trans (h.2 t ht).2.2.1, up2_ne _ _ (Or.inl (by omega))⟩
    · rw [if_neg (by omega)]
      exact up2_ne _ _ (Or.inl (by omega))
    · exact up2_ne _ _ (Or.inl (by omega))
  | i + 1, hi => by
    obtain ⟨⟨c1, c2, c5⟩, c6⟩ := cfN (P := P) h hT hR i (by omega)
    obtain ⟨hp1, hb1, hq1, hp, hb, hu, hm⟩ := h.2 i (by omega)
    have hz : nZ (nGo N P R i) i = 0 ↔ u i = 1 := by
      unfold nZ
      rw [c1, h.1.1, show nI sec + 1 = nI (sec + 1) from nI_1 sec, nGo_0 hR i (Nat.le_refl i) (by omega), nGo_0 hR i (Nat.le_refl i) (by omega), hp1, hb1, nz_iff hb hp.2 (by have := h.1.2; omega)]
      constructor
      · intro z
        exact (mod_same2 (x := sec) (u := 1) (v := u i) (p := p i) (by rw [z, hm]) ⟨by omega, by omega⟩ hu).symm
      · intro z
        rw [← hm, z]
    have e3 : nGo N P R i (20 + i) 3 = nI (q i) := (nGo_0 hR i (Nat.le_refl i) (by omega)).trans hq1
    have e4 : nGo N P R i (20 + i) 4 = N (20 + i) 4 := nGo_0 hR i (Nat.le_refl i) (by omega)
    have key : ∀ t : Nat, t < T → t ≠ i → (nGo N P R i (20 + t) 3 = nI (if t < i + 1 then q1 u q t else q t)) ∧ nGo N P R i (20 + t) 4 = if t < i + 1 ∧ u t = 1 then N (20 + t) 4 + 1 else N (20 + t) 4 := by
      intro t ht e
      obtain ⟨f3, f4⟩ := c2 t ht
      rw [f3, f4]
      by_cases e2 : t < i
      · rw [if_pos e2, if_pos (by omega)]
        refine ⟨rfl, ?_⟩
        by_cases e5 : u t = 1
        · rw [if_pos ⟨e2, e5⟩, if_pos ⟨by omega, e5⟩]
        · rw [if_neg (fun z => e5 z.2), if_neg (fun z => e5 z.2)]
      · rw [if_neg e2, if_neg (by omega), if_neg (fun z => e2 z.1), if_neg (fun z => by omega)]
        exact ⟨rfl, rfl⟩
    by_cases c : u i = 1
    · rw [nGo_s (hz.mpr c), nGc_s (hz.mpr c)]
      refine ⟨⟨?_, fun t ht => ?_, ?_⟩, ?_⟩
      · rw [bS1_o (by omega) (by omega) R hR]
        unfold nZs nY
        rw [up2_ne _ _ (Or.inl (by omega)), up2_ne _ _ (Or.inl (by omega)), up2_ne _ _ (Or.inl (by omega)), c1]
      · rw [bS1_o (by omega) (by omega) R hR, bS1_o (by omega) (by omega) R hR]
        unfold nZs nY
        by_cases e : t = i
        · rw [e, up2_ne _ _ (Or.inr (by omega)), up2_eq, up2_eq, e4, if_pos (by omega), if_pos ⟨by omega, c⟩]
          unfold q1
          rw [if_pos c]
          exact ⟨rfl, rfl⟩
        · rw [up2_ne _ _ (Or.inl (by omega)), up2_ne _ _ (Or.inl (by omega)), up2_ne _ _ (Or.inl (by omega)), up2_ne _ _ (Or.inl (by omega)), up2_ne _ _ (Or.inl (by omega)), up2_ne _ _ (Or.inl (by omega))]
          exact key t ht e
      · refine CfH.st (c5.ext (fun r t _ => ?_) (fun r => ?_)) c (by omega) hR
        · unfold nZs nY
          rw [up2_ne _ _ (Or.inl (by omega)), up2_ne _ _ (Or.inl (by omega)), up2_ne _ _ (Or.inl (by omega))]
        · unfold nZs nY
          rw [up2_ne _ _ (Or.inl (by omega)), up2_ne _ _ (Or.inl (by omega)), up2_ne _ _ (Or.inl (by omega))]
      · rw [c6]
        show _ = sma _ _ i + (if u i = 1 then _ else _)
        rw [if_pos c]
        rfl
    · rw [nGo_k (fun z => c (hz.mp z)), nGc_k (fun z => c (hz.mp z))]
      unfold nY
      refine ⟨⟨?_, fun t ht => ?_, ?_⟩, ?_⟩
      · rw [up2_ne _ _ (Or.inl (by omega)), c1]
      · by_cases e : t = i
        · rw [e, up2_eq, e3, up2_ne _ _ (Or.inr (by omega)), e4, if_pos (by omega), if_neg (fun z => c z.2)]
          unfold q1
          rw [if_neg c]
          exact ⟨nI_1 _, rfl⟩
        · rw [up2_ne _ _ (Or.inl (by omega)), up2_ne _ _ (Or.inl (by omega))]
          exact key t ht e
      · exact (c5.kp c).ext (fun r t _ => up2_ne _ _ (Or.inl (by omega))) (fun r => up2_ne _ _ (Or.inl (by omega)))
      · rw [c6]
        show _ = sma _ _ i + (if u i = 1 then _ else _)
        rw [if_neg c, Int32.add_zero]
        rfl
end
section
/-! ===== pure: what holds between both ===== -/
def JT (S N : bS) (sec : Nat) (w p bt u q : Nat → Nat) (t : Nat) : Prop := (S 0 t = nI (w t) ∧ S 1 t = nI (p t) ∧ S 2 t = nI (q t) ∧ S 3 t = nI (u t) ∧ S 4 t = N (20 + t) 4) ∧ (N (20 + t) 0 = nI (w t) ∧ N (20 + t) 1 = nI (p t) ∧ N (20 + t) 2 = nI (bt t) ∧ N (20 + t) 3 = nI (q t)) ∧ (1 ≤ w t ∧ w t ≤ 9) ∧ (2 ≤ p t ∧ p t ≤ 20) ∧ bt t < p t ∧ (1 ≤ u t ∧ u t ≤ p t) ∧ q t + u t ≤ p t ∧ (sec + u t) % p t = bt t
def JH (S N : bS) (R : Nat) : Prop := ∀ r t, r < 6 → t < 8 → S (7 + r) t = N (7 + r) t ∧ (-9 ≤ (N (7 + r) t).toInt ∧ (N (7 + r) t).toInt ≤ 9) ∧ (R ≤ r → N (7 + r) t = 0)
def Jc (S N : bS) (T R sec : Nat) (w p bt u q : Nat → Nat) : Prop := BI S T R ∧ (∀ r, r < R → S 5 r = N 5 r) ∧ JH S N R ∧ (S 6 0 = nI sec ∧ N 6 0 = nI sec ∧ sec < 2 ^ 29) ∧ (∀ t, t < T → JT S N sec w p bt u q t) ∧ ∀ t, t < 8 → T ≤ t → S 2 t = 0 ∧ S 4 t = 0
section JCS
variable {S N : bS} {T R sec : Nat} {w p bt u q : Nat → Nat}
theorem Jc.T8 (h : Jc S N T R sec w p bt u q) : T ≤ 8 := h.1.2.2.1
theorem Jc.R6 (h : Jc S N T R sec w p bt u q) : R ≤ 6 := h.1.2.2.2
theorem Jc.hP (h : Jc S N T R sec w p bt u q) : ∀ t, t < T → ¬ N (20 + t) 1 = 0 := by
  intro t ht
  obtain ⟨-, ⟨-, e, -⟩, -, hp, -⟩ := h.2.2.2.2.1 t ht
  rw [e]
  exact nI_ne0 (by omega) (by omega)
theorem Jc.held (h : Jc S N T R sec w p bt u q) {r t : Nat} (hr : r < 6) (ht : t < 8) : S (7 + r) t = N (7 + r) t := (h.2.2.1 r t hr ht).1
theorem Jc.dv (h : Jc S N T R sec w p bt u q) {t : Nat} (ht : t < 8) : bDv S R t = sDv N t 6 := by
  have hR := h.R6
  unfold bDv sDv
  rw [sma_tail (R := R) 6 hR (fun i h1 h2 => by rw [(h.2.2.1 i t h2 ht).2.2 h1]; rfl)]
  exact sma_congr rfl R (fun r hr => by
    obtain ⟨e, hb, -⟩ := h.2.2.1 r t (by omega) ht
    rw [e, dvt hb.1 hb.2])
theorem Jc.prc (h : Jc S N T R sec w p bt u q) {t : Nat} (ht : t < T) : bPr S R t = sPr N t := by
  have hT := h.T8
  obtain ⟨⟨e0, -, e2, -, -⟩, ⟨f0, -, -, f3⟩, -⟩ := h.2.2.2.2.1 t ht
  have e : ∀ a z : Int32, a - 2 * z = a - z - z := by intro a z; grind
  unfold bPr pr sPr sPz
  rw [mx0, h.dv (by omega), e2, e0, f3, f0, e]
theorem Jc.un (h : Jc S N T R sec w p bt u q) {t : Nat} (ht : t < T) : sUn N t = nI (u t) := by
  obtain ⟨-, ⟨-, f1, f2, -⟩, -, hp, hb, hu, -, hm⟩ := h.2.2.2.2.1 t ht
  unfold sUn sUz
  rw [f1, f2, h.2.2.2.1.2.1]
  exact un_val hb hp.1 hp.2 h.2.2.2.1.2.2 hu hm
theorem Jc.s3 (h : Jc S N T R sec w p bt u q) {t : Nat} (ht : t < T) : S 3 t = sUn N t := by
  rw [h.un ht]
  exact (h.2.2.2.2.1 t ht).1.2.2.2.1
theorem Jc.op (h : Jc S N T R sec w p bt u q) {t : Nat} (ht : t < 8) : bOp S R t = sma 0 (fun r => N (7 + r) t) 6 := by
  have hR := h.R6
  unfold bOp
  rw [sma_tail (R := R) 6 hR (fun i h1 h2 => (h.2.2.1 i t h2 ht).2.2 h1)]
  exact sma_congr rfl R (fun r hr => h.held (by omega) ht)
theorem Jc.wt (h : Jc S N T R sec w p bt u q) {r t : Nat} (hr : r < R) (ht : t < T) : bWt S R r 0 t = N (7 + r) t * sPr N t := by
  have hT := h.T8
  have hR := h.R6
  obtain ⟨⟨-, -, -, e3, -⟩, -, -, hp, -, hu, -, -⟩ := h.2.2.2.2.1 t ht
  have c1 : nI 0 < S 3 t := by
    rw [e3]
    exact (nI_ltI (by omega) (by omega)).mpr (by omega)
  have c2 : ¬ 0 ≤ nI 0 - S 3 t := by
    rw [e3, sub_nn (by omega) (by omega)]
    omega
  unfold bWt bPb
  rw [if_pos c1, if_neg c2, h.held (by omega) (by omega), show S 2 t + nI 0 = S 2 t from Int32.add_zero _, ← h.prc ht, Int32.mul_comm]
  rfl
theorem Jc.wo (h : Jc S N T R sec w p bt u q) {r : Nat} (hr : r < R) : bWb S T R r 0 = sWo N T r := by
  unfold bWb sWo
  exact sma_congr (h.2.1 r hr) T (fun t ht => h.wt hr ht)
theorem Jc.sh (h : Jc S N T R sec w p bt u q) {r : Nat} (hr : r < R) : bSh S T r = sma 0 (fun t => if 0 ≤ N (7 + r) t then 0 else 1) T := by
  have hT := h.T8
  have hR := h.R6
  unfold bSh
  exact sma_congr rfl T (fun t ht => by rw [h.held (by omega) (by omega)])
theorem Jc.ow (h : Jc S N T R sec w p bt u q) : bOw S R = sma 0 (fun r => if 0 ≤ N 5 r then 0 else 1) R := by
  unfold bOw
  exact sma_congr rfl R (fun r hr => by rw [h.2.1 r hr])
theorem Jc.de (h : Jc S N T R sec w p bt u q) : bDe S T R = amx (sPr N) T := amx_congr T (fun t ht => h.prc ht)
theorem Jc.nx (h : Jc S N T R sec w p bt u q) : bNx S T = amn (sUn N) T := amn_congr T (fun t ht => h.s3 ht)
theorem Jc.rc (h : Jc S N T R sec w p bt u q) : bRc S T R = amx (sWo N T) R := amx_congr R (fun r hr => h.wo hr)
theorem Jc.HS (h : Jc S N T R sec w p bt u q) : HS S T p u q := by
  intro t ht
  obtain ⟨⟨-, e1, e2, e3, -⟩, -, -, hp, -, hu, hq, -⟩ := h.2.2.2.2.1 t ht
  exact ⟨e1, e2, e3, ⟨hu.1, by omega⟩, by omega⟩
theorem Jc.HN (h : Jc S N T R sec w p bt u q) : HN N T sec p bt u q := by
  refine ⟨h.2.2.2.1.2, fun t ht => ?_⟩
  obtain ⟨-, ⟨-, f1, f2, f3⟩, -, hp, hb, hu, -, hm⟩ := h.2.2.2.2.1 t ht
  exact ⟨f1, f2, f3, hp, hb, hu, hm⟩
theorem bGo_0 {S : bS} {R k j : Nat} (hk : k < 2) (i : Nat) : bGo S R i k j = S k j := bGo_row S R j hk i
theorem Jc.go (h : Jc S N T R sec w p bt u q) (hs : sec + 1 < 2 ^ 29) : Jc (bGo S R T) (nGo N (sPr N) R T) T R (sec + 1) w p bt (u1 p u) (q1 u q) ∧ bGc S R T = nGc N (sPr N) R T := by
  have hT := h.T8
  have hR := h.R6
  obtain ⟨⟨c1, c2, c3, c4, c5⟩, c6⟩ := cfS h.HS hT hR T (Nat.le_refl T)
  obtain ⟨⟨d1, d2, d5⟩, d6⟩ := cfN (P := sPr N) h.HN hT hR T (Nat.le_refl T)
  refine ⟨⟨BI_go h.1, fun r hr => ?_, fun r t hr ht => ?_, ⟨?_, ?_, hs⟩, fun t ht => ?_, fun t ht hTt => ?_⟩, c6.trans d6.symm⟩
  · rw [c5.2 r hr, d5.2 r hr]
    exact sma_congr (h.2.1 r hr) T (fun t ht => by rw [h.prc ht, h.held (by omega) (by omega)])
  · obtain ⟨e1, e2, e3⟩ := h.2.2.1 r t hr ht
    rw [c5.1 r t hr ht, d5.1 r t hr ht, e1]
    by_cases c : t < T ∧ r < R ∧ u t = 1
    · rw [if_pos c]
      exact ⟨rfl, by decide, fun _ => rfl⟩
    · rw [if_neg c]
      exact ⟨rfl, e2, e3⟩
  · rw [c1, h.2.2.2.1.1]
    exact nI_1 sec
  · rw [d1, h.2.2.2.1.2.1]
    exact nI_1 sec
  · obtain ⟨⟨e0, e1, e2, e3, e4⟩, ⟨f0, f1, f2, f3⟩, hw, hp, hb, hu, hq, hm⟩ := h.2.2.2.2.1 t ht
    obtain ⟨g3, g2⟩ := c2 t ht
    obtain ⟨k3, k4⟩ := d2 t ht
    rw [if_pos ht] at g3 g2 k3
    refine ⟨⟨(bGo_0 (by omega) T).trans e0, (bGo_0 (by omega) T).trans e1, g2, g3, ?_⟩, ⟨(nGo_1 (by omega) (by omega) (by omega) hR (by omega) T).trans f0, (nGo_1 (by omega) (by omega) (by omega) hR (by omega) T).trans f1, (nGo_1 (by omega) (by omega) (by omega) hR (by omega) T).trans f2, k3⟩, hw, hp, hb, ?_, ?_, ?_⟩
    · rw [c3 t (by omega), k4, e4]
    · unfold u1
      split <;> omega
    · unfold u1 q1
      split <;> omega
    · unfold u1
      split
      · rename_i e
        rw [e] at hm
        rw [Nat.add_mod_right]
        exact hm
      · rw [← hm]
        congr 1
        omega
  · rw [c4 t ht hTt, c3 t ht, if_neg (by omega)]
    exact h.2.2.2.2.2 t ht hTt
end JCS
def Je (S N : bS) (T R sec : Nat) : Prop := ∃ w p bt u q : Nat → Nat, Jc S N T R sec w p bt u q
theorem Je.pa {S N : bS} {T R sec : Nat} (h : Je S N T R sec) : ∀ k : Nat, sec + k < 2 ^ 29 → Je (bPa S T R k) (nPa N T R k) T R (sec + k) ∧ bPc S T R k = nPc N T R k
  | 0, _ => ⟨h, rfl⟩
  | k + 1, h1 => by
    obtain ⟨⟨w, p, bt, u, q, i1⟩, i2⟩ := Je.pa h k (by omega)
    obtain ⟨g1, g2⟩ := i1.go (by omega)
    refine ⟨⟨w, p, bt, u1 p u, q1 u q, g1⟩, ?_⟩
    show bPc S T R k + bGc (bPa S T R k) R T = nPc N T R k + nGc (nPa N T R k) (sPr (nPa N T R k)) R T
    rw [i2, g2]
/-- buying (x below 0) and selling -/
theorem Jc.sold {S N : bS} {T R sec : Nat} {w p bt u q : Nat → Nat} (h : Jc S N T R sec w p bt u q) {r t : Nat} {v v' : Int32} (hr : r < R) (ht : t < T) {d d' : Int32} (hv : S 5 r + d = v) (hv' : N 5 r + d = v') (hd : -9 ≤ d'.toInt ∧ d'.toInt ≤ 9) : Jc (up2 (up2 S 5 r v) (7 + r) t d') (up2 (up2 N 5 r v') (7 + r) t d') T R sec w p bt u q := by
  have hT := h.T8
  have hR := h.R6
  refine ⟨⟨?_, ?_, h.1.2.2⟩, fun r' hr' => ?_, fun r' t' hr' ht' => ?_, ⟨?_, ?_, h.2.2.2.1.2.2⟩, fun t' ht' => ?_, fun t' ht' hTt => ?_⟩
  · rw [up2_ne _ _ (Or.inl (by omega)), up2_ne _ _ (Or.inl (by omega))]
    exact h.1.1
  · rw [up2_ne _ _ (Or.inl (by omega)), up2_ne _ _ (Or.inl (by omega))]
    exact h.1.2.1
  · have e5 : ∀ (X : bS) (z z' : Int32), up2 (up2 X 5 r z) (7 + r) t z' 5 r' = up2 X 5 r z 5 r' := fun X z z' => up2_ne _ _ (Or.inl (by omega))
    rw [e5, e5]
    by_cases e : r' = r
    · rw [e, up2_eq, up2_eq, ← hv, ← hv', h.2.1 r hr]
    · rw [up2_ne _ _ (Or.inr e), up2_ne _ _ (Or.inr e)]
      exact h.2.1 r' hr'
  · by_cases e : r' = r ∧ t' = t
    · rw [e.1, e.2, up2_eq, up2_eq]
      exact ⟨rfl, hd, fun z => by omega⟩
    · rw [up2_ne _ _ (by omega), up2_ne _ _ (Or.inl (by omega)), up2_ne _ _ (by omega), up2_ne _ _ (Or.inl (by omega))]
      exact h.2.2.1 r' t' hr' ht'
  · rw [up2_ne _ _ (Or.inl (by omega)), up2_ne _ _ (Or.inl (by omega))]
    exact h.2.2.2.1.1
  · rw [up2_ne _ _ (Or.inl (by omega)), up2_ne _ _ (Or.inl (by omega))]
    exact h.2.2.2.1.2.1
  · have h1 : ∀ (X : bS) (z z' : Int32) (k j : Nat), (k < 5 ∨ 13 ≤ k) → up2 (up2 X 5 r z) (7 + r) t z' k j = X k j := fun X z z' k j hk => by rw [up2_ne _ _ (Or.inl (by omega)), up2_ne _ _ (Or.inl (by omega))]
    unfold JT
    rw [h1 _ _ _ 0 t' (by omega), h1 _ _ _ 1 t' (by omega), h1 _ _ _ 2 t' (by omega), h1 _ _ _ 3 t' (by omega), h1 _ _ _ 4 t' (by omega), h1 _ _ _ (20 + t') 0 (by omega), h1 _ _ _ (20 + t') 1 (by omega), h1 _ _ _ (20 + t') 2 (by omega), h1 _ _ _ (20 + t') 3 (by omega), h1 _ _ _ (20 + t') 4 (by omega)]
    exact h.2.2.2.2.1 t' ht'
  · rw [up2_ne _ _ (Or.inl (by omega)), up2_ne _ _ (Or.inl (by omega)), up2_ne _ _ (Or.inl (by omega)), up2_ne _ _ (Or.inl (by omega))]
    exact h.2.2.2.2.2 t' ht' hTt
theorem Jc.addT {S N : bS} {T R sec : Nat} {w p bt u q : Nat → Nat} (h : Jc S N T R sec w p bt u q) (hR : R < 6) : Jc (up2 (up2 S 5 R 100) 6 2 (nI (R + 1))) (nAd N R) T (R + 1) sec w p bt u q := by
  have hT := h.T8
  refine ⟨⟨?_, ?_, hT, hR⟩, fun r' hr' => ?_, fun r' t' hr' ht' => ?_, ⟨?_, ?_, h.2.2.2.1.2.2⟩, fun t' ht' => ?_, fun t' ht' hTt => ?_⟩
  · rw [up2_ne _ _ (Or.inr (by omega)), up2_ne _ _ (Or.inl (by omega))]
    exact h.1.1
  · rw [up2_eq]
  · show _ = upd (fpre (N 5) R) R 100 r'
    rw [up2_ne _ _ (Or.inl (by omega))]
    by_cases e : r' = R
    · rw [e, up2_eq, pk_us]
    · rw [up2_ne _ _ (Or.inr e), pk_un e, fpre_at (by omega)]
      exact h.2.1 r' (by omega)
  · obtain ⟨e1, e2, e3⟩ := h.2.2.1 r' t' hr' ht'
    rw [up2_ne _ _ (Or.inl (by omega)), up2_ne _ _ (Or.inl (by omega)), nAd_ne (by omega)]
    exact ⟨e1, e2, fun z => e3 (by omega)⟩
  · rw [up2_ne _ _ (Or.inr (by omega)), up2_ne _ _ (Or.inl (by omega))]
    exact h.2.2.2.1.1
  · rw [nAd_ne (by omega)]
    exact h.2.2.2.1.2.1
  · have h1 : ∀ (z z' : Int32) (k j : Nat), k < 5 → up2 (up2 S 5 R z) 6 2 z' k j = S k j := fun z z' k j hk => by rw [up2_ne _ _ (Or.inl (by omega)), up2_ne _ _ (Or.inl (by omega))]
    unfold JT
    rw [h1 _ _ 0 t' (by omega), h1 _ _ 1 t' (by omega), h1 _ _ 2 t' (by omega), h1 _ _ 3 t' (by omega), h1 _ _ 4 t' (by omega), nAd_ne (by omega)]
    exact h.2.2.2.2.1 t' ht'
  · rw [up2_ne _ _ (Or.inl (by omega)), up2_ne _ _ (Or.inl (by omega)), up2_ne _ _ (Or.inl (by omega)), up2_ne _ _ (Or.inl (by omega))]
    exact h.2.2.2.2.2 t' ht' hTt
/-- Sim with one row more -/
def nLi (N : bS) (T : Nat) (F : Nat → Int32) : bS := fun k => if k = 20 + T then F else N k
theorem nLi_at {N : bS} {T : Nat} {F : Nat → Int32} : nLi N T F (20 + T) = F := if_pos rfl
theorem nLi_ne {N : bS} {T : Nat} {F : Nat → Int32} {k : Nat} (h : k ≠ 20 + T) : nLi N T F k = N k := if_neg h
theorem Jc.list {S N : bS} {T R sec : Nat} {w p bt u q : Nat → Nat} (h : Jc S N T R sec w p bt u q) (hT : T < 8) {w0 p0 b0 z : Nat} {v : Int32} {F : Nat → Int32} (hw : 1 ≤ w0 ∧ w0 ≤ 9) (hp : 2 ≤ p0 ∧ p0 ≤ 20) (hb : b0 < p0) (hv : v = nI z) (hz : 1 ≤ z ∧ z ≤ p0) (hm : (sec + z) % p0 = b0) (f0 : F 0 = nI w0) (f1 : F 1 = nI p0) (f2 : F 2 = nI b0) (f3 : F 3 = 0) (f4 : F 4 = 0) : Jc (up2 (up2 (up2 (up2 S 0 T (nI w0)) 1 T (nI p0)) 3 T v) 6 1 (nI (T + 1))) (nLi N T F) (T + 1) R sec (nf w T w0) (nf p T p0) (nf bt T b0) (nf u T z) (nf q T 0) := by
  have hR := h.R6
  subst hv
  refine ⟨⟨?_, ?_, hT, hR⟩, fun r' hr' => ?_, fun r' t' hr' ht' => ?_, ⟨?_, ?_, h.2.2.2.1.2.2⟩, fun t ht => ?_, fun t' ht' hTt => ?_⟩
  · rw [up2_eq]
  · rw [up2_ne _ _ (Or.inr (by omega)), up2_ne _ _ (Or.inl (by omega)), up2_ne _ _ (Or.inl (by omega)), up2_ne _ _ (Or.inl (by omega))]
    exact h.1.2.1
  · rw [up2_ne _ _ (Or.inl (by omega)), up2_ne _ _ (Or.inl (by omega)), up2_ne _ _ (Or.inl (by omega)), up2_ne _ _ (Or.inl (by omega)), nLi_ne (by omega)]
    exact h.2.1 r' hr'
  · rw [up2_ne _ _ (Or.inl (by omega)), up2_ne _ _ (Or.inl (by omega)), up2_ne _ _ (Or.inl (by omega)), up2_ne _ _ (Or.inl (by omega)), nLi_ne (by omega)]
    exact h.2.2.1 r' t' hr' ht'
  · rw [up2_ne _ _ (Or.inr (by omega)), up2_ne _ _ (Or.inl (by omega)), up2_ne _ _ (Or.inl (by omega)), up2_ne _ _ (Or.inl (by omega))]
    exact h.2.2.2.1.1
  · rw [nLi_ne (by omega)]
    exact h.2.2.2.1.2.1
  · unfold JT nf
    by_cases e : t = T
    · subst e
      rw [if_pos rfl, if_pos rfl, if_pos rfl, if_pos rfl, if_pos rfl, nLi_at]
      obtain ⟨z2, z4⟩ := h.2.2.2.2.2 t hT (Nat.le_refl t)
      refine ⟨⟨?_, ?_, ?_, ?_, ?_⟩, ⟨f0, f1, f2, f3⟩, hw, hp, hb, hz, by omega, hm⟩
      · rw [up2_ne _ _ (Or.inl (by omega)), up2_ne _ _ (Or.inl (by omega)), up2_ne _ _ (Or.inl (by omega)), up2_eq]
      · rw [up2_ne _ _ (Or.inl (by omega)), up2_ne _ _ (Or.inl (by omega)), up2_eq]
      · rw [up2_ne _ _ (Or.inl (by omega)), up2_ne _ _ (Or.inl (by omega)), up2_ne _ _ (Or.inl (by omega)), up2_ne _ _ (Or.inl (by omega)), z2]
        rfl
      · rw [up2_ne _ _ (Or.inl (by omega)), up2_eq]
      · rw [up2_ne _ _ (Or.inl (by omega)), up2_ne _ _ (Or.inl (by omega)), up2_ne _ _ (Or.inl (by omega)), up2_ne _ _ (Or.inl (by omega)), z4, f4]
    · rw [if_neg e, if_neg e, if_neg e, if_neg e, if_neg e, nLi_ne (by omega)]
      obtain ⟨⟨e0, e1, e2, e3, e4⟩, k2⟩ := h.2.2.2.2.1 t (by omega)
      refine ⟨⟨?_, ?_, ?_, ?_, ?_⟩, k2⟩
      · rw [up2_ne _ _ (Or.inl (by omega)), up2_ne _ _ (Or.inl (by omega)), up2_ne _ _ (Or.inl (by omega)), up2_ne _ _ (Or.inr e), e0]
      · rw [up2_ne _ _ (Or.inl (by omega)), up2_ne _ _ (Or.inl (by omega)), up2_ne _ _ (Or.inr e), up2_ne _ _ (Or.inl (by omega)), e1]
      · rw [up2_ne _ _ (Or.inl (by omega)), up2_ne _ _ (Or.inl (by omega)), up2_ne _ _ (Or.inl (by omega)), up2_ne _ _ (Or.inl (by omega)), e2]
      · rw [up2_ne _ _ (Or.inl (by omega)), up2_ne _ _ (Or.inr e), up2_ne _ _ (Or.inl (by omega)), up2_ne _ _ (Or.inl (by omega)), e3]
      · rw [up2_ne _ _ (Or.inl (by omega)), up2_ne _ _ (Or.inl (by omega)), up2_ne _ _ (Or.inl (by omega)), up2_ne _ _ (Or.inl (by omega)), e4]
  · rw [up2_ne _ _ (Or.inl (by omega)), up2_ne _ _ (Or.inl (by omega)), up2_ne _ _ (Or.inl (by omega)), up2_ne _ _ (Or.inl (by omega)), up2_ne _ _ (Or.inl (by omega)), up2_ne _ _ (Or.inl (by omega)), up2_ne _ _ (Or.inl (by omega)), up2_ne _ _ (Or.inl (by omega))]
    exact h.2.2.2.2.2 t' ht' (by omega)
end
section
/-! ===== the quotient of meanPrice is a number, and equal to itself ===== -/
def mnq (t x : Nat) : Bool := decide (FP.ddiv (FP.i2d (nI x)) (FP.i2d (nI (t + 1))) &&& 0x7fffffffffffffff ≤ 0x7ff0000000000000) && decide (FP.dcmp (FP.ddiv (FP.i2d (nI x)) (FP.i2d (nI (t + 1)))) (FP.ddiv (FP.i2d (nI x)) (FP.i2d (nI (t + 1)))) = some Ordering.eq)
set_option maxRecDepth 100000 in
theorem mnq_all : (List.range 8).all (fun t => (List.range 1441).all (fun x => mnq t x)) = true := by decide +kernel
theorem mean_ok {t x : Nat} (ht : t < 8) (hx : x ≤ 1440) : vf_n64 (FP.ddiv (FP.i2d (nI x)) (FP.i2d (nI (t + 1)))) ∧ FP.dcmp (FP.ddiv (FP.i2d (nI x)) (FP.i2d (nI (t + 1)))) (FP.ddiv (FP.i2d (nI x)) (FP.i2d (nI (t + 1)))) = some Ordering.eq := by
  have h1 := List.all_eq_true.mp mnq_all t (List.mem_range.mpr ht)
  have h2 := List.all_eq_true.mp h1 x (List.mem_range.mpr (by omega))
  have h3 := (Bool.and_eq_true _ _).mp h2
  have h4 := of_decide_eq_true h3.1
  exact ⟨h4, of_decide_eq_true h3.2⟩
theorem d00 : FP.dcmp FP.dconst0 FP.dconst0 = some Ordering.eq := by decide +kernel
theorem Jc.dvb {S N : bS} {T R sec : Nat} {w p bt u q : Nat → Nat} (h : Jc S N T R sec w p bt u q) {t : Nat} (ht : t < 8) : 0 ≤ (bDv S R t).toInt ∧ (bDv S R t).toInt ≤ 54 := by
  have hR := h.R6
  have hs := sma_nn (f := fun r => mx 0 (-(S (7 + r) t))) (c := 9) R (fun i hi => by
    obtain ⟨e, hb, -⟩ := h.2.2.1 i t (by omega) ht
    rw [e]
    exact dv_term hb.1 hb.2) (by omega)
  unfold bDv
  omega
theorem Jc.prb {S N : bS} {T R sec : Nat} {w p bt u q : Nat → Nat} (h : Jc S N T R sec w p bt u q) {t : Nat} (ht : t < T) : 0 ≤ (bPr S R t).toInt ∧ (bPr S R t).toInt ≤ 180 := by
  have hT := h.T8
  obtain ⟨⟨e0, -, e2, -, -⟩, -, hw, hp, -, hu, hq, -⟩ := h.2.2.2.2.1 t ht
  have hd := h.dvb (t := t) (by omega)
  unfold bPr pr
  rw [e0, e2]
  exact pr_bd (by omega) hw.2 hd.1 hd.2
theorem Jc.mn {S N : bS} {T R sec : Nat} {w p bt u q : Nat → Nat} (h : Jc S N T R sec w p bt u q) (hT : 1 ≤ T) : vf_n64 (FP.ddiv (FP.i2d (sma 0 (bPr S R) T)) (FP.i2d (nI T))) ∧ FP.dcmp (FP.ddiv (FP.i2d (sma 0 (bPr S R) T)) (FP.i2d (nI T))) (FP.ddiv (FP.i2d (sma 0 (bPr S R) T)) (FP.i2d (nI T))) = some Ordering.eq := by
  have h8 := h.T8
  have hs := sma_nn (f := bPr S R) (c := 180) T (fun i hi => h.prb hi) (by omega)
  obtain ⟨x, hx⟩ : ∃ x : Nat, sma 0 (bPr S R) T = nI x ∧ x ≤ 1440 := by
    refine ⟨(sma 0 (bPr S R) T).toInt.toNat, ?_, by omega⟩
    apply Int32.toInt_inj.mp
    rw [nI_toInt (by omega)]
    omega
  rw [hx.1, show T = (T - 1) + 1 by omega]
  exact mean_ok (by omega) hx.2
theorem Jc.sp {S N : bS} {T R sec : Nat} {w p bt u q : Nat → Nat} (h : Jc S N T R sec w p bt u q) : sma 0 (bPr S R) T = sma 0 (sPr N) T := sma_congr rfl T (fun t ht => h.prc ht)
end
section
set_option maxHeartbeats 8000000 in
set_option maxRecDepth 100000 in
theorem c_X1_isSame (l : Launch) (D : va_G) (cI cQ : ClassId) (a b : Nat → Nat) {S N : bS} {T R sec : Nat} {w9 p9 bt9 u9 q9 : Nat → Nat} (hJ : Jc S N T R sec w9 p9 bt9 u9 q9) : Rd l yX1_isSame cX1_isSame 13 (some .boolean) ({ frames := 6, cells := 0, slots := 0, locals := 140 } : Room) (fun U H => BW D cI cQ a S U H ∧ SW D cI cQ b N T R U H) [.ref (b 0), .ref (a 13)] (.int 1) := by
  refine Rd.of (by decide) (Nat.le_of_ble_eq_true rfl) ?_
  intro p e s m args below meth c ls hC hr hlocks hW hl
  obtain ⟨hB, hN⟩ := hW
  have hx := hC.1
  have hb := hC.2.1
  have hT8 := hJ.T8
  have hR6 := hJ.R6
  have hP := hJ.hP
  have hl : lv_has ls 13 [(0, .ref (b 0)), (1, .ref (a 13))] := hl
  refine lv_aload_n hx hb dX1_isSame_0 rfl (lv_at hl 0 rfl) ?_
  refine gX1_towers hC hN dX1_isSame_1 ?_
  refine nS_towers hC hN dX1_isSame_4 ?_
  refine lv_istore_n (lv' := [(2, .int (nI T)), (0, .ref (b 0)), (1, .ref (a 13))]) hx hb dX1_isSame_5 rfl hl (by decide) rfl (fun ls hl => ?_)
  refine lv_aload_n hx hb dX1_isSame_6 rfl (lv_at hl 1 rfl) ?_
  refine gX1_purses hC hN dX1_isSame_7 ?_
  refine nS_purses hC hN dX1_isSame_10 ?_
  refine lv_istore_n (lv' := [(3, .int (nI R)), (2, .int (nI T)), (0, .ref (b 0)), (1, .ref (a 13))]) hx hb dX1_isSame_11 rfl hl (by decide) rfl (fun ls hl => ?_)
  refine lv_aload_n hx hb dX1_isSame_12 rfl (lv_at hl 3 rfl) ?_
  refine k1_X0_second hC (c_X0_second l D cI cQ a S hJ.1) hB rfl ⟨rfl, rfl⟩ ⟨Nat.le_of_ble_eq_true rfl, Nat.le_of_ble_eq_true rfl⟩ ⟨Nat.zero_le _, Nat.zero_le _⟩ hl.1 rfl (Nat.le_of_ble_eq_true rfl) dX1_isSame_13 ?_
  refine lv_aload_n hx hb dX1_isSame_16 rfl (lv_at hl 2 rfl) ?_
  refine gX1_second hC hN rfl dX1_isSame_17 ?_
  refine lv_icmp_ne (tgt := 39) hx hb dX1_isSame_20 (by decide) (fun c1 => ?_) (fun c1 => ?_)
  · exfalso; exact c1 (hJ.2.2.2.1.1.trans hJ.2.2.2.1.2.1.symm)
  · refine lv_aload_n hx hb dX1_isSame_23 rfl (lv_at hl 3 rfl) ?_
    refine k1_X0_towers hC (c_X0_towers l D cI cQ a S hJ.1) hB rfl ⟨rfl, rfl⟩ ⟨Nat.le_of_ble_eq_true rfl, Nat.le_of_ble_eq_true rfl⟩ ⟨Nat.zero_le _, Nat.zero_le _⟩ hl.1 rfl (Nat.le_of_ble_eq_true rfl) dX1_isSame_24 ?_
    refine lv_iload_n hx hb dX1_isSame_27 rfl (lv_at hl 1 rfl) ?_
    refine lv_icmp_ne (tgt := 39) hx hb dX1_isSame_28 (by decide) (fun c2 => ?_) (fun c2 => ?_)
    · refine lv_iconst (v := 0) hx hb dX1_isSame_39 (by decide) ?_
      exact rd_z hC hr hlocks (rfl) dX1_isSame_40 (by rfl)
    · refine lv_aload_n hx hb dX1_isSame_31 rfl (lv_at hl 3 rfl) ?_
      refine k1_X0_traders hC (c_X0_traders l D cI cQ a S hJ.1) hB rfl ⟨rfl, rfl⟩ ⟨Nat.le_of_ble_eq_true rfl, Nat.le_of_ble_eq_true rfl⟩ ⟨Nat.zero_le _, Nat.zero_le _⟩ hl.1 rfl (Nat.le_of_ble_eq_true rfl) dX1_isSame_32 ?_
      refine lv_iload_n hx hb dX1_isSame_35 rfl (lv_at hl 0 rfl) ?_
      refine lv_icmp_eq (tgt := 41) hx hb dX1_isSame_36 (by decide) (fun c3 => ?_) (fun c3 => ?_)
      · refine lv_iconst (v := -1) hx hb dX1_isSame_41 (by decide) ?_
        refine lv_istore (lv' := [(4, .int (-1)), (3, .int (nI R)), (2, .int (nI T)), (0, .ref (b 0)), (1, .ref (a 13))]) hx hb dX1_isSame_42 hl (by decide) rfl (fun ls hl => ?_)
        refine lv_iconst (v := -1) hx hb dX1_isSame_44 (by decide) ?_
        refine lv_istore (lv' := [(5, .int (-1)), (4, .int (-1)), (3, .int (nI R)), (2, .int (nI T)), (0, .ref (b 0)), (1, .ref (a 13))]) hx hb dX1_isSame_45 hl (by decide) rfl (fun ls hl => ?_)
        refine lv_iconst (v := 0) hx hb dX1_isSame_47 (by decide) ?_
        refine lv_istore (lv' := [(6, .int (0)), (5, .int (-1)), (4, .int (-1)), (3, .int (nI R)), (2, .int (nI T)), (0, .ref (b 0)), (1, .ref (a 13))]) hx hb dX1_isSame_48 hl (by decide) rfl (fun ls hl => ?_)
        refine lv_iconst (v := 0) hx hb dX1_isSame_50 (by decide) ?_
        refine lv_istore (lv' := [(7, .int (0)), (6, .int (0)), (5, .int (-1)), (4, .int (-1)), (3, .int (nI R)), (2, .int (nI T)), (0, .ref (b 0)), (1, .ref (a 13))]) hx hb dX1_isSame_51 hl (by decide) rfl (fun ls hl => ?_)
        refine loopU (P := fun i => ∀ ls : Array Slot, lv_has ls 13 [(7, .int (nI i)), (4, .int (oI (amx (sPr N) i))), (5, .int (oI (amn (sUn N) i))), (6, .int (sma 0 (sPr N) i)), (0, .ref (b 0)), (1, .ref (a 13)), (2, .int (nI T)), (3, .int (nI R))] → W p l e ({ frames := 6, cells := 0, slots := 0, locals := 140 } : Room) s m args below meth c s.heap [] 0 0 (MQ below (k2_QcV (.int 1)) args s 0 0 (fun _ => False)) (F0 m 53 ls [])) (T) ?_ ?_ 0 (by omega) ls (by first | exact lv_sub hl [0, 3, 2, 1, 6, 7, 5, 4] rfl | (simpa using lv_sub hl [0, 3, 2, 1, 6, 7, 5, 4] rfl))
        · intro ls hl
          refine lv_iload hx hb dX1_isSame_53 (lv_at hl 0 rfl) ?_
          refine lv_iload_n hx hb dX1_isSame_55 rfl (lv_at hl 6 rfl) ?_
          refine jge (i := T) (j := T) (tgt := 265) hC dX1_isSame_56 (by decide) rfl rfl (by omega) (by omega) (fun c4 => ?_) (fun c4 => ?_)
          · refine lv_iconst (v := -1) hx hb dX1_isSame_265 (by decide) ?_
            refine lv_istore (lv' := [(7, .int (-1)), (4, .int (oI (amx (sPr N) T))), (5, .int (oI (amn (sUn N) T))), (6, .int (sma 0 (sPr N) T)), (0, .ref (b 0)), (1, .ref (a 13)), (2, .int (nI T)), (3, .int (nI R))]) hx hb dX1_isSame_266 hl (by decide) rfl (fun ls hl => ?_)
            refine lv_iconst (v := 0) hx hb dX1_isSame_268 (by decide) ?_
            refine lv_istore (lv' := [(8, .int (0)), (7, .int (-1)), (4, .int (oI (amx (sPr N) T))), (5, .int (oI (amn (sUn N) T))), (6, .int (sma 0 (sPr N) T)), (0, .ref (b 0)), (1, .ref (a 13)), (2, .int (nI T)), (3, .int (nI R))]) hx hb dX1_isSame_269 hl (by decide) rfl (fun ls hl => ?_)
            refine lv_iconst (v := 0) hx hb dX1_isSame_271 (by decide) ?_
            refine lv_istore (lv' := [(9, .int (0)), (8, .int (0)), (7, .int (-1)), (4, .int (oI (amx (sPr N) T))), (5, .int (oI (amn (sUn N) T))), (6, .int (sma 0 (sPr N) T)), (0, .ref (b 0)), (1, .ref (a 13)), (2, .int (nI T)), (3, .int (nI R))]) hx hb dX1_isSame_272 hl (by decide) rfl (fun ls hl => ?_)
            refine loopU (P := fun r => ∀ ls : Array Slot, lv_has ls 13 [(9, .int (nI r)), (7, .int (oI (amx (sWo N T) r))), (8, .int (sma 0 (fun r => if 0 ≤ N 5 r then 0 else 1) r)), (4, .int (oI (amx (sPr N) T))), (5, .int (oI (amn (sUn N) T))), (6, .int (sma 0 (sPr N) T)), (0, .ref (b 0)), (1, .ref (a 13)), (2, .int (nI T)), (3, .int (nI R))] → W p l e ({ frames := 6, cells := 0, slots := 0, locals := 140 } : Room) s m args below meth c s.heap [] 0 0 (MQ below (k2_QcV (.int 1)) args s 0 0 (fun _ => False)) (F0 m 274 ls [])) (R) ?_ ?_ 0 (by omega) ls (by first | exact lv_sub hl [0, 2, 1, 3, 4, 5, 6, 7, 8, 9] rfl | (simpa using lv_sub hl [0, 2, 1, 3, 4, 5, 6, 7, 8, 9] rfl))
            · intro ls hl
              refine lv_iload hx hb dX1_isSame_274 (lv_at hl 0 rfl) ?_
              refine lv_iload_n hx hb dX1_isSame_276 rfl (lv_at hl 9 rfl) ?_
              refine jge (i := R) (j := R) (tgt := 438) hC dX1_isSame_277 (by decide) rfl rfl (by omega) (by omega) (fun c5 => ?_) (fun c5 => ?_)
              · refine lv_aload_n hx hb dX1_isSame_438 rfl (lv_at hl 7 rfl) ?_
                refine k1_X0_dearest hC (c_X0_dearest l D cI cQ a S hJ.1) hB rfl ⟨rfl, rfl⟩ ⟨Nat.le_of_ble_eq_true rfl, Nat.le_of_ble_eq_true rfl⟩ ⟨Nat.zero_le _, Nat.zero_le _⟩ hl.1 rfl (Nat.le_of_ble_eq_true rfl) dX1_isSame_439 ?_
                refine lv_iload hx hb dX1_isSame_442 (lv_at hl 3 rfl) ?_
                refine lv_icmp_ne (tgt := 500) hx hb dX1_isSame_444 (by decide) (fun c6 => ?_) (fun c6 => ?_)
                · exfalso; exact c6 (congrArg oI hJ.de)
                · refine lv_aload_n hx hb dX1_isSame_447 rfl (lv_at hl 7 rfl) ?_
                  refine k1_X0_nextToStrike hC (c_X0_nextToStrike l D cI cQ a S hJ.1) hB rfl ⟨rfl, rfl⟩ ⟨Nat.le_of_ble_eq_true rfl, Nat.le_of_ble_eq_true rfl⟩ ⟨Nat.zero_le _, Nat.zero_le _⟩ hl.1 rfl (Nat.le_of_ble_eq_true rfl) dX1_isSame_448 ?_
                  refine lv_iload hx hb dX1_isSame_451 (lv_at hl 4 rfl) ?_
                  refine lv_icmp_ne (tgt := 500) hx hb dX1_isSame_453 (by decide) (fun c7 => ?_) (fun c7 => ?_)
                  · exfalso; exact c7 (congrArg oI hJ.nx)
                  · refine lv_aload_n hx hb dX1_isSame_456 rfl (lv_at hl 7 rfl) ?_
                    refine k1_X0_richest hC (c_X0_richest l D cI cQ a S hJ.1) hB rfl ⟨rfl, rfl⟩ ⟨Nat.le_of_ble_eq_true rfl, Nat.le_of_ble_eq_true rfl⟩ ⟨Nat.zero_le _, Nat.zero_le _⟩ hl.1 rfl (Nat.le_of_ble_eq_true rfl) dX1_isSame_457 ?_
                    refine lv_iload hx hb dX1_isSame_460 (lv_at hl 1 rfl) ?_
                    refine lv_icmp_ne (tgt := 500) hx hb dX1_isSame_462 (by decide) (fun c8 => ?_) (fun c8 => ?_)
                    · exfalso; exact c8 (congrArg oI hJ.rc)
                    · refine lv_aload_n hx hb dX1_isSame_465 rfl (lv_at hl 7 rfl) ?_
                      refine k1_X0_inDebt hC (c_X0_inDebt l D cI cQ a S hJ.1) hB rfl ⟨rfl, rfl⟩ ⟨Nat.le_of_ble_eq_true rfl, Nat.le_of_ble_eq_true rfl⟩ ⟨Nat.zero_le _, Nat.zero_le _⟩ hl.1 rfl (Nat.le_of_ble_eq_true rfl) dX1_isSame_466 ?_
                      refine lv_iload hx hb dX1_isSame_469 (lv_at hl 2 rfl) ?_
                      refine lv_icmp_ne (tgt := 500) hx hb dX1_isSame_471 (by decide) (fun c9 => ?_) (fun c9 => ?_)
                      · exfalso; exact c9 hJ.ow
                      · refine lv_aload_n hx hb dX1_isSame_474 rfl (lv_at hl 7 rfl) ?_
                        refine k1_X0_meanPrice hC (c_X0_meanPrice l D cI cQ a S hJ.1 (fun h1 => (hJ.mn h1).1)) hB rfl ⟨rfl, rfl⟩ ⟨Nat.le_of_ble_eq_true rfl, Nat.le_of_ble_eq_true rfl⟩ ⟨Nat.zero_le _, Nat.zero_le _⟩ hl.1 rfl (Nat.le_of_ble_eq_true rfl) dX1_isSame_475 ?_
                        refine lv_iload_n hx hb dX1_isSame_478 rfl (lv_at hl 8 rfl) ?_
                        refine lv_if_ne (tgt := 486) hx hb dX1_isSame_479 (by decide) (fun c10 => ?_) (fun c10 => ?_)
                        · have hT1 : 1 ≤ T := Nat.pos_of_ne_zero (fun z => c10 (by rw [z]; rfl))
                          refine lv_iload hx hb dX1_isSame_486 (lv_at hl 5 rfl) ?_
                          refine lv_i2d hx hb dX1_isSame_488 ?_
                          refine lv_iload_n hx hb dX1_isSame_489 rfl (lv_at hl 8 rfl) ?_
                          refine lv_i2d hx hb dX1_isSame_490 ?_
                          refine lv_ddiv hx hb dX1_isSame_491 (by rw [← hJ.sp]; exact (hJ.mn hT1).1) ?_
                          refine lv_dcmp hx hb dX1_isSame_492 ?_
                          refine lv_if_ne (tgt := 500) hx hb dX1_isSame_493 (by decide) (fun c11 => ?_) (fun c11 => ?_)
                          · exfalso; exact c11 (by unfold bMe; rw [if_neg (by omega), ← hJ.sp, (hJ.mn hT1).2]; rfl)
                          · refine lv_iconst (v := 1) hx hb dX1_isSame_496 (by decide) ?_
                            refine lv_goto (tgt := 501) hx hb dX1_isSame_497 (by decide) ?_
                            exact rd_z hC hr hlocks (rfl) dX1_isSame_501 (by rfl)
                        · have hT0 : T = 0 := (nI_eq (a := T) (b := 0) (by omega) (by omega)).mp c10
                          refine lv_dconst0 hx hb dX1_isSame_482 ?_
                          refine lv_goto (tgt := 492) hx hb dX1_isSame_483 (by decide) ?_
                          refine lv_dcmp hx hb dX1_isSame_492 ?_
                          refine lv_if_ne (tgt := 500) hx hb dX1_isSame_493 (by decide) (fun c12 => ?_) (fun c12 => ?_)
                          · exfalso; exact c12 (by unfold bMe; rw [if_pos (by omega), d00]; rfl)
                          · refine lv_iconst (v := 1) hx hb dX1_isSame_496 (by decide) ?_
                            refine lv_goto (tgt := 501) hx hb dX1_isSame_497 (by decide) ?_
                            exact rd_z hC hr hlocks (rfl) dX1_isSame_501 (by rfl)
              · exfalso; omega
            · intro r hr rh ls hl
              refine lv_iload hx hb dX1_isSame_274 (lv_at hl 0 rfl) ?_
              refine lv_iload_n hx hb dX1_isSame_276 rfl (lv_at hl 9 rfl) ?_
              refine jge (i := r) (j := R) (tgt := 438) hC dX1_isSame_277 (by decide) rfl rfl (by omega) (by omega) (fun c13 => ?_) (fun c13 => ?_)
              · exfalso; omega
              · refine lv_iconst (v := 0) hx hb dX1_isSame_280 (by decide) ?_
                refine lv_istore (lv' := [(10, .int (0)), (9, .int (nI r)), (7, .int (oI (amx (sWo N T) r))), (8, .int (sma 0 (fun r => if 0 ≤ N 5 r then 0 else 1) r)), (4, .int (oI (amx (sPr N) T))), (5, .int (oI (amn (sUn N) T))), (6, .int (sma 0 (sPr N) T)), (0, .ref (b 0)), (1, .ref (a 13)), (2, .int (nI T)), (3, .int (nI R))]) hx hb dX1_isSame_281 hl (by decide) rfl (fun ls hl => ?_)
                refine lv_iconst (v := 0) hx hb dX1_isSame_283 (by decide) ?_
                refine lv_istore (lv' := [(11, .int (0)), (10, .int (0)), (9, .int (nI r)), (7, .int (oI (amx (sWo N T) r))), (8, .int (sma 0 (fun r => if 0 ≤ N 5 r then 0 else 1) r)), (4, .int (oI (amx (sPr N) T))), (5, .int (oI (amn (sUn N) T))), (6, .int (sma 0 (sPr N) T)), (0, .ref (b 0)), (1, .ref (a 13)), (2, .int (nI T)), (3, .int (nI R))]) hx hb dX1_isSame_284 hl (by decide) rfl (fun ls hl => ?_)
                refine loopU (P := fun j => ∀ ls : Array Slot, lv_has ls 13 [(11, .int (nI j)), (10, .int (sma 0 (fun t => if 0 ≤ N (7 + r) t then 0 else 1) j)), (9, .int (nI r)), (7, .int (oI (amx (sWo N T) r))), (8, .int (sma 0 (fun r => if 0 ≤ N 5 r then 0 else 1) r)), (4, .int (oI (amx (sPr N) T))), (5, .int (oI (amn (sUn N) T))), (6, .int (sma 0 (sPr N) T)), (0, .ref (b 0)), (1, .ref (a 13)), (2, .int (nI T)), (3, .int (nI R))] → W p l e ({ frames := 6, cells := 0, slots := 0, locals := 140 } : Room) s m args below meth c s.heap [] 0 0 (MQ below (k2_QcV (.int 1)) args s 0 0 (fun _ => False)) (F0 m 286 ls [])) (T) ?_ ?_ 0 (by omega) ls (by first | exact lv_sub hl [0, 1, 2, 3, 4, 5, 6, 7, 8, 9, 10, 11] rfl | (simpa using lv_sub hl [0, 1, 2, 3, 4, 5, 6, 7, 8, 9, 10, 11] rfl))
                · intro ls hl
                  refine lv_iload hx hb dX1_isSame_286 (lv_at hl 0 rfl) ?_
                  refine lv_iload_n hx hb dX1_isSame_288 rfl (lv_at hl 10 rfl) ?_
                  refine jge (i := T) (j := T) (tgt := 344) hC dX1_isSame_289 (by decide) rfl rfl (by omega) (by omega) (fun c14 => ?_) (fun c14 => ?_)
                  · refine lv_iload hx hb dX1_isSame_344 (lv_at hl 4 rfl) ?_
                    refine lv_aload_n hx hb dX1_isSame_346 rfl (lv_at hl 8 rfl) ?_
                    refine gX1_purses hC hN dX1_isSame_347 ?_
                    refine lv_iload hx hb dX1_isSame_350 (lv_at hl 2 rfl) ?_
                    refine lS_pur (r) hC hN rfl (by omega) (by omega) rfl dX1_isSame_352 ?_
                    refine lv_if_ge (tgt := 360) hx hb dX1_isSame_353 (by decide) (fun c15 => ?_) (fun c15 => ?_)
                    · refine lv_iconst (v := 0) hx hb dX1_isSame_360 (by decide) ?_
                      refine lv_iadd hx hb dX1_isSame_361 ?_
                      refine lv_istore (lv' := [(8, .int ((sma 0 (fun r => if 0 ≤ N 5 r then 0 else 1) r) + 0)), (11, .int (nI T)), (10, .int (sma 0 (fun t => if 0 ≤ N (7 + r) t then 0 else 1) T)), (9, .int (nI r)), (7, .int (oI (amx (sWo N T) r))), (4, .int (oI (amx (sPr N) T))), (5, .int (oI (amn (sUn N) T))), (6, .int (sma 0 (sPr N) T)), (0, .ref (b 0)), (1, .ref (a 13)), (2, .int (nI T)), (3, .int (nI R))]) hx hb dX1_isSame_362 hl (by decide) rfl (fun ls hl => ?_)
                      rcases hq7 : amx (sWo N T) r with _ | b7
                      · rw [hq7] at hl
                        have hl : lv_has ls 13 [(8, .int ((sma 0 (fun r => if 0 ≤ N 5 r then 0 else 1) r) + 0)), (11, .int (nI T)), (10, .int (sma 0 (fun t => if 0 ≤ N (7 + r) t then 0 else 1) T)), (9, .int (nI r)), (7, .int (-1)), (4, .int (oI (amx (sPr N) T))), (5, .int (oI (amn (sUn N) T))), (6, .int (sma 0 (sPr N) T)), (0, .ref (b 0)), (1, .ref (a 13)), (2, .int (nI T)), (3, .int (nI R))] := hl
                        refine lv_iload hx hb dX1_isSame_364 (lv_at hl 4 rfl) ?_
                        refine lv_if_lt (tgt := 384) hx hb dX1_isSame_366 (by decide) (fun c16 => ?_) (fun c16 => ?_)
                        · refine lv_iload hx hb dX1_isSame_384 (lv_at hl 3 rfl) ?_
                          refine lv_istore (lv' := [(7, .int (nI r)), (8, .int ((sma 0 (fun r => if 0 ≤ N 5 r then 0 else 1) r) + 0)), (11, .int (nI T)), (10, .int (sma 0 (fun t => if 0 ≤ N (7 + r) t then 0 else 1) T)), (9, .int (nI r)), (4, .int (oI (amx (sPr N) T))), (5, .int (oI (amn (sUn N) T))), (6, .int (sma 0 (sPr N) T)), (0, .ref (b 0)), (1, .ref (a 13)), (2, .int (nI T)), (3, .int (nI R))]) hx hb dX1_isSame_386 hl (by decide) rfl (fun ls hl => ?_)
                          refine lv_aload_n hx hb dX1_isSame_388 rfl (lv_at hl 9 rfl) ?_
                          refine lv_iload hx hb dX1_isSame_389 (lv_at hl 4 rfl) ?_
                          refine k1_X0_purseOf hC (c_X0_purseOf l D cI cQ a S hJ.1 (r := r) (by omega)) hB rfl ⟨rfl, rfl⟩ ⟨Nat.le_of_ble_eq_true rfl, Nat.le_of_ble_eq_true rfl⟩ ⟨Nat.zero_le _, Nat.zero_le _⟩ hl.1 rfl (Nat.le_of_ble_eq_true rfl) dX1_isSame_391 ?_
                          refine lv_aload_n hx hb dX1_isSame_394 rfl (lv_at hl 8 rfl) ?_
                          refine gX1_purses hC hN dX1_isSame_395 ?_
                          refine lv_iload hx hb dX1_isSame_398 (lv_at hl 4 rfl) ?_
                          refine lS_pur (r) hC hN rfl (by omega) (by omega) rfl dX1_isSame_400 ?_
                          refine lv_icmp_ne (tgt := 430) hx hb dX1_isSame_401 (by decide) (fun c17 => ?_) (fun c17 => ?_)
                          · exfalso; exact c17 (hJ.2.1 r hr)
                          · refine lv_aload_n hx hb dX1_isSame_404 rfl (lv_at hl 9 rfl) ?_
                            refine lv_iload hx hb dX1_isSame_405 (lv_at hl 4 rfl) ?_
                            refine k1_X0_worthOf hC (c_X0_worthOf l D cI cQ a S hJ.1 (r := r) (by omega)) hB rfl ⟨rfl, rfl⟩ ⟨Nat.le_of_ble_eq_true rfl, Nat.le_of_ble_eq_true rfl⟩ ⟨Nat.zero_le _, Nat.zero_le _⟩ hl.1 rfl (Nat.le_of_ble_eq_true rfl) dX1_isSame_407 ?_
                            refine lv_aload_n hx hb dX1_isSame_410 rfl (lv_at hl 8 rfl) ?_
                            refine lv_iload hx hb dX1_isSame_411 (lv_at hl 4 rfl) ?_
                            refine k1_X1_worth hC (c_X1_worth l D cI cQ b N hT8 hR6 (r := r) (by omega)) hN rfl ⟨rfl, rfl⟩ ⟨Nat.le_of_ble_eq_true rfl, Nat.le_of_ble_eq_true rfl⟩ ⟨Nat.zero_le _, Nat.zero_le _⟩ hl.1 rfl (Nat.le_of_ble_eq_true rfl) dX1_isSame_413 ?_
                            refine lv_icmp_ne (tgt := 430) hx hb dX1_isSame_416 (by decide) (fun c18 => ?_) (fun c18 => ?_)
                            · exfalso; exact c18 (hJ.wo hr)
                            · refine lv_aload_n hx hb dX1_isSame_419 rfl (lv_at hl 9 rfl) ?_
                              refine lv_iload hx hb dX1_isSame_420 (lv_at hl 4 rfl) ?_
                              refine k1_X0_shortsOf hC (c_X0_shortsOf l D cI cQ a S hJ.1 (r := r) (by omega)) hB rfl ⟨rfl, rfl⟩ ⟨Nat.le_of_ble_eq_true rfl, Nat.le_of_ble_eq_true rfl⟩ ⟨Nat.zero_le _, Nat.zero_le _⟩ hl.1 rfl (Nat.le_of_ble_eq_true rfl) dX1_isSame_422 ?_
                              refine lv_iload hx hb dX1_isSame_425 (lv_at hl 3 rfl) ?_
                              refine lv_icmp_eq (tgt := 432) hx hb dX1_isSame_427 (by decide) (fun c19 => ?_) (fun c19 => ?_)
                              · refine lv_iinc (v := nI (r + 1)) (lv' := [(9, .int (nI (r + 1))), (7, .int (nI r)), (8, .int ((sma 0 (fun r => if 0 ≤ N 5 r then 0 else 1) r) + 0)), (11, .int (nI T)), (10, .int (sma 0 (fun t => if 0 ≤ N (7 + r) t then 0 else 1) T)), (4, .int (oI (amx (sPr N) T))), (5, .int (oI (amn (sUn N) T))), (6, .int (sma 0 (sPr N) T)), (0, .ref (b 0)), (1, .ref (a 13)), (2, .int (nI T)), (3, .int (nI R))]) hx hb dX1_isSame_432 hl (k := 4) rfl (ninc r) (by decide) rfl (fun ls hl => ?_)
                                refine lv_goto (tgt := 274) hx hb dX1_isSame_435 (by decide) ?_
                                have e20 : oI (amx (sWo N T) (r + 1)) = nI r := by rw [amx_none hq7] <;> rfl
                                have e21 : sma 0 (fun r => if 0 ≤ N 5 r then 0 else 1) (r + 1) = (sma 0 (fun r => if 0 ≤ N 5 r then 0 else 1) r) + 0 := by show _ + (if _ then _ else _) = _; rw [if_pos c15] <;> rfl
                                exact rh ls (by rw [e20, e21]; exact lv_sub hl [0, 1, 2, 5, 6, 7, 8, 9, 10, 11] rfl)
                              · exfalso; exact c19 (hJ.sh hr)
                        · exfalso; revert c16; decide
                      · rw [hq7] at hl
                        have hl : lv_has ls 13 [(8, .int ((sma 0 (fun r => if 0 ≤ N 5 r then 0 else 1) r) + 0)), (11, .int (nI T)), (10, .int (sma 0 (fun t => if 0 ≤ N (7 + r) t then 0 else 1) T)), (9, .int (nI r)), (7, .int (nI b7)), (4, .int (oI (amx (sPr N) T))), (5, .int (oI (amn (sUn N) T))), (6, .int (sma 0 (sPr N) T)), (0, .ref (b 0)), (1, .ref (a 13)), (2, .int (nI T)), (3, .int (nI R))] := hl
                        have hb7 := amx_lt r hq7
                        refine lv_iload hx hb dX1_isSame_364 (lv_at hl 4 rfl) ?_
                        refine lv_if_lt (tgt := 384) hx hb dX1_isSame_366 (by decide) (fun c22 => ?_) (fun c22 => ?_)
                        · exfalso; exact absurd c22 (nI_pos (by omega))
                        · refine lv_aload_n hx hb dX1_isSame_369 rfl (lv_at hl 8 rfl) ?_
                          refine lv_iload hx hb dX1_isSame_370 (lv_at hl 3 rfl) ?_
                          refine k1_X1_worth hC (c_X1_worth l D cI cQ b N hT8 hR6 (r := r) (by omega)) hN rfl ⟨rfl, rfl⟩ ⟨Nat.le_of_ble_eq_true rfl, Nat.le_of_ble_eq_true rfl⟩ ⟨Nat.zero_le _, Nat.zero_le _⟩ hl.1 rfl (Nat.le_of_ble_eq_true rfl) dX1_isSame_372 ?_
                          refine lv_aload_n hx hb dX1_isSame_375 rfl (lv_at hl 8 rfl) ?_
                          refine lv_iload hx hb dX1_isSame_376 (lv_at hl 4 rfl) ?_
                          refine k1_X1_worth hC (c_X1_worth l D cI cQ b N hT8 hR6 (r := b7) (by omega)) hN rfl ⟨rfl, rfl⟩ ⟨Nat.le_of_ble_eq_true rfl, Nat.le_of_ble_eq_true rfl⟩ ⟨Nat.zero_le _, Nat.zero_le _⟩ hl.1 rfl (Nat.le_of_ble_eq_true rfl) dX1_isSame_378 ?_
                          refine lv_icmp_le (tgt := 388) hx hb dX1_isSame_381 (by decide) (fun c23 => ?_) (fun c23 => ?_)
                          · refine lv_aload_n hx hb dX1_isSame_388 rfl (lv_at hl 9 rfl) ?_
                            refine lv_iload hx hb dX1_isSame_389 (lv_at hl 3 rfl) ?_
                            refine k1_X0_purseOf hC (c_X0_purseOf l D cI cQ a S hJ.1 (r := r) (by omega)) hB rfl ⟨rfl, rfl⟩ ⟨Nat.le_of_ble_eq_true rfl, Nat.le_of_ble_eq_true rfl⟩ ⟨Nat.zero_le _, Nat.zero_le _⟩ hl.1 rfl (Nat.le_of_ble_eq_true rfl) dX1_isSame_391 ?_
                            refine lv_aload_n hx hb dX1_isSame_394 rfl (lv_at hl 8 rfl) ?_
                            refine gX1_purses hC hN dX1_isSame_395 ?_
                            refine lv_iload hx hb dX1_isSame_398 (lv_at hl 3 rfl) ?_
                            refine lS_pur (r) hC hN rfl (by omega) (by omega) rfl dX1_isSame_400 ?_
                            refine lv_icmp_ne (tgt := 430) hx hb dX1_isSame_401 (by decide) (fun c24 => ?_) (fun c24 => ?_)
                            · exfalso; exact c24 (hJ.2.1 r hr)
                            · refine lv_aload_n hx hb dX1_isSame_404 rfl (lv_at hl 9 rfl) ?_
                              refine lv_iload hx hb dX1_isSame_405 (lv_at hl 3 rfl) ?_
                              refine k1_X0_worthOf hC (c_X0_worthOf l D cI cQ a S hJ.1 (r := r) (by omega)) hB rfl ⟨rfl, rfl⟩ ⟨Nat.le_of_ble_eq_true rfl, Nat.le_of_ble_eq_true rfl⟩ ⟨Nat.zero_le _, Nat.zero_le _⟩ hl.1 rfl (Nat.le_of_ble_eq_true rfl) dX1_isSame_407 ?_
                              refine lv_aload_n hx hb dX1_isSame_410 rfl (lv_at hl 8 rfl) ?_
                              refine lv_iload hx hb dX1_isSame_411 (lv_at hl 3 rfl) ?_
                              refine k1_X1_worth hC (c_X1_worth l D cI cQ b N hT8 hR6 (r := r) (by omega)) hN rfl ⟨rfl, rfl⟩ ⟨Nat.le_of_ble_eq_true rfl, Nat.le_of_ble_eq_true rfl⟩ ⟨Nat.zero_le _, Nat.zero_le _⟩ hl.1 rfl (Nat.le_of_ble_eq_true rfl) dX1_isSame_413 ?_
                              refine lv_icmp_ne (tgt := 430) hx hb dX1_isSame_416 (by decide) (fun c25 => ?_) (fun c25 => ?_)
                              · exfalso; exact c25 (hJ.wo hr)
                              · refine lv_aload_n hx hb dX1_isSame_419 rfl (lv_at hl 9 rfl) ?_
                                refine lv_iload hx hb dX1_isSame_420 (lv_at hl 3 rfl) ?_
                                refine k1_X0_shortsOf hC (c_X0_shortsOf l D cI cQ a S hJ.1 (r := r) (by omega)) hB rfl ⟨rfl, rfl⟩ ⟨Nat.le_of_ble_eq_true rfl, Nat.le_of_ble_eq_true rfl⟩ ⟨Nat.zero_le _, Nat.zero_le _⟩ hl.1 rfl (Nat.le_of_ble_eq_true rfl) dX1_isSame_422 ?_
                                refine lv_iload hx hb dX1_isSame_425 (lv_at hl 2 rfl) ?_
                                refine lv_icmp_eq (tgt := 432) hx hb dX1_isSame_427 (by decide) (fun c26 => ?_) (fun c26 => ?_)
                                · refine lv_iinc (v := nI (r + 1)) (lv' := [(9, .int (nI (r + 1))), (8, .int ((sma 0 (fun r => if 0 ≤ N 5 r then 0 else 1) r) + 0)), (11, .int (nI T)), (10, .int (sma 0 (fun t => if 0 ≤ N (7 + r) t then 0 else 1) T)), (7, .int (nI b7)), (4, .int (oI (amx (sPr N) T))), (5, .int (oI (amn (sUn N) T))), (6, .int (sma 0 (sPr N) T)), (0, .ref (b 0)), (1, .ref (a 13)), (2, .int (nI T)), (3, .int (nI R))]) hx hb dX1_isSame_432 hl (k := 3) rfl (ninc r) (by decide) rfl (fun ls hl => ?_)
                                  refine lv_goto (tgt := 274) hx hb dX1_isSame_435 (by decide) ?_
                                  have e27 : oI (amx (sWo N T) (r + 1)) = nI b7 := by rw [amx_keep hq7 c23] <;> rfl
                                  have e28 : sma 0 (fun r => if 0 ≤ N 5 r then 0 else 1) (r + 1) = (sma 0 (fun r => if 0 ≤ N 5 r then 0 else 1) r) + 0 := by show _ + (if _ then _ else _) = _; rw [if_pos c15] <;> rfl
                                  exact rh ls (by rw [e27, e28]; exact lv_sub hl [0, 4, 1, 5, 6, 7, 8, 9, 10, 11] rfl)
                                · exfalso; exact c26 (hJ.sh hr)
                          · refine lv_iload hx hb dX1_isSame_384 (lv_at hl 3 rfl) ?_
                            refine lv_istore (lv' := [(7, .int (nI r)), (8, .int ((sma 0 (fun r => if 0 ≤ N 5 r then 0 else 1) r) + 0)), (11, .int (nI T)), (10, .int (sma 0 (fun t => if 0 ≤ N (7 + r) t then 0 else 1) T)), (9, .int (nI r)), (4, .int (oI (amx (sPr N) T))), (5, .int (oI (amn (sUn N) T))), (6, .int (sma 0 (sPr N) T)), (0, .ref (b 0)), (1, .ref (a 13)), (2, .int (nI T)), (3, .int (nI R))]) hx hb dX1_isSame_386 hl (by decide) rfl (fun ls hl => ?_)
                            refine lv_aload_n hx hb dX1_isSame_388 rfl (lv_at hl 9 rfl) ?_
                            refine lv_iload hx hb dX1_isSame_389 (lv_at hl 4 rfl) ?_
                            refine k1_X0_purseOf hC (c_X0_purseOf l D cI cQ a S hJ.1 (r := r) (by omega)) hB rfl ⟨rfl, rfl⟩ ⟨Nat.le_of_ble_eq_true rfl, Nat.le_of_ble_eq_true rfl⟩ ⟨Nat.zero_le _, Nat.zero_le _⟩ hl.1 rfl (Nat.le_of_ble_eq_true rfl) dX1_isSame_391 ?_
                            refine lv_aload_n hx hb dX1_isSame_394 rfl (lv_at hl 8 rfl) ?_
                            refine gX1_purses hC hN dX1_isSame_395 ?_
                            refine lv_iload hx hb dX1_isSame_398 (lv_at hl 4 rfl) ?_
                            refine lS_pur (r) hC hN rfl (by omega) (by omega) rfl dX1_isSame_400 ?_
                            refine lv_icmp_ne (tgt := 430) hx hb dX1_isSame_401 (by decide) (fun c29 => ?_) (fun c29 => ?_)
                            · exfalso; exact c29 (hJ.2.1 r hr)
                            · refine lv_aload_n hx hb dX1_isSame_404 rfl (lv_at hl 9 rfl) ?_
                              refine lv_iload hx hb dX1_isSame_405 (lv_at hl 4 rfl) ?_
                              refine k1_X0_worthOf hC (c_X0_worthOf l D cI cQ a S hJ.1 (r := r) (by omega)) hB rfl ⟨rfl, rfl⟩ ⟨Nat.le_of_ble_eq_true rfl, Nat.le_of_ble_eq_true rfl⟩ ⟨Nat.zero_le _, Nat.zero_le _⟩ hl.1 rfl (Nat.le_of_ble_eq_true rfl) dX1_isSame_407 ?_
                              refine lv_aload_n hx hb dX1_isSame_410 rfl (lv_at hl 8 rfl) ?_
                              refine lv_iload hx hb dX1_isSame_411 (lv_at hl 4 rfl) ?_
                              refine k1_X1_worth hC (c_X1_worth l D cI cQ b N hT8 hR6 (r := r) (by omega)) hN rfl ⟨rfl, rfl⟩ ⟨Nat.le_of_ble_eq_true rfl, Nat.le_of_ble_eq_true rfl⟩ ⟨Nat.zero_le _, Nat.zero_le _⟩ hl.1 rfl (Nat.le_of_ble_eq_true rfl) dX1_isSame_413 ?_
                              refine lv_icmp_ne (tgt := 430) hx hb dX1_isSame_416 (by decide) (fun c30 => ?_) (fun c30 => ?_)
                              · exfalso; exact c30 (hJ.wo hr)
                              · refine lv_aload_n hx hb dX1_isSame_419 rfl (lv_at hl 9 rfl) ?_
                                refine lv_iload hx hb dX1_isSame_420 (lv_at hl 4 rfl) ?_
                                refine k1_X0_shortsOf hC (c_X0_shortsOf l D cI cQ a S hJ.1 (r := r) (by omega)) hB rfl ⟨rfl, rfl⟩ ⟨Nat.le_of_ble_eq_true rfl, Nat.le_of_ble_eq_true rfl⟩ ⟨Nat.zero_le _, Nat.zero_le _⟩ hl.1 rfl (Nat.le_of_ble_eq_true rfl) dX1_isSame_422 ?_
                                refine lv_iload hx hb dX1_isSame_425 (lv_at hl 3 rfl) ?_
                                refine lv_icmp_eq (tgt := 432) hx hb dX1_isSame_427 (by decide) (fun c31 => ?_) (fun c31 => ?_)
                                · refine lv_iinc (v := nI (r + 1)) (lv' := [(9, .int (nI (r + 1))), (7, .int (nI r)), (8, .int ((sma 0 (fun r => if 0 ≤ N 5 r then 0 else 1) r) + 0)), (11, .int (nI T)), (10, .int (sma 0 (fun t => if 0 ≤ N (7 + r) t then 0 else 1) T)), (4, .int (oI (amx (sPr N) T))), (5, .int (oI (amn (sUn N) T))), (6, .int (sma 0 (sPr N) T)), (0, .ref (b 0)), (1, .ref (a 13)), (2, .int (nI T)), (3, .int (nI R))]) hx hb dX1_isSame_432 hl (k := 4) rfl (ninc r) (by decide) rfl (fun ls hl => ?_)
                                  refine lv_goto (tgt := 274) hx hb dX1_isSame_435 (by decide) ?_
                                  have e32 : oI (amx (sWo N T) (r + 1)) = nI r := by rw [amx_new hq7 c23] <;> rfl
                                  have e33 : sma 0 (fun r => if 0 ≤ N 5 r then 0 else 1) (r + 1) = (sma 0 (fun r => if 0 ≤ N 5 r then 0 else 1) r) + 0 := by show _ + (if _ then _ else _) = _; rw [if_pos c15] <;> rfl
                                  exact rh ls (by rw [e32, e33]; exact lv_sub hl [0, 1, 2, 5, 6, 7, 8, 9, 10, 11] rfl)
                                · exfalso; exact c31 (hJ.sh hr)
                    · refine lv_iconst (v := 1) hx hb dX1_isSame_356 (by decide) ?_
                      refine lv_goto (tgt := 361) hx hb dX1_isSame_357 (by decide) ?_
                      refine lv_iadd hx hb dX1_isSame_361 ?_
                      refine lv_istore (lv' := [(8, .int ((sma 0 (fun r => if 0 ≤ N 5 r then 0 else 1) r) + 1)), (11, .int (nI T)), (10, .int (sma 0 (fun t => if 0 ≤ N (7 + r) t then 0 else 1) T)), (9, .int (nI r)), (7, .int (oI (amx (sWo N T) r))), (4, .int (oI (amx (sPr N) T))), (5, .int (oI (amn (sUn N) T))), (6, .int (sma 0 (sPr N) T)), (0, .ref (b 0)), (1, .ref (a 13)), (2, .int (nI T)), (3, .int (nI R))]) hx hb dX1_isSame_362 hl (by decide) rfl (fun ls hl => ?_)
                      rcases hq7 : amx (sWo N T) r with _ | b7
                      · rw [hq7] at hl
                        have hl : lv_has ls 13 [(8, .int ((sma 0 (fun r => if 0 ≤ N 5 r then 0 else 1) r) + 1)), (11, .int (nI T)), (10, .int (sma 0 (fun t => if 0 ≤ N (7 + r) t then 0 else 1) T)), (9, .int (nI r)), (7, .int (-1)), (4, .int (oI (amx (sPr N) T))), (5, .int (oI (amn (sUn N) T))), (6, .int (sma 0 (sPr N) T)), (0, .ref (b 0)), (1, .ref (a 13)), (2, .int (nI T)), (3, .int (nI R))] := hl
                        refine lv_iload hx hb dX1_isSame_364 (lv_at hl 4 rfl) ?_
                        refine lv_if_lt (tgt := 384) hx hb dX1_isSame_366 (by decide) (fun c34 => ?_) (fun c34 => ?_)
                        · refine lv_iload hx hb dX1_isSame_384 (lv_at hl 3 rfl) ?_
                          refine lv_istore (lv' := [(7, .int (nI r)), (8, .int ((sma 0 (fun r => if 0 ≤ N 5 r then 0 else 1) r) + 1)), (11, .int (nI T)), (10, .int (sma 0 (fun t => if 0 ≤ N (7 + r) t then 0 else 1) T)), (9, .int (nI r)), (4, .int (oI (amx (sPr N) T))), (5, .int (oI (amn (sUn N) T))), (6, .int (sma 0 (sPr N) T)), (0, .ref (b 0)), (1, .ref (a 13)), (2, .int (nI T)), (3, .int (nI R))]) hx hb dX1_isSame_386 hl (by decide) rfl (fun ls hl => ?_)
                          refine lv_aload_n hx hb dX1_isSame_388 rfl (lv_at hl 9 rfl) ?_
                          refine lv_iload hx hb dX1_isSame_389 (lv_at hl 4 rfl) ?_
                          refine k1_X0_purseOf hC (c_X0_purseOf l D cI cQ a S hJ.1 (r := r) (by omega)) hB rfl ⟨rfl, rfl⟩ ⟨Nat.le_of_ble_eq_true rfl, Nat.le_of_ble_eq_true rfl⟩ ⟨Nat.zero_le _, Nat.zero_le _⟩ hl.1 rfl (Nat.le_of_ble_eq_true rfl) dX1_isSame_391 ?_
                          refine lv_aload_n hx hb dX1_isSame_394 rfl (lv_at hl 8 rfl) ?_
                          refine gX1_purses hC hN dX1_isSame_395 ?_
                          refine lv_iload hx hb dX1_isSame_398 (lv_at hl 4 rfl) ?_
                          refine lS_pur (r) hC hN rfl (by omega) (by omega) rfl dX1_isSame_400 ?_
                          refine lv_icmp_ne (tgt := 430) hx hb dX1_isSame_401 (by decide) (fun c35 => ?_) (fun c35 => ?_)
                          · exfalso; exact c35 (hJ.2.1 r hr)
                          · refine lv_aload_n hx hb dX1_isSame_404 rfl (lv_at hl 9 rfl) ?_
                            refine lv_iload hx hb dX1_isSame_405 (lv_at hl 4 rfl) ?_
                            refine k1_X0_worthOf hC (c_X0_worthOf l D cI cQ a S hJ.1 (r := r) (by omega)) hB rfl ⟨rfl, rfl⟩ ⟨Nat.le_of_ble_eq_true rfl, Nat.le_of_ble_eq_true rfl⟩ ⟨Nat.zero_le _, Nat.zero_le _⟩ hl.1 rfl (Nat.le_of_ble_eq_true rfl) dX1_isSame_407 ?_
                            refine lv_aload_n hx hb dX1_isSame_410 rfl (lv_at hl 8 rfl) ?_
                            refine lv_iload hx hb dX1_isSame_411 (lv_at hl 4 rfl) ?_
                            refine k1_X1_worth hC (c_X1_worth l D cI cQ b N hT8 hR6 (r := r) (by omega)) hN rfl ⟨rfl, rfl⟩ ⟨Nat.le_of_ble_eq_true rfl, Nat.le_of_ble_eq_true rfl⟩ ⟨Nat.zero_le _, Nat.zero_le _⟩ hl.1 rfl (Nat.le_of_ble_eq_true rfl) dX1_isSame_413 ?_
                            refine lv_icmp_ne (tgt := 430) hx hb dX1_isSame_416 (by decide) (fun c36 => ?_) (fun c36 => ?_)
                            · exfalso; exact c36 (hJ.wo hr)
                            · refine lv_aload_n hx hb dX1_isSame_419 rfl (lv_at hl 9 rfl) ?_
                              refine lv_iload hx hb dX1_isSame_420 (lv_at hl 4 rfl) ?_
                              refine k1_X0_shortsOf hC (c_X0_shortsOf l D cI cQ a S hJ.1 (r := r) (by omega)) hB rfl ⟨rfl, rfl⟩ ⟨Nat.le_of_ble_eq_true rfl, Nat.le_of_ble_eq_true rfl⟩ ⟨Nat.zero_le _, Nat.zero_le _⟩ hl.1 rfl (Nat.le_of_ble_eq_true rfl) dX1_isSame_422 ?_
                              refine lv_iload hx hb dX1_isSame_425 (lv_at hl 3 rfl) ?_
                              refine lv_icmp_eq (tgt := 432) hx hb dX1_isSame_427 (by decide) (fun c37 => ?_) (fun c37 => ?_)
                              · refine lv_iinc (v := nI (r + 1)) (lv' := [(9, .int (nI (r + 1))), (7, .int (nI r)), (8, .int ((sma 0 (fun r => if 0 ≤ N 5 r then 0 else 1) r) + 1)), (11, .int (nI T)), (10, .int (sma 0 (fun t => if 0 ≤ N (7 + r) t then 0 else 1) T)), (4, .int (oI (amx (sPr N) T))), (5, .int (oI (amn (sUn N) T))), (6, .int (sma 0 (sPr N) T)), (0, .ref (b 0)), (1, .ref (a 13)), (2, .int (nI T)), (3, .int (nI R))]) hx hb dX1_isSame_432 hl (k := 4) rfl (ninc r) (by decide) rfl (fun ls hl => ?_)
                                refine lv_goto (tgt := 274) hx hb dX1_isSame_435 (by decide) ?_
                                have e38 : oI (amx (sWo N T) (r + 1)) = nI r := by rw [amx_none hq7] <;> rfl
                                have e39 : sma 0 (fun r => if 0 ≤ N 5 r then 0 else 1) (r + 1) = (sma 0 (fun r => if 0 ≤ N 5 r then 0 else 1) r) + 1 := by show _ + (if _ then _ else _) = _; rw [if_neg c15] <;> rfl
                                exact rh ls (by rw [e38, e39]; exact lv_sub hl [0, 1, 2, 5, 6, 7, 8, 9, 10, 11] rfl)
                              · exfalso; exact c37 (hJ.sh hr)
                        · exfalso; revert c34; decide
                      · rw [hq7] at hl
                        have hl : lv_has ls 13 [(8, .int ((sma 0 (fun r => if 0 ≤ N 5 r then 0 else 1) r) + 1)), (11, .int (nI T)), (10, .int (sma 0 (fun t => if 0 ≤ N (7 + r) t then 0 else 1) T)), (9, .int (nI r)), (7, .int (nI b7)), (4, .int (oI (amx (sPr N) T))), (5, .int (oI (amn (sUn N) T))), (6, .int (sma 0 (sPr N) T)), (0, .ref (b 0)), (1, .ref (a 13)), (2, .int (nI T)), (3, .int (nI R))] := hl
                        have hb7 := amx_lt r hq7
                        refine lv_iload hx hb dX1_isSame_364 (lv_at hl 4 rfl) ?_
                        refine lv_if_lt (tgt := 384) hx hb dX1_isSame_366 (by decide) (fun c40 => ?_) (fun c40 => ?_)
                        · exfalso; exact absurd c40 (nI_pos (by omega))
                        · refine lv_aload_n hx hb dX1_isSame_369 rfl (lv_at hl 8 rfl) ?_
                          refine lv_iload hx hb dX1_isSame_370 (lv_at hl 3 rfl) ?_
                          refine k1_X1_worth hC (c_X1_worth l D cI cQ b N hT8 hR6 (r := r) (by omega)) hN rfl ⟨rfl, rfl⟩ ⟨Nat.le_of_ble_eq_true rfl, Nat.le_of_ble_eq_true rfl⟩ ⟨Nat.zero_le _, Nat.zero_le _⟩ hl.1 rfl (Nat.le_of_ble_eq_true rfl) dX1_isSame_372 ?_
                          refine lv_aload_n hx hb dX1_isSame_375 rfl (lv_at hl 8 rfl) ?_
                          refine lv_iload hx hb dX1_isSame_376 (lv_at hl 4 rfl) ?_
                          refine k1_X1_worth hC (c_X1_worth l D cI cQ b N hT8 hR6 (r := b7) (by omega)) hN rfl ⟨rfl, rfl⟩ ⟨Nat.le_of_ble_eq_true rfl, Nat.le_of_ble_eq_true rfl⟩ ⟨Nat.zero_le _, Nat.zero_le _⟩ hl.1 rfl (Nat.le_of_ble_eq_true rfl) dX1_isSame_378 ?_
                          refine lv_icmp_le (tgt := 388) hx hb dX1_isSame_381 (by decide) (fun c41 => ?_) (fun c41 => ?_)
                          · refine lv_aload_n hx hb dX1_isSame_388 rfl (lv_at hl 9 rfl) ?_
                            refine lv_iload hx hb dX1_isSame_389 (lv_at hl 3 rfl) ?_
                            refine k1_X0_purseOf hC (c_X0_purseOf l D cI cQ a S hJ.1 (r := r) (by omega)) hB rfl ⟨rfl, rfl⟩ ⟨Nat.le_of_ble_eq_true rfl, Nat.le_of_ble_eq_true rfl⟩ ⟨Nat.zero_le _, Nat.zero_le _⟩ hl.1 rfl (Nat.le_of_ble_eq_true rfl) dX1_isSame_391 ?_
                            refine lv_aload_n hx hb dX1_isSame_394 rfl (lv_at hl 8 rfl) ?_
                            refine gX1_purses hC hN dX1_isSame_395 ?_
                            refine lv_iload hx hb dX1_isSame_398 (lv_at hl 3 rfl) ?_
                            refine lS_pur (r) hC hN rfl (by omega) (by omega) rfl dX1_isSame_400 ?_
                            refine lv_icmp_ne (tgt := 430) hx hb dX1_isSame_401 (by decide) (fun c42 => ?_) (fun c42 => ?_)
                            · exfalso; exact c42 (hJ.2.1 r hr)
                            · refine lv_aload_n hx hb dX1_isSame_404 rfl (lv_at hl 9 rfl) ?_
                              refine lv_iload hx hb dX1_isSame_405 (lv_at hl 3 rfl) ?_
                              refine k1_X0_worthOf hC (c_X0_worthOf l D cI cQ a S hJ.1 (r := r) (by omega)) hB rfl ⟨rfl, rfl⟩ ⟨Nat.le_of_ble_eq_true rfl, Nat.le_of_ble_eq_true rfl⟩ ⟨Nat.zero_le _, Nat.zero_le _⟩ hl.1 rfl (Nat.le_of_ble_eq_true rfl) dX1_isSame_407 ?_
                              refine lv_aload_n hx hb dX1_isSame_410 rfl (lv_at hl 8 rfl) ?_
                              refine lv_iload hx hb dX1_isSame_411 (lv_at hl 3 rfl) ?_
                              refine k1_X1_worth hC (c_X1_worth l D cI cQ b N hT8 hR6 (r := r) (by omega)) hN rfl ⟨rfl, rfl⟩ ⟨Nat.le_of_ble_eq_true rfl, Nat.le_of_ble_eq_true rfl⟩ ⟨Nat.zero_le _, Nat.zero_le _⟩ hl.1 rfl (Nat.le_of_ble_eq_true rfl) dX1_isSame_413 ?_
                              refine lv_icmp_ne (tgt := 430) hx hb dX1_isSame_416 (by decide) (fun c43 => ?_) (fun c43 => ?_)
                              · exfalso; exact c43 (hJ.wo hr)
                              · refine lv_aload_n hx hb dX1_isSame_419 rfl (lv_at hl 9 rfl) ?_
                                refine lv_iload hx hb dX1_isSame_420 (lv_at hl 3 rfl) ?_
                                refine k1_X0_shortsOf hC (c_X0_shortsOf l D cI cQ a S hJ.1 (r := r) (by omega)) hB rfl ⟨rfl, rfl⟩ ⟨Nat.le_of_ble_eq_true rfl, Nat.le_of_ble_eq_true rfl⟩ ⟨Nat.zero_le _, Nat.zero_le _⟩ hl.1 rfl (Nat.le_of_ble_eq_true rfl) dX1_isSame_422 ?_
                                refine lv_iload hx hb dX1_isSame_425 (lv_at hl 2 rfl) ?_
                                refine lv_icmp_eq (tgt := 432) hx hb dX1_isSame_427 (by decide) (fun c44 => ?_) (fun c44 => ?_)
                                · refine lv_iinc (v := nI (r + 1)) (lv' := [(9, .int (nI (r + 1))), (8, .int ((sma 0 (fun r => if 0 ≤ N 5 r then 0 else 1) r) + 1)), (11, .int (nI T)), (10, .int (sma 0 (fun t => if 0 ≤ N (7 + r) t then 0 else 1) T)), (7, .int (nI b7)), (4, .int (oI (amx (sPr N) T))), (5, .int (oI (amn (sUn N) T))), (6, .int (sma 0 (sPr N) T)), (0, .ref (b 0)), (1, .ref (a 13)), (2, .int (nI T)), (3, .int (nI R))]) hx hb dX1_isSame_432 hl (k := 3) rfl (ninc r) (by decide) rfl (fun ls hl => ?_)
                                  refine lv_goto (tgt := 274) hx hb dX1_isSame_435 (by decide) ?_
                                  have e45 : oI (amx (sWo N T) (r + 1)) = nI b7 := by rw [amx_keep hq7 c41] <;> rfl
                                  have e46 : sma 0 (fun r => if 0 ≤ N 5 r then 0 else 1) (r + 1) = (sma 0 (fun r => if 0 ≤ N 5 r then 0 else 1) r) + 1 := by show _ + (if _ then _ else _) = _; rw [if_neg c15] <;> rfl
                                  exact rh ls (by rw [e45, e46]; exact lv_sub hl [0, 4, 1, 5, 6, 7, 8, 9, 10, 11] rfl)
                                · exfalso; exact c44 (hJ.sh hr)
                          · refine lv_iload hx hb dX1_isSame_384 (lv_at hl 3 rfl) ?_
                            refine lv_istore (lv' := [(7, .int (nI r)), (8, .int ((sma 0 (fun r => if 0 ≤ N 5 r then 0 else 1) r) + 1)), (11, .int (nI T)), (10, .int (sma 0 (fun t => if 0 ≤ N (7 + r) t then 0 else 1) T)), (9, .int (nI r)), (4, .int (oI (amx (sPr N) T))), (5, .int (oI (amn (sUn N) T))), (6, .int (sma 0 (sPr N) T)), (0, .ref (b 0)), (1, .ref (a 13)), (2, .int (nI T)), (3, .int (nI R))]) hx hb dX1_isSame_386 hl (by decide) rfl (fun ls hl => ?_)
                            refine lv_aload_n hx hb dX1_isSame_388 rfl (lv_at hl 9 rfl) ?_
                            refine lv_iload hx hb dX1_isSame_389 (lv_at hl 4 rfl) ?_
                            refine k1_X0_purseOf hC (c_X0_purseOf l D cI cQ a S hJ.1 (r := r) (by omega)) hB rfl ⟨rfl, rfl⟩ ⟨Nat.le_of_ble_eq_true rfl, Nat.le_of_ble_eq_true rfl⟩ ⟨Nat.zero_le _, Nat.zero_le _⟩ hl.1 rfl (Nat.le_of_ble_eq_true rfl) dX1_isSame_391 ?_
                            refine lv_aload_n hx hb dX1_isSame_394 rfl (lv_at hl 8 rfl) ?_
                            refine gX1_purses hC hN dX1_isSame_395 ?_
                            refine lv_iload hx hb dX1_isSame_398 (lv_at hl 4 rfl) ?_
                            refine lS_pur (r) hC hN rfl (by omega) (by omega) rfl dX1_isSame_400 ?_
                            refine lv_icmp_ne (tgt := 430) hx hb dX1_isSame_401 (by decide) (fun c47 => ?_) (fun c47 => ?_)
                            · exfalso; exact c47 (hJ.2.1 r hr)
                            · refine lv_aload_n hx hb dX1_isSame_404 rfl (lv_at hl 9 rfl) ?_
                              refine lv_iload hx hb dX1_isSame_405 (lv_at hl 4 rfl) ?_
                              refine k1_X0_worthOf hC (c_X0_worthOf l D cI cQ a S hJ.1 (r := r) (by omega)) hB rfl ⟨rfl, rfl⟩ ⟨Nat.le_of_ble_eq_true rfl, Nat.le_of_ble_eq_true rfl⟩ ⟨Nat.zero_le _, Nat.zero_le _⟩ hl.1 rfl (Nat.le_of_ble_eq_true rfl) dX1_isSame_407 ?_
                              refine lv_aload_n hx hb dX1_isSame_410 rfl (lv_at hl 8 rfl) ?_
                              refine lv_iload hx hb dX1_isSame_411 (lv_at hl 4 rfl) ?_
                              refine k1_X1_worth hC (c_X1_worth l D cI cQ b N hT8 hR6 (r := r) (by omega)) hN rfl ⟨rfl, rfl⟩ ⟨Nat.le_of_ble_eq_true rfl, Nat.le_of_ble_eq_true rfl⟩ ⟨Nat.zero_le _, Nat.zero_le _⟩ hl.1 rfl (Nat.le_of_ble_eq_true rfl) dX1_isSame_413 ?_
                              refine lv_icmp_ne (tgt := 430) hx hb dX1_isSame_416 (by decide) (fun c48 => ?_) (fun c48 => ?_)
                              · exfalso; exact c48 (hJ.wo hr)
                              · refine lv_aload_n hx hb dX1_isSame_419 rfl (lv_at hl 9 rfl) ?_
                                refine lv_iload hx hb dX1_isSame_420 (lv_at hl 4 rfl) ?_
                                refine k1_X0_shortsOf hC (c_X0_shortsOf l D cI cQ a S hJ.1 (r := r) (by omega)) hB rfl ⟨rfl, rfl⟩ ⟨Nat.le_of_ble_eq_true rfl, Nat.le_of_ble_eq_true rfl⟩ ⟨Nat.zero_le _, Nat.zero_le _⟩ hl.1 rfl (Nat.le_of_ble_eq_true rfl) dX1_isSame_422 ?_
                                refine lv_iload hx hb dX1_isSame_425 (lv_at hl 3 rfl) ?_
                                refine lv_icmp_eq (tgt := 432) hx hb dX1_isSame_427 (by decide) (fun c49 => ?_) (fun c49 => ?_)
                                · refine lv_iinc (v := nI (r + 1)) (lv' := [(9, .int (nI (r + 1))), (7, .int (nI r)), (8, .int ((sma 0 (fun r => if 0 ≤ N 5 r then 0 else 1) r) + 1)), (11, .int (nI T)), (10, .int (sma 0 (fun t => if 0 ≤ N (7 + r) t then 0 else 1) T)), (4, .int (oI (amx (sPr N) T))), (5, .int (oI (amn (sUn N) T))), (6, .int (sma 0 (sPr N) T)), (0, .ref (b 0)), (1, .ref (a 13)), (2, .int (nI T)), (3, .int (nI R))]) hx hb dX1_isSame_432 hl (k := 4) rfl (ninc r) (by decide) rfl (fun ls hl => ?_)
                                  refine lv_goto (tgt := 274) hx hb dX1_isSame_435 (by decide) ?_
                                  have e50 : oI (amx (sWo N T) (r + 1)) = nI r := by rw [amx_new hq7 c41] <;> rfl
                                  have e51 : sma 0 (fun r => if 0 ≤ N 5 r then 0 else 1) (r + 1) = (sma 0 (fun r => if 0 ≤ N 5 r then 0 else 1) r) + 1 := by show _ + (if _ then _ else _) = _; rw [if_neg c15] <;> rfl
                                  exact rh ls (by rw [e50, e51]; exact lv_sub hl [0, 1, 2, 5, 6, 7, 8, 9, 10, 11] rfl)
                                · exfalso; exact c49 (hJ.sh hr)
                  · exfalso; omega
                · intro j hj jh ls hl
                  refine lv_iload hx hb dX1_isSame_286 (lv_at hl 0 rfl) ?_
                  refine lv_iload_n hx hb dX1_isSame_288 rfl (lv_at hl 10 rfl) ?_
                  refine jge (i := j) (j := T) (tgt := 344) hC dX1_isSame_289 (by decide) rfl rfl (by omega) (by omega) (fun c52 => ?_) (fun c52 => ?_)
                  · exfalso; omega
                  · refine lv_iload hx hb dX1_isSame_292 (lv_at hl 1 rfl) ?_
                    refine lv_aload_n hx hb dX1_isSame_294 rfl (lv_at hl 8 rfl) ?_
                    refine gX1_held hC hN dX1_isSame_295 ?_
                    refine lv_iload hx hb dX1_isSame_298 (lv_at hl 2 rfl) ?_
                    refine lS_hr (r) hC hN rfl (by omega) dX1_isSame_300 ?_
                    refine lv_iload hx hb dX1_isSame_301 (lv_at hl 0 rfl) ?_
                    refine lS_held (r) (j) hC hN (by omega) rfl (by omega) rfl dX1_isSame_303 ?_
                    refine lv_if_ge (tgt := 311) hx hb dX1_isSame_304 (by decide) (fun c53 => ?_) (fun c53 => ?_)
                    · refine lv_iconst (v := 0) hx hb dX1_isSame_311 (by decide) ?_
                      refine lv_iadd hx hb dX1_isSame_312 ?_
                      refine lv_istore (lv' := [(10, .int ((sma 0 (fun t => if 0 ≤ N (7 + r) t then 0 else 1) j) + 0)), (11, .int (nI j)), (9, .int (nI r)), (7, .int (oI (amx (sWo N T) r))), (8, .int (sma 0 (fun r => if 0 ≤ N 5 r then 0 else 1) r)), (4, .int (oI (amx (sPr N) T))), (5, .int (oI (amn (sUn N) T))), (6, .int (sma 0 (sPr N) T)), (0, .ref (b 0)), (1, .ref (a 13)), (2, .int (nI T)), (3, .int (nI R))]) hx hb dX1_isSame_313 hl (by decide) rfl (fun ls hl => ?_)
                      refine lv_aload_n hx hb dX1_isSame_315 rfl (lv_at hl 9 rfl) ?_
                      refine lv_iload hx hb dX1_isSame_316 (lv_at hl 2 rfl) ?_
                      refine lv_iload hx hb dX1_isSame_318 (lv_at hl 1 rfl) ?_
                      refine k1_X0_holds hC (c_X0_holds l D cI cQ a S hJ.1 (r := r) (t := j) (by omega) (by omega)) hB rfl ⟨rfl, rfl⟩ ⟨Nat.le_of_ble_eq_true rfl, Nat.le_of_ble_eq_true rfl⟩ ⟨Nat.zero_le _, Nat.zero_le _⟩ hl.1 rfl (Nat.le_of_ble_eq_true rfl) dX1_isSame_320 ?_
                      refine lv_aload_n hx hb dX1_isSame_323 rfl (lv_at hl 8 rfl) ?_
                      refine gX1_held hC hN dX1_isSame_324 ?_
                      refine lv_iload hx hb dX1_isSame_327 (lv_at hl 2 rfl) ?_
                      refine lS_hr (r) hC hN rfl (by omega) dX1_isSame_329 ?_
                      refine lv_iload hx hb dX1_isSame_330 (lv_at hl 1 rfl) ?_
                      refine lS_held (r) (j) hC hN (by omega) rfl (by omega) rfl dX1_isSame_332 ?_
                      refine lv_icmp_eq (tgt := 338) hx hb dX1_isSame_333 (by decide) (fun c54 => ?_) (fun c54 => ?_)
                      · refine lv_iinc (v := nI (j + 1)) (lv' := [(11, .int (nI (j + 1))), (10, .int ((sma 0 (fun t => if 0 ≤ N (7 + r) t then 0 else 1) j) + 0)), (9, .int (nI r)), (7, .int (oI (amx (sWo N T) r))), (8, .int (sma 0 (fun r => if 0 ≤ N 5 r then 0 else 1) r)), (4, .int (oI (amx (sPr N) T))), (5, .int (oI (amn (sUn N) T))), (6, .int (sma 0 (sPr N) T)), (0, .ref (b 0)), (1, .ref (a 13)), (2, .int (nI T)), (3, .int (nI R))]) hx hb dX1_isSame_338 hl (k := 1) rfl (ninc j) (by decide) rfl (fun ls hl => ?_)
                        refine lv_goto (tgt := 286) hx hb dX1_isSame_341 (by decide) ?_
                        have e55 : sma 0 (fun t => if 0 ≤ N (7 + r) t then 0 else 1) (j + 1) = (sma 0 (fun t => if 0 ≤ N (7 + r) t then 0 else 1) j) + 0 := by show _ + (if _ then _ else _) = _; rw [if_pos c54] <;> rfl
                        exact jh ls (by rw [e55]; exact lv_sub hl [0, 1, 2, 3, 4, 5, 6, 7, 8, 9, 10, 11] rfl)
                      · exfalso; exact c54 (hJ.held (by omega) (by omega))
                    · refine lv_iconst (v := 1) hx hb dX1_isSame_307 (by decide) ?_
                      refine lv_goto (tgt := 312) hx hb dX1_isSame_308 (by decide) ?_
                      refine lv_iadd hx hb dX1_isSame_312 ?_
                      refine lv_istore (lv' := [(10, .int ((sma 0 (fun t => if 0 ≤ N (7 + r) t then 0 else 1) j) + 1)), (11, .int (nI j)), (9, .int (nI r)), (7, .int (oI (amx (sWo N T) r))), (8, .int (sma 0 (fun r => if 0 ≤ N 5 r then 0 else 1) r)), (4, .int (oI (amx (sPr N) T))), (5, .int (oI (amn (sUn N) T))), (6, .int (sma 0 (sPr N) T)), (0, .ref (b 0)), (1, .ref (a 13)), (2, .int (nI T)), (3, .int (nI R))]) hx hb dX1_isSame_313 hl (by decide) rfl (fun ls hl => ?_)
                      refine lv_aload_n hx hb dX1_isSame_315 rfl (lv_at hl 9 rfl) ?_
                      refine lv_iload hx hb dX1_isSame_316 (lv_at hl 2 rfl) ?_
                      refine lv_iload hx hb dX1_isSame_318 (lv_at hl 1 rfl) ?_
                      refine k1_X0_holds hC (c_X0_holds l D cI cQ a S hJ.1 (r := r) (t := j) (by omega) (by omega)) hB rfl ⟨rfl, rfl⟩ ⟨Nat.le_of_ble_eq_true rfl, Nat.le_of_ble_eq_true rfl⟩ ⟨Nat.zero_le _, Nat.zero_le _⟩ hl.1 rfl (Nat.le_of_ble_eq_true rfl) dX1_isSame_320 ?_
                      refine lv_aload_n hx hb dX1_isSame_323 rfl (lv_at hl 8 rfl) ?_
                      refine gX1_held hC hN dX1_isSame_324 ?_
                      refine lv_iload hx hb dX1_isSame_327 (lv_at hl 2 rfl) ?_
                      refine lS_hr (r) hC hN rfl (by omega) dX1_isSame_329 ?_
                      refine lv_iload hx hb dX1_isSame_330 (lv_at hl 1 rfl) ?_
                      refine lS_held (r) (j) hC hN (by omega) rfl (by omega) rfl dX1_isSame_332 ?_
                      refine lv_icmp_eq (tgt := 338) hx hb dX1_isSame_333 (by decide) (fun c56 => ?_) (fun c56 => ?_)
                      · refine lv_iinc (v := nI (j + 1)) (lv' := [(11, .int (nI (j + 1))), (10, .int ((sma 0 (fun t => if 0 ≤ N (7 + r) t then 0 else 1) j) + 1)), (9, .int (nI r)), (7, .int (oI (amx (sWo N T) r))), (8, .int (sma 0 (fun r => if 0 ≤ N 5 r then 0 else 1) r)), (4, .int (oI (amx (sPr N) T))), (5, .int (oI (amn (sUn N) T))), (6, .int (sma 0 (sPr N) T)), (0, .ref (b 0)), (1, .ref (a 13)), (2, .int (nI T)), (3, .int (nI R))]) hx hb dX1_isSame_338 hl (k := 1) rfl (ninc j) (by decide) rfl (fun ls hl => ?_)
                        refine lv_goto (tgt := 286) hx hb dX1_isSame_341 (by decide) ?_
                        have e57 : sma 0 (fun t => if 0 ≤ N (7 + r) t then 0 else 1) (j + 1) = (sma 0 (fun t => if 0 ≤ N (7 + r) t then 0 else 1) j) + 1 := by show _ + (if _ then _ else _) = _; rw [if_pos c56] <;> rfl
                        exact jh ls (by rw [e57]; exact lv_sub hl [0, 1, 2, 3, 4, 5, 6, 7, 8, 9, 10, 11] rfl)
                      · exfalso; exact c56 (hJ.held (by omega) (by omega))
          · exfalso; omega
        · intro i hi ih ls hl
          refine lv_iload hx hb dX1_isSame_53 (lv_at hl 0 rfl) ?_
          refine lv_iload_n hx hb dX1_isSame_55 rfl (lv_at hl 6 rfl) ?_
          refine jge (i := i) (j := T) (tgt := 265) hC dX1_isSame_56 (by decide) rfl rfl (by omega) (by omega) (fun c58 => ?_) (fun c58 => ?_)
          · exfalso; omega
          · refine lv_iconst (v := 0) hx hb dX1_isSame_59 (by decide) ?_
            refine lv_istore (lv' := [(8, .int (0)), (7, .int (nI i)), (4, .int (oI (amx (sPr N) i))), (5, .int (oI (amn (sUn N) i))), (6, .int (sma 0 (sPr N) i)), (0, .ref (b 0)), (1, .ref (a 13)), (2, .int (nI T)), (3, .int (nI R))]) hx hb dX1_isSame_60 hl (by decide) rfl (fun ls hl => ?_)
            refine lv_aload_n hx hb dX1_isSame_62 rfl (lv_at hl 5 rfl) ?_
            refine gX1_held hC hN dX1_isSame_63 ?_
            refine lv_astore (lv' := [(9, .ref (b 3)), (8, .int (0)), (7, .int (nI i)), (4, .int (oI (amx (sPr N) i))), (5, .int (oI (amn (sUn N) i))), (6, .int (sma 0 (sPr N) i)), (0, .ref (b 0)), (1, .ref (a 13)), (2, .int (nI T)), (3, .int (nI R))]) hx hb dX1_isSame_66 hl (by decide) rfl (fun ls hl => ?_)
            refine lv_aload hx hb dX1_isSame_68 (lv_at hl 0 rfl) ?_
            refine nS_held hC hN dX1_isSame_70 ?_
            refine lv_istore (lv' := [(10, .int (nI 6)), (9, .ref (b 3)), (8, .int (0)), (7, .int (nI i)), (4, .int (oI (amx (sPr N) i))), (5, .int (oI (amn (sUn N) i))), (6, .int (sma 0 (sPr N) i)), (0, .ref (b 0)), (1, .ref (a 13)), (2, .int (nI T)), (3, .int (nI R))]) hx hb dX1_isSame_71 hl (by decide) rfl (fun ls hl => ?_)
            refine lv_iconst (v := 0) hx hb dX1_isSame_73 (by decide) ?_
            refine lv_istore (lv' := [(11, .int (0)), (10, .int (nI 6)), (9, .ref (b 3)), (8, .int (0)), (7, .int (nI i)), (4, .int (oI (amx (sPr N) i))), (5, .int (oI (amn (sUn N) i))), (6, .int (sma 0 (sPr N) i)), (0, .ref (b 0)), (1, .ref (a 13)), (2, .int (nI T)), (3, .int (nI R))]) hx hb dX1_isSame_74 hl (by decide) rfl (fun ls hl => ?_)
            refine loopU (P := fun j => ∀ ls : Array Slot, lv_has ls 13 [(11, .int (nI j)), (8, .int (sma 0 (fun r => N (7 + r) i) j)), (9, .ref (b 3)), (10, .int (nI 6)), (7, .int (nI i)), (4, .int (oI (amx (sPr N) i))), (5, .int (oI (amn (sUn N) i))), (6, .int (sma 0 (sPr N) i)), (0, .ref (b 0)), (1, .ref (a 13)), (2, .int (nI T)), (3, .int (nI R))] → W p l e ({ frames := 6, cells := 0, slots := 0, locals := 140 } : Room) s m args below meth c s.heap [] 0 0 (MQ below (k2_QcV (.int 1)) args s 0 0 (fun _ => False)) (F0 m 76 ls [])) (6) ?_ ?_ 0 (by omega) ls (by first | exact lv_sub hl [0, 3, 2, 1, 4, 5, 6, 7, 8, 9, 10, 11] rfl | (simpa using lv_sub hl [0, 3, 2, 1, 4, 5, 6, 7, 8, 9, 10, 11] rfl))
            · intro ls hl
              refine lv_iload hx hb dX1_isSame_76 (lv_at hl 0 rfl) ?_
              refine lv_iload hx hb dX1_isSame_78 (lv_at hl 3 rfl) ?_
              refine jge (i := 6) (j := 6) (tgt := 106) hC dX1_isSame_80 (by decide) rfl rfl (by omega) (by omega) (fun c59 => ?_) (fun c59 => ?_)
              · refine lv_aload_n hx hb dX1_isSame_106 rfl (lv_at hl 9 rfl) ?_
                refine lv_iload hx hb dX1_isSame_107 (lv_at hl 4 rfl) ?_
                refine k1_X0_silenceOf hC (c_X0_silenceOf l D cI cQ a S hJ.1 (t := i) (by omega)) hB rfl ⟨rfl, rfl⟩ ⟨Nat.le_of_ble_eq_true rfl, Nat.le_of_ble_eq_true rfl⟩ ⟨Nat.zero_le _, Nat.zero_le _⟩ hl.1 rfl (Nat.le_of_ble_eq_true rfl) dX1_isSame_109 ?_
                refine lv_aload_n hx hb dX1_isSame_112 rfl (lv_at hl 8 rfl) ?_
                refine gX1_towers hC hN dX1_isSame_113 ?_
                refine lv_iload hx hb dX1_isSame_116 (lv_at hl 4 rfl) ?_
                refine lS_tw (i) hC hN rfl (by omega) (by omega) dX1_isSame_118 ?_
                refine lv_iconst (v := 3) hx hb dX1_isSame_119 (by decide) ?_
                refine lS_row (i) (3) hC hN (by omega) rfl (by omega) rfl dX1_isSame_120 ?_
                refine lv_icmp_ne (tgt := 198) hx hb dX1_isSame_121 (by decide) (fun c60 => ?_) (fun c60 => ?_)
                · exfalso; exact c60 ((hJ.2.2.2.2.1 i hi).1.2.2.1.trans (hJ.2.2.2.2.1 i hi).2.1.2.2.2.symm)
                · refine lv_aload_n hx hb dX1_isSame_124 rfl (lv_at hl 9 rfl) ?_
                  refine lv_iload hx hb dX1_isSame_125 (lv_at hl 4 rfl) ?_
                  refine k1_X0_dovesOn hC (c_X0_dovesOn l D cI cQ a S hJ.1 (t := i) (by omega)) hB rfl ⟨rfl, rfl⟩ ⟨Nat.le_of_ble_eq_true rfl, Nat.le_of_ble_eq_true rfl⟩ ⟨Nat.zero_le _, Nat.zero_le _⟩ hl.1 rfl (Nat.le_of_ble_eq_true rfl) dX1_isSame_127 ?_
                  refine lv_aload_n hx hb dX1_isSame_130 rfl (lv_at hl 8 rfl) ?_
                  refine lv_iload hx hb dX1_isSame_131 (lv_at hl 4 rfl) ?_
                  refine k1_X1_doves hC (c_X1_doves l D cI cQ b N hT8 hR6 (t := i) (by omega)) hN rfl ⟨rfl, rfl⟩ ⟨Nat.le_of_ble_eq_true rfl, Nat.le_of_ble_eq_true rfl⟩ ⟨Nat.zero_le _, Nat.zero_le _⟩ hl.1 rfl (Nat.le_of_ble_eq_true rfl) dX1_isSame_133 ?_
                  refine lv_icmp_ne (tgt := 198) hx hb dX1_isSame_136 (by decide) (fun c61 => ?_) (fun c61 => ?_)
                  · exfalso; exact c61 (hJ.dv (by omega))
                  · refine lv_aload_n hx hb dX1_isSame_139 rfl (lv_at hl 9 rfl) ?_
                    refine lv_iload hx hb dX1_isSame_140 (lv_at hl 4 rfl) ?_
                    refine k1_X0_priceOf hC (c_X0_priceOf l D cI cQ a S hJ.1 (t := i) (by omega)) hB rfl ⟨rfl, rfl⟩ ⟨Nat.le_of_ble_eq_true rfl, Nat.le_of_ble_eq_true rfl⟩ ⟨Nat.zero_le _, Nat.zero_le _⟩ hl.1 rfl (Nat.le_of_ble_eq_true rfl) dX1_isSame_142 ?_
                    refine lv_aload_n hx hb dX1_isSame_145 rfl (lv_at hl 8 rfl) ?_
                    refine lv_iload hx hb dX1_isSame_146 (lv_at hl 4 rfl) ?_
                    refine k1_X1_price hC (c_X1_price l D cI cQ b N hT8 hR6 (t := i) (by omega)) hN rfl ⟨rfl, rfl⟩ ⟨Nat.le_of_ble_eq_true rfl, Nat.le_of_ble_eq_true rfl⟩ ⟨Nat.zero_le _, Nat.zero_le _⟩ hl.1 rfl (Nat.le_of_ble_eq_true rfl) dX1_isSame_148 ?_
                    refine lv_icmp_ne (tgt := 198) hx hb dX1_isSame_151 (by decide) (fun c62 => ?_) (fun c62 => ?_)
                    · exfalso; exact c62 (hJ.prc hi)
                    · refine lv_aload_n hx hb dX1_isSame_154 rfl (lv_at hl 9 rfl) ?_
                      refine lv_iload hx hb dX1_isSame_155 (lv_at hl 4 rfl) ?_
                      refine k1_X0_secondsUntilStroke hC (c_X0_secondsUntilStroke l D cI cQ a S hJ.1 (t := i) (by omega)) hB rfl ⟨rfl, rfl⟩ ⟨Nat.le_of_ble_eq_true rfl, Nat.le_of_ble_eq_true rfl⟩ ⟨Nat.zero_le _, Nat.zero_le _⟩ hl.1 rfl (Nat.le_of_ble_eq_true rfl) dX1_isSame_157 ?_
                      refine lv_aload_n hx hb dX1_isSame_160 rfl (lv_at hl 8 rfl) ?_
                      refine lv_iload hx hb dX1_isSame_161 (lv_at hl 4 rfl) ?_
                      refine k1_X1_until hC (c_X1_until l D cI cQ b N hT8 hR6 (t := i) (by omega) hP) hN rfl ⟨rfl, rfl⟩ ⟨Nat.le_of_ble_eq_true rfl, Nat.le_of_ble_eq_true rfl⟩ ⟨Nat.zero_le _, Nat.zero_le _⟩ hl.1 rfl (Nat.le_of_ble_eq_true rfl) dX1_isSame_163 ?_
                      refine lv_icmp_ne (tgt := 198) hx hb dX1_isSame_166 (by decide) (fun c63 => ?_) (fun c63 => ?_)
                      · exfalso; exact c63 (hJ.s3 hi)
                      · refine lv_aload_n hx hb dX1_isSame_169 rfl (lv_at hl 9 rfl) ?_
                        refine lv_iload hx hb dX1_isSame_170 (lv_at hl 4 rfl) ?_
                        refine k1_X0_strokesOf hC (c_X0_strokesOf l D cI cQ a S hJ.1 (t := i) (by omega)) hB rfl ⟨rfl, rfl⟩ ⟨Nat.le_of_ble_eq_true rfl, Nat.le_of_ble_eq_true rfl⟩ ⟨Nat.zero_le _, Nat.zero_le _⟩ hl.1 rfl (Nat.le_of_ble_eq_true rfl) dX1_isSame_172 ?_
                        refine lv_aload_n hx hb dX1_isSame_175 rfl (lv_at hl 8 rfl) ?_
                        refine gX1_towers hC hN dX1_isSame_176 ?_
                        refine lv_iload hx hb dX1_isSame_179 (lv_at hl 4 rfl) ?_
                        refine lS_tw (i) hC hN rfl (by omega) (by omega) dX1_isSame_181 ?_
                        refine lv_iconst (v := 4) hx hb dX1_isSame_182 (by decide) ?_
                        refine lS_row (i) (4) hC hN (by omega) rfl (by omega) rfl dX1_isSame_183 ?_
                        refine lv_icmp_ne (tgt := 198) hx hb dX1_isSame_184 (by decide) (fun c64 => ?_) (fun c64 => ?_)
                        · exfalso; exact c64 (hJ.2.2.2.2.1 i hi).1.2.2.2.2
                        · refine lv_aload_n hx hb dX1_isSame_187 rfl (lv_at hl 9 rfl) ?_
                          refine lv_iload hx hb dX1_isSame_188 (lv_at hl 4 rfl) ?_
                          refine k1_X0_openSeconds hC (c_X0_openSeconds l D cI cQ a S hJ.1 (t := i) (by omega)) hB rfl ⟨rfl, rfl⟩ ⟨Nat.le_of_ble_eq_true rfl, Nat.le_of_ble_eq_true rfl⟩ ⟨Nat.zero_le _, Nat.zero_le _⟩ hl.1 rfl (Nat.le_of_ble_eq_true rfl) dX1_isSame_190 ?_
                          refine lv_iload hx hb dX1_isSame_193 (lv_at hl 1 rfl) ?_
                          refine lv_icmp_eq (tgt := 200) hx hb dX1_isSame_195 (by decide) (fun c65 => ?_) (fun c65 => ?_)
                          · rcases hq8 : amx (sPr N) i with _ | b8
                            · rw [hq8] at hl
                              have hl : lv_has ls 13 [(11, .int (nI 6)), (8, .int (sma 0 (fun r => N (7 + r) i) 6)), (9, .ref (b 3)), (10, .int (nI 6)), (7, .int (nI i)), (4, .int (-1)), (5, .int (oI (amn (sUn N) i))), (6, .int (sma 0 (sPr N) i)), (0, .ref (b 0)), (1, .ref (a 13)), (2, .int (nI T)), (3, .int (nI R))] := hl
                              refine lv_iload hx hb dX1_isSame_200 (lv_at hl 5 rfl) ?_
                              refine lv_if_lt (tgt := 220) hx hb dX1_isSame_202 (by decide) (fun c66 => ?_) (fun c66 => ?_)
                              · refine lv_iload hx hb dX1_isSame_220 (lv_at hl 4 rfl) ?_
                                refine lv_istore (lv' := [(4, .int (nI i)), (11, .int (nI 6)), (8, .int (sma 0 (fun r => N (7 + r) i) 6)), (9, .ref (b 3)), (10, .int (nI 6)), (7, .int (nI i)), (5, .int (oI (amn (sUn N) i))), (6, .int (sma 0 (sPr N) i)), (0, .ref (b 0)), (1, .ref (a 13)), (2, .int (nI T)), (3, .int (nI R))]) hx hb dX1_isSame_222 hl (by decide) rfl (fun ls hl => ?_)
                                rcases hq9 : amn (sUn N) i with _ | b9
                                · rw [hq9] at hl
                                  have hl : lv_has ls 13 [(4, .int (nI i)), (11, .int (nI 6)), (8, .int (sma 0 (fun r => N (7 + r) i) 6)), (9, .ref (b 3)), (10, .int (nI 6)), (7, .int (nI i)), (5, .int (-1)), (6, .int (sma 0 (sPr N) i)), (0, .ref (b 0)), (1, .ref (a 13)), (2, .int (nI T)), (3, .int (nI R))] := hl
                                  refine lv_iload hx hb dX1_isSame_224 (lv_at hl 6 rfl) ?_
                                  refine lv_if_lt (tgt := 244) hx hb dX1_isSame_226 (by decide) (fun c67 => ?_) (fun c67 => ?_)
                                  · refine lv_iload hx hb dX1_isSame_244 (lv_at hl 5 rfl) ?_
                                    refine lv_istore (lv' := [(5, .int (nI i)), (4, .int (nI i)), (11, .int (nI 6)), (8, .int (sma 0 (fun r => N (7 + r) i) 6)), (9, .ref (b 3)), (10, .int (nI 6)), (7, .int (nI i)), (6, .int (sma 0 (sPr N) i)), (0, .ref (b 0)), (1, .ref (a 13)), (2, .int (nI T)), (3, .int (nI R))]) hx hb dX1_isSame_246 hl (by decide) rfl (fun ls hl => ?_)
                                    refine lv_iload hx hb dX1_isSame_248 (lv_at hl 7 rfl) ?_
                                    refine lv_aload_n hx hb dX1_isSame_250 rfl (lv_at hl 8 rfl) ?_
                                    refine lv_iload hx hb dX1_isSame_251 (lv_at hl 6 rfl) ?_
                                    refine k1_X1_price hC (c_X1_price l D cI cQ b N hT8 hR6 (t := i) (by omega)) hN rfl ⟨rfl, rfl⟩ ⟨Nat.le_of_ble_eq_true rfl, Nat.le_of_ble_eq_true rfl⟩ ⟨Nat.zero_le _, Nat.zero_le _⟩ hl.1 rfl (Nat.le_of_ble_eq_true rfl) dX1_isSame_253 ?_
                                    refine lv_iadd hx hb dX1_isSame_256 ?_
                                    refine lv_istore (lv' := [(6, .int ((sma 0 (sPr N) i) + (sPr N i))), (5, .int (nI i)), (4, .int (nI i)), (11, .int (nI 6)), (8, .int (sma 0 (fun r => N (7 + r) i) 6)), (9, .ref (b 3)), (10, .int (nI 6)), (7, .int (nI i)), (0, .ref (b 0)), (1, .ref (a 13)), (2, .int (nI T)), (3, .int (nI R))]) hx hb dX1_isSame_257 hl (by decide) rfl (fun ls hl => ?_)
                                    refine lv_iinc (v := nI (i + 1)) (lv' := [(7, .int (nI (i + 1))), (6, .int ((sma 0 (sPr N) i) + (sPr N i))), (5, .int (nI i)), (4, .int (nI i)), (11, .int (nI 6)), (8, .int (sma 0 (fun r => N (7 + r) i) 6)), (9, .ref (b 3)), (10, .int (nI 6)), (0, .ref (b 0)), (1, .ref (a 13)), (2, .int (nI T)), (3, .int (nI R))]) hx hb dX1_isSame_259 hl (k := 7) rfl (ninc i) (by decide) rfl (fun ls hl => ?_)
                                    refine lv_goto (tgt := 53) hx hb dX1_isSame_262 (by decide) ?_
                                    have e68 : oI (amx (sPr N) (i + 1)) = nI i := by rw [amx_none hq8] <;> rfl
                                    have e69 : oI (amn (sUn N) (i + 1)) = nI i := by rw [amn_none hq9] <;> rfl
                                    exact ih ls (by rw [e68, e69]; exact lv_sub hl [0, 3, 2, 1, 8, 9, 10, 11] rfl)
                                  · exfalso; revert c67; decide
                                · rw [hq9] at hl
                                  have hl : lv_has ls 13 [(4, .int (nI i)), (11, .int (nI 6)), (8, .int (sma 0 (fun r => N (7 + r) i) 6)), (9, .ref (b 3)), (10, .int (nI 6)), (7, .int (nI i)), (5, .int (nI b9)), (6, .int (sma 0 (sPr N) i)), (0, .ref (b 0)), (1, .ref (a 13)), (2, .int (nI T)), (3, .int (nI R))] := hl
                                  have hb9 := amn_lt i hq9
                                  refine lv_iload hx hb dX1_isSame_224 (lv_at hl 6 rfl) ?_
                                  refine lv_if_lt (tgt := 244) hx hb dX1_isSame_226 (by decide) (fun c70 => ?_) (fun c70 => ?_)
                                  · exfalso; exact absurd c70 (nI_pos (by omega))
                                  · refine lv_aload_n hx hb dX1_isSame_229 rfl (lv_at hl 8 rfl) ?_
                                    refine lv_iload hx hb dX1_isSame_230 (lv_at hl 5 rfl) ?_
                                    refine k1_X1_until hC (c_X1_until l D cI cQ b N hT8 hR6 (t := i) (by omega) hP) hN rfl ⟨rfl, rfl⟩ ⟨Nat.le_of_ble_eq_true rfl, Nat.le_of_ble_eq_true rfl⟩ ⟨Nat.zero_le _, Nat.zero_le _⟩ hl.1 rfl (Nat.le_of_ble_eq_true rfl) dX1_isSame_232 ?_
                                    refine lv_aload_n hx hb dX1_isSame_235 rfl (lv_at hl 8 rfl) ?_
                                    refine lv_iload hx hb dX1_isSame_236 (lv_at hl 6 rfl) ?_
                                    refine k1_X1_until hC (c_X1_until l D cI cQ b N hT8 hR6 (t := b9) (by omega) hP) hN rfl ⟨rfl, rfl⟩ ⟨Nat.le_of_ble_eq_true rfl, Nat.le_of_ble_eq_true rfl⟩ ⟨Nat.zero_le _, Nat.zero_le _⟩ hl.1 rfl (Nat.le_of_ble_eq_true rfl) dX1_isSame_238 ?_
                                    refine lv_icmp_ge (tgt := 248) hx hb dX1_isSame_241 (by decide) (fun c71 => ?_) (fun c71 => ?_)
                                    · refine lv_iload hx hb dX1_isSame_248 (lv_at hl 7 rfl) ?_
                                      refine lv_aload_n hx hb dX1_isSame_250 rfl (lv_at hl 8 rfl) ?_
                                      refine lv_iload hx hb dX1_isSame_251 (lv_at hl 5 rfl) ?_
                                      refine k1_X1_price hC (c_X1_price l D cI cQ b N hT8 hR6 (t := i) (by omega)) hN rfl ⟨rfl, rfl⟩ ⟨Nat.le_of_ble_eq_true rfl, Nat.le_of_ble_eq_true rfl⟩ ⟨Nat.zero_le _, Nat.zero_le _⟩ hl.1 rfl (Nat.le_of_ble_eq_true rfl) dX1_isSame_253 ?_
                                      refine lv_iadd hx hb dX1_isSame_256 ?_
                                      refine lv_istore (lv' := [(6, .int ((sma 0 (sPr N) i) + (sPr N i))), (4, .int (nI i)), (11, .int (nI 6)), (8, .int (sma 0 (fun r => N (7 + r) i) 6)), (9, .ref (b 3)), (10, .int (nI 6)), (7, .int (nI i)), (5, .int (nI b9)), (0, .ref (b 0)), (1, .ref (a 13)), (2, .int (nI T)), (3, .int (nI R))]) hx hb dX1_isSame_257 hl (by decide) rfl (fun ls hl => ?_)
                                      refine lv_iinc (v := nI (i + 1)) (lv' := [(7, .int (nI (i + 1))), (6, .int ((sma 0 (sPr N) i) + (sPr N i))), (4, .int (nI i)), (11, .int (nI 6)), (8, .int (sma 0 (fun r => N (7 + r) i) 6)), (9, .ref (b 3)), (10, .int (nI 6)), (5, .int (nI b9)), (0, .ref (b 0)), (1, .ref (a 13)), (2, .int (nI T)), (3, .int (nI R))]) hx hb dX1_isSame_259 hl (k := 6) rfl (ninc i) (by decide) rfl (fun ls hl => ?_)
                                      refine lv_goto (tgt := 53) hx hb dX1_isSame_262 (by decide) ?_
                                      have e72 : oI (amx (sPr N) (i + 1)) = nI i := by rw [amx_none hq8] <;> rfl
                                      have e73 : oI (amn (sUn N) (i + 1)) = nI b9 := by rw [amn_keep hq9 c71] <;> rfl
                                      exact ih ls (by rw [e72, e73]; exact lv_sub hl [0, 2, 7, 1, 8, 9, 10, 11] rfl)
                                    · refine lv_iload hx hb dX1_isSame_244 (lv_at hl 5 rfl) ?_
                                      refine lv_istore (lv' := [(5, .int (nI i)), (4, .int (nI i)), (11, .int (nI 6)), (8, .int (sma 0 (fun r => N (7 + r) i) 6)), (9, .ref (b 3)), (10, .int (nI 6)), (7, .int (nI i)), (6, .int (sma 0 (sPr N) i)), (0, .ref (b 0)), (1, .ref (a 13)), (2, .int (nI T)), (3, .int (nI R))]) hx hb dX1_isSame_246 hl (by decide) rfl (fun ls hl => ?_)
                                      refine lv_iload hx hb dX1_isSame_248 (lv_at hl 7 rfl) ?_
                                      refine lv_aload_n hx hb dX1_isSame_250 rfl (lv_at hl 8 rfl) ?_
                                      refine lv_iload hx hb dX1_isSame_251 (lv_at hl 6 rfl) ?_
                                      refine k1_X1_price hC (c_X1_price l D cI cQ b N hT8 hR6 (t := i) (by omega)) hN rfl ⟨rfl, rfl⟩ ⟨Nat.le_of_ble_eq_true rfl, Nat.le_of_ble_eq_true rfl⟩ ⟨Nat.zero_le _, Nat.zero_le _⟩ hl.1 rfl (Nat.le_of_ble_eq_true rfl) dX1_isSame_253 ?_
                                      refine lv_iadd hx hb dX1_isSame_256 ?_
                                      refine lv_istore (lv' := [(6, .int ((sma 0 (sPr N) i) + (sPr N i))), (5, .int (nI i)), (4, .int (nI i)), (11, .int (nI 6)), (8, .int (sma 0 (fun r => N (7 + r) i) 6)), (9, .ref (b 3)), (10, .int (nI 6)), (7, .int (nI i)), (0, .ref (b 0)), (1, .ref (a 13)), (2, .int (nI T)), (3, .int (nI R))]) hx hb dX1_isSame_257 hl (by decide) rfl (fun ls hl => ?_)
                                      refine lv_iinc (v := nI (i + 1)) (lv' := [(7, .int (nI (i + 1))), (6, .int ((sma 0 (sPr N) i) + (sPr N i))), (5, .int (nI i)), (4, .int (nI i)), (11, .int (nI 6)), (8, .int (sma 0 (fun r => N (7 + r) i) 6)), (9, .ref (b 3)), (10, .int (nI 6)), (0, .ref (b 0)), (1, .ref (a 13)), (2, .int (nI T)), (3, .int (nI R))]) hx hb dX1_isSame_259 hl (k := 7) rfl (ninc i) (by decide) rfl (fun ls hl => ?_)
                                      refine lv_goto (tgt := 53) hx hb dX1_isSame_262 (by decide) ?_
                                      have e74 : oI (amx (sPr N) (i + 1)) = nI i := by rw [amx_none hq8] <;> rfl
                                      have e75 : oI (amn (sUn N) (i + 1)) = nI i := by rw [amn_new hq9 c71] <;> rfl
                                      exact ih ls (by rw [e74, e75]; exact lv_sub hl [0, 3, 2, 1, 8, 9, 10, 11] rfl)
                              · exfalso; revert c66; decide
                            · rw [hq8] at hl
                              have hl : lv_has ls 13 [(11, .int (nI 6)), (8, .int (sma 0 (fun r => N (7 + r) i) 6)), (9, .ref (b 3)), (10, .int (nI 6)), (7, .int (nI i)), (4, .int (nI b8)), (5, .int (oI (amn (sUn N) i))), (6, .int (sma 0 (sPr N) i)), (0, .ref (b 0)), (1, .ref (a 13)), (2, .int (nI T)), (3, .int (nI R))] := hl
                              have hb8 := amx_lt i hq8
                              refine lv_iload hx hb dX1_isSame_200 (lv_at hl 5 rfl) ?_
                              refine lv_if_lt (tgt := 220) hx hb dX1_isSame_202 (by decide) (fun c76 => ?_) (fun c76 => ?_)
                              · exfalso; exact absurd c76 (nI_pos (by omega))
                              · refine lv_aload_n hx hb dX1_isSame_205 rfl (lv_at hl 8 rfl) ?_
                                refine lv_iload hx hb dX1_isSame_206 (lv_at hl 4 rfl) ?_
                                refine k1_X1_price hC (c_X1_price l D cI cQ b N hT8 hR6 (t := i) (by omega)) hN rfl ⟨rfl, rfl⟩ ⟨Nat.le_of_ble_eq_true rfl, Nat.le_of_ble_eq_true rfl⟩ ⟨Nat.zero_le _, Nat.zero_le _⟩ hl.1 rfl (Nat.le_of_ble_eq_true rfl) dX1_isSame_208 ?_
                                refine lv_aload_n hx hb dX1_isSame_211 rfl (lv_at hl 8 rfl) ?_
                                refine lv_iload hx hb dX1_isSame_212 (lv_at hl 5 rfl) ?_
                                refine k1_X1_price hC (c_X1_price l D cI cQ b N hT8 hR6 (t := b8) (by omega)) hN rfl ⟨rfl, rfl⟩ ⟨Nat.le_of_ble_eq_true rfl, Nat.le_of_ble_eq_true rfl⟩ ⟨Nat.zero_le _, Nat.zero_le _⟩ hl.1 rfl (Nat.le_of_ble_eq_true rfl) dX1_isSame_214 ?_
                                refine lv_icmp_le (tgt := 224) hx hb dX1_isSame_217 (by decide) (fun c77 => ?_) (fun c77 => ?_)
                                · rcases hq9 : amn (sUn N) i with _ | b9
                                  · rw [hq9] at hl
                                    have hl : lv_has ls 13 [(11, .int (nI 6)), (8, .int (sma 0 (fun r => N (7 + r) i) 6)), (9, .ref (b 3)), (10, .int (nI 6)), (7, .int (nI i)), (4, .int (nI b8)), (5, .int (-1)), (6, .int (sma 0 (sPr N) i)), (0, .ref (b 0)), (1, .ref (a 13)), (2, .int (nI T)), (3, .int (nI R))] := hl
                                    refine lv_iload hx hb dX1_isSame_224 (lv_at hl 6 rfl) ?_
                                    refine lv_if_lt (tgt := 244) hx hb dX1_isSame_226 (by decide) (fun c78 => ?_) (fun c78 => ?_)
                                    · refine lv_iload hx hb dX1_isSame_244 (lv_at hl 4 rfl) ?_
                                      refine lv_istore (lv' := [(5, .int (nI i)), (11, .int (nI 6)), (8, .int (sma 0 (fun r => N (7 + r) i) 6)), (9, .ref (b 3)), (10, .int (nI 6)), (7, .int (nI i)), (4, .int (nI b8)), (6, .int (sma 0 (sPr N) i)), (0, .ref (b 0)), (1, .ref (a 13)), (2, .int (nI T)), (3, .int (nI R))]) hx hb dX1_isSame_246 hl (by decide) rfl (fun ls hl => ?_)
                                      refine lv_iload hx hb dX1_isSame_248 (lv_at hl 7 rfl) ?_
                                      refine lv_aload_n hx hb dX1_isSame_250 rfl (lv_at hl 8 rfl) ?_
                                      refine lv_iload hx hb dX1_isSame_251 (lv_at hl 5 rfl) ?_
                                      refine k1_X1_price hC (c_X1_price l D cI cQ b N hT8 hR6 (t := i) (by omega)) hN rfl ⟨rfl, rfl⟩ ⟨Nat.le_of_ble_eq_true rfl, Nat.le_of_ble_eq_true rfl⟩ ⟨Nat.zero_le _, Nat.zero_le _⟩ hl.1 rfl (Nat.le_of_ble_eq_true rfl) dX1_isSame_253 ?_
                                      refine lv_iadd hx hb dX1_isSame_256 ?_
                                      refine lv_istore (lv' := [(6, .int ((sma 0 (sPr N) i) + (sPr N i))), (5, .int (nI i)), (11, .int (nI 6)), (8, .int (sma 0 (fun r => N (7 + r) i) 6)), (9, .ref (b 3)), (10, .int (nI 6)), (7, .int (nI i)), (4, .int (nI b8)), (0, .ref (b 0)), (1, .ref (a 13)), (2, .int (nI T)), (3, .int (nI R))]) hx hb dX1_isSame_257 hl (by decide) rfl (fun ls hl => ?_)
                                      refine lv_iinc (v := nI (i + 1)) (lv' := [(7, .int (nI (i + 1))), (6, .int ((sma 0 (sPr N) i) + (sPr N i))), (5, .int (nI i)), (11, .int (nI 6)), (8, .int (sma 0 (fun r => N (7 + r) i) 6)), (9, .ref (b 3)), (10, .int (nI 6)), (4, .int (nI b8)), (0, .ref (b 0)), (1, .ref (a 13)), (2, .int (nI T)), (3, .int (nI R))]) hx hb dX1_isSame_259 hl (k := 6) rfl (ninc i) (by decide) rfl (fun ls hl => ?_)
                                      refine lv_goto (tgt := 53) hx hb dX1_isSame_262 (by decide) ?_
                                      have e79 : oI (amx (sPr N) (i + 1)) = nI b8 := by rw [amx_keep hq8 c77] <;> rfl
                                      have e80 : oI (amn (sUn N) (i + 1)) = nI i := by rw [amn_none hq9] <;> rfl
                                      exact ih ls (by rw [e79, e80]; exact lv_sub hl [0, 7, 2, 1, 8, 9, 10, 11] rfl)
                                    · exfalso; revert c78; decide
                                  · rw [hq9] at hl
                                    have hl : lv_has ls 13 [(11, .int (nI 6)), (8, .int (sma 0 (fun r => N (7 + r) i) 6)), (9, .ref (b 3)), (10, .int (nI 6)), (7, .int (nI i)), (4, .int (nI b8)), (5, .int (nI b9)), (6, .int (sma 0 (sPr N) i)), (0, .ref (b 0)), (1, .ref (a 13)), (2, .int (nI T)), (3, .int (nI R))] := hl
                                    have hb9 := amn_lt i hq9
                                    refine lv_iload hx hb dX1_isSame_224 (lv_at hl 6 rfl) ?_
                                    refine lv_if_lt (tgt := 244) hx hb dX1_isSame_226 (by decide) (fun c81 => ?_) (fun c81 => ?_)
                                    · exfalso; exact absurd c81 (nI_pos (by omega))
                                    · refine lv_aload_n hx hb dX1_isSame_229 rfl (lv_at hl 8 rfl) ?_
                                      refine lv_iload hx hb dX1_isSame_230 (lv_at hl 4 rfl) ?_
                                      refine k1_X1_until hC (c_X1_until l D cI cQ b N hT8 hR6 (t := i) (by omega) hP) hN rfl ⟨rfl, rfl⟩ ⟨Nat.le_of_ble_eq_true rfl, Nat.le_of_ble_eq_true rfl⟩ ⟨Nat.zero_le _, Nat.zero_le _⟩ hl.1 rfl (Nat.le_of_ble_eq_true rfl) dX1_isSame_232 ?_
                                      refine lv_aload_n hx hb dX1_isSame_235 rfl (lv_at hl 8 rfl) ?_
                                      refine lv_iload hx hb dX1_isSame_236 (lv_at hl 6 rfl) ?_
                                      refine k1_X1_until hC (c_X1_until l D cI cQ b N hT8 hR6 (t := b9) (by omega) hP) hN rfl ⟨rfl, rfl⟩ ⟨Nat.le_of_ble_eq_true rfl, Nat.le_of_ble_eq_true rfl⟩ ⟨Nat.zero_le _, Nat.zero_le _⟩ hl.1 rfl (Nat.le_of_ble_eq_true rfl) dX1_isSame_238 ?_
                                      refine lv_icmp_ge (tgt := 248) hx hb dX1_isSame_241 (by decide) (fun c82 => ?_) (fun c82 => ?_)
                                      · refine lv_iload hx hb dX1_isSame_248 (lv_at hl 7 rfl) ?_
                                        refine lv_aload_n hx hb dX1_isSame_250 rfl (lv_at hl 8 rfl) ?_
                                        refine lv_iload hx hb dX1_isSame_251 (lv_at hl 4 rfl) ?_
                                        refine k1_X1_price hC (c_X1_price l D cI cQ b N hT8 hR6 (t := i) (by omega)) hN rfl ⟨rfl, rfl⟩ ⟨Nat.le_of_ble_eq_true rfl, Nat.le_of_ble_eq_true rfl⟩ ⟨Nat.zero_le _, Nat.zero_le _⟩ hl.1 rfl (Nat.le_of_ble_eq_true rfl) dX1_isSame_253 ?_
                                        refine lv_iadd hx hb dX1_isSame_256 ?_
                                        refine lv_istore (lv' := [(6, .int ((sma 0 (sPr N) i) + (sPr N i))), (11, .int (nI 6)), (8, .int (sma 0 (fun r => N (7 + r) i) 6)), (9, .ref (b 3)), (10, .int (nI 6)), (7, .int (nI i)), (4, .int (nI b8)), (5, .int (nI b9)), (0, .ref (b 0)), (1, .ref (a 13)), (2, .int (nI T)), (3, .int (nI R))]) hx hb dX1_isSame_257 hl (by decide) rfl (fun ls hl => ?_)
                                        refine lv_iinc (v := nI (i + 1)) (lv' := [(7, .int (nI (i + 1))), (6, .int ((sma 0 (sPr N) i) + (sPr N i))), (11, .int (nI 6)), (8, .int (sma 0 (fun r => N (7 + r) i) 6)), (9, .ref (b 3)), (10, .int (nI 6)), (4, .int (nI b8)), (5, .int (nI b9)), (0, .ref (b 0)), (1, .ref (a 13)), (2, .int (nI T)), (3, .int (nI R))]) hx hb dX1_isSame_259 hl (k := 5) rfl (ninc i) (by decide) rfl (fun ls hl => ?_)
                                        refine lv_goto (tgt := 53) hx hb dX1_isSame_262 (by decide) ?_
                                        have e83 : oI (amx (sPr N) (i + 1)) = nI b8 := by rw [amx_keep hq8 c77] <;> rfl
                                        have e84 : oI (amn (sUn N) (i + 1)) = nI b9 := by rw [amn_keep hq9 c82] <;> rfl
                                        exact ih ls (by rw [e83, e84]; exact lv_sub hl [0, 6, 7, 1, 8, 9, 10, 11] rfl)
                                      · refine lv_iload hx hb dX1_isSame_244 (lv_at hl 4 rfl) ?_
                                        refine lv_istore (lv' := [(5, .int (nI i)), (11, .int (nI 6)), (8, .int (sma 0 (fun r => N (7 + r) i) 6)), (9, .ref (b 3)), (10, .int (nI 6)), (7, .int (nI i)), (4, .int (nI b8)), (6, .int (sma 0 (sPr N) i)), (0, .ref (b 0)), (1, .ref (a 13)), (2, .int (nI T)), (3, .int (nI R))]) hx hb dX1_isSame_246 hl (by decide) rfl (fun ls hl => ?_)
                                        refine lv_iload hx hb dX1_isSame_248 (lv_at hl 7 rfl) ?_
                                        refine lv_aload_n hx hb dX1_isSame_250 rfl (lv_at hl 8 rfl) ?_
                                        refine lv_iload hx hb dX1_isSame_251 (lv_at hl 5 rfl) ?_
                                        refine k1_X1_price hC (c_X1_price l D cI cQ b N hT8 hR6 (t := i) (by omega)) hN rfl ⟨rfl, rfl⟩ ⟨Nat.le_of_ble_eq_true rfl, Nat.le_of_ble_eq_true rfl⟩ ⟨Nat.zero_le _, Nat.zero_le _⟩ hl.1 rfl (Nat.le_of_ble_eq_true rfl) dX1_isSame_253 ?_
                                        refine lv_iadd hx hb dX1_isSame_256 ?_
                                        refine lv_istore (lv' := [(6, .int ((sma 0 (sPr N) i) + (sPr N i))), (5, .int (nI i)), (11, .int (nI 6)), (8, .int (sma 0 (fun r => N (7 + r) i) 6)), (9, .ref (b 3)), (10, .int (nI 6)), (7, .int (nI i)), (4, .int (nI b8)), (0, .ref (b 0)), (1, .ref (a 13)), (2, .int (nI T)), (3, .int (nI R))]) hx hb dX1_isSame_257 hl (by decide) rfl (fun ls hl => ?_)
                                        refine lv_iinc (v := nI (i + 1)) (lv' := [(7, .int (nI (i + 1))), (6, .int ((sma 0 (sPr N) i) + (sPr N i))), (5, .int (nI i)), (11, .int (nI 6)), (8, .int (sma 0 (fun r => N (7 + r) i) 6)), (9, .ref (b 3)), (10, .int (nI 6)), (4, .int (nI b8)), (0, .ref (b 0)), (1, .ref (a 13)), (2, .int (nI T)), (3, .int (nI R))]) hx hb dX1_isSame_259 hl (k := 6) rfl (ninc i) (by decide) rfl (fun ls hl => ?_)
                                        refine lv_goto (tgt := 53) hx hb dX1_isSame_262 (by decide) ?_
                                        have e85 : oI (amx (sPr N) (i + 1)) = nI b8 := by rw [amx_keep hq8 c77] <;> rfl
                                        have e86 : oI (amn (sUn N) (i + 1)) = nI i := by rw [amn_new hq9 c82] <;> rfl
                                        exact ih ls (by rw [e85, e86]; exact lv_sub hl [0, 7, 2, 1, 8, 9, 10, 11] rfl)
                                · refine lv_iload hx hb dX1_isSame_220 (lv_at hl 4 rfl) ?_
                                  refine lv_istore (lv' := [(4, .int (nI i)), (11, .int (nI 6)), (8, .int (sma 0 (fun r => N (7 + r) i) 6)), (9, .ref (b 3)), (10, .int (nI 6)), (7, .int (nI i)), (5, .int (oI (amn (sUn N) i))), (6, .int (sma 0 (sPr N) i)), (0, .ref (b 0)), (1, .ref (a 13)), (2, .int (nI T)), (3, .int (nI R))]) hx hb dX1_isSame_222 hl (by decide) rfl (fun ls hl => ?_)
                                  rcases hq9 : amn (sUn N) i with _ | b9
                                  · rw [hq9] at hl
                                    have hl : lv_has ls 13 [(4, .int (nI i)), (11, .int (nI 6)), (8, .int (sma 0 (fun r => N (7 + r) i) 6)), (9, .ref (b 3)), (10, .int (nI 6)), (7, .int (nI i)), (5, .int (-1)), (6, .int (sma 0 (sPr N) i)), (0, .ref (b 0)), (1, .ref (a 13)), (2, .int (nI T)), (3, .int (nI R))] := hl
                                    refine lv_iload hx hb dX1_isSame_224 (lv_at hl 6 rfl) ?_
                                    refine lv_if_lt (tgt := 244) hx hb dX1_isSame_226 (by decide) (fun c87 => ?_) (fun c87 => ?_)
                                    · refine lv_iload hx hb dX1_isSame_244 (lv_at hl 5 rfl) ?_
                                      refine lv_istore (lv' := [(5, .int (nI i)), (4, .int (nI i)), (11, .int (nI 6)), (8, .int (sma 0 (fun r => N (7 + r) i) 6)), (9, .ref (b 3)), (10, .int (nI 6)), (7, .int (nI i)), (6, .int (sma 0 (sPr N) i)), (0, .ref (b 0)), (1, .ref (a 13)), (2, .int (nI T)), (3, .int (nI R))]) hx hb dX1_isSame_246 hl (by decide) rfl (fun ls hl => ?_)
                                      refine lv_iload hx hb dX1_isSame_248 (lv_at hl 7 rfl) ?_
                                      refine lv_aload_n hx hb dX1_isSame_250 rfl (lv_at hl 8 rfl) ?_
                                      refine lv_iload hx hb dX1_isSame_251 (lv_at hl 6 rfl) ?_
                                      refine k1_X1_price hC (c_X1_price l D cI cQ b N hT8 hR6 (t := i) (by omega)) hN rfl ⟨rfl, rfl⟩ ⟨Nat.le_of_ble_eq_true rfl, Nat.le_of_ble_eq_true rfl⟩ ⟨Nat.zero_le _, Nat.zero_le _⟩ hl.1 rfl (Nat.le_of_ble_eq_true rfl) dX1_isSame_253 ?_
                                      refine lv_iadd hx hb dX1_isSame_256 ?_
                                      refine lv_istore (lv' := [(6, .int ((sma 0 (sPr N) i) + (sPr N i))), (5, .int (nI i)), (4, .int (nI i)), (11, .int (nI 6)), (8, .int (sma 0 (fun r => N (7 + r) i) 6)), (9, .ref (b 3)), (10, .int (nI 6)), (7, .int (nI i)), (0, .ref (b 0)), (1, .ref (a 13)), (2, .int (nI T)), (3, .int (nI R))]) hx hb dX1_isSame_257 hl (by decide) rfl (fun ls hl => ?_)
                                      refine lv_iinc (v := nI (i + 1)) (lv' := [(7, .int (nI (i + 1))), (6, .int ((sma 0 (sPr N) i) + (sPr N i))), (5, .int (nI i)), (4, .int (nI i)), (11, .int (nI 6)), (8, .int (sma 0 (fun r => N (7 + r) i) 6)), (9, .ref (b 3)), (10, .int (nI 6)), (0, .ref (b 0)), (1, .ref (a 13)), (2, .int (nI T)), (3, .int (nI R))]) hx hb dX1_isSame_259 hl (k := 7) rfl (ninc i) (by decide) rfl (fun ls hl => ?_)
                                      refine lv_goto (tgt := 53) hx hb dX1_isSame_262 (by decide) ?_
                                      have e88 : oI (amx (sPr N) (i + 1)) = nI i := by rw [amx_new hq8 c77] <;> rfl
                                      have e89 : oI (amn (sUn N) (i + 1)) = nI i := by rw [amn_none hq9] <;> rfl
                                      exact ih ls (by rw [e88, e89]; exact lv_sub hl [0, 3, 2, 1, 8, 9, 10, 11] rfl)
                                    · exfalso; revert c87; decide
                                  · rw [hq9] at hl
                                    have hl : lv_has ls 13 [(4, .int (nI i)), (11, .int (nI 6)), (8, .int (sma 0 (fun r => N (7 + r) i) 6)), (9, .ref (b 3)), (10, .int (nI 6)), (7, .int (nI i)), (5, .int (nI b9)), (6, .int (sma 0 (sPr N) i)), (0, .ref (b 0)), (1, .ref (a 13)), (2, .int (nI T)), (3, .int (nI R))] := hl
                                    have hb9 := amn_lt i hq9
                                    refine lv_iload hx hb dX1_isSame_224 (lv_at hl 6 rfl) ?_
                                    refine lv_if_lt (tgt := 244) hx hb dX1_isSame_226 (by decide) (fun c90 => ?_) (fun c90 => ?_)
                                    · exfalso; exact absurd c90 (nI_pos (by omega))
                                    · refine lv_aload_n hx hb dX1_isSame_229 rfl (lv_at hl 8 rfl) ?_
                                      refine lv_iload hx hb dX1_isSame_230 (lv_at hl 5 rfl) ?_
                                      refine k1_X1_until hC (c_X1_until l D cI cQ b N hT8 hR6 (t := i) (by omega) hP) hN rfl ⟨rfl, rfl⟩ ⟨Nat.le_of_ble_eq_true rfl, Nat.le_of_ble_eq_true rfl⟩ ⟨Nat.zero_le _, Nat.zero_le _⟩ hl.1 rfl (Nat.le_of_ble_eq_true rfl) dX1_isSame_232 ?_
                                      refine lv_aload_n hx hb dX1_isSame_235 rfl (lv_at hl 8 rfl) ?_
                                      refine lv_iload hx hb dX1_isSame_236 (lv_at hl 6 rfl) ?_
                                      refine k1_X1_until hC (c_X1_until l D cI cQ b N hT8 hR6 (t := b9) (by omega) hP) hN rfl ⟨rfl, rfl⟩ ⟨Nat.le_of_ble_eq_true rfl, Nat.le_of_ble_eq_true rfl⟩ ⟨Nat.zero_le _, Nat.zero_le _⟩ hl.1 rfl (Nat.le_of_ble_eq_true rfl) dX1_isSame_238 ?_
                                      refine lv_icmp_ge (tgt := 248) hx hb dX1_isSame_241 (by decide) (fun c91 => ?_) (fun c91 => ?_)
                                      · refine lv_iload hx hb dX1_isSame_248 (lv_at hl 7 rfl) ?_
                                        refine lv_aload_n hx hb dX1_isSame_250 rfl (lv_at hl 8 rfl) ?_
                                        refine lv_iload hx hb dX1_isSame_251 (lv_at hl 5 rfl) ?_
                                        refine k1_X1_price hC (c_X1_price l D cI cQ b N hT8 hR6 (t := i) (by omega)) hN rfl ⟨rfl, rfl⟩ ⟨Nat.le_of_ble_eq_true rfl, Nat.le_of_ble_eq_true rfl⟩ ⟨Nat.zero_le _, Nat.zero_le _⟩ hl.1 rfl (Nat.le_of_ble_eq_true rfl) dX1_isSame_253 ?_
                                        refine lv_iadd hx hb dX1_isSame_256 ?_
                                        refine lv_istore (lv' := [(6, .int ((sma 0 (sPr N) i) + (sPr N i))), (4, .int (nI i)), (11, .int (nI 6)), (8, .int (sma 0 (fun r => N (7 + r) i) 6)), (9, .ref (b 3)), (10, .int (nI 6)), (7, .int (nI i)), (5, .int (nI b9)), (0, .ref (b 0)), (1, .ref (a 13)), (2, .int (nI T)), (3, .int (nI R))]) hx hb dX1_isSame_257 hl (by decide) rfl (fun ls hl => ?_)
                                        refine lv_iinc (v := nI (i + 1)) (lv' := [(7, .int (nI (i + 1))), (6, .int ((sma 0 (sPr N) i) + (sPr N i))), (4, .int (nI i)), (11, .int (nI 6)), (8, .int (sma 0 (fun r => N (7 + r) i) 6)), (9, .ref (b 3)), (10, .int (nI 6)), (5, .int (nI b9)), (0, .ref (b 0)), (1, .ref (a 13)), (2, .int (nI T)), (3, .int (nI R))]) hx hb dX1_isSame_259 hl (k := 6) rfl (ninc i) (by decide) rfl (fun ls hl => ?_)
                                        refine lv_goto (tgt := 53) hx hb dX1_isSame_262 (by decide) ?_
                                        have e92 : oI (amx (sPr N) (i + 1)) = nI i := by rw [amx_new hq8 c77] <;> rfl
                                        have e93 : oI (amn (sUn N) (i + 1)) = nI b9 := by rw [amn_keep hq9 c91] <;> rfl
                                        exact ih ls (by rw [e92, e93]; exact lv_sub hl [0, 2, 7, 1, 8, 9, 10, 11] rfl)
                                      · refine lv_iload hx hb dX1_isSame_244 (lv_at hl 5 rfl) ?_
                                        refine lv_istore (lv' := [(5, .int (nI i)), (4, .int (nI i)), (11, .int (nI 6)), (8, .int (sma 0 (fun r => N (7 + r) i) 6)), (9, .ref (b 3)), (10, .int (nI 6)), (7, .int (nI i)), (6, .int (sma 0 (sPr N) i)), (0, .ref (b 0)), (1, .ref (a 13)), (2, .int (nI T)), (3, .int (nI R))]) hx hb dX1_isSame_246 hl (by decide) rfl (fun ls hl => ?_)
                                        refine lv_iload hx hb dX1_isSame_248 (lv_at hl 7 rfl) ?_
                                        refine lv_aload_n hx hb dX1_isSame_250 rfl (lv_at hl 8 rfl) ?_
                                        refine lv_iload hx hb dX1_isSame_251 (lv_at hl 6 rfl) ?_
                                        refine k1_X1_price hC (c_X1_price l D cI cQ b N hT8 hR6 (t := i) (by omega)) hN rfl ⟨rfl, rfl⟩ ⟨Nat.le_of_ble_eq_true rfl, Nat.le_of_ble_eq_true rfl⟩ ⟨Nat.zero_le _, Nat.zero_le _⟩ hl.1 rfl (Nat.le_of_ble_eq_true rfl) dX1_isSame_253 ?_
                                        refine lv_iadd hx hb dX1_isSame_256 ?_
                                        refine lv_istore (lv' := [(6, .int ((sma 0 (sPr N) i) + (sPr N i))), (5, .int (nI i)), (4, .int (nI i)), (11, .int (nI 6)), (8, .int (sma 0 (fun r => N (7 + r) i) 6)), (9, .ref (b 3)), (10, .int (nI 6)), (7, .int (nI i)), (0, .ref (b 0)), (1, .ref (a 13)), (2, .int (nI T)), (3, .int (nI R))]) hx hb dX1_isSame_257 hl (by decide) rfl (fun ls hl => ?_)
                                        refine lv_iinc (v := nI (i + 1)) (lv' := [(7, .int (nI (i + 1))), (6, .int ((sma 0 (sPr N) i) + (sPr N i))), (5, .int (nI i)), (4, .int (nI i)), (11, .int (nI 6)), (8, .int (sma 0 (fun r => N (7 + r) i) 6)), (9, .ref (b 3)), (10, .int (nI 6)), (0, .ref (b 0)), (1, .ref (a 13)), (2, .int (nI T)), (3, .int (nI R))]) hx hb dX1_isSame_259 hl (k := 7) rfl (ninc i) (by decide) rfl (fun ls hl => ?_)
                                        refine lv_goto (tgt := 53) hx hb dX1_isSame_262 (by decide) ?_
                                        have e94 : oI (amx (sPr N) (i + 1)) = nI i := by rw [amx_new hq8 c77] <;> rfl
                                        have e95 : oI (amn (sUn N) (i + 1)) = nI i := by rw [amn_new hq9 c91] <;> rfl
                                        exact ih ls (by rw [e94, e95]; exact lv_sub hl [0, 3, 2, 1, 8, 9, 10, 11] rfl)
                          · exfalso; exact c65 (hJ.op (by omega))
              · exfalso; omega
            · intro j hj jh ls hl
              refine lv_iload hx hb dX1_isSame_76 (lv_at hl 0 rfl) ?_
              refine lv_iload hx hb dX1_isSame_78 (lv_at hl 3 rfl) ?_
              refine jge (i := j) (j := 6) (tgt := 106) hC dX1_isSame_80 (by decide) rfl rfl (by omega) (by omega) (fun c96 => ?_) (fun c96 => ?_)
              · exfalso; omega
              · refine lv_aload hx hb dX1_isSame_83 (lv_at hl 2 rfl) ?_
                refine lv_iload hx hb dX1_isSame_85 (lv_at hl 0 rfl) ?_
                refine lS_hr (j) hC hN rfl (by omega) dX1_isSame_87 ?_
                refine lv_astore (lv' := [(12, .ref (b (4 + j))), (11, .int (nI j)), (8, .int (sma 0 (fun r => N (7 + r) i) j)), (9, .ref (b 3)), (10, .int (nI 6)), (7, .int (nI i)), (4, .int (oI (amx (sPr N) i))), (5, .int (oI (amn (sUn N) i))), (6, .int (sma 0 (sPr N) i)), (0, .ref (b 0)), (1, .ref (a 13)), (2, .int (nI T)), (3, .int (nI R))]) hx hb dX1_isSame_88 hl (by decide) rfl (fun ls hl => ?_)
                refine lv_iload hx hb dX1_isSame_90 (lv_at hl 2 rfl) ?_
                refine lv_aload hx hb dX1_isSame_92 (lv_at hl 0 rfl) ?_
                refine lv_iload hx hb dX1_isSame_94 (lv_at hl 5 rfl) ?_
                refine lS_held (j) (i) hC hN (by omega) rfl (by omega) rfl dX1_isSame_96 ?_
                refine lv_iadd hx hb dX1_isSame_97 ?_
                refine lv_istore (lv' := [(8, .int ((sma 0 (fun r => N (7 + r) i) j) + (N (7 + j) i))), (12, .ref (b (4 + j))), (11, .int (nI j)), (9, .ref (b 3)), (10, .int (nI 6)), (7, .int (nI i)), (4, .int (oI (amx (sPr N) i))), (5, .int (oI (amn (sUn N) i))), (6, .int (sma 0 (sPr N) i)), (0, .ref (b 0)), (1, .ref (a 13)), (2, .int (nI T)), (3, .int (nI R))]) hx hb dX1_isSame_98 hl (by decide) rfl (fun ls hl => ?_)
                refine lv_iinc (v := nI (j + 1)) (lv' := [(11, .int (nI (j + 1))), (8, .int ((sma 0 (fun r => N (7 + r) i) j) + (N (7 + j) i))), (12, .ref (b (4 + j))), (9, .ref (b 3)), (10, .int (nI 6)), (7, .int (nI i)), (4, .int (oI (amx (sPr N) i))), (5, .int (oI (amn (sUn N) i))), (6, .int (sma 0 (sPr N) i)), (0, .ref (b 0)), (1, .ref (a 13)), (2, .int (nI T)), (3, .int (nI R))]) hx hb dX1_isSame_100 hl (k := 2) rfl (ninc j) (by decide) rfl (fun ls hl => ?_)
                refine lv_goto (tgt := 76) hx hb dX1_isSame_103 (by decide) ?_
                exact jh ls (lv_sub hl [0, 1, 3, 4, 5, 6, 7, 8, 9, 10, 11, 12] rfl)
      · exfalso; exact c3 rfl
end
