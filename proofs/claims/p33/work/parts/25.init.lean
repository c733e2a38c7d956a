/-! ===== the constructors ===== -/
theorem D_one {A : Nat → Prop} {a : Nat} {e : va_E} (h : A a) : va_D A [(a, e)] := by
  refine ⟨fun i j p q hi hj _ => ?_, fun k q hk => ?_⟩
  · have h1 := (List.getElem?_eq_some_iff.mp hi).1
    have h2 := (List.getElem?_eq_some_iff.mp hj).1
    simp only [List.length_cons, List.length_nil] at h1 h2
    omega
  · have h1 := (List.getElem?_eq_some_iff.mp hk).1
    simp only [List.length_cons, List.length_nil] at h1
    have h2 : k = 0 := by omega
    subst h2
    cases hk
    exact h
theorem AOA_warm {s U : State} (hW : s.vm.Alike U.vm) (h : va_AOA .int s) : va_AOA .int U := by
  have h1 : (Cond.arrayOver (.array .int)).before #[] (s.setVm U.vm) = true := by rw [Cond.arrayOver_setVmC hW]; exact h
  exact h1
theorem vwB_get {cI cQ : ClassId} {a : Nat → Nat} {S : bS} {k : Nat} (hk : k < 14) : ∃ e : va_E, (vwB cI cQ a S)[(k + 1) % 14]? = some (a k, e) := by
  have hl : ((k + 1) % 14) < (vwB cI cQ a S).length := by show _ < 14; omega
  have h1 := List.getElem?_eq_getElem hl
  have h2 := (vwB_at ((k + 1) % 14) _ h1).2
  rw [show ((k + 1) % 14 + 13) % 14 = k by omega] at h2
  exact ⟨((vwB cI cQ a S)[(k + 1) % 14]).2, by rw [h1, ← h2]⟩
theorem BW_of {D : va_G} {cI cQ : ClassId} {a : Nat → Nat} {S : bS} {U : State} {H : Heap} {A : Nat → Prop} (hK : va_K D vwCl (tyB cI cQ) U) (hP : va_P D vwCl (vwB cI cQ a S) H) (hD : va_D A (vwB cI cQ a S)) : BW D cI cQ a S U H ∧ ∀ k, k < 14 → A (a k) := by
  refine ⟨⟨hK, hP, fun i j hi hj hij => ?_⟩, fun k hk => ?_⟩
  · obtain ⟨e1, h1⟩ := vwB_get (cI := cI) (cQ := cQ) (a := a) (S := S) hi
    obtain ⟨e2, h2⟩ := vwB_get (cI := cI) (cQ := cQ) (a := a) (S := S) hj
    have := hD.1 _ _ _ _ h1 h2 hij
    omega
  · obtain ⟨e1, h1⟩ := vwB_get (cI := cI) (cQ := cQ) (a := a) (S := S) hk
    exact hD.2 _ _ h1
theorem pl_const {f : Nat → va_E} {L : List Nat} {e : va_E} : va_pl ([] ++ L) (vr_up f L e) = L.map (fun x => (x, e)) := by
  unfold va_pl
  rw [List.nil_append]
  apply List.map_congr_left
  intro x hx
  rw [vr_up_in hx]
def aof (q0 q1 q2 q3 q4 q5 q6 h0 : Nat) (r : Nat → Nat) : Nat → Nat
  | 0 => q0
  | 1 => q1
  | 2 => q2
  | 3 => q3
  | 4 => q4
  | 5 => q5
  | 6 => q6
  | 7 => r 0
  | 8 => r 1
  | 9 => r 2
  | 10 => r 3
  | 11 => r 4
  | 12 => r 5
  | _ => h0
theorem aof_r {q0 q1 q2 q3 q4 q5 q6 h0 : Nat} {r : Nat → Nat} : (fun i => if i < 6 then some (aof q0 q1 q2 q3 q4 q5 q6 h0 r (7 + i)) else none) = (fun i => if i < 6 then some (r i) else none : Nat → Option Nat) := by
  funext i
  match i with
  | 0 => rfl
  | 1 => rfl
  | 2 => rfl
  | 3 => rfl
  | 4 => rfl
  | 5 => rfl
  | i + 6 => rw [if_neg (by omega), if_neg (by omega)]
def iP_X0 (D : va_G) (h0 sz : Nat) (U : State) : Prop := U.heap.size = sz ∧ va_K D vwCl [] U ∧ va_AOA .int U ∧ va_P D vwCl [(h0, .inr (0, [.null, .null, .null, .null, .null, .null, .null, .int 0, .int 0, .int 0]))] U.heap
def iQ_X0 (D : va_G) (h0 sz : Nat) : Array Value → State → Outcome → State → Prop := fun _ st oc t => oc = .returned none ∧ (∃ (cI cQ : ClassId) (a : Nat → Nat), a 13 = h0 ∧ (∀ k, k < 13 → sz ≤ a k) ∧ BW D cI cQ a (fun _ _ => 0) t t.heap) ∧ va_F (fun q => q = h0 ∨ sz ≤ q) st t
set_option maxHeartbeats 4000000 in
set_option maxRecDepth 100000 in
theorem i_X0 (l : Launch) (D : va_G) (h0 sz : Nat) : Met l yX0_init (wq yX0_init cX0_init 1 none) ({ frames := 1, cells := 13, slots := 100, locals := 32 } : Room) (va_Pc [.ref h0] (iP_X0 D h0 sz)) (iQ_X0 D h0 sz) 13 100 (fun q => q = h0 ∨ sz ≤ q) := by
  refine Met.ofW (cc := cX0_init) (maxL := 1) (ret := none) (by decide) rfl ?_
  intro p e s m args below meth c s₁ B hml hv
  obtain ⟨rfl, hsz, hK, hAO, hP⟩ := hv
  subst hsz
  have hC : CallFix p m c cX0_init 1 s (List.toArray [.ref h0]) wsL_law RX0 := ⟨B.exec, B.bytes, hml, findClass_of_methodNamed B.named, fun w h => atoms_spec (ws := wq yX0_init cX0_init 1 none) B.pre w (List.mem_cons_of_mem _ h)⟩
  have hin : meth.name = "<init>" := (name_of_methodNamed B.named B.method).1
  have hr := B.returns
  have hlocks := B.notSynchronized
  have hx := hC.1
  have hb := hC.2.1
  have hts := hC.2.2.2.2
  have hA : ∀ q : Nat, s.heap.size ≤ q → (fun q => q = h0 ∨ s.heap.size ≤ q) q := fun q h => Or.inr h
  have hS : va_S (fun q => q = h0 ∨ s.heap.size ≤ q) s.heap s.heap [] := va_S.rf
  have hD : va_D (fun q => q = h0 ∨ s.heap.size ≤ q) [(h0, .inr (0, [.null, .null, .null, .null, .null, .null, .null, .int 0, .int 0, .int 0]))] := D_one (Or.inl rfl)
  have hl := lv_entry ([.ref h0]) (n := 1) (Nat.le_of_ble_eq_true rfl)
  rw [lg_entry_eq]
  generalize (lg_sl ([.ref h0]) ++ List.replicate (1 - (lg_sl ([.ref h0])).length) Slot.unset).toArray = ls at hl ⊢
  have hl : lv_has ls 1 [(0, .ref h0)] := hl
  refine lv_aload_n hx hb dX0_init_0 rfl (lv_at hl 0 rfl) ?_
  refine W.objInit hx hb hC.2.2.2.1 (hts _ (List.mem_of_getElem? (i := 16) (by decide +kernel))) (hts _ (List.mem_of_getElem? (i := 17) (by decide +kernel))) (hts _ (List.mem_of_getElem? (i := 18) (by decide +kernel))) rfl (by rw [hml]; exact hl.1) rfl dX0_init_1 (Nat.le_of_ble_eq_true rfl) (Nat.le_of_ble_eq_true rfl) ?_
  refine W.eq (g2 := F0 m 4 ls []) rfl ?_
  refine lv_aload_n hx hb dX0_init_4 rfl (lv_at hl 0 rfl) ?_
  refine lv_bipush (v := 8) hx hb dX0_init_5 (by decide) ?_
  refine va_newa (atype := .int) (ty := .int) hx hb (hts _ (List.mem_of_getElem? (i := 3) (by decide +kernel))) rfl hK hP hD hS hA (N' := 8) (a0 := (8, .inl (fun _ => 0))) (fun _ => rfl) (by decide) (by decide) (by decide) (Nat.le_of_ble_eq_true rfl) (Nat.le_of_ble_eq_true rfl) dX0_init_7 (fun q0 c0 H hK hP hD hS => ?_)
  have hP : va_P D vwCl [(h0, .inr (0, [.null, .null, .null, .null, .null, .null, .null, .int 0, .int 0, .int 0])), (q0, .inl (c0, 8, .inl (fun _ => 0)))] H := hP
  have hD : va_D _ [(h0, .inr (0, [.null, .null, .null, .null, .null, .null, .null, .int 0, .int 0, .int 0])), (q0, .inl (c0, 8, .inl (fun _ => 0)))] := hD
  refine va_putF (D := D) (ci := 0) (v := .ref q0) (ty := .array .int) (C := RX0) (T := TX0) (N := 10) hx hb hts inlX0 tyX0 tyX0_ok nmX0 hC.2.2.2.1 hK hP hD hS 0 rfl rfl 0 (by decide) (hts _ (List.mem_of_getElem? (i := 19) (by decide +kernel))) (fun _ h9 => h9) rfl hin rfl (by decide +kernel) rfl rfl (Nat.le_of_ble_eq_true rfl) dX0_init_9 (fun H locs hP hD hS => ?_)
  have hP : va_P D vwCl [(h0, .inr (0, [.ref q0, .null, .null, .null, .null, .null, .null, .int 0, .int 0, .int 0])), (q0, .inl (c0, 8, .inl (fun _ => 0)))] H := hP
  have hD : va_D _ [(h0, .inr (0, [.ref q0, .null, .null, .null, .null, .null, .null, .int 0, .int 0, .int 0])), (q0, .inl (c0, 8, .inl (fun _ => 0)))] := hD
  refine lv_aload_n hx hb dX0_init_12 rfl (lv_at hl 0 rfl) ?_
  refine lv_bipush (v := 8) hx hb dX0_init_13 (by decide) ?_
  refine va_newa (atype := .int) (ty := .int) hx hb (hts _ (List.mem_of_getElem? (i := 3) (by decide +kernel))) rfl hK hP hD hS hA (N' := 8) (a0 := (8, .inl (fun _ => 0))) (fun _ => rfl) (by decide) (by decide) (by decide) (Nat.le_of_ble_eq_true rfl) (Nat.le_of_ble_eq_true rfl) dX0_init_15 (fun q1 c1 H hK hP hD hS => ?_)
  have ec := nm_eq (hK.2 0 (c0, .int) rfl).2 (hK.2 1 (c1, .int) rfl).2
  subst ec
  have hP : va_P D vwCl [(h0, .inr (0, [.ref q0, .null, .null, .null, .null, .null, .null, .int 0, .int 0, .int 0])), (q0, .inl (c0, 8, .inl (fun _ => 0))), (q1, .inl (c0, 8, .inl (fun _ => 0)))] H := hP
  have hD : va_D _ [(h0, .inr (0, [.ref q0, .null, .null, .null, .null, .null, .null, .int 0, .int 0, .int 0])), (q0, .inl (c0, 8, .inl (fun _ => 0))), (q1, .inl (c0, 8, .inl (fun _ => 0)))] := hD
  refine va_putF (D := D) (ci := 0) (v := .ref q1) (ty := .array .int) (C := RX0) (T := TX0) (N := 10) hx hb hts inlX0 tyX0 tyX0_ok nmX0 hC.2.2.2.1 hK hP hD hS 0 rfl rfl 1 (by decide) (hts _ (List.mem_of_getElem? (i := 20) (by decide +kernel))) (fun _ h9 => h9) rfl hin rfl (by decide +kernel) rfl rfl (Nat.le_of_ble_eq_true rfl) dX0_init_17 (fun H locs hP hD hS => ?_)
  have hP : va_P D vwCl [(h0, .inr (0, [.ref q0, .ref q1, .null, .null, .null, .null, .null, .int 0, .int 0, .int 0])), (q0, .inl (c0, 8, .inl (fun _ => 0))), (q1, .inl (c0, 8, .inl (fun _ => 0)))] H := hP
  have hD : va_D _ [(h0, .inr (0, [.ref q0, .ref q1, .null, .null, .null, .null, .null, .int 0, .int 0, .int 0])), (q0, .inl (c0, 8, .inl (fun _ => 0))), (q1, .inl (c0, 8, .inl (fun _ => 0)))] := hD
  refine lv_aload_n hx hb dX0_init_20 rfl (lv_at hl 0 rfl) ?_
  refine lv_bipush (v := 8) hx hb dX0_init_21 (by decide) ?_
  refine va_newa (atype := .int) (ty := .int) hx hb (hts _ (List.mem_of_getElem? (i := 3) (by decide +kernel))) rfl hK hP hD hS hA (N' := 8) (a0 := (8, .inl (fun _ => 0))) (fun _ => rfl) (by decide) (by decide) (by decide) (Nat.le_of_ble_eq_true rfl) (Nat.le_of_ble_eq_true rfl) dX0_init_23 (fun q2 c2 H hK hP hD hS => ?_)
  have ec := nm_eq (hK.2 0 (c0, .int) rfl).2 (hK.2 2 (c2, .int) rfl).2
  subst ec
  have hP : va_P D vwCl [(h0, .inr (0, [.ref q0, .ref q1, .null, .null, .null, .null, .null, .int 0, .int 0, .int 0])), (q0, .inl (c0, 8, .inl (fun _ => 0))), (q1, .inl (c0, 8, .inl (fun _ => 0))), (q2, .inl (c0, 8, .inl (fun _ => 0)))] H := hP
  have hD : va_D _ [(h0, .inr (0, [.ref q0, .ref q1, .null, .null, .null, .null, .null, .int 0, .int 0, .int 0])), (q0, .inl (c0, 8, .inl (fun _ => 0))), (q1, .inl (c0, 8, .inl (fun _ => 0))), (q2, .inl (c0, 8, .inl (fun _ => 0)))] := hD
  refine va_putF (D := D) (ci := 0) (v := .ref q2) (ty := .array .int) (C := RX0) (T := TX0) (N := 10) hx hb hts inlX0 tyX0 tyX0_ok nmX0 hC.2.2.2.1 hK hP hD hS 0 rfl rfl 2 (by decide) (hts _ (List.mem_of_getElem? (i := 21) (by decide +kernel))) (fun _ h9 => h9) rfl hin rfl (by decide +kernel) rfl rfl (Nat.le_of_ble_eq_true rfl) dX0_init_25 (fun H locs hP hD hS => ?_)
  have hP : va_P D vwCl [(h0, .inr (0, [.ref q0, .ref q1, .ref q2, .null, .null, .null, .null, .int 0, .int 0, .int 0])), (q0, .inl (c0, 8, .inl (fun _ => 0))), (q1, .inl (c0, 8, .inl (fun _ => 0))), (q2, .inl (c0, 8, .inl (fun _ => 0)))] H := hP
  have hD : va_D _ [(h0, .inr (0, [.ref q0, .ref q1, .ref q2, .null, .null, .null, .null, .int 0, .int 0, .int 0])), (q0, .inl (c0, 8, .inl (fun _ => 0))), (q1, .inl (c0, 8, .inl (fun _ => 0))), (q2, .inl (c0, 8, .inl (fun _ => 0)))] := hD
  refine lv_aload_n hx hb dX0_init_28 rfl (lv_at hl 0 rfl) ?_
  refine lv_bipush (v := 8) hx hb dX0_init_29 (by decide) ?_
  refine va_newa (atype := .int) (ty := .int) hx hb (hts _ (List.mem_of_getElem? (i := 3) (by decide +kernel))) rfl hK hP hD hS hA (N' := 8) (a0 := (8, .inl (fun _ => 0))) (fun _ => rfl) (by decide) (by decide) (by decide) (Nat.le_of_ble_eq_true rfl) (Nat.le_of_ble_eq_true rfl) dX0_init_31 (fun q3 c3 H hK hP hD hS => ?_)
  have ec := nm_eq (hK.2 0 (c0, .int) rfl).2 (hK.2 3 (c3, .int) rfl).2
  subst ec
  have hP : va_P D vwCl [(h0, .inr (0, [.ref q0, .ref q1, .ref q2, .null, .null, .null, .null, .int 0, .int 0, .int 0])), (q0, .inl (c0, 8, .inl (fun _ => 0))), (q1, .inl (c0, 8, .inl (fun _ => 0))), (q2, .inl (c0, 8, .inl (fun _ => 0))), (q3, .inl (c0, 8, .inl (fun _ => 0)))] H := hP
  have hD : va_D _ [(h0, .inr (0, [.ref q0, .ref q1, .ref q2, .null, .null, .null, .null, .int 0, .int 0, .int 0])), (q0, .inl (c0, 8, .inl (fun _ => 0))), (q1, .inl (c0, 8, .inl (fun _ => 0))), (q2, .inl (c0, 8, .inl (fun _ => 0))), (q3, .inl (c0, 8, .inl (fun _ => 0)))] := hD
  refine va_putF (D := D) (ci := 0) (v := .ref q3) (ty := .array .int) (C := RX0) (T := TX0) (N := 10) hx hb hts inlX0 tyX0 tyX0_ok nmX0 hC.2.2.2.1 hK hP hD hS 0 rfl rfl 3 (by decide) (hts _ (List.mem_of_getElem? (i := 22) (by decide +kernel))) (fun _ h9 => h9) rfl hin rfl (by decide +kernel) rfl rfl (Nat.le_of_ble_eq_true rfl) dX0_init_33 (fun H locs hP hD hS => ?_)
  have hP : va_P D vwCl [(h0, .inr (0, [.ref q0, .ref q1, .ref q2, .ref q3, .null, .null, .null, .int 0, .int 0, .int 0])), (q0, .inl (c0, 8, .inl (fun _ => 0))), (q1, .inl (c0, 8, .inl (fun _ => 0))), (q2, .inl (c0, 8, .inl (fun _ => 0))), (q3, .inl (c0, 8, .inl (fun _ => 0)))] H := hP
  have hD : va_D _ [(h0, .inr (0, [.ref q0, .ref q1, .ref q2, .ref q3, .null, .null, .null, .int 0, .int 0, .int 0])), (q0, .inl (c0, 8, .inl (fun _ => 0))), (q1, .inl (c0, 8, .inl (fun _ => 0))), (q2, .inl (c0, 8, .inl (fun _ => 0))), (q3, .inl (c0, 8, .inl (fun _ => 0)))] := hD
  refine lv_aload_n hx hb dX0_init_36 rfl (lv_at hl 0 rfl) ?_
  refine lv_bipush (v := 8) hx hb dX0_init_37 (by decide) ?_
  refine va_newa (atype := .int) (ty := .int) hx hb (hts _ (List.mem_of_getElem? (i := 3) (by decide +kernel))) rfl hK hP hD hS hA (N' := 8) (a0 := (8, .inl (fun _ => 0))) (fun _ => rfl) (by decide) (by decide) (by decide) (Nat.le_of_ble_eq_true rfl) (Nat.le_of_ble_eq_true rfl) dX0_init_39 (fun q4 c4 H hK hP hD hS => ?_)
  have ec := nm_eq (hK.2 0 (c0, .int) rfl).2 (hK.2 4 (c4, .int) rfl).2
  subst ec
  have hP : va_P D vwCl [(h0, .inr (0, [.ref q0, .ref q1, .ref q2, .ref q3, .null, .null, .null, .int 0, .int 0, .int 0])), (q0, .inl (c0, 8, .inl (fun _ => 0))), (q1, .inl (c0, 8, .inl (fun _ => 0))), (q2, .inl (c0, 8, .inl (fun _ => 0))), (q3, .inl (c0, 8, .inl (fun _ => 0))), (q4, .inl (c0, 8, .inl (fun _ => 0)))] H := hP
  have hD : va_D _ [(h0, .inr (0, [.ref q0, .ref q1, .ref q2, .ref q3, .null, .null, .null, .int 0, .int 0, .int 0])), (q0, .inl (c0, 8, .inl (fun _ => 0))), (q1, .inl (c0, 8, .inl (fun _ => 0))), (q2, .inl (c0, 8, .inl (fun _ => 0))), (q3, .inl (c0, 8, .inl (fun _ => 0))), (q4, .inl (c0, 8, .inl (fun _ => 0)))] := hD
  refine va_putF (D := D) (ci := 0) (v := .ref q4) (ty := .array .int) (C := RX0) (T := TX0) (N := 10) hx hb hts inlX0 tyX0 tyX0_ok nmX0 hC.2.2.2.1 hK hP hD hS 0 rfl rfl 4 (by decide) (hts _ (List.mem_of_getElem? (i := 23) (by decide +kernel))) (fun _ h9 => h9) rfl hin rfl (by decide +kernel) rfl rfl (Nat.le_of_ble_eq_true rfl) dX0_init_41 (fun H locs hP hD hS => ?_)
  have hP : va_P D vwCl [(h0, .inr (0, [.ref q0, .ref q1, .ref q2, .ref q3, .ref q4, .null, .null, .int 0, .int 0, .int 0])), (q0, .inl (c0, 8, .inl (fun _ => 0))), (q1, .inl (c0, 8, .inl (fun _ => 0))), (q2, .inl (c0, 8, .inl (fun _ => 0))), (q3, .inl (c0, 8, .inl (fun _ => 0))), (q4, .inl (c0, 8, .inl (fun _ => 0)))] H := hP
  have hD : va_D _ [(h0, .inr (0, [.ref q0, .ref q1, .ref q2, .ref q3, .ref q4, .null, .null, .int 0, .int 0, .int 0])), (q0, .inl (c0, 8, .inl (fun _ => 0))), (q1, .inl (c0, 8, .inl (fun _ => 0))), (q2, .inl (c0, 8, .inl (fun _ => 0))), (q3, .inl (c0, 8, .inl (fun _ => 0))), (q4, .inl (c0, 8, .inl (fun _ => 0)))] := hD
  refine lv_aload_n hx hb dX0_init_44 rfl (lv_at hl 0 rfl) ?_
  refine lv_bipush (v := 6) hx hb dX0_init_45 (by decide) ?_
  refine va_newa (atype := .int) (ty := .int) hx hb (hts _ (List.mem_of_getElem? (i := 3) (by decide +kernel))) rfl hK hP hD hS hA (N' := 6) (a0 := (6, .inl (fun _ => 0))) (fun _ => rfl) (by decide) (by decide) (by decide) (Nat.le_of_ble_eq_true rfl) (Nat.le_of_ble_eq_true rfl) dX0_init_47 (fun q5 c5 H hK hP hD hS => ?_)
  have ec := nm_eq (hK.2 0 (c0, .int) rfl).2 (hK.2 5 (c5, .int) rfl).2
  subst ec
  have hP : va_P D vwCl [(h0, .inr (0, [.ref q0, .ref q1, .ref q2, .ref q3, .ref q4, .null, .null, .int 0, .int 0, .int 0])), (q0, .inl (c0, 8, .inl (fun _ => 0))), (q1, .inl (c0, 8, .inl (fun _ => 0))), (q2, .inl (c0, 8, .inl (fun _ => 0))), (q3, .inl (c0, 8, .inl (fun _ => 0))), (q4, .inl (c0, 8, .inl (fun _ => 0))), (q5, .inl (c0, 6, .inl (fun _ => 0)))] H := hP
  have hD : va_D _ [(h0, .inr (0, [.ref q0, .ref q1, .ref q2, .ref q3, .ref q4, .null, .null, .int 0, .int 0, .int 0])), (q0, .inl (c0, 8, .inl (fun _ => 0))), (q1, .inl (c0, 8, .inl (fun _ => 0))), (q2, .inl (c0, 8, .inl (fun _ => 0))), (q3, .inl (c0, 8, .inl (fun _ => 0))), (q4, .inl (c0, 8, .inl (fun _ => 0))), (q5, .inl (c0, 6, .inl (fun _ => 0)))] := hD
  refine va_putF (D := D) (ci := 0) (v := .ref q5) (ty := .array .int) (C := RX0) (T := TX0) (N := 10) hx hb hts inlX0 tyX0 tyX0_ok nmX0 hC.2.2.2.1 hK hP hD hS 0 rfl rfl 5 (by decide) (hts _ (List.mem_of_getElem? (i := 24) (by decide +kernel))) (fun _ h9 => h9) rfl hin rfl (by decide +kernel) rfl rfl (Nat.le_of_ble_eq_true rfl) dX0_init_49 (fun H locs hP hD hS => ?_)
  have hP : va_P D vwCl [(h0, .inr (0, [.ref q0, .ref q1, .ref q2, .ref q3, .ref q4, .ref q5, .null, .int 0, .int 0, .int 0])), (q0, .inl (c0, 8, .inl (fun _ => 0))), (q1, .inl (c0, 8, .inl (fun _ => 0))), (q2, .inl (c0, 8, .inl (fun _ => 0))), (q3, .inl (c0, 8, .inl (fun _ => 0))), (q4, .inl (c0, 8, .inl (fun _ => 0))), (q5, .inl (c0, 6, .inl (fun _ => 0)))] H := hP
  have hD : va_D _ [(h0, .inr (0, [.ref q0, .ref q1, .ref q2, .ref q3, .ref q4, .ref q5, .null, .int 0, .int 0, .int 0])), (q0, .inl (c0, 8, .inl (fun _ => 0))), (q1, .inl (c0, 8, .inl (fun _ => 0))), (q2, .inl (c0, 8, .inl (fun _ => 0))), (q3, .inl (c0, 8, .inl (fun _ => 0))), (q4, .inl (c0, 8, .inl (fun _ => 0))), (q5, .inl (c0, 6, .inl (fun _ => 0)))] := hD
  refine lv_aload_n hx hb dX0_init_52 rfl (lv_at hl 0 rfl) ?_
  refine lv_bipush (v := 6) hx hb dX0_init_53 (by decide) ?_
  refine lv_bipush (v := 8) hx hb dX0_init_55 (by decide) ?_
  refine va_mna (X := [(h0, .inr (0, [.ref q0, .ref q1, .ref q2, .ref q3, .ref q4, .ref q5, .null, .int 0, .int 0, .int 0])), (q0, .inl (c0, 8, .inl (fun _ => 0))), (q1, .inl (c0, 8, .inl (fun _ => 0))), (q2, .inl (c0, 8, .inl (fun _ => 0))), (q3, .inl (c0, 8, .inl (fun _ => 0))), (q4, .inl (c0, 8, .inl (fun _ => 0))), (q5, .inl (c0, 6, .inl (fun _ => 0)))]) (L := []) (f := fun _ => .inl (c0, 8, .inl (fun _ => 0))) (ty := .int) hx hb hC.2.2.2.1 (hts _ (List.mem_of_getElem? (i := 25) (by decide +kernel))) hAO (hts _ (List.mem_of_getElem? (i := 3) (by decide +kernel))) (cy := c0) (va_nm_int (hK.2 0 (c0, .int) rfl).2) hK (by show va_P D vwCl (_ ++ []) H; rw [List.append_nil]; exact hP) (by show va_D _ (_ ++ []); rw [List.append_nil]; exact hD) hS hA (N' := 6) (K' := 8) (z := (8, .inl (fun _ => 0))) (by decide) (by decide) (by decide) (by decide) (by decide) (by decide) (by decide) (by decide) (by decide) (Nat.le_of_ble_eq_true rfl) (Nat.le_of_ble_eq_true rfl) (fun _ => rfl) dX0_init_57 (fun q6 r cQ H hri hrL hK hP hD hS => ?_)
  rw [pl_const] at hP hD
  have hP : va_P D vwCl [(h0, .inr (0, [.ref q0, .ref q1, .ref q2, .ref q3, .ref q4, .ref q5, .null, .int 0, .int 0, .int 0])), (q0, .inl (c0, 8, .inl (fun _ => 0))), (q1, .inl (c0, 8, .inl (fun _ => 0))), (q2, .inl (c0, 8, .inl (fun _ => 0))), (q3, .inl (c0, 8, .inl (fun _ => 0))), (q4, .inl (c0, 8, .inl (fun _ => 0))), (q5, .inl (c0, 6, .inl (fun _ => 0))), (q6, .inl (cQ, 6, .inr (.inr (.inr (.inr (fun i => if i < 6 then some (r i) else none)))))), (r 0, .inl (c0, 8, .inl (fun _ => 0))), (r 1, .inl (c0, 8, .inl (fun _ => 0))), (r 2, .inl (c0, 8, .inl (fun _ => 0))), (r 3, .inl (c0, 8, .inl (fun _ => 0))), (r 4, .inl (c0, 8, .inl (fun _ => 0))), (r 5, .inl (c0, 8, .inl (fun _ => 0)))] H := hP
  have hD : va_D _ [(h0, .inr (0, [.ref q0, .ref q1, .ref q2, .ref q3, .ref q4, .ref q5, .null, .int 0, .int 0, .int 0])), (q0, .inl (c0, 8, .inl (fun _ => 0))), (q1, .inl (c0, 8, .inl (fun _ => 0))), (q2, .inl (c0, 8, .inl (fun _ => 0))), (q3, .inl (c0, 8, .inl (fun _ => 0))), (q4, .inl (c0, 8, .inl (fun _ => 0))), (q5, .inl (c0, 6, .inl (fun _ => 0))), (q6, .inl (cQ, 6, .inr (.inr (.inr (.inr (fun i => if i < 6 then some (r i) else none)))))), (r 0, .inl (c0, 8, .inl (fun _ => 0))), (r 1, .inl (c0, 8, .inl (fun _ => 0))), (r 2, .inl (c0, 8, .inl (fun _ => 0))), (r 3, .inl (c0, 8, .inl (fun _ => 0))), (r 4, .inl (c0, 8, .inl (fun _ => 0))), (r 5, .inl (c0, 8, .inl (fun _ => 0)))] := hD
  refine va_putF (D := D) (ci := 0) (v := .ref q6) (ty := .array (.array .int)) (C := RX0) (T := TX0) (N := 10) hx hb hts inlX0 tyX0 tyX0_ok nmX0 hC.2.2.2.1 hK hP hD hS 0 rfl rfl 6 (by decide) (hts _ (List.mem_of_getElem? (i := 26) (by decide +kernel))) (fun _ h9 => h9) rfl hin rfl (by decide +kernel) rfl rfl (Nat.le_of_ble_eq_true rfl) dX0_init_61 (fun H locs hP hD hS => ?_)
  have hP : va_P D vwCl [(h0, .inr (0, [.ref q0, .ref q1, .ref q2, .ref q3, .ref q4, .ref q5, .ref q6, .int 0, .int 0, .int 0])), (q0, .inl (c0, 8, .inl (fun _ => 0))), (q1, .inl (c0, 8, .inl (fun _ => 0))), (q2, .inl (c0, 8, .inl (fun _ => 0))), (q3, .inl (c0, 8, .inl (fun _ => 0))), (q4, .inl (c0, 8, .inl (fun _ => 0))), (q5, .inl (c0, 6, .inl (fun _ => 0))), (q6, .inl (cQ, 6, .inr (.inr (.inr (.inr (fun i => if i < 6 then some (r i) else none)))))), (r 0, .inl (c0, 8, .inl (fun _ => 0))), (r 1, .inl (c0, 8, .inl (fun _ => 0))), (r 2, .inl (c0, 8, .inl (fun _ => 0))), (r 3, .inl (c0, 8, .inl (fun _ => 0))), (r 4, .inl (c0, 8, .inl (fun _ => 0))), (r 5, .inl (c0, 8, .inl (fun _ => 0)))] H := hP
  have hD : va_D _ [(h0, .inr (0, [.ref q0, .ref q1, .ref q2, .ref q3, .ref q4, .ref q5, .ref q6, .int 0, .int 0, .int 0])), (q0, .inl (c0, 8, .inl (fun _ => 0))), (q1, .inl (c0, 8, .inl (fun _ => 0))), (q2, .inl (c0, 8, .inl (fun _ => 0))), (q3, .inl (c0, 8, .inl (fun _ => 0))), (q4, .inl (c0, 8, .inl (fun _ => 0))), (q5, .inl (c0, 6, .inl (fun _ => 0))), (q6, .inl (cQ, 6, .inr (.inr (.inr (.inr (fun i => if i < 6 then some (r i) else none)))))), (r 0, .inl (c0, 8, .inl (fun _ => 0))), (r 1, .inl (c0, 8, .inl (fun _ => 0))), (r 2, .inl (c0, 8, .inl (fun _ => 0))), (r 3, .inl (c0, 8, .inl (fun _ => 0))), (r 4, .inl (c0, 8, .inl (fun _ => 0))), (r 5, .inl (c0, 8, .inl (fun _ => 0)))] := hD
  rw [← aof_r (q0 := q0) (q1 := q1) (q2 := q2) (q3 := q3) (q4 := q4) (q5 := q5) (q6 := q6) (h0 := h0)] at hP hD
  have hW := BW_of (a := aof q0 q1 q2 q3 q4 q5 q6 h0 r) (cI := c0) (cQ := cQ) (S := fun _ _ => 0) (hK.sub [0, 6] rfl) hP hD
  refine W.widen (k := 13) (n := 100) (Nat.le_of_ble_eq_true rfl) (Nat.le_of_ble_eq_true rfl) ?_
  exact W.vret hx hb hr (fun t ht hW1 => ⟨rfl, ⟨c0, cQ, aof q0 q1 q2 q3 q4 q5 q6 h0 r, rfl, fun k hk => (hW.2 k (by omega)).elim (fun z => absurd (hW.1.2.2 k 13 (by omega) (by omega) z) (by omega)) (fun z => z), by rw [ht]; exact hW.1.moved hW1.alike⟩, hS.F ht⟩) hS.2.2 dX0_init_64 hlocks

theorem bl_X0 {D : va_G} {h0 sz : Nat} : FrameBlind (va_Pc [.ref h0] (iP_X0 D h0 sz)) := fun a U g mk h => ⟨h.1, h.2.1, va_K.moved (u := U) (U := U.calling g mk a) (Vm.Alike.refl U.vm) h.2.2.1, AOA_warm (s := U) (U := U.calling g mk a) (Vm.Alike.refl U.vm) h.2.2.2.1, h.2.2.2.2⟩
section BI9
variable {p : Program} {l : Launch} {e : Env} {R : Room} {s : State} {m : MethodId} {args : Array Value} {below : List Frame} {meth : Method} {c : Code} {H : Heap} {locs : List Loc} {cells slots : Nat} {Q : State → Prop}
variable {cc : ByteArray} {pc nL n index : Nat} {ls : Array Slot} {rest st0 : List Value} {A : Nat → Prop} {rm : Room} {own : String} {y : MethodName} {bytes : ByteArray} {h0 mc ms : Nat}
theorem kI {iP : State → Prop} {Qc : Array Value → State → Outcome → State → Prop} (hC : CallFix p m c cc nL s args wsL_law own) (hM : Met l y (wq y bytes n none) rm (va_Pc [.ref h0] iP) Qc mc ms A) (hbl : FrameBlind (va_Pc [.ref h0] iP)) (hp : ∀ U : State, U.heap = H → s.WarmedH U.vm → iP U) (hy : y.name = "<init>") (hm0 : Cond.code y bytes n none ∈ wsL_law) (hm1 : Cond.methodLink own index y ∈ wsL_law) (hm2 : Cond.instanceMethod y ∈ wsL_law) (hm3 : Cond.initialized y.cls ∈ wsL_law) (hrc : rm.cells = mc) (hrs : rm.slots = ms)
    (hd : y.cls ≠ "java/lang/invoke/MethodHandle" ∧ y.cls ≠ "java/lang/invoke/VarHandle" ∧ (parseMethodDescriptor y.desc).map (fun d => d.parameters.length) = some 0) (hR : rm.frames + 1 ≤ R.frames ∧ 8 + (n + 11) + rm.locals ≤ R.locals) (hf : cells + mc ≤ R.cells ∧ slots + ms ≤ R.slots) (hls : ls.size = nL) (hr8 : (rest.map fun v => v.category).sum ≤ 8) (hdg : decode cc pc = .ok (.invokespecial index, 3))
    (kk : ∀ (v : Option Value) (st t : State) (L : List Loc), st.heap = H → s.vm.Alike t.vm → Qc (List.toArray [.ref h0]) st (.returned v) t → (∀ z ∈ L, A z.base) → W p l e R s m args below meth c t.heap (locs ++ L) (cells + mc) (slots + ms) Q (F0 m (pc + 3) ls (v.toList ++ rest))) : W p l e R s m args below meth c H locs cells slots Q (F0 m pc ls (.ref h0 :: rest)) := by
  have hG : GoodIn wsL_law (wq y bytes n none) := good_in (fun w hw => (List.mem_cons.mp hw).elim (fun e => by rw [e]; exact hm0) (fun h => h))
  have hr := va_runI (e := e) (H := H) (As := []) (rest := rest) (locs := locs) (cells := cells) (slots := slots) (below := below) (meth := meth) hC hM (cwI 0 hC.2.2.2.2 hG rfl hrc hrs (hC.2.2.2.2 _ hm3) (hC.2.2.2.2 _ hm1) (hC.2.2.2.2 _ hm2) hy hd hR) ⟨hbl, fun U hU hW1 => ⟨rfl, hp U hU hW1⟩⟩ (g := F0 m pc ls (.ref h0 :: rest)) rfl rfl hls rfl (lv_room hr8) hdg hf
  intro T hT X
  obtain ⟨v, st₀, t, T', L, h1, X', hL, e1, e2, hq, st⟩ := hr T hT X
  obtain ⟨t2, a1, b1⟩ := kk v st₀ t L h1 (by rw [← e2]; exact X'.warmed.alike) hq hL T' e1 X'
  exact ⟨t2, st t2 a1, b1⟩
end BI9
theorem at3 {D : va_G} {cl : List vw_C} {p q r : Nat × va_E} {H : Heap} (h1 : va_at D cl p H) (h2 : va_at D cl q H) (h3 : va_at D cl r H) : va_P D cl [p, q, r] H := fun k x hk => by
  match k, hk with
  | 0, hk => cases hk; exact h1
  | 1, hk => cases hk; exact h2
  | 2, hk => cases hk; exact h3
  | k + 3, hk => simp at hk
theorem D3 {A : Nat → Prop} {a b c : Nat} {e f g : va_E} (h1 : A a) (h2 : A b) (h3 : A c) (n1 : a ≠ b) (n2 : a ≠ c) (n3 : b ≠ c) : va_D A [(a, e), (b, f), (c, g)] := by
  refine ⟨fun i j p q hi hj hpq => ?_, fun k q hk => ?_⟩
  · match i, hi, j, hj with
    | 0, hi, 0, hj => rfl
    | 0, hi, 1, hj => cases hi; cases hj; exact absurd hpq n1
    | 0, hi, 2, hj => cases hi; cases hj; exact absurd hpq n2
    | 1, hi, 0, hj => cases hi; cases hj; exact absurd hpq n1.symm
    | 1, hi, 1, hj => rfl
    | 1, hi, 2, hj => cases hi; cases hj; exact absurd hpq n3
    | 2, hi, 0, hj => cases hi; cases hj; exact absurd hpq n2.symm
    | 2, hi, 1, hj => cases hi; cases hj; exact absurd hpq n3.symm
    | 2, hi, 2, hj => rfl
    | i + 3, hi, _, _ => simp at hi
    | 0, _, j + 3, hj => simp at hj
    | 1, _, j + 3, hj => simp at hj
    | 2, _, j + 3, hj => simp at hj
  · match k, hk with
    | 0, hk => cases hk; exact h1
    | 1, hk => cases hk; exact h2
    | 2, hk => cases hk; exact h3
    | k + 3, hk => simp at hk
def bof (h0 q1 q2 q3 : Nat) (r : Nat → Nat) : Nat → Nat
  | 0 => h0
  | 1 => q1
  | 2 => q2
  | 3 => q3
  | k + 4 => r k
def iP_X1 (D : va_G) (cI cQ : ClassId) (h0 sz : Nat) (U : State) : Prop := U.heap.size = sz ∧ va_K D vwCl (tyB cI cQ) U ∧ va_AOA .int U ∧ va_at D vwCl (h0, .inr (1, [.int 0, .null, .null, .null])) U.heap
def iQ_X1 (D : va_G) (cI cQ : ClassId) (h0 sz : Nat) : Array Value → State → Outcome → State → Prop := fun _ st oc t => oc = .returned none ∧ (∃ b : Nat → Nat, b 0 = h0 ∧ (∀ k : Nat, 0 < k → k < 10 → sz ≤ b k) ∧ SW D cI cQ b (fun _ _ => 0) 0 0 t t.heap) ∧ va_F (fun q => q = h0 ∨ sz ≤ q) st t
theorem bl_X1 {D : va_G} {cI cQ : ClassId} {h0 sz : Nat} : FrameBlind (va_Pc [.ref h0] (iP_X1 D cI cQ h0 sz)) := fun a U g mk h => ⟨h.1, h.2.1, va_K.moved (u := U) (U := U.calling g mk a) (Vm.Alike.refl U.vm) h.2.2.1, AOA_mv (s := U) (U := U.calling g mk a) (Vm.Alike.refl U.vm) h.2.2.2.1, h.2.2.2.2⟩
set_option maxHeartbeats 4000000 in
set_option maxRecDepth 100000 in
theorem i_X1 (l : Launch) (D : va_G) (cI cQ : ClassId) (h0 sz : Nat) : Met l yX1_init (wq yX1_init cX1_init 1 none) ({ frames := 1, cells := 9, slots := 54, locals := 32 } : Room) (va_Pc [.ref h0] (iP_X1 D cI cQ h0 sz)) (iQ_X1 D cI cQ h0 sz) 9 54 (fun q => q = h0 ∨ sz ≤ q) := by
  refine Met.ofW (cc := cX1_init) (maxL := 1) (ret := none) (by decide) rfl ?_
  intro p e s m args below meth c s₁ B hml hv
  obtain ⟨rfl, hsz, hK, hAO, hP⟩ := hv
  subst hsz
  have hC : CallFix p m c cX1_init 1 s (List.toArray [.ref h0]) wsL_law RX1 := ⟨B.exec, B.bytes, hml, findClass_of_methodNamed B.named, fun w h => atoms_spec (ws := wq yX1_init cX1_init 1 none) B.pre w (List.mem_cons_of_mem _ h)⟩
  have hr := B.returns
  have hlocks := B.notSynchronized
  have hx := hC.1
  have hb := hC.2.1
  have hts := hC.2.2.2.2
  have hA : ∀ q : Nat, s.heap.size ≤ q → (fun q => q = h0 ∨ s.heap.size ≤ q) q := fun q h => Or.inr h
  have hS : va_S (fun q => q = h0 ∨ s.heap.size ≤ q) s.heap s.heap [] := va_S.rf
  have hlt : h0 < s.heap.size := va_at.lt hP
  have hl := lv_entry ([.ref h0]) (n := 1) (Nat.le_of_ble_eq_true rfl)
  rw [lg_entry_eq]
  generalize (lg_sl ([.ref h0]) ++ List.replicate (1 - (lg_sl ([.ref h0])).length) Slot.unset).toArray = ls at hl ⊢
  have hl : lv_has ls 1 [(0, .ref h0)] := hl
  refine lv_aload_n hx hb dX1_init_0 rfl (lv_at hl 0 rfl) ?_
  refine W.objInit hx hb hC.2.2.2.1 (hts _ (List.mem_of_getElem? (i := 36) (by decide +kernel))) (hts _ (List.mem_of_getElem? (i := 17) (by decide +kernel))) (hts _ (List.mem_of_getElem? (i := 18) (by decide +kernel))) rfl (by rw [hml]; exact hl.1) rfl dX1_init_1 (Nat.le_of_ble_eq_true rfl) (Nat.le_of_ble_eq_true rfl) ?_
  refine W.eq (g2 := F0 m 4 ls []) rfl ?_
  refine lv_aload_n hx hb dX1_init_4 rfl (lv_at hl 0 rfl) ?_
  refine lv_iconst (v := 0) hx hb dX1_init_5 (by decide) ?_
  refine nqG 0 hC hK hAO (List.mem_of_getElem? (i := 37) (by decide +kernel)) rfl (by omega) hS (Nat.le_of_ble_eq_true rfl) (Nat.le_of_ble_eq_true rfl) dX1_init_6 (fun H1 g1 hS z1 f1 => ?_)
  have go : GW D cI cQ 1 (fun _ => h0) (fun _ => .inr (1, [.int 0, .null, .null, .null])) s H1 := (GW.one hK hP).kept (fun _ _ => f1 _ hlt)
  refine ptG (b := fun _ => h0) (k := 0) (g := 1) (w := .ref s.heap.size) (ty := .array (.array .int)) hC go (by decide) rfl hS (Or.inl rfl) (by decide) (List.mem_of_getElem? (i := 38) (by decide +kernel)) rfl (fun _ h9 => h9) (by decide +kernel) rfl rfl (Nat.le_of_ble_eq_true rfl) dX1_init_9 (fun H2 locs2 go hS z2 f2 => ?_)
  have go : GW D cI cQ 1 (fun _ => h0) (fun _ => .inr (1, [.int 0, .ref s.heap.size, .null, .null])) s H2 := go.cg (fun k hk => by rw [show k = 0 by omega, eU_self]; rfl)
  have g1 := g1.kept (H1 := H2) (fun _ _ => f2 _ (Nat.ne_of_gt hlt))
  refine lv_aload_n hx hb dX1_init_12 rfl (lv_at hl 0 rfl) ?_
  refine lv_iconst (v := 0) hx hb dX1_init_13 (by decide) ?_
  refine nwG 0 hC hK rfl (by omega) hS (Nat.le_of_ble_eq_true rfl) (Nat.le_of_ble_eq_true rfl) dX1_init_14 (fun H3 g2 hS z3 f3 => ?_)
  have e2 : H2.size = s.heap.size + 1 := z2.trans z1
  have go := go.kept (H1 := H3) (fun _ _ => f3 _ (by omega))
  have g1 := g1.kept (H1 := H3) (fun _ _ => f3 _ (by omega))
  refine ptG (b := fun _ => h0) (k := 0) (g := 2) (w := .ref H2.size) (ty := .array .int) hC go (by decide) rfl hS (Or.inl rfl) (by decide) (List.mem_of_getElem? (i := 39) (by decide +kernel)) rfl (fun _ h9 => h9) (by decide +kernel) rfl rfl (Nat.le_of_ble_eq_true rfl) dX1_init_16 (fun H4 locs4 go hS z4 f4 => ?_)
  have go : GW D cI cQ 1 (fun _ => h0) (fun _ => .inr (1, [.int 0, .ref s.heap.size, .ref H2.size, .null])) s H4 := go.cg (fun k hk => by rw [show k = 0 by omega, eU_self]; rfl)
  have g1 := g1.kept (H1 := H4) (fun _ _ => f4 _ (Nat.ne_of_gt hlt))
  have g2 := g2.kept (H1 := H4) (fun _ _ => f4 _ (show H2.size ≠ h0 by omega))
  have hP := at3 (go.2.1 0 (by decide)) (g1.2.1 0 (by decide)) (g2.2.1 0 (by decide))
  have hD := D3 (A := fun q => q = h0 ∨ s.heap.size ≤ q) (e := .inr (1, [.int 0, .ref s.heap.size, .ref H2.size, .null])) (f := eQ cQ 0 (fun _ => none)) (g := eI cI 0 (fun _ => 0)) (Or.inl rfl) (Or.inr (Nat.le_refl s.heap.size)) (Or.inr (show s.heap.size ≤ H2.size by omega)) (Nat.ne_of_lt hlt) (show h0 ≠ H2.size by omega) (show s.heap.size ≠ H2.size by omega)
  refine lv_aload_n hx hb dX1_init_19 rfl (lv_at hl 0 rfl) ?_
  refine lv_bipush (v := 6) hx hb dX1_init_20 (by decide) ?_
  refine lv_bipush (v := 8) hx hb dX1_init_22 (by decide) ?_
  refine va_mna (X := [(h0, .inr (1, [.int 0, .ref s.heap.size, .ref H2.size, .null])), (s.heap.size, eQ cQ 0 (fun _ => none)), (H2.size, eI cI 0 (fun _ => 0))]) (L := []) (f := fun _ => .inl (cI, 8, .inl (fun _ => 0))) (ty := .int) hx hb hC.2.2.2.1 (hts _ (List.mem_of_getElem? (i := 40) (by decide +kernel))) hAO (hts _ (List.mem_of_getElem? (i := 3) (by decide +kernel))) (cy := cI) (va_nm_int (hK.2 0 (cI, .int) rfl).2) hK (by show va_P D vwCl (_ ++ []) H4; rw [List.append_nil]; exact hP) (by show va_D _ (_ ++ []); rw [List.append_nil]; exact hD) hS hA (N' := 6) (K' := 8) (z := (8, .inl (fun _ => 0))) (by decide) (by decide) (by decide) (by decide) (by decide) (by decide) (by decide) (by decide) (by decide) (Nat.le_of_ble_eq_true rfl) (Nat.le_of_ble_eq_true rfl) (fun _ => rfl) dX1_init_24 (fun q6 r cA H5 hri hrL hK5 hP hD hS => ?_)
  rw [pl_const] at hP hD
  have ec : cQ = cA := Option.some.inj ((hK.2 1 (cQ, .array .int) rfl).2.symm.trans (hK5.2 2 (cA, .array .int) rfl).2)
  subst ec
  have hP : va_P D vwCl [(h0, .inr (1, [.int 0, .ref s.heap.size, .ref H2.size, .null])), (s.heap.size, eQ cQ 0 (fun _ => none)), (H2.size, eI cI 0 (fun _ => 0)), (q6, eQ cQ 6 (fun i => if i < 6 then some (r i) else none)), (r 0, eI cI 8 (fun _ => 0)), (r 1, eI cI 8 (fun _ => 0)), (r 2, eI cI 8 (fun _ => 0)), (r 3, eI cI 8 (fun _ => 0)), (r 4, eI cI 8 (fun _ => 0)), (r 5, eI cI 8 (fun _ => 0))] H5 := hP
  have hD : va_D (fun q => q = h0 ∨ s.heap.size ≤ q) [(h0, .inr (1, [.int 0, .ref s.heap.size, .ref H2.size, .null])), (s.heap.size, eQ cQ 0 (fun _ => none)), (H2.size, eI cI 0 (fun _ => 0)), (q6, eQ cQ 6 (fun i => if i < 6 then some (r i) else none)), (r 0, eI cI 8 (fun _ => 0)), (r 1, eI cI 8 (fun _ => 0)), (r 2, eI cI 8 (fun _ => 0)), (r 3, eI cI 8 (fun _ => 0)), (r 4, eI cI 8 (fun _ => 0)), (r 5, eI cI 8 (fun _ => 0))] := hD
  have go : GW D cI cQ 1 (fun _ => h0) (fun _ => .inr (1, [.int 0, .ref s.heap.size, .ref H2.size, .null])) s H5 := GW.one hK (hP 0 _ rfl)
  refine ptG (b := fun _ => h0) (k := 0) (g := 3) (w := .ref q6) (ty := .array (.array .int)) hC go (by decide) rfl hS (Or.inl rfl) (by decide) (List.mem_of_getElem? (i := 41) (by decide +kernel)) rfl (fun _ h9 => h9) (by decide +kernel) rfl rfl (Nat.le_of_ble_eq_true rfl) dX1_init_28 (fun H6 locs6 go hS z6 f6 => ?_)
  have kp : ∀ (k : Nat) (q : Nat × va_E), 0 < k → [(h0, (.inr (1, [.int 0, .ref s.heap.size, .ref H2.size, .null]) : va_E)), (s.heap.size, eQ cQ 0 (fun _ => none)), (H2.size, eI cI 0 (fun _ => 0)), (q6, eQ cQ 6 (fun i => if i < 6 then some (r i) else none)), (r 0, eI cI 8 (fun _ => 0)), (r 1, eI cI 8 (fun _ => 0)), (r 2, eI cI 8 (fun _ => 0)), (r 3, eI cI 8 (fun _ => 0)), (r 4, eI cI 8 (fun _ => 0)), (r 5, eI cI 8 (fun _ => 0))][k]? = some q → va_at D vwCl q H6 := fun k q h0k hk => va_at.kept (hP k q hk) (f6 _ (fun z => by have := hD.1 k 0 _ _ hk rfl z; omega))
  have hat : ∀ k : Nat, k < 10 → va_at D vwCl (bof h0 s.heap.size H2.size q6 r k, sE cI cQ (bof h0 s.heap.size H2.size q6 r) (fun _ _ => 0) 0 0 k) H6 := by
    intro k hk
    match k, hk with
    | 0, _ =>
      have h5 := go.2.1 0 (by decide)
      rw [eU_self] at h5
      exact h5
    | 1, _ => 
      have h5 := kp 1 _ (by omega) rfl
      have e9 : (eQ cQ 0 (fun _ => none) : va_E) = sE cI cQ (bof h0 s.heap.size H2.size q6 r) (fun _ _ => 0) 0 0 1 := congrArg (eQ cQ 0) (funext fun i => (if_neg (Nat.not_lt_zero i)).symm)
      rw [← e9]
      exact h5
    | 2, _ => exact kp 2 _ (by omega) rfl
    | 3, _ =>
      have h5 := kp 3 _ (by omega) rfl
      have e9 : (eQ cQ 6 (fun i => if i < 6 then some (r i) else none) : va_E) = sE cI cQ (bof h0 s.heap.size H2.size q6 r) (fun _ _ => 0) 0 0 3 := congrArg (eQ cQ 6) (funext fun i => by rw [Nat.add_comm 4 i]; rfl)
      rw [← e9]
      exact h5
    | 4, _ => exact kp 4 _ (by omega) rfl
    | 5, _ => exact kp 5 _ (by omega) rfl
    | 6, _ => exact kp 6 _ (by omega) rfl
    | 7, _ => exact kp 7 _ (by omega) rfl
    | 8, _ => exact kp 8 _ (by omega) rfl
    | 9, _ => exact kp 9 _ (by omega) rfl
    | k + 10, hk => exact absurd hk (by omega)
  have hpos : ∀ k : Nat, k < 10 → ∃ e : va_E, [(h0, (.inr (1, [.int 0, .ref s.heap.size, .ref H2.size, .null]) : va_E)), (s.heap.size, eQ cQ 0 (fun _ => none)), (H2.size, eI cI 0 (fun _ => 0)), (q6, eQ cQ 6 (fun i => if i < 6 then some (r i) else none)), (r 0, eI cI 8 (fun _ => 0)), (r 1, eI cI 8 (fun _ => 0)), (r 2, eI cI 8 (fun _ => 0)), (r 3, eI cI 8 (fun _ => 0)), (r 4, eI cI 8 (fun _ => 0)), (r 5, eI cI 8 (fun _ => 0))][k]? = some (bof h0 s.heap.size H2.size q6 r k, e) := by
    intro k hk
    match k, hk with
    | 0, _ => exact ⟨_, rfl⟩
    | 1, _ => exact ⟨_, rfl⟩
    | 2, _ => exact ⟨_, rfl⟩
    | 3, _ => exact ⟨_, rfl⟩
    | 4, _ => exact ⟨_, rfl⟩
    | 5, _ => exact ⟨_, rfl⟩
    | 6, _ => exact ⟨_, rfl⟩
    | 7, _ => exact ⟨_, rfl⟩
    | 8, _ => exact ⟨_, rfl⟩
    | 9, _ => exact ⟨_, rfl⟩
    | k + 10, hk => exact absurd hk (by omega)
  have hinj : ∀ i j : Nat, i < 10 + 0 → j < 10 + 0 → bof h0 s.heap.size H2.size q6 r i = bof h0 s.heap.size H2.size q6 r j → i = j := by
    intro i j hi hj hij
    obtain ⟨e1, h1⟩ := hpos i (by omega)
    obtain ⟨e2, h2⟩ := hpos j (by omega)
    exact hD.1 _ _ _ _ h1 h2 hij
  have hge : ∀ k : Nat, 0 < k → k < 10 → s.heap.size ≤ bof h0 s.heap.size H2.size q6 r k := by
    intro k h0k hk
    obtain ⟨e1, h1⟩ := hpos k hk
    rcases hD.2 _ _ h1 with z | z
    · have := hD.1 k 0 _ _ h1 rfl z
      omega
    · exact z
  refine W.widen (k := 9) (n := 54) (Nat.le_of_ble_eq_true rfl) (Nat.le_of_ble_eq_true rfl) ?_
  exact W.vret hx hb hr (fun t ht hW1 => ⟨rfl, ⟨bof h0 s.heap.size H2.size q6 r, rfl, hge, ⟨⟨va_K.moved hW1.alike hK, by rw [ht]; exact hat, hinj⟩, AOA_mv hW1.alike hAO⟩⟩, hS.F ht⟩) hS.2.2 dX1_init_31 hlocks
