/-! ===== the law's out array, and its helpers ===== -/
abbrev vwO (cL : ClassId) (o : Nat) (v : Int64) : va_W := [(o, .inl (cL, 1, .inr (.inl (fun j => if j = 0 then v else 0))))]
def OW (D : va_G) (cL : ClassId) (o : Nat) (v : Int64) (U : State) (H : Heap) : Prop := va_K D vwCl [(cL, .long)] U ∧ va_P D vwCl (vwO cL o v) H
theorem OW.moved {D : va_G} {cL : ClassId} {o : Nat} {v : Int64} {u U : State} {H : Heap} (hvm : u.vm.Alike U.vm) (h : OW D cL o v u H) : OW D cL o v U H := ⟨va_K.moved hvm h.1, h.2⟩
theorem vwO_at {cL : ClassId} {o : Nat} {v : Int64} : ∀ (i : Nat) (q : Nat × va_E), (vwO cL o v)[i]? = some q → i = 0 ∧ q.1 = o
  | 0, q, h => by cases h; exact ⟨rfl, rfl⟩
  | i + 1, q, h => by simp at h
theorem OW.kept {D : va_G} {cL : ClassId} {o : Nat} {v : Int64} {U : State} {H H1 : Heap} (h : OW D cL o v U H) (hq : H1[o]? = H[o]?) : OW D cL o v U H1 := ⟨h.1, h.2.kept (fun k q hk => by rw [(vwO_at k q hk).2]; exact hq)⟩
theorem OW.lt {D : va_G} {cL : ClassId} {o : Nat} {v : Int64} {U : State} {H : Heap} (h : OW D cL o v U H) : o < H.size := (h.2 0 _ rfl).lt
theorem OW.D {D : va_G} {cL : ClassId} {o : Nat} {v : Int64} {U : State} {H : Heap} (_ : OW D cL o v U H) : va_D (fun q => q = o) (vwO cL o v) := ⟨fun i j p q hi hj _ => by rw [(vwO_at i p hi).1, (vwO_at j q hj).1], fun k q hk => (vwO_at k q hk).2⟩
/-- BellHush and the out array -/
def XW (D : va_G) (cI cQ cL : ClassId) (a : Nat → Nat) (S : bS) (o : Nat) (v : Int64) (U : State) (H : Heap) : Prop := BW D cI cQ a S U H ∧ OW D cL o v U H
theorem mov_X {D : va_G} {cI cQ cL : ClassId} {a : Nat → Nat} {S : bS} {o : Nat} {v : Int64} : Mov (XW D cI cQ cL a S o v) := fun _ _ _ hvm h => ⟨h.1.moved hvm, h.2.moved hvm⟩
def iBO (a : Nat → Nat) (o : Nat) : Nat → Prop := fun q => inB a q ∨ q = o
/-- a helper: it answers kk, and leaves the world Wd' -/
def Hp (l : Launch) (y : MethodName) (bytes : ByteArray) (n : Nat) (hh : List (Nat × Nat × Nat × Nat)) (rm : Room) (Wd Wd' : State → Heap → Prop) (A : Nat → Prop) (As : List Value) (kk : Int32) : Prop := vx_Met l y (Cond.codeWith y bytes n (some .int) hh :: wsL_law) rm (va_Pc As (WZ Wd)) (qW (some (.int kk)) Wd' A) (fun _ _ _ => False) 1 6 A
theorem Hp.of {l : Launch} {y : MethodName} {bytes : ByteArray} {n : Nat} {hh : List (Nat × Nat × Nat × Nat)} {rm : Room} {Wd Wd' : State → Heap → Prop} {A : Nat → Prop} {As : List Value} {kk : Int32} (hy : plainName y.cls = true) (hn : (lg_sl As).length ≤ n)
    (body : ∀ (p : Program) (e : Env) (s : State) (m : MethodId) (args : Array Value) (below : List Frame) (meth : Method) (c : Code) (ls : Array Slot), CallFix p m c bytes n s args wsL_law y.cls → meth.sig.returnType = some .int → meth.locks = false → c.exceptionTable.toList = tableOf hh → Wd s s.heap → ZX s → ZH (fun _ => False) s s.heap → va_S A s.heap s.heap [] → lv_has ls n (lv_args 0 As) →
      W p l e rm s m args below meth c s.heap [] 0 0 (MQ below (qW (some (.int kk)) Wd' A) args s 1 6 A) (F0 m 0 ls [])) : Hp l y bytes n hh rm Wd Wd' A As kk := by
  refine vx_ofWH (cc := bytes) (maxL := n) (ret := some .int) (hh := hh) hy rfl ?_
  intro p e s m args below meth c s₁ B hml hv
  obtain ⟨rfl, hw⟩ := hv
  have hl := lv_entry As (n := n) hn
  rw [lg_entry_eq]
  refine vx_ret ?_
  exact body p e s m _ below meth c _ ⟨B.exec, B.bytes, hml, findClass_of_methodNamed B.named, fun w h => atoms_spec (ws := Cond.codeWith y bytes n (some .int) hh :: wsL_law) B.pre w (List.mem_cons_of_mem _ h)⟩ B.returns B.notSynchronized (vx_table (x := y) B (atoms_spec (ws := Cond.codeWith y bytes n (some .int) hh :: wsL_law) B.pre _ List.mem_cons_self)) hw.1 hw.2.1 hw.2.2 va_S.rf hl
section BO
variable {p : Program} {l : Launch} {e : Env} {R : Room} {s : State} {m : MethodId} {args : Array Value} {below : List Frame} {meth : Method} {c : Code} {H : Heap} {locs : List Loc} {cells slots : Nat} {Q : State → Prop}
variable {cc : ByteArray} {pc nL n index : Nat} {ls : Array Slot} {rest st0 : List Value} {D : va_G} {cL : ClassId} {o : Nat} {w x : Int64} {A A0 : Nat → Prop} {H0 : Heap} {rm : Room} {As : List Value} {Ts : List Cond} {own : String} {y : MethodName} {bytes : ByteArray} {hh : List (Nat × Nat × Nat × Nat)}
theorem stO (hC : CallFix p m c cc nL s args Ts own) (hO : OW D cL o w s H) (hS : va_S A0 H0 H locs) (hA : A0 o) (hdg : decode cc pc = .ok (.lastore, 1))
    (kk : ∀ (H1 : Heap) (locs1 : List Loc), OW D cL o x s H1 → va_S A0 H0 H1 locs1 → (∀ q : Nat, q ≠ o → H1[q]? = H[q]?) → W p l e R s m args below meth c H1 locs1 cells slots Q (F0 m (pc + 1) ls rest)) : W p l e R s m args below meth c H locs cells slots Q (F0 m pc ls (.long x :: .int 0 :: .ref o :: rest)) := by
  refine W.last hC.1 hC.2.1 (hO.2 0 _ rfl) ((hO.1.2 0 _ rfl).1 1 (fun j => .long (if j = 0 then w else 0))) (fun q => by cases q) (by show ¬ ((0 : Int32) < 0 ∨ (arrV _ _ _).slots.size ≤ _); rw [arrV_size]; show ¬ ((0 : Int32) < 0 ∨ 1 ≤ (0 : Int32).toNatClampNeg); decide) rfl rfl hdg fun H1 e z oq => ?_
  refine kk H1 _ ⟨hO.1, hO.2.set (p := 0) (e := .inl (cL, 1, .inr (.inl (fun j => if j = 0 then x else 0)))) hO.D rfl ?_ oq⟩ (hS.put z oq hA) oq
  show H1[o]? = some (vp_cell _ _)
  rw [e]
  rw [vp_cell_l, vp_cell_l, arrV_store]
  congr 2
  funext q
  by_cases hq : q = 0
  · subst hq
    simp [updV]
  · have h2 : ¬ q = (0 : Int32).toNatClampNeg := hq
    simp [updV, hq]
theorem ldO {v : Int64} (hC : CallFix p m c cc nL s args Ts own) (hO : OW D cL o v s H) (hdg : decode cc pc = .ok (.laload, 1)) (kk : W p l e R s m args below meth c H locs cells slots Q (F0 m (pc + 1) ls (.long v :: rest))) : W p l e R s m args below meth c H locs cells slots Q (F0 m pc ls (.int 0 :: .ref o :: rest)) :=
  va_lald hC.1 hC.2.1 hO.1 hO.2 0 0 (f := fun j => if j = 0 then v else 0) rfl rfl (show ¬ ((0 : Int32) < 0 ∨ 1 ≤ (0 : Int32).toNatClampNeg) by decide) hdg kk
end BO
theorem mv_35 : Cond.classLink RL 13 "java/lang/IllegalArgumentException" ∈ wsL_law := List.mem_of_getElem? (i := 35) (by decide +kernel)
theorem mv_36 : Cond.classLink RL 15 "java/lang/IllegalStateException" ∈ wsL_law := List.mem_of_getElem? (i := 36) (by decide +kernel)
theorem mv_37 : Cond.methodLink RL 7 yX0_list ∈ wsL_law := List.mem_of_getElem? (i := 37) (by decide +kernel)
theorem mv_38 : Cond.instanceMethod yX0_list ∈ wsL_law := List.mem_of_getElem? (i := 38) (by decide +kernel)
theorem mv_39 : Cond.selects RX0 yX0_list yX0_list ∈ wsL_law := List.mem_of_getElem? (i := 39) (by decide +kernel)
theorem mv_40 : Cond.code yX0_list cX0_list 6 (some .int) ∈ wsL_law := List.mem_of_getElem? (i := 40) (by decide +kernel)
theorem mv_71 : Cond.methodLink RL 17 yX0_addTrader ∈ wsL_law := List.mem_of_getElem? (i := 71) (by decide +kernel)
theorem mv_72 : Cond.instanceMethod yX0_addTrader ∈ wsL_law := List.mem_of_getElem? (i := 72) (by decide +kernel)
theorem mv_73 : Cond.selects RX0 yX0_addTrader yX0_addTrader ∈ wsL_law := List.mem_of_getElem? (i := 73) (by decide +kernel)
theorem mv_74 : Cond.code yX0_addTrader cX0_addTrader 2 (some .int) ∈ wsL_law := List.mem_of_getElem? (i := 74) (by decide +kernel)
theorem mv_84 : Cond.classLink RL 24 "java/lang/IndexOutOfBoundsException" ∈ wsL_law := List.mem_of_getElem? (i := 84) (by decide +kernel)
theorem mv_85 : Cond.methodLink RL 21 yX0_buy ∈ wsL_law := List.mem_of_getElem? (i := 85) (by decide +kernel)
theorem mv_86 : Cond.instanceMethod yX0_buy ∈ wsL_law := List.mem_of_getElem? (i := 86) (by decide +kernel)
theorem mv_87 : Cond.selects RX0 yX0_buy yX0_buy ∈ wsL_law := List.mem_of_getElem? (i := 87) (by decide +kernel)
theorem mv_88 : Cond.code yX0_buy cX0_buy 5 (some .int) ∈ wsL_law := List.mem_of_getElem? (i := 88) (by decide +kernel)
theorem mv_155 : Cond.methodLink RL 26 yX0_sell ∈ wsL_law := List.mem_of_getElem? (i := 155) (by decide +kernel)
theorem mv_156 : Cond.instanceMethod yX0_sell ∈ wsL_law := List.mem_of_getElem? (i := 156) (by decide +kernel)
theorem mv_157 : Cond.selects RX0 yX0_sell yX0_sell ∈ wsL_law := List.mem_of_getElem? (i := 157) (by decide +kernel)
theorem mv_158 : Cond.code yX0_sell cX0_sell 5 (some .int) ∈ wsL_law := List.mem_of_getElem? (i := 158) (by decide +kernel)
theorem mv_170 : Cond.methodLink RL 29 yX0_pass ∈ wsL_law := List.mem_of_getElem? (i := 170) (by decide +kernel)
theorem mv_171 : Cond.instanceMethod yX0_pass ∈ wsL_law := List.mem_of_getElem? (i := 171) (by decide +kernel)
theorem mv_172 : Cond.selects RX0 yX0_pass yX0_pass ∈ wsL_law := List.mem_of_getElem? (i := 172) (by decide +kernel)
theorem mv_173 : Cond.code yX0_pass cX0_pass 4 (some .int) ∈ wsL_law := List.mem_of_getElem? (i := 173) (by decide +kernel)
theorem mv_220 : Cond.methodLink RL 33 yX0_silenceOf ∈ wsL_law := List.mem_of_getElem? (i := 220) (by decide +kernel)
theorem mv_221 : Cond.instanceMethod yX0_silenceOf ∈ wsL_law := List.mem_of_getElem? (i := 221) (by decide +kernel)
theorem mv_222 : Cond.selects RX0 yX0_silenceOf yX0_silenceOf ∈ wsL_law := List.mem_of_getElem? (i := 222) (by decide +kernel)
theorem mv_223 : Cond.code yX0_silenceOf cX0_silenceOf 2 (some .int) ∈ wsL_law := List.mem_of_getElem? (i := 223) (by decide +kernel)
theorem mv_231 : Cond.methodLink RL 36 yX0_dovesOn ∈ wsL_law := List.mem_of_getElem? (i := 231) (by decide +kernel)
theorem mv_232 : Cond.instanceMethod yX0_dovesOn ∈ wsL_law := List.mem_of_getElem? (i := 232) (by decide +kernel)
theorem mv_233 : Cond.selects RX0 yX0_dovesOn yX0_dovesOn ∈ wsL_law := List.mem_of_getElem? (i := 233) (by decide +kernel)
theorem mv_234 : Cond.code yX0_dovesOn cX0_dovesOn 2 (some .int) ∈ wsL_law := List.mem_of_getElem? (i := 234) (by decide +kernel)
theorem mv_242 : Cond.methodLink RL 39 yX0_priceOf ∈ wsL_law := List.mem_of_getElem? (i := 242) (by decide +kernel)
theorem mv_243 : Cond.instanceMethod yX0_priceOf ∈ wsL_law := List.mem_of_getElem? (i := 243) (by decide +kernel)
theorem mv_244 : Cond.selects RX0 yX0_priceOf yX0_priceOf ∈ wsL_law := List.mem_of_getElem? (i := 244) (by decide +kernel)
theorem mv_245 : Cond.code yX0_priceOf cX0_priceOf 2 (some .int) ∈ wsL_law := List.mem_of_getElem? (i := 245) (by decide +kernel)
theorem mv_253 : Cond.methodLink RL 42 yX0_secondsUntilStroke ∈ wsL_law := List.mem_of_getElem? (i := 253) (by decide +kernel)
theorem mv_254 : Cond.instanceMethod yX0_secondsUntilStroke ∈ wsL_law := List.mem_of_getElem? (i := 254) (by decide +kernel)
theorem mv_255 : Cond.selects RX0 yX0_secondsUntilStroke yX0_secondsUntilStroke ∈ wsL_law := List.mem_of_getElem? (i := 255) (by decide +kernel)
theorem mv_256 : Cond.code yX0_secondsUntilStroke cX0_secondsUntilStroke 2 (some .int) ∈ wsL_law := List.mem_of_getElem? (i := 256) (by decide +kernel)
theorem mv_268 : Cond.methodLink RL 45 yX0_strokesOf ∈ wsL_law := List.mem_of_getElem? (i := 268) (by decide +kernel)
theorem mv_269 : Cond.instanceMethod yX0_strokesOf ∈ wsL_law := List.mem_of_getElem? (i := 269) (by decide +kernel)
theorem mv_270 : Cond.selects RX0 yX0_strokesOf yX0_strokesOf ∈ wsL_law := List.mem_of_getElem? (i := 270) (by decide +kernel)
theorem mv_271 : Cond.code yX0_strokesOf cX0_strokesOf 2 (some .int) ∈ wsL_law := List.mem_of_getElem? (i := 271) (by decide +kernel)
theorem mv_279 : Cond.methodLink RL 48 yX0_openSeconds ∈ wsL_law := List.mem_of_getElem? (i := 279) (by decide +kernel)
theorem mv_280 : Cond.instanceMethod yX0_openSeconds ∈ wsL_law := List.mem_of_getElem? (i := 280) (by decide +kernel)
theorem mv_281 : Cond.selects RX0 yX0_openSeconds yX0_openSeconds ∈ wsL_law := List.mem_of_getElem? (i := 281) (by decide +kernel)
theorem mv_282 : Cond.code yX0_openSeconds cX0_openSeconds 2 (some .int) ∈ wsL_law := List.mem_of_getElem? (i := 282) (by decide +kernel)
theorem mv_330 : Cond.methodLink RL 51 yX0_purseOf ∈ wsL_law := List.mem_of_getElem? (i := 330) (by decide +kernel)
theorem mv_331 : Cond.instanceMethod yX0_purseOf ∈ wsL_law := List.mem_of_getElem? (i := 331) (by decide +kernel)
theorem mv_332 : Cond.selects RX0 yX0_purseOf yX0_purseOf ∈ wsL_law := List.mem_of_getElem? (i := 332) (by decide +kernel)
theorem mv_333 : Cond.code yX0_purseOf cX0_purseOf 2 (some .int) ∈ wsL_law := List.mem_of_getElem? (i := 333) (by decide +kernel)
theorem mv_341 : Cond.methodLink RL 54 yX0_holds ∈ wsL_law := List.mem_of_getElem? (i := 341) (by decide +kernel)
theorem mv_342 : Cond.instanceMethod yX0_holds ∈ wsL_law := List.mem_of_getElem? (i := 342) (by decide +kernel)
theorem mv_343 : Cond.selects RX0 yX0_holds yX0_holds ∈ wsL_law := List.mem_of_getElem? (i := 343) (by decide +kernel)
theorem mv_344 : Cond.code yX0_holds cX0_holds 3 (some .int) ∈ wsL_law := List.mem_of_getElem? (i := 344) (by decide +kernel)
theorem mv_352 : Cond.methodLink RL 58 yX0_worthOf ∈ wsL_law := List.mem_of_getElem? (i := 352) (by decide +kernel)
theorem mv_353 : Cond.instanceMethod yX0_worthOf ∈ wsL_law := List.mem_of_getElem? (i := 353) (by decide +kernel)
theorem mv_354 : Cond.selects RX0 yX0_worthOf yX0_worthOf ∈ wsL_law := List.mem_of_getElem? (i := 354) (by decide +kernel)
theorem mv_355 : Cond.code yX0_worthOf cX0_worthOf 2 (some .int) ∈ wsL_law := List.mem_of_getElem? (i := 355) (by decide +kernel)
theorem mv_395 : Cond.methodLink RL 61 yX0_shortsOf ∈ wsL_law := List.mem_of_getElem? (i := 395) (by decide +kernel)
theorem mv_396 : Cond.instanceMethod yX0_shortsOf ∈ wsL_law := List.mem_of_getElem? (i := 396) (by decide +kernel)
theorem mv_397 : Cond.selects RX0 yX0_shortsOf yX0_shortsOf ∈ wsL_law := List.mem_of_getElem? (i := 397) (by decide +kernel)
theorem mv_398 : Cond.code yX0_shortsOf cX0_shortsOf 2 (some .int) ∈ wsL_law := List.mem_of_getElem? (i := 398) (by decide +kernel)
theorem mv_426 : Cond.methodLink RL 64 yX0_closingPrice ∈ wsL_law := List.mem_of_getElem? (i := 426) (by decide +kernel)
theorem mv_427 : Cond.instanceMethod yX0_closingPrice ∈ wsL_law := List.mem_of_getElem? (i := 427) (by decide +kernel)
theorem mv_428 : Cond.selects RX0 yX0_closingPrice yX0_closingPrice ∈ wsL_law := List.mem_of_getElem? (i := 428) (by decide +kernel)
theorem mv_429 : Cond.code yX0_closingPrice cX0_closingPrice 2 (some .int) ∈ wsL_law := List.mem_of_getElem? (i := 429) (by decide +kernel)
theorem mv_441 : Cond.methodLink RL 67 yX0_priceIn ∈ wsL_law := List.mem_of_getElem? (i := 441) (by decide +kernel)
theorem mv_442 : Cond.instanceMethod yX0_priceIn ∈ wsL_law := List.mem_of_getElem? (i := 442) (by decide +kernel)
theorem mv_443 : Cond.selects RX0 yX0_priceIn yX0_priceIn ∈ wsL_law := List.mem_of_getElem? (i := 443) (by decide +kernel)
theorem mv_444 : Cond.code yX0_priceIn cX0_priceIn 3 (some .int) ∈ wsL_law := List.mem_of_getElem? (i := 444) (by decide +kernel)
theorem mv_464 : Cond.methodLink RL 70 yX0_worthIn ∈ wsL_law := List.mem_of_getElem? (i := 464) (by decide +kernel)
theorem mv_465 : Cond.instanceMethod yX0_worthIn ∈ wsL_law := List.mem_of_getElem? (i := 465) (by decide +kernel)
theorem mv_466 : Cond.selects RX0 yX0_worthIn yX0_worthIn ∈ wsL_law := List.mem_of_getElem? (i := 466) (by decide +kernel)
theorem mv_467 : Cond.code yX0_worthIn cX0_worthIn 3 (some .int) ∈ wsL_law := List.mem_of_getElem? (i := 467) (by decide +kernel)
theorem mv_491 : Cond.methodLink RL 73 yX0_bestToSell ∈ wsL_law := List.mem_of_getElem? (i := 491) (by decide +kernel)
theorem mv_492 : Cond.instanceMethod yX0_bestToSell ∈ wsL_law := List.mem_of_getElem? (i := 492) (by decide +kernel)
theorem mv_493 : Cond.selects RX0 yX0_bestToSell yX0_bestToSell ∈ wsL_law := List.mem_of_getElem? (i := 493) (by decide +kernel)
theorem mv_494 : Cond.code yX0_bestToSell cX0_bestToSell 6 (some .int) ∈ wsL_law := List.mem_of_getElem? (i := 494) (by decide +kernel)
theorem mv_510 : Cond.methodLink RL 76 yX0_secondsUntilDebt ∈ wsL_law := List.mem_of_getElem? (i := 510) (by decide +kernel)
theorem mv_511 : Cond.instanceMethod yX0_secondsUntilDebt ∈ wsL_law := List.mem_of_getElem? (i := 511) (by decide +kernel)
theorem mv_512 : Cond.selects RX0 yX0_secondsUntilDebt yX0_secondsUntilDebt ∈ wsL_law := List.mem_of_getElem? (i := 512) (by decide +kernel)
theorem mv_513 : Cond.code yX0_secondsUntilDebt cX0_secondsUntilDebt 4 (some .int) ∈ wsL_law := List.mem_of_getElem? (i := 513) (by decide +kernel)
set_option maxHeartbeats 4000000 in
set_option maxRecDepth 100000 in
theorem h_list_ok (l : Launch) {D : va_G} {cI cQ cL : ClassId} {a : Nat → Nat} {S : bS} {o : Nat} {w : Int64} {x y z : Int32} {S' : bS} {v : Int32} (hao : ∀ k : Nat, k < 14 → a k ≠ o) (hM : Wr l yX0_list cX0_list 6 (some .int) ({ frames := 1, cells := 0, slots := 0, locals := 22 } : Room) (BW D cI cQ a S) (BW D cI cQ a S') (inB a) [.ref (a 13), .int (x), .int (y), .int (z)] (some (.int v)) 0 0) : Hp l yL_list cL_list 6 [(0, 12, 15, 13), (0, 12, 19, 15)] ({ frames := 8, cells := 1, slots := 6, locals := 160 } : Room) (XW D cI cQ cL a S o w) (XW D cI cQ cL a S' o v.toInt64) (iBO a o) [.ref (a 13), .int (x), .int (y), .int (z), .ref (o)] 0 := by
  refine Hp.of (by decide) (Nat.le_of_ble_eq_true rfl) ?_
  intro p e s m args below meth c ls hC hr hlocks hxt hB hX hH hS hl
  obtain ⟨hB, hO⟩ := hB
  have hx := hC.1
  have hb := hC.2.1
  have hl : lv_has ls 6 [(0, .ref (a 13)), (1, .int (x)), (2, .int (y)), (3, .int (z)), (4, .ref (o))] := hl
  refine lv_aload hx hb dL_list_0 (lv_at hl 4 rfl) ?_
  refine lv_iconst (v := 0) hx hb dL_list_2 (by decide) ?_
  refine lv_aload_n hx hb dL_list_3 rfl (lv_at hl 0 rfl) ?_
  refine lv_iload_n hx hb dL_list_4 rfl (lv_at hl 1 rfl) ?_
  refine lv_iload_n hx hb dL_list_5 rfl (lv_at hl 2 rfl) ?_
  refine lv_iload_n hx hb dL_list_6 rfl (lv_at hl 3 rfl) ?_
  refine kVw (A := inB a) (A0 := iBO a o) hC hM mov_B mov_B hB (rec_B hB) (good_V mv_37 mv_38 mv_39 mw_2 mv_40) rfl rfl ⟨rfl, by decide +kernel, by decide +kernel, show (parseMethodDescriptor yX0_list.desc).map (fun d => d.parameters.length) = some 3 by decide +kernel⟩ ⟨Nat.le_of_ble_eq_true rfl, Nat.le_of_ble_eq_true rfl⟩ ⟨Nat.le_of_ble_eq_true rfl, Nat.le_of_ble_eq_true rfl⟩ hS (fun q h => Or.inl h) hl.1 rfl (Nat.le_of_ble_eq_true rfl) dL_list_7 (fun H locs hB hS hz hk => ?_)
  have hO := hO.kept (hk o hO.lt (fun z => by obtain ⟨k, hk1, hk2⟩ := z; exact hao k hk1 hk2.symm))
  refine lv_i2l (v := v.toInt64) hx hb dL_list_10 rfl ?_
  refine stO (x := v.toInt64) hC hO hS (Or.inr rfl) dL_list_11 (fun H locs hO hS hk => ?_)
  have hB := hB.kept (fun k hk1 => hk _ (hao k hk1))
  refine lv_goto (tgt := 23) hx hb dL_list_12 (by decide) ?_
  refine lv_iconst (v := 0) hx hb dL_list_23 (by decide) ?_
  refine W.widen (k := 1) (n := 6) (by omega) (by omega) ?_
  exact wr_i hC hr hlocks mov_X ⟨hB, hO⟩ hS dL_list_24 rfl
set_option maxHeartbeats 4000000 in
set_option maxRecDepth 100000 in
theorem h_list_1 (l : Launch) {D : va_G} {cI cQ cL : ClassId} {a : Nat → Nat} {S : bS} {o : Nat} {w : Int64} {x y z : Int32} (hao : ∀ k : Nat, k < 14 → a k ≠ o) (hM : Th l yX0_list cX0_list 6 (some .int) ({ frames := 7, cells := 1, slots := 6, locals := 110 } : Room) (BW D cI cQ a S) [.ref (a 13), .int (x), .int (y), .int (z)] eIA) : Hp l yL_list cL_list 6 [(0, 12, 15, 13), (0, 12, 19, 15)] ({ frames := 8, cells := 1, slots := 6, locals := 160 } : Room) (XW D cI cQ cL a S o w) (XW D cI cQ cL a S o w) (iBO a o) [.ref (a 13), .int (x), .int (y), .int (z), .ref (o)] 1 := by
  refine Hp.of (by decide) (Nat.le_of_ble_eq_true rfl) ?_
  intro p e s m args below meth c ls hC hr hlocks hxt hB hX hH hS hl
  obtain ⟨hB, hO⟩ := hB
  have hx := hC.1
  have hb := hC.2.1
  have hl : lv_has ls 6 [(0, .ref (a 13)), (1, .int (x)), (2, .int (y)), (3, .int (z)), (4, .ref (o))] := hl
  refine lv_aload hx hb dL_list_0 (lv_at hl 4 rfl) ?_
  refine lv_iconst (v := 0) hx hb dL_list_2 (by decide) ?_
  refine lv_aload_n hx hb dL_list_3 rfl (lv_at hl 0 rfl) ?_
  refine lv_iload_n hx hb dL_list_4 rfl (lv_at hl 1 rfl) ?_
  refine lv_iload_n hx hb dL_list_5 rfl (lv_at hl 2 rfl) ?_
  refine lv_iload_n hx hb dL_list_6 rfl (lv_at hl 3 rfl) ?_
  refine kVX hC hM mov_B hB hX hH (rec_B hB) (good_V mv_37 mv_38 mv_39 mw_2 mv_40) rfl rfl ⟨rfl, by decide +kernel, by decide +kernel, show (parseMethodDescriptor yX0_list.desc).map (fun d => d.parameters.length) = some 3 by decide +kernel⟩ ⟨Nat.le_of_ble_eq_true rfl, Nat.le_of_ble_eq_true rfl⟩ ⟨Nat.le_of_ble_eq_true rfl, Nat.le_of_ble_eq_true rfl⟩ hl.1 rfl (Nat.le_of_ble_eq_true rfl) dL_list_7 (fun ce q9 H hz hk hce hcv hcl => ?_)
  have hO := hO.kept (hk o hO.lt)
  have hB := hB.kept (fun k hk1 => hk _ (hB.lt k hk1))
  have hS : va_S (iBO a o) s.heap H [] := ⟨hz, fun q h1 _ => hk q h1, fun q hq => nomatch hq⟩
  refine vx_catch (E := eIA) (name := eIA) hC.2.2.2.1 [] (⟨0, 12, 15, 13⟩ : ExceptionTableEntry) [(⟨0, 12, 19, 15⟩ : ExceptionTableEntry)] hxt (fun z hz => nomatch hz) (by decide) (by decide) (hC.2.2.2.2 _ mv_35) (va_Nw.use rfl (hX.2.1 eIA (by decide))) hce hcv hcl ?_
  refine lv_astore (lv' := [(5, .ref (q9)), (0, .ref (a 13)), (1, .int (x)), (2, .int (y)), (3, .int (z)), (4, .ref (o))]) hx hb dL_list_15 hl (by decide) rfl (fun ls hl => ?_)
  refine lv_iconst (v := 1) hx hb dL_list_17 (by decide) ?_
  exact wr_i hC hr hlocks mov_X ⟨hB, hO⟩ hS dL_list_18 rfl
set_option maxHeartbeats 4000000 in
set_option maxRecDepth 100000 in
theorem h_list_2 (l : Launch) {D : va_G} {cI cQ cL : ClassId} {a : Nat → Nat} {S : bS} {o : Nat} {w : Int64} {x y z : Int32} (hao : ∀ k : Nat, k < 14 → a k ≠ o) (hM : Th l yX0_list cX0_list 6 (some .int) ({ frames := 7, cells := 1, slots := 6, locals := 110 } : Room) (BW D cI cQ a S) [.ref (a 13), .int (x), .int (y), .int (z)] eIS) : Hp l yL_list cL_list 6 [(0, 12, 15, 13), (0, 12, 19, 15)] ({ frames := 8, cells := 1, slots := 6, locals := 160 } : Room) (XW D cI cQ cL a S o w) (XW D cI cQ cL a S o w) (iBO a o) [.ref (a 13), .int (x), .int (y), .int (z), .ref (o)] 2 := by
  refine Hp.of (by decide) (Nat.le_of_ble_eq_true rfl) ?_
  intro p e s m args below meth c ls hC hr hlocks hxt hB hX hH hS hl
  obtain ⟨hB, hO⟩ := hB
  have hx := hC.1
  have hb := hC.2.1
  have hl : lv_has ls 6 [(0, .ref (a 13)), (1, .int (x)), (2, .int (y)), (3, .int (z)), (4, .ref (o))] := hl
  refine lv_aload hx hb dL_list_0 (lv_at hl 4 rfl) ?_
  refine lv_iconst (v := 0) hx hb dL_list_2 (by decide) ?_
  refine lv_aload_n hx hb dL_list_3 rfl (lv_at hl 0 rfl) ?_
  refine lv_iload_n hx hb dL_list_4 rfl (lv_at hl 1 rfl) ?_
  refine lv_iload_n hx hb dL_list_5 rfl (lv_at hl 2 rfl) ?_
  refine lv_iload_n hx hb dL_list_6 rfl (lv_at hl 3 rfl) ?_
  refine kVX hC hM mov_B hB hX hH (rec_B hB) (good_V mv_37 mv_38 mv_39 mw_2 mv_40) rfl rfl ⟨rfl, by decide +kernel, by decide +kernel, show (parseMethodDescriptor yX0_list.desc).map (fun d => d.parameters.length) = some 3 by decide +kernel⟩ ⟨Nat.le_of_ble_eq_true rfl, Nat.le_of_ble_eq_true rfl⟩ ⟨Nat.le_of_ble_eq_true rfl, Nat.le_of_ble_eq_true rfl⟩ hl.1 rfl (Nat.le_of_ble_eq_true rfl) dL_list_7 (fun ce q9 H hz hk hce hcv hcl => ?_)
  have hO := hO.kept (hk o hO.lt)
  have hB := hB.kept (fun k hk1 => hk _ (hB.lt k hk1))
  have hS : va_S (iBO a o) s.heap H [] := ⟨hz, fun q h1 _ => hk q h1, fun q hq => nomatch hq⟩
  refine vx_catch (E := eIS) (name := eIS) hC.2.2.2.1 [(⟨0, 12, 15, 13⟩ : ExceptionTableEntry)] (⟨0, 12, 19, 15⟩ : ExceptionTableEntry) [] hxt (fun z hz => by rw [List.mem_singleton.mp hz]; exact Or.inr ⟨by decide, _, hC.2.2.2.2 _ mv_35, hX.2.2.1 eIS (by decide) eIA (by decide) (by decide)⟩) (by decide) (by decide) (hC.2.2.2.2 _ mv_36) (va_Nw.use rfl (hX.2.1 eIS (by decide))) hce hcv hcl ?_
  refine lv_astore (lv' := [(5, .ref (q9)), (0, .ref (a 13)), (1, .int (x)), (2, .int (y)), (3, .int (z)), (4, .ref (o))]) hx hb dL_list_19 hl (by decide) rfl (fun ls hl => ?_)
  refine lv_iconst (v := 2) hx hb dL_list_21 (by decide) ?_
  exact wr_i hC hr hlocks mov_X ⟨hB, hO⟩ hS dL_list_22 rfl
set_option maxHeartbeats 4000000 in
set_option maxRecDepth 100000 in
theorem h_addTrader_ok (l : Launch) {D : va_G} {cI cQ cL : ClassId} {a : Nat → Nat} {S : bS} {o : Nat} {w : Int64} {S' : bS} {v : Int32} (hao : ∀ k : Nat, k < 14 → a k ≠ o) (hM : Wr l yX0_addTrader cX0_addTrader 2 (some .int) ({ frames := 0, cells := 0, slots := 0, locals := 0 } : Room) (BW D cI cQ a S) (BW D cI cQ a S') (inB a) [.ref (a 13)] (some (.int v)) 0 0) : Hp l yL_addTrader cL_addTrader 3 [(0, 8, 11, 15)] ({ frames := 8, cells := 1, slots := 6, locals := 160 } : Room) (XW D cI cQ cL a S o w) (XW D cI cQ cL a S' o v.toInt64) (iBO a o) [.ref (a 13), .ref (o)] 0 := by
  refine Hp.of (by decide) (Nat.le_of_ble_eq_true rfl) ?_
  intro p e s m args below meth c ls hC hr hlocks hxt hB hX hH hS hl
  obtain ⟨hB, hO⟩ := hB
  have hx := hC.1
  have hb := hC.2.1
  have hl : lv_has ls 3 [(0, .ref (a 13)), (1, .ref (o))] := hl
  refine lv_aload_n hx hb dL_addTrader_0 rfl (lv_at hl 1 rfl) ?_
  refine lv_iconst (v := 0) hx hb dL_addTrader_1 (by decide) ?_
  refine lv_aload_n hx hb dL_addTrader_2 rfl (lv_at hl 0 rfl) ?_
  refine kVw (A := inB a) (A0 := iBO a o) hC hM mov_B mov_B hB (rec_B hB) (good_V mv_71 mv_72 mv_73 mw_2 mv_74) rfl rfl ⟨rfl, by decide +kernel, by decide +kernel, show (parseMethodDescriptor yX0_addTrader.desc).map (fun d => d.parameters.length) = some 0 by decide +kernel⟩ ⟨Nat.le_of_ble_eq_true rfl, Nat.le_of_ble_eq_true rfl⟩ ⟨Nat.le_of_ble_eq_true rfl, Nat.le_of_ble_eq_true rfl⟩ hS (fun q h => Or.inl h) hl.1 rfl (Nat.le_of_ble_eq_true rfl) dL_addTrader_3 (fun H locs hB hS hz hk => ?_)
  have hO := hO.kept (hk o hO.lt (fun z => by obtain ⟨k, hk1, hk2⟩ := z; exact hao k hk1 hk2.symm))
  refine lv_i2l (v := v.toInt64) hx hb dL_addTrader_6 rfl ?_
  refine stO (x := v.toInt64) hC hO hS (Or.inr rfl) dL_addTrader_7 (fun H locs hO hS hk => ?_)
  have hB := hB.kept (fun k hk1 => hk _ (hao k hk1))
  refine lv_goto (tgt := 14) hx hb dL_addTrader_8 (by decide) ?_
  refine lv_iconst (v := 0) hx hb dL_addTrader_14 (by decide) ?_
  refine W.widen (k := 1) (n := 6) (by omega) (by omega) ?_
  exact wr_i hC hr hlocks mov_X ⟨hB, hO⟩ hS dL_addTrader_15 rfl
set_option maxHeartbeats 4000000 in
set_option maxRecDepth 100000 in
theorem h_addTrader_1 (l : Launch) {D : va_G} {cI cQ cL : ClassId} {a : Nat → Nat} {S : bS} {o : Nat} {w : Int64} (hao : ∀ k : Nat, k < 14 → a k ≠ o) (hM : Th l yX0_addTrader cX0_addTrader 2 (some .int) ({ frames := 7, cells := 1, slots := 6, locals := 110 } : Room) (BW D cI cQ a S) [.ref (a 13)] eIS) : Hp l yL_addTrader cL_addTrader 3 [(0, 8, 11, 15)] ({ frames := 8, cells := 1, slots := 6, locals := 160 } : Room) (XW D cI cQ cL a S o w) (XW D cI cQ cL a S o w) (iBO a o) [.ref (a 13), .ref (o)] 1 := by
  refine Hp.of (by decide) (Nat.le_of_ble_eq_true rfl) ?_
  intro p e s m args below meth c ls hC hr hlocks hxt hB hX hH hS hl
  obtain ⟨hB, hO⟩ := hB
  have hx := hC.1
  have hb := hC.2.1
  have hl : lv_has ls 3 [(0, .ref (a 13)), (1, .ref (o))] := hl
  refine lv_aload_n hx hb dL_addTrader_0 rfl (lv_at hl 1 rfl) ?_
  refine lv_iconst (v := 0) hx hb dL_addTrader_1 (by decide) ?_
  refine lv_aload_n hx hb dL_addTrader_2 rfl (lv_at hl 0 rfl) ?_
  refine kVX hC hM mov_B hB hX hH (rec_B hB) (good_V mv_71 mv_72 mv_73 mw_2 mv_74) rfl rfl ⟨rfl, by decide +kernel, by decide +kernel, show (parseMethodDescriptor yX0_addTrader.desc).map (fun d => d.parameters.length) = some 0 by decide +kernel⟩ ⟨Nat.le_of_ble_eq_true rfl, Nat.le_of_ble_eq_true rfl⟩ ⟨Nat.le_of_ble_eq_true rfl, Nat.le_of_ble_eq_true rfl⟩ hl.1 rfl (Nat.le_of_ble_eq_true rfl) dL_addTrader_3 (fun ce q9 H hz hk hce hcv hcl => ?_)
  have hO := hO.kept (hk o hO.lt)
  have hB := hB.kept (fun k hk1 => hk _ (hB.lt k hk1))
  have hS : va_S (iBO a o) s.heap H [] := ⟨hz, fun q h1 _ => hk q h1, fun q hq => nomatch hq⟩
  refine vx_catch (E := eIS) (name := eIS) hC.2.2.2.1 [] (⟨0, 8, 11, 15⟩ : ExceptionTableEntry) [] hxt (fun z hz => nomatch hz) (by decide) (by decide) (hC.2.2.2.2 _ mv_36) (va_Nw.use rfl (hX.2.1 eIS (by decide))) hce hcv hcl ?_
  refine lv_astore_n (lv' := [(2, .ref (q9)), (0, .ref (a 13)), (1, .ref (o))]) hx hb dL_addTrader_11 rfl hl (by decide) rfl (fun ls hl => ?_)
  refine lv_iconst (v := 1) hx hb dL_addTrader_12 (by decide) ?_
  exact wr_i hC hr hlocks mov_X ⟨hB, hO⟩ hS dL_addTrader_13 rfl
set_option maxHeartbeats 4000000 in
set_option maxRecDepth 100000 in
theorem h_buy_ok (l : Launch) {D : va_G} {cI cQ cL : ClassId} {a : Nat → Nat} {S : bS} {o : Nat} {w : Int64} {x y z : Int32} {S' : bS} {v : Int32} (hao : ∀ k : Nat, k < 14 → a k ≠ o) (hM : Wr l yX0_buy cX0_buy 5 (some .int) ({ frames := 4, cells := 0, slots := 0, locals := 88 } : Room) (BW D cI cQ a S) (BW D cI cQ a S') (inB a) [.ref (a 13), .int (x), .int (y), .int (z)] (some (.int v)) 0 0) : Hp l yL_buy cL_buy 6 [(0, 12, 15, 24), (0, 12, 19, 13), (0, 12, 23, 15)] ({ frames := 8, cells := 1, slots := 6, locals := 160 } : Room) (XW D cI cQ cL a S o w) (XW D cI cQ cL a S' o v.toInt64) (iBO a o) [.ref (a 13), .int (x), .int (y), .int (z), .ref (o)] 0 := by
  refine Hp.of (by decide) (Nat.le_of_ble_eq_true rfl) ?_
  intro p e s m args below meth c ls hC hr hlocks hxt hB hX hH hS hl
  obtain ⟨hB, hO⟩ := hB
  have hx := hC.1
  have hb := hC.2.1
  have hl : lv_has ls 6 [(0, .ref (a 13)), (1, .int (x)), (2, .int (y)), (3, .int (z)), (4, .ref (o))] := hl
  refine lv_aload hx hb dL_buy_0 (lv_at hl 4 rfl) ?_
  refine lv_iconst (v := 0) hx hb dL_buy_2 (by decide) ?_
  refine lv_aload_n hx hb dL_buy_3 rfl (lv_at hl 0 rfl) ?_
  refine lv_iload_n hx hb dL_buy_4 rfl (lv_at hl 1 rfl) ?_
  refine lv_iload_n hx hb dL_buy_5 rfl (lv_at hl 2 rfl) ?_
  refine lv_iload_n hx hb dL_buy_6 rfl (lv_at hl 3 rfl) ?_
  refine kVw (A := inB a) (A0 := iBO a o) hC hM mov_B mov_B hB (rec_B hB) (good_V mv_85 mv_86 mv_87 mw_2 mv_88) rfl rfl ⟨rfl, by decide +kernel, by decide +kernel, show (parseMethodDescriptor yX0_buy.desc).map (fun d => d.parameters.length) = some 3 by decide +kernel⟩ ⟨Nat.le_of_ble_eq_true rfl, Nat.le_of_ble_eq_true rfl⟩ ⟨Nat.le_of_ble_eq_true rfl, Nat.le_of_ble_eq_true rfl⟩ hS (fun q h => Or.inl h) hl.1 rfl (Nat.le_of_ble_eq_true rfl) dL_buy_7 (fun H locs hB hS hz hk => ?_)
  have hO := hO.kept (hk o hO.lt (fun z => by obtain ⟨k, hk1, hk2⟩ := z; exact hao k hk1 hk2.symm))
  refine lv_i2l (v := v.toInt64) hx hb dL_buy_10 rfl ?_
  refine stO (x := v.toInt64) hC hO hS (Or.inr rfl) dL_buy_11 (fun H locs hO hS hk => ?_)
  have hB := hB.kept (fun k hk1 => hk _ (hao k hk1))
  refine lv_goto (tgt := 27) hx hb dL_buy_12 (by decide) ?_
  refine lv_iconst (v := 0) hx hb dL_buy_27 (by decide) ?_
  refine W.widen (k := 1) (n := 6) (by omega) (by omega) ?_
  exact wr_i hC hr hlocks mov_X ⟨hB, hO⟩ hS dL_buy_28 rfl
set_option maxHeartbeats 4000000 in
set_option maxRecDepth 100000 in
theorem h_buy_1 (l : Launch) {D : va_G} {cI cQ cL : ClassId} {a : Nat → Nat} {S : bS} {o : Nat} {w : Int64} {x y z : Int32} (hao : ∀ k : Nat, k < 14 → a k ≠ o) (hM : Th l yX0_buy cX0_buy 5 (some .int) ({ frames := 7, cells := 1, slots := 6, locals := 110 } : Room) (BW D cI cQ a S) [.ref (a 13), .int (x), .int (y), .int (z)] eIO) : Hp l yL_buy cL_buy 6 [(0, 12, 15, 24), (0, 12, 19, 13), (0, 12, 23, 15)] ({ frames := 8, cells := 1, slots := 6, locals := 160 } : Room) (XW D cI cQ cL a S o w) (XW D cI cQ cL a S o w) (iBO a o) [.ref (a 13), .int (x), .int (y), .int (z), .ref (o)] 1 := by
  refine Hp.of (by decide) (Nat.le_of_ble_eq_true rfl) ?_
  intro p e s m args below meth c ls hC hr hlocks hxt hB hX hH hS hl
  obtain ⟨hB, hO⟩ := hB
  have hx := hC.1
  have hb := hC.2.1
  have hl : lv_has ls 6 [(0, .ref (a 13)), (1, .int (x)), (2, .int (y)), (3, .int (z)), (4, .ref (o))] := hl
  refine lv_aload hx hb dL_buy_0 (lv_at hl 4 rfl) ?_
  refine lv_iconst (v := 0) hx hb dL_buy_2 (by decide) ?_
  refine lv_aload_n hx hb dL_buy_3 rfl (lv_at hl 0 rfl) ?_
  refine lv_iload_n hx hb dL_buy_4 rfl (lv_at hl 1 rfl) ?_
  refine lv_iload_n hx hb dL_buy_5 rfl (lv_at hl 2 rfl) ?_
  refine lv_iload_n hx hb dL_buy_6 rfl (lv_at hl 3 rfl) ?_
  refine kVX hC hM mov_B hB hX hH (rec_B hB) (good_V mv_85 mv_86 mv_87 mw_2 mv_88) rfl rfl ⟨rfl, by decide +kernel, by decide +kernel, show (parseMethodDescriptor yX0_buy.desc).map (fun d => d.parameters.length) = some 3 by decide +kernel⟩ ⟨Nat.le_of_ble_eq_true rfl, Nat.le_of_ble_eq_true rfl⟩ ⟨Nat.le_of_ble_eq_true rfl, Nat.le_of_ble_eq_true rfl⟩ hl.1 rfl (Nat.le_of_ble_eq_true rfl) dL_buy_7 (fun ce q9 H hz hk hce hcv hcl => ?_)
  have hO := hO.kept (hk o hO.lt)
  have hB := hB.kept (fun k hk1 => hk _ (hB.lt k hk1))
  have hS : va_S (iBO a o) s.heap H [] := ⟨hz, fun q h1 _ => hk q h1, fun q hq => nomatch hq⟩
  refine vx_catch (E := eIO) (name := eIO) hC.2.2.2.1 [] (⟨0, 12, 15, 24⟩ : ExceptionTableEntry) [(⟨0, 12, 19, 13⟩ : ExceptionTableEntry), (⟨0, 12, 23, 15⟩ : ExceptionTableEntry)] hxt (fun z hz => nomatch hz) (by decide) (by decide) (hC.2.2.2.2 _ mv_84) (va_Nw.use rfl (hX.2.1 eIO (by decide))) hce hcv hcl ?_
  refine lv_astore (lv' := [(5, .ref (q9)), (0, .ref (a 13)), (1, .int (x)), (2, .int (y)), (3, .int (z)), (4, .ref (o))]) hx hb dL_buy_15 hl (by decide) rfl (fun ls hl => ?_)
  refine lv_iconst (v := 1) hx hb dL_buy_17 (by decide) ?_
  exact wr_i hC hr hlocks mov_X ⟨hB, hO⟩ hS dL_buy_18 rfl
set_option maxHeartbeats 4000000 in
set_option maxRecDepth 100000 in
theorem h_buy_2 (l : Launch) {D : va_G} {cI cQ cL : ClassId} {a : Nat → Nat} {S : bS} {o : Nat} {w : Int64} {x y z : Int32} (hao : ∀ k : Nat, k < 14 → a k ≠ o) (hM : Th l yX0_buy cX0_buy 5 (some .int) ({ frames := 7, cells := 1, slots := 6, locals := 110 } : Room) (BW D cI cQ a S) [.ref (a 13), .int (x), .int (y), .int (z)] eIA) : Hp l yL_buy cL_buy 6 [(0, 12, 15, 24), (0, 12, 19, 13), (0, 12, 23, 15)] ({ frames := 8, cells := 1, slots := 6, locals := 160 } : Room) (XW D cI cQ cL a S o w) (XW D cI cQ cL a S o w) (iBO a o) [.ref (a 13), .int (x), .int (y), .int (z), .ref (o)] 2 := by
  refine Hp.of (by decide) (Nat.le_of_ble_eq_true rfl) ?_
  intro p e s m args below meth c ls hC hr hlocks hxt hB hX hH hS hl
  obtain ⟨hB, hO⟩ := hB
  have hx := hC.1
  have hb := hC.2.1
  have hl : lv_has ls 6 [(0, .ref (a 13)), (1, .int (x)), (2, .int (y)), (3, .int (z)), (4, .ref (o))] := hl
  refine lv_aload hx hb dL_buy_0 (lv_at hl 4 rfl) ?_
  refine lv_iconst (v := 0) hx hb dL_buy_2 (by decide) ?_
  refine lv_aload_n hx hb dL_buy_3 rfl (lv_at hl 0 rfl) ?_
  refine lv_iload_n hx hb dL_buy_4 rfl (lv_at hl 1 rfl) ?_
  refine lv_iload_n hx hb dL_buy_5 rfl (lv_at hl 2 rfl) ?_
  refine lv_iload_n hx hb dL_buy_6 rfl (lv_at hl 3 rfl) ?_
  refine kVX hC hM mov_B hB hX hH (rec_B hB) (good_V mv_85 mv_86 mv_87 mw_2 mv_88) rfl rfl ⟨rfl, by decide +kernel, by decide +kernel, show (parseMethodDescriptor yX0_buy.desc).map (fun d => d.parameters.length) = some 3 by decide +kernel⟩ ⟨Nat.le_of_ble_eq_true rfl, Nat.le_of_ble_eq_true rfl⟩ ⟨Nat.le_of_ble_eq_true rfl, Nat.le_of_ble_eq_true rfl⟩ hl.1 rfl (Nat.le_of_ble_eq_true rfl) dL_buy_7 (fun ce q9 H hz hk hce hcv hcl => ?_)
  have hO := hO.kept (hk o hO.lt)
  have hB := hB.kept (fun k hk1 => hk _ (hB.lt k hk1))
  have hS : va_S (iBO a o) s.heap H [] := ⟨hz, fun q h1 _ => hk q h1, fun q hq => nomatch hq⟩
  refine vx_catch (E := eIA) (name := eIA) hC.2.2.2.1 [(⟨0, 12, 15, 24⟩ : ExceptionTableEntry)] (⟨0, 12, 19, 13⟩ : ExceptionTableEntry) [(⟨0, 12, 23, 15⟩ : ExceptionTableEntry)] hxt (fun z hz => by rw [List.mem_singleton.mp hz]; exact Or.inr ⟨by decide, _, hC.2.2.2.2 _ mv_84, hX.2.2.1 eIA (by decide) eIO (by decide) (by decide)⟩) (by decide) (by decide) (hC.2.2.2.2 _ mv_35) (va_Nw.use rfl (hX.2.1 eIA (by decide))) hce hcv hcl ?_
  refine lv_astore (lv' := [(5, .ref (q9)), (0, .ref (a 13)), (1, .int (x)), (2, .int (y)), (3, .int (z)), (4, .ref (o))]) hx hb dL_buy_19 hl (by decide) rfl (fun ls hl => ?_)
  refine lv_iconst (v := 2) hx hb dL_buy_21 (by decide) ?_
  exact wr_i hC hr hlocks mov_X ⟨hB, hO⟩ hS dL_buy_22 rfl
set_option maxHeartbeats 4000000 in
set_option maxRecDepth 100000 in
theorem h_buy_3 (l : Launch) {D : va_G} {cI cQ cL : ClassId} {a : Nat → Nat} {S : bS} {o : Nat} {w : Int64} {x y z : Int32} (hao : ∀ k : Nat, k < 14 → a k ≠ o) (hM : Th l yX0_buy cX0_buy 5 (some .int) ({ frames := 7, cells := 1, slots := 6, locals := 110 } : Room) (BW D cI cQ a S) [.ref (a 13), .int (x), .int (y), .int (z)] eIS) : Hp l yL_buy cL_buy 6 [(0, 12, 15, 24), (0, 12, 19, 13), (0, 12, 23, 15)] ({ frames := 8, cells := 1, slots := 6, locals := 160 } : Room) (XW D cI cQ cL a S o w) (XW D cI cQ cL a S o w) (iBO a o) [.ref (a 13), .int (x), .int (y), .int (z), .ref (o)] 3 := by
  refine Hp.of (by decide) (Nat.le_of_ble_eq_true rfl) ?_
  intro p e s m args below meth c ls hC hr hlocks hxt hB hX hH hS hl
  obtain ⟨hB, hO⟩ := hB
  have hx := hC.1
  have hb := hC.2.1
  have hl : lv_has ls 6 [(0, .ref (a 13)), (1, .int (x)), (2, .int (y)), (3, .int (z)), (4, .ref (o))] := hl
  refine lv_aload hx hb dL_buy_0 (lv_at hl 4 rfl) ?_
  refine lv_iconst (v := 0) hx hb dL_buy_2 (by decide) ?_
  refine lv_aload_n hx hb dL_buy_3 rfl (lv_at hl 0 rfl) ?_
  refine lv_iload_n hx hb dL_buy_4 rfl (lv_at hl 1 rfl) ?_
  refine lv_iload_n hx hb dL_buy_5 rfl (lv_at hl 2 rfl) ?_
  refine lv_iload_n hx hb dL_buy_6 rfl (lv_at hl 3 rfl) ?_
  refine kVX hC hM mov_B hB hX hH (rec_B hB) (good_V mv_85 mv_86 mv_87 mw_2 mv_88) rfl rfl ⟨rfl, by decide +kernel, by decide +kernel, show (parseMethodDescriptor yX0_buy.desc).map (fun d => d.parameters.length) = some 3 by decide +kernel⟩ ⟨Nat.le_of_ble_eq_true rfl, Nat.le_of_ble_eq_true rfl⟩ ⟨Nat.le_of_ble_eq_true rfl, Nat.le_of_ble_eq_true rfl⟩ hl.1 rfl (Nat.le_of_ble_eq_true rfl) dL_buy_7 (fun ce q9 H hz hk hce hcv hcl => ?_)
  have hO := hO.kept (hk o hO.lt)
  have hB := hB.kept (fun k hk1 => hk _ (hB.lt k hk1))
  have hS : va_S (iBO a o) s.heap H [] := ⟨hz, fun q h1 _ => hk q h1, fun q hq => nomatch hq⟩
  refine vx_catch (E := eIS) (name := eIS) hC.2.2.2.1 [(⟨0, 12, 15, 24⟩ : ExceptionTableEntry), (⟨0, 12, 19, 13⟩ : ExceptionTableEntry)] (⟨0, 12, 23, 15⟩ : ExceptionTableEntry) [] hxt (fun z hz => by rcases List.mem_cons.mp hz with hz | hz; (· rw [hz]; exact Or.inr ⟨by decide, _, hC.2.2.2.2 _ mv_84, hX.2.2.1 eIS (by decide) eIO (by decide) (by decide)⟩); (· rw [List.mem_singleton.mp hz]; exact Or.inr ⟨by decide, _, hC.2.2.2.2 _ mv_35, hX.2.2.1 eIS (by decide) eIA (by decide) (by decide)⟩)) (by decide) (by decide) (hC.2.2.2.2 _ mv_36) (va_Nw.use rfl (hX.2.1 eIS (by decide))) hce hcv hcl ?_
  refine lv_astore (lv' := [(5, .ref (q9)), (0, .ref (a 13)), (1, .int (x)), (2, .int (y)), (3, .int (z)), (4, .ref (o))]) hx hb dL_buy_23 hl (by decide) rfl (fun ls hl => ?_)
  refine lv_iconst (v := 3) hx hb dL_buy_25 (by decide) ?_
  exact wr_i hC hr hlocks mov_X ⟨hB, hO⟩ hS dL_buy_26 rfl
set_option maxHeartbeats 4000000 in
set_option maxRecDepth 100000 in
theorem h_sell_ok (l : Launch) {D : va_G} {cI cQ cL : ClassId} {a : Nat → Nat} {S : bS} {o : Nat} {w : Int64} {x y z : Int32} {S' : bS} {v : Int32} (hao : ∀ k : Nat, k < 14 → a k ≠ o) (hM : Wr l yX0_sell cX0_sell 5 (some .int) ({ frames := 4, cells := 0, slots := 0, locals := 88 } : Room) (BW D cI cQ a S) (BW D cI cQ a S') (inB a) [.ref (a 13), .int (x), .int (y), .int (z)] (some (.int v)) 0 0) : Hp l yL_sell cL_sell 6 [(0, 12, 15, 24), (0, 12, 19, 13), (0, 12, 23, 15)] ({ frames := 8, cells := 1, slots := 6, locals := 160 } : Room) (XW D cI cQ cL a S o w) (XW D cI cQ cL a S' o v.toInt64) (iBO a o) [.ref (a 13), .int (x), .int (y), .int (z), .ref (o)] 0 := by
  refine Hp.of (by decide) (Nat.le_of_ble_eq_true rfl) ?_
  intro p e s m args below meth c ls hC hr hlocks hxt hB hX hH hS hl
  obtain ⟨hB, hO⟩ := hB
  have hx := hC.1
  have hb := hC.2.1
  have hl : lv_has ls 6 [(0, .ref (a 13)), (1, .int (x)), (2, .int (y)), (3, .int (z)), (4, .ref (o))] := hl
  refine lv_aload hx hb dL_sell_0 (lv_at hl 4 rfl) ?_
  refine lv_iconst (v := 0) hx hb dL_sell_2 (by decide) ?_
  refine lv_aload_n hx hb dL_sell_3 rfl (lv_at hl 0 rfl) ?_
  refine lv_iload_n hx hb dL_sell_4 rfl (lv_at hl 1 rfl) ?_
  refine lv_iload_n hx hb dL_sell_5 rfl (lv_at hl 2 rfl) ?_
  refine lv_iload_n hx hb dL_sell_6 rfl (lv_at hl 3 rfl) ?_
  refine kVw (A := inB a) (A0 := iBO a o) hC hM mov_B mov_B hB (rec_B hB) (good_V mv_155 mv_156 mv_157 mw_2 mv_158) rfl rfl ⟨rfl, by decide +kernel, by decide +kernel, show (parseMethodDescriptor yX0_sell.desc).map (fun d => d.parameters.length) = some 3 by decide +kernel⟩ ⟨Nat.le_of_ble_eq_true rfl, Nat.le_of_ble_eq_true rfl⟩ ⟨Nat.le_of_ble_eq_true rfl, Nat.le_of_ble_eq_true rfl⟩ hS (fun q h => Or.inl h) hl.1 rfl (Nat.le_of_ble_eq_true rfl) dL_sell_7 (fun H locs hB hS hz hk => ?_)
  have hO := hO.kept (hk o hO.lt (fun z => by obtain ⟨k, hk1, hk2⟩ := z; exact hao k hk1 hk2.symm))
  refine lv_i2l (v := v.toInt64) hx hb dL_sell_10 rfl ?_
  refine stO (x := v.toInt64) hC hO hS (Or.inr rfl) dL_sell_11 (fun H locs hO hS hk => ?_)
  have hB := hB.kept (fun k hk1 => hk _ (hao k hk1))
  refine lv_goto (tgt := 27) hx hb dL_sell_12 (by decide) ?_
  refine lv_iconst (v := 0) hx hb dL_sell_27 (by decide) ?_
  refine W.widen (k := 1) (n := 6) (by omega) (by omega) ?_
  exact wr_i hC hr hlocks mov_X ⟨hB, hO⟩ hS dL_sell_28 rfl
set_option maxHeartbeats 4000000 in
set_option maxRecDepth 100000 in
theorem h_sell_1 (l : Launch) {D : va_G} {cI cQ cL : ClassId} {a : Nat → Nat} {S : bS} {o : Nat} {w : Int64} {x y z : Int32} (hao : ∀ k : Nat, k < 14 → a k ≠ o) (hM : Th l yX0_sell cX0_sell 5 (some .int) ({ frames := 7, cells := 1, slots := 6, locals := 110 } : Room) (BW D cI cQ a S) [.ref (a 13), .int (x), .int (y), .int (z)] eIO) : Hp l yL_sell cL_sell 6 [(0, 12, 15, 24), (0, 12, 19, 13), (0, 12, 23, 15)] ({ frames := 8, cells := 1, slots := 6, locals := 160 } : Room) (XW D cI cQ cL a S o w) (XW D cI cQ cL a S o w) (iBO a o) [.ref (a 13), .int (x), .int (y), .int (z), .ref (o)] 1 := by
  refine Hp.of (by decide) (Nat.le_of_ble_eq_true rfl) ?_
  intro p e s m args below meth c ls hC hr hlocks hxt hB hX hH hS hl
  obtain ⟨hB, hO⟩ := hB
  have hx := hC.1
  have hb := hC.2.1
  have hl : lv_has ls 6 [(0, .ref (a 13)), (1, .int (x)), (2, .int (y)), (3, .int (z)), (4, .ref (o))] := hl
  refine lv_aload hx hb dL_sell_0 (lv_at hl 4 rfl) ?_
  refine lv_iconst (v := 0) hx hb dL_sell_2 (by decide) ?_
  refine lv_aload_n hx hb dL_sell_3 rfl (lv_at hl 0 rfl) ?_
  refine lv_iload_n hx hb dL_sell_4 rfl (lv_at hl 1 rfl) ?_
  refine lv_iload_n hx hb dL_sell_5 rfl (lv_at hl 2 rfl) ?_
  refine lv_iload_n hx hb dL_sell_6 rfl (lv_at hl 3 rfl) ?_
  refine kVX hC hM mov_B hB hX hH (rec_B hB) (good_V mv_155 mv_156 mv_157 mw_2 mv_158) rfl rfl ⟨rfl, by decide +kernel, by decide +kernel, show (parseMethodDescriptor yX0_sell.desc).map (fun d => d.parameters.length) = some 3 by decide +kernel⟩ ⟨Nat.le_of_ble_eq_true rfl, Nat.le_of_ble_eq_true rfl⟩ ⟨Nat.le_of_ble_eq_true rfl, Nat.le_of_ble_eq_true rfl⟩ hl.1 rfl (Nat.le_of_ble_eq_true rfl) dL_sell_7 (fun ce q9 H hz hk hce hcv hcl => ?_)
  have hO := hO.kept (hk o hO.lt)
  have hB := hB.kept (fun k hk1 => hk _ (hB.lt k hk1))
  have hS : va_S (iBO a o) s.heap H [] := ⟨hz, fun q h1 _ => hk q h1, fun q hq => nomatch hq⟩
  refine vx_catch (E := eIO) (name := eIO) hC.2.2.2.1 [] (⟨0, 12, 15, 24⟩ : ExceptionTableEntry) [(⟨0, 12, 19, 13⟩ : ExceptionTableEntry), (⟨0, 12, 23, 15⟩ : ExceptionTableEntry)] hxt (fun z hz => nomatch hz) (by decide) (by decide) (hC.2.2.2.2 _ mv_84) (va_Nw.use rfl (hX.2.1 eIO (by decide))) hce hcv hcl ?_
  refine lv_astore (lv' := [(5, .ref (q9)), (0, .ref (a 13)), (1, .int (x)), (2, .int (y)), (3, .int (z)), (4, .ref (o))]) hx hb dL_sell_15 hl (by decide) rfl (fun ls hl => ?_)
  refine lv_iconst (v := 1) hx hb dL_sell_17 (by decide) ?_
  exact wr_i hC hr hlocks mov_X ⟨hB, hO⟩ hS dL_sell_18 rfl
set_option maxHeartbeats 4000000 in
set_option maxRecDepth 100000 in
theorem h_sell_2 (l : Launch) {D : va_G} {cI cQ cL : ClassId} {a : Nat → Nat} {S : bS} {o : Nat} {w : Int64} {x y z : Int32} (hao : ∀ k : Nat, k < 14 → a k ≠ o) (hM : Th l yX0_sell cX0_sell 5 (some .int) ({ frames := 7, cells := 1, slots := 6, locals := 110 } : Room) (BW D cI cQ a S) [.ref (a 13), .int (x), .int (y), .int (z)] eIA) : Hp l yL_sell cL_sell 6 [(0, 12, 15, 24), (0, 12, 19, 13), (0, 12, 23, 15)] ({ frames := 8, cells := 1, slots := 6, locals := 160 } : Room) (XW D cI cQ cL a S o w) (XW D cI cQ cL a S o w) (iBO a o) [.ref (a 13), .int (x), .int (y), .int (z), .ref (o)] 2 := by
  refine Hp.of (by decide) (Nat.le_of_ble_eq_true rfl) ?_
  intro p e s m args below meth c ls hC hr hlocks hxt hB hX hH hS hl
  obtain ⟨hB, hO⟩ := hB
  have hx := hC.1
  have hb := hC.2.1
  have hl : lv_has ls 6 [(0, .ref (a 13)), (1, .int (x)), (2, .int (y)), (3, .int (z)), (4, .ref (o))] := hl
  refine lv_aload hx hb dL_sell_0 (lv_at hl 4 rfl) ?_
  refine lv_iconst (v := 0) hx hb dL_sell_2 (by decide) ?_
  refine lv_aload_n hx hb dL_sell_3 rfl (lv_at hl 0 rfl) ?_
  refine lv_iload_n hx hb dL_sell_4 rfl (lv_at hl 1 rfl) ?_
  refine lv_iload_n hx hb dL_sell_5 rfl (lv_at hl 2 rfl) ?_
  refine lv_iload_n hx hb dL_sell_6 rfl (lv_at hl 3 rfl) ?_
  refine kVX hC hM mov_B hB hX hH (rec_B hB) (good_V mv_155 mv_156 mv_157 mw_2 mv_158) rfl rfl ⟨rfl, by decide +kernel, by decide +kernel, show (parseMethodDescriptor yX0_sell.desc).map (fun d => d.parameters.length) = some 3 by decide +kernel⟩ ⟨Nat.le_of_ble_eq_true rfl, Nat.le_of_ble_eq_true rfl⟩ ⟨Nat.le_of_ble_eq_true rfl, Nat.le_of_ble_eq_true rfl⟩ hl.1 rfl (Nat.le_of_ble_eq_true rfl) dL_sell_7 (fun ce q9 H hz hk hce hcv hcl => ?_)
  have hO := hO.kept (hk o hO.lt)
  have hB := hB.kept (fun k hk1 => hk _ (hB.lt k hk1))
  have hS : va_S (iBO a o) s.heap H [] := ⟨hz, fun q h1 _ => hk q h1, fun q hq => nomatch hq⟩
  refine vx_catch (E := eIA) (name := eIA) hC.2.2.2.1 [(⟨0, 12, 15, 24⟩ : ExceptionTableEntry)] (⟨0, 12, 19, 13⟩ : ExceptionTableEntry) [(⟨0, 12, 23, 15⟩ : ExceptionTableEntry)] hxt (fun z hz => by rw [List.mem_singleton.mp hz]; exact Or.inr ⟨by decide, _, hC.2.2.2.2 _ mv_84, hX.2.2.1 eIA (by decide) eIO (by decide) (by decide)⟩) (by decide) (by decide) (hC.2.2.2.2 _ mv_35) (va_Nw.use rfl (hX.2.1 eIA (by decide))) hce hcv hcl ?_
  refine lv_astore (lv' := [(5, .ref (q9)), (0, .ref (a 13)), (1, .int (x)), (2, .int (y)), (3, .int (z)), (4, .ref (o))]) hx hb dL_sell_19 hl (by decide) rfl (fun ls hl => ?_)
  refine lv_iconst (v := 2) hx hb dL_sell_21 (by decide) ?_
  exact wr_i hC hr hlocks mov_X ⟨hB, hO⟩ hS dL_sell_22 rfl
set_option maxHeartbeats 4000000 in
set_option maxRecDepth 100000 in
theorem h_sell_3 (l : Launch) {D : va_G} {cI cQ cL : ClassId} {a : Nat → Nat} {S : bS} {o : Nat} {w : Int64} {x y z : Int32} (hao : ∀ k : Nat, k < 14 → a k ≠ o) (hM : Th l yX0_sell cX0_sell 5 (some .int) ({ frames := 7, cells := 1, slots := 6, locals := 110 } : Room) (BW D cI cQ a S) [.ref (a 13), .int (x), .int (y), .int (z)] eIS) : Hp l yL_sell cL_sell 6 [(0, 12, 15, 24), (0, 12, 19, 13), (0, 12, 23, 15)] ({ frames := 8, cells := 1, slots := 6, locals := 160 } : Room) (XW D cI cQ cL a S o w) (XW D cI cQ cL a S o w) (iBO a o) [.ref (a 13), .int (x), .int (y), .int (z), .ref (o)] 3 := by
  refine Hp.of (by decide) (Nat.le_of_ble_eq_true rfl) ?_
  intro p e s m args below meth c ls hC hr hlocks hxt hB hX hH hS hl
  obtain ⟨hB, hO⟩ := hB
  have hx := hC.1
  have hb := hC.2.1
  have hl : lv_has ls 6 [(0, .ref (a 13)), (1, .int (x)), (2, .int (y)), (3, .int (z)), (4, .ref (o))] := hl
  refine lv_aload hx hb dL_sell_0 (lv_at hl 4 rfl) ?_
  refine lv_iconst (v := 0) hx hb dL_sell_2 (by decide) ?_
  refine lv_aload_n hx hb dL_sell_3 rfl (lv_at hl 0 rfl) ?_
  refine lv_iload_n hx hb dL_sell_4 rfl (lv_at hl 1 rfl) ?_
  refine lv_iload_n hx hb dL_sell_5 rfl (lv_at hl 2 rfl) ?_
  refine lv_iload_n hx hb dL_sell_6 rfl (lv_at hl 3 rfl) ?_
  refine kVX hC hM mov_B hB hX hH (rec_B hB) (good_V mv_155 mv_156 mv_157 mw_2 mv_158) rfl rfl ⟨rfl, by decide +kernel, by decide +kernel, show (parseMethodDescriptor yX0_sell.desc).map (fun d => d.parameters.length) = some 3 by decide +kernel⟩ ⟨Nat.le_of_ble_eq_true rfl, Nat.le_of_ble_eq_true rfl⟩ ⟨Nat.le_of_ble_eq_true rfl, Nat.le_of_ble_eq_true rfl⟩ hl.1 rfl (Nat.le_of_ble_eq_true rfl) dL_sell_7 (fun ce q9 H hz hk hce hcv hcl => ?_)
  have hO := hO.kept (hk o hO.lt)
  have hB := hB.kept (fun k hk1 => hk _ (hB.lt k hk1))
  have hS : va_S (iBO a o) s.heap H [] := ⟨hz, fun q h1 _ => hk q h1, fun q hq => nomatch hq⟩
  refine vx_catch (E := eIS) (name := eIS) hC.2.2.2.1 [(⟨0, 12, 15, 24⟩ : ExceptionTableEntry), (⟨0, 12, 19, 13⟩ : ExceptionTableEntry)] (⟨0, 12, 23, 15⟩ : ExceptionTableEntry) [] hxt (fun z hz => by rcases List.mem_cons.mp hz with hz | hz; (· rw [hz]; exact Or.inr ⟨by decide, _, hC.2.2.2.2 _ mv_84, hX.2.2.1 eIS (by decide) eIO (by decide) (by decide)⟩); (· rw [List.mem_singleton.mp hz]; exact Or.inr ⟨by decide, _, hC.2.2.2.2 _ mv_35, hX.2.2.1 eIS (by decide) eIA (by decide) (by decide)⟩)) (by decide) (by decide) (hC.2.2.2.2 _ mv_36) (va_Nw.use rfl (hX.2.1 eIS (by decide))) hce hcv hcl ?_
  refine lv_astore (lv' := [(5, .ref (q9)), (0, .ref (a 13)), (1, .int (x)), (2, .int (y)), (3, .int (z)), (4, .ref (o))]) hx hb dL_sell_23 hl (by decide) rfl (fun ls hl => ?_)
  refine lv_iconst (v := 3) hx hb dL_sell_25 (by decide) ?_
  exact wr_i hC hr hlocks mov_X ⟨hB, hO⟩ hS dL_sell_26 rfl
set_option maxHeartbeats 4000000 in
set_option maxRecDepth 100000 in
theorem h_pass_ok (l : Launch) {D : va_G} {cI cQ cL : ClassId} {a : Nat → Nat} {S : bS} {o : Nat} {w : Int64} {x : Int32} {S' : bS} {v : Int32} (hao : ∀ k : Nat, k < 14 → a k ≠ o) (hM : Wr l yX0_pass cX0_pass 4 (some .int) ({ frames := 6, cells := 0, slots := 0, locals := 133 } : Room) (BW D cI cQ a S) (BW D cI cQ a S') (inB a) [.ref (a 13), .int (x)] (some (.int v)) 0 0) : Hp l yL_pass cL_pass 4 [(0, 9, 12, 13)] ({ frames := 8, cells := 1, slots := 6, locals := 160 } : Room) (XW D cI cQ cL a S o w) (XW D cI cQ cL a S' o v.toInt64) (iBO a o) [.ref (a 13), .int (x), .ref (o)] 0 := by
  refine Hp.of (by decide) (Nat.le_of_ble_eq_true rfl) ?_
  intro p e s m args below meth c ls hC hr hlocks hxt hB hX hH hS hl
  obtain ⟨hB, hO⟩ := hB
  have hx := hC.1
  have hb := hC.2.1
  have hl : lv_has ls 4 [(0, .ref (a 13)), (1, .int (x)), (2, .ref (o))] := hl
  refine lv_aload_n hx hb dL_pass_0 rfl (lv_at hl 2 rfl) ?_
  refine lv_iconst (v := 0) hx hb dL_pass_1 (by decide) ?_
  refine lv_aload_n hx hb dL_pass_2 rfl (lv_at hl 0 rfl) ?_
  refine lv_iload_n hx hb dL_pass_3 rfl (lv_at hl 1 rfl) ?_
  refine kVw (A := inB a) (A0 := iBO a o) hC hM mov_B mov_B hB (rec_B hB) (good_V mv_170 mv_171 mv_172 mw_2 mv_173) rfl rfl ⟨rfl, by decide +kernel, by decide +kernel, show (parseMethodDescriptor yX0_pass.desc).map (fun d => d.parameters.length) = some 1 by decide +kernel⟩ ⟨Nat.le_of_ble_eq_true rfl, Nat.le_of_ble_eq_true rfl⟩ ⟨Nat.le_of_ble_eq_true rfl, Nat.le_of_ble_eq_true rfl⟩ hS (fun q h => Or.inl h) hl.1 rfl (Nat.le_of_ble_eq_true rfl) dL_pass_4 (fun H locs hB hS hz hk => ?_)
  have hO := hO.kept (hk o hO.lt (fun z => by obtain ⟨k, hk1, hk2⟩ := z; exact hao k hk1 hk2.symm))
  refine lv_i2l (v := v.toInt64) hx hb dL_pass_7 rfl ?_
  refine stO (x := v.toInt64) hC hO hS (Or.inr rfl) dL_pass_8 (fun H locs hO hS hk => ?_)
  have hB := hB.kept (fun k hk1 => hk _ (hao k hk1))
  refine lv_goto (tgt := 15) hx hb dL_pass_9 (by decide) ?_
  refine lv_iconst (v := 0) hx hb dL_pass_15 (by decide) ?_
  refine W.widen (k := 1) (n := 6) (by omega) (by omega) ?_
  exact wr_i hC hr hlocks mov_X ⟨hB, hO⟩ hS dL_pass_16 rfl
set_option maxHeartbeats 4000000 in
set_option maxRecDepth 100000 in
theorem h_pass_1 (l : Launch) {D : va_G} {cI cQ cL : ClassId} {a : Nat → Nat} {S : bS} {o : Nat} {w : Int64} {x : Int32} (hao : ∀ k : Nat, k < 14 → a k ≠ o) (hM : Th l yX0_pass cX0_pass 4 (some .int) ({ frames := 7, cells := 1, slots := 6, locals := 110 } : Room) (BW D cI cQ a S) [.ref (a 13), .int (x)] eIA) : Hp l yL_pass cL_pass 4 [(0, 9, 12, 13)] ({ frames := 8, cells := 1, slots := 6, locals := 160 } : Room) (XW D cI cQ cL a S o w) (XW D cI cQ cL a S o w) (iBO a o) [.ref (a 13), .int (x), .ref (o)] 1 := by
  refine Hp.of (by decide) (Nat.le_of_ble_eq_true rfl) ?_
  intro p e s m args below meth c ls hC hr hlocks hxt hB hX hH hS hl
  obtain ⟨hB, hO⟩ := hB
  have hx := hC.1
  have hb := hC.2.1
  have hl : lv_has ls 4 [(0, .ref (a 13)), (1, .int (x)), (2, .ref (o))] := hl
  refine lv_aload_n hx hb dL_pass_0 rfl (lv_at hl 2 rfl) ?_
  refine lv_iconst (v := 0) hx hb dL_pass_1 (by decide) ?_
  refine lv_aload_n hx hb dL_pass_2 rfl (lv_at hl 0 rfl) ?_
  refine lv_iload_n hx hb dL_pass_3 rfl (lv_at hl 1 rfl) ?_
  refine kVX hC hM mov_B hB hX hH (rec_B hB) (good_V mv_170 mv_171 mv_172 mw_2 mv_173) rfl rfl ⟨rfl, by decide +kernel, by decide +kernel, show (parseMethodDescriptor yX0_pass.desc).map (fun d => d.parameters.length) = some 1 by decide +kernel⟩ ⟨Nat.le_of_ble_eq_true rfl, Nat.le_of_ble_eq_true rfl⟩ ⟨Nat.le_of_ble_eq_true rfl, Nat.le_of_ble_eq_true rfl⟩ hl.1 rfl (Nat.le_of_ble_eq_true rfl) dL_pass_4 (fun ce q9 H hz hk hce hcv hcl => ?_)
  have hO := hO.kept (hk o hO.lt)
  have hB := hB.kept (fun k hk1 => hk _ (hB.lt k hk1))
  have hS : va_S (iBO a o) s.heap H [] := ⟨hz, fun q h1 _ => hk q h1, fun q hq => nomatch hq⟩
  refine vx_catch (E := eIA) (name := eIA) hC.2.2.2.1 [] (⟨0, 9, 12, 13⟩ : ExceptionTableEntry) [] hxt (fun z hz => nomatch hz) (by decide) (by decide) (hC.2.2.2.2 _ mv_35) (va_Nw.use rfl (hX.2.1 eIA (by decide))) hce hcv hcl ?_
  refine lv_astore_n (lv' := [(3, .ref (q9)), (0, .ref (a 13)), (1, .int (x)), (2, .ref (o))]) hx hb dL_pass_12 rfl hl (by decide) rfl (fun ls hl => ?_)
  refine lv_iconst (v := 1) hx hb dL_pass_13 (by decide) ?_
  exact wr_i hC hr hlocks mov_X ⟨hB, hO⟩ hS dL_pass_14 rfl
set_option maxHeartbeats 4000000 in
set_option maxRecDepth 100000 in
theorem h_silenceOf_ok (l : Launch) {D : va_G} {cI cQ cL : ClassId} {a : Nat → Nat} {S : bS} {o : Nat} {w : Int64} {x : Int32} {v : Int32} (hao : ∀ k : Nat, k < 14 → a k ≠ o) (hM : Rd l yX0_silenceOf cX0_silenceOf 2 (some .int) ({ frames := 1, cells := 0, slots := 0, locals := 21 } : Room) (BW D cI cQ a S) [.ref (a 13), .int (x)] (.int v)) : Hp l yL_silenceOf cL_silenceOf 4 [(0, 9, 12, 24)] ({ frames := 8, cells := 1, slots := 6, locals := 160 } : Room) (XW D cI cQ cL a S o w) (XW D cI cQ cL a S o v.toInt64) (iBO a o) [.ref (a 13), .int (x), .ref (o)] 0 := by
  refine Hp.of (by decide) (Nat.le_of_ble_eq_true rfl) ?_
  intro p e s m args below meth c ls hC hr hlocks hxt hB hX hH hS hl
  obtain ⟨hB, hO⟩ := hB
  have hx := hC.1
  have hb := hC.2.1
  have hl : lv_has ls 4 [(0, .ref (a 13)), (1, .int (x)), (2, .ref (o))] := hl
  refine lv_aload_n hx hb dL_silenceOf_0 rfl (lv_at hl 2 rfl) ?_
  refine lv_iconst (v := 0) hx hb dL_silenceOf_1 (by decide) ?_
  refine lv_aload_n hx hb dL_silenceOf_2 rfl (lv_at hl 0 rfl) ?_
  refine lv_iload_n hx hb dL_silenceOf_3 rfl (lv_at hl 1 rfl) ?_
  refine kV hC hM mov_B hB (rec_B hB) (good_V mv_220 mv_221 mv_222 mw_2 mv_223) rfl rfl ⟨rfl, by decide +kernel, by decide +kernel, show (parseMethodDescriptor yX0_silenceOf.desc).map (fun d => d.parameters.length) = some 1 by decide +kernel⟩ ⟨Nat.le_of_ble_eq_true rfl, Nat.le_of_ble_eq_true rfl⟩ ⟨Nat.zero_le _, Nat.zero_le _⟩ hl.1 rfl (Nat.le_of_ble_eq_true rfl) dL_silenceOf_4 ?_
  refine lv_i2l (v := v.toInt64) hx hb dL_silenceOf_7 rfl ?_
  refine stO (x := v.toInt64) hC hO hS (Or.inr rfl) dL_silenceOf_8 (fun H locs hO hS hk => ?_)
  have hB := hB.kept (fun k hk1 => hk _ (hao k hk1))
  refine lv_goto (tgt := 15) hx hb dL_silenceOf_9 (by decide) ?_
  refine lv_iconst (v := 0) hx hb dL_silenceOf_15 (by decide) ?_
  refine W.widen (k := 1) (n := 6) (by omega) (by omega) ?_
  exact wr_i hC hr hlocks mov_X ⟨hB, hO⟩ hS dL_silenceOf_16 rfl
set_option maxHeartbeats 4000000 in
set_option maxRecDepth 100000 in
theorem h_silenceOf_1 (l : Launch) {D : va_G} {cI cQ cL : ClassId} {a : Nat → Nat} {S : bS} {o : Nat} {w : Int64} {x : Int32} (hao : ∀ k : Nat, k < 14 → a k ≠ o) (hM : Th l yX0_silenceOf cX0_silenceOf 2 (some .int) ({ frames := 7, cells := 1, slots := 6, locals := 110 } : Room) (BW D cI cQ a S) [.ref (a 13), .int (x)] eIO) : Hp l yL_silenceOf cL_silenceOf 4 [(0, 9, 12, 24)] ({ frames := 8, cells := 1, slots := 6, locals := 160 } : Room) (XW D cI cQ cL a S o w) (XW D cI cQ cL a S o w) (iBO a o) [.ref (a 13), .int (x), .ref (o)] 1 := by
  refine Hp.of (by decide) (Nat.le_of_ble_eq_true rfl) ?_
  intro p e s m args below meth c ls hC hr hlocks hxt hB hX hH hS hl
  obtain ⟨hB, hO⟩ := hB
  have hx := hC.1
  have hb := hC.2.1
  have hl : lv_has ls 4 [(0, .ref (a 13)), (1, .int (x)), (2, .ref (o))] := hl
  refine lv_aload_n hx hb dL_silenceOf_0 rfl (lv_at hl 2 rfl) ?_
  refine lv_iconst (v := 0) hx hb dL_silenceOf_1 (by decide) ?_
  refine lv_aload_n hx hb dL_silenceOf_2 rfl (lv_at hl 0 rfl) ?_
  refine lv_iload_n hx hb dL_silenceOf_3 rfl (lv_at hl 1 rfl) ?_
  refine kVX hC hM mov_B hB hX hH (rec_B hB) (good_V mv_220 mv_221 mv_222 mw_2 mv_223) rfl rfl ⟨rfl, by decide +kernel, by decide +kernel, show (parseMethodDescriptor yX0_silenceOf.desc).map (fun d => d.parameters.length) = some 1 by decide +kernel⟩ ⟨Nat.le_of_ble_eq_true rfl, Nat.le_of_ble_eq_true rfl⟩ ⟨Nat.le_of_ble_eq_true rfl, Nat.le_of_ble_eq_true rfl⟩ hl.1 rfl (Nat.le_of_ble_eq_true rfl) dL_silenceOf_4 (fun ce q9 H hz hk hce hcv hcl => ?_)
  have hO := hO.kept (hk o hO.lt)
  have hB := hB.kept (fun k hk1 => hk _ (hB.lt k hk1))
  have hS : va_S (iBO a o) s.heap H [] := ⟨hz, fun q h1 _ => hk q h1, fun q hq => nomatch hq⟩
  refine vx_catch (E := eIO) (name := eIO) hC.2.2.2.1 [] (⟨0, 9, 12, 24⟩ : ExceptionTableEntry) [] hxt (fun z hz => nomatch hz) (by decide) (by decide) (hC.2.2.2.2 _ mv_84) (va_Nw.use rfl (hX.2.1 eIO (by decide))) hce hcv hcl ?_
  refine lv_astore_n (lv' := [(3, .ref (q9)), (0, .ref (a 13)), (1, .int (x)), (2, .ref (o))]) hx hb dL_silenceOf_12 rfl hl (by decide) rfl (fun ls hl => ?_)
  refine lv_iconst (v := 1) hx hb dL_silenceOf_13 (by decide) ?_
  exact wr_i hC hr hlocks mov_X ⟨hB, hO⟩ hS dL_silenceOf_14 rfl
set_option maxHeartbeats 4000000 in
set_option maxRecDepth 100000 in
theorem h_dovesOn_ok (l : Launch) {D : va_G} {cI cQ cL : ClassId} {a : Nat → Nat} {S : bS} {o : Nat} {w : Int64} {x : Int32} {v : Int32} (hao : ∀ k : Nat, k < 14 → a k ≠ o) (hM : Rd l yX0_dovesOn cX0_dovesOn 2 (some .int) ({ frames := 3, cells := 0, slots := 0, locals := 67 } : Room) (BW D cI cQ a S) [.ref (a 13), .int (x)] (.int v)) : Hp l yL_dovesOn cL_dovesOn 4 [(0, 9, 12, 24)] ({ frames := 8, cells := 1, slots := 6, locals := 160 } : Room) (XW D cI cQ cL a S o w) (XW D cI cQ cL a S o v.toInt64) (iBO a o) [.ref (a 13), .int (x), .ref (o)] 0 := by
  refine Hp.of (by decide) (Nat.le_of_ble_eq_true rfl) ?_
  intro p e s m args below meth c ls hC hr hlocks hxt hB hX hH hS hl
  obtain ⟨hB, hO⟩ := hB
  have hx := hC.1
  have hb := hC.2.1
  have hl : lv_has ls 4 [(0, .ref (a 13)), (1, .int (x)), (2, .ref (o))] := hl
  refine lv_aload_n hx hb dL_dovesOn_0 rfl (lv_at hl 2 rfl) ?_
  refine lv_iconst (v := 0) hx hb dL_dovesOn_1 (by decide) ?_
  refine lv_aload_n hx hb dL_dovesOn_2 rfl (lv_at hl 0 rfl) ?_
  refine lv_iload_n hx hb dL_dovesOn_3 rfl (lv_at hl 1 rfl) ?_
  refine kV hC hM mov_B hB (rec_B hB) (good_V mv_231 mv_232 mv_233 mw_2 mv_234) rfl rfl ⟨rfl, by decide +kernel, by decide +kernel, show (parseMethodDescriptor yX0_dovesOn.desc).map (fun d => d.parameters.length) = some 1 by decide +kernel⟩ ⟨Nat.le_of_ble_eq_true rfl, Nat.le_of_ble_eq_true rfl⟩ ⟨Nat.zero_le _, Nat.zero_le _⟩ hl.1 rfl (Nat.le_of_ble_eq_true rfl) dL_dovesOn_4 ?_
  refine lv_i2l (v := v.toInt64) hx hb dL_dovesOn_7 rfl ?_
  refine stO (x := v.toInt64) hC hO hS (Or.inr rfl) dL_dovesOn_8 (fun H locs hO hS hk => ?_)
  have hB := hB.kept (fun k hk1 => hk _ (hao k hk1))
  refine lv_goto (tgt := 15) hx hb dL_dovesOn_9 (by decide) ?_
  refine lv_iconst (v := 0) hx hb dL_dovesOn_15 (by decide) ?_
  refine W.widen (k := 1) (n := 6) (by omega) (by omega) ?_
  exact wr_i hC hr hlocks mov_X ⟨hB, hO⟩ hS dL_dovesOn_16 rfl
set_option maxHeartbeats 4000000 in
set_option maxRecDepth 100000 in
theorem h_dovesOn_1 (l : Launch) {D : va_G} {cI cQ cL : ClassId} {a : Nat → Nat} {S : bS} {o : Nat} {w : Int64} {x : Int32} (hao : ∀ k : Nat, k < 14 → a k ≠ o) (hM : Th l yX0_dovesOn cX0_dovesOn 2 (some .int) ({ frames := 7, cells := 1, slots := 6, locals := 110 } : Room) (BW D cI cQ a S) [.ref (a 13), .int (x)] eIO) : Hp l yL_dovesOn cL_dovesOn 4 [(0, 9, 12, 24)] ({ frames := 8, cells := 1, slots := 6, locals := 160 } : Room) (XW D cI cQ cL a S o w) (XW D cI cQ cL a S o w) (iBO a o) [.ref (a 13), .int (x), .ref (o)] 1 := by
  refine Hp.of (by decide) (Nat.le_of_ble_eq_true rfl) ?_
  intro p e s m args below meth c ls hC hr hlocks hxt hB hX hH hS hl
  obtain ⟨hB, hO⟩ := hB
  have hx := hC.1
  have hb := hC.2.1
  have hl : lv_has ls 4 [(0, .ref (a 13)), (1, .int (x)), (2, .ref (o))] := hl
  refine lv_aload_n hx hb dL_dovesOn_0 rfl (lv_at hl 2 rfl) ?_
  refine lv_iconst (v := 0) hx hb dL_dovesOn_1 (by decide) ?_
  refine lv_aload_n hx hb dL_dovesOn_2 rfl (lv_at hl 0 rfl) ?_
  refine lv_iload_n hx hb dL_dovesOn_3 rfl (lv_at hl 1 rfl) ?_
  refine kVX hC hM mov_B hB hX hH (rec_B hB) (good_V mv_231 mv_232 mv_233 mw_2 mv_234) rfl rfl ⟨rfl, by decide +kernel, by decide +kernel, show (parseMethodDescriptor yX0_dovesOn.desc).map (fun d => d.parameters.length) = some 1 by decide +kernel⟩ ⟨Nat.le_of_ble_eq_true rfl, Nat.le_of_ble_eq_true rfl⟩ ⟨Nat.le_of_ble_eq_true rfl, Nat.le_of_ble_eq_true rfl⟩ hl.1 rfl (Nat.le_of_ble_eq_true rfl) dL_dovesOn_4 (fun ce q9 H hz hk hce hcv hcl => ?_)
  have hO := hO.kept (hk o hO.lt)
  have hB := hB.kept (fun k hk1 => hk _ (hB.lt k hk1))
  have hS : va_S (iBO a o) s.heap H [] := ⟨hz, fun q h1 _ => hk q h1, fun q hq => nomatch hq⟩
  refine vx_catch (E := eIO) (name := eIO) hC.2.2.2.1 [] (⟨0, 9, 12, 24⟩ : ExceptionTableEntry) [] hxt (fun z hz => nomatch hz) (by decide) (by decide) (hC.2.2.2.2 _ mv_84) (va_Nw.use rfl (hX.2.1 eIO (by decide))) hce hcv hcl ?_
  refine lv_astore_n (lv' := [(3, .ref (q9)), (0, .ref (a 13)), (1, .int (x)), (2, .ref (o))]) hx hb dL_dovesOn_12 rfl hl (by decide) rfl (fun ls hl => ?_)
  refine lv_iconst (v := 1) hx hb dL_dovesOn_13 (by decide) ?_
  exact wr_i hC hr hlocks mov_X ⟨hB, hO⟩ hS dL_dovesOn_14 rfl
set_option maxHeartbeats 4000000 in
set_option maxRecDepth 100000 in
theorem h_priceOf_ok (l : Launch) {D : va_G} {cI cQ cL : ClassId} {a : Nat → Nat} {S : bS} {o : Nat} {w : Int64} {x : Int32} {v : Int32} (hao : ∀ k : Nat, k < 14 → a k ≠ o) (hM : Rd l yX0_priceOf cX0_priceOf 2 (some .int) ({ frames := 4, cells := 0, slots := 0, locals := 88 } : Room) (BW D cI cQ a S) [.ref (a 13), .int (x)] (.int v)) : Hp l yL_priceOf cL_priceOf 4 [(0, 9, 12, 24)] ({ frames := 8, cells := 1, slots := 6, locals := 160 } : Room) (XW D cI cQ cL a S o w) (XW D cI cQ cL a S o v.toInt64) (iBO a o) [.ref (a 13), .int (x), .ref (o)] 0 := by
  refine Hp.of (by decide) (Nat.le_of_ble_eq_true rfl) ?_
  intro p e s m args below meth c ls hC hr hlocks hxt hB hX hH hS hl
  obtain ⟨hB, hO⟩ := hB
  have hx := hC.1
  have hb := hC.2.1
  have hl : lv_has ls 4 [(0, .ref (a 13)), (1, .int (x)), (2, .ref (o))] := hl
  refine lv_aload_n hx hb dL_priceOf_0 rfl (lv_at hl 2 rfl) ?_
  refine lv_iconst (v := 0) hx hb dL_priceOf_1 (by decide) ?_
  refine lv_aload_n hx hb dL_priceOf_2 rfl (lv_at hl 0 rfl) ?_
  refine lv_iload_n hx hb dL_priceOf_3 rfl (lv_at hl 1 rfl) ?_
  refine kV hC hM mov_B hB (rec_B hB) (good_V mv_242 mv_243 mv_244 mw_2 mv_245) rfl rfl ⟨rfl, by decide +kernel, by decide +kernel, show (parseMethodDescriptor yX0_priceOf.desc).map (fun d => d.parameters.length) = some 1 by decide +kernel⟩ ⟨Nat.le_of_ble_eq_true rfl, Nat.le_of_ble_eq_true rfl⟩ ⟨Nat.zero_le _, Nat.zero_le _⟩ hl.1 rfl (Nat.le_of_ble_eq_true rfl) dL_priceOf_4 ?_
  refine lv_i2l (v := v.toInt64) hx hb dL_priceOf_7 rfl ?_
  refine stO (x := v.toInt64) hC hO hS (Or.inr rfl) dL_priceOf_8 (fun H locs hO hS hk => ?_)
  have hB := hB.kept (fun k hk1 => hk _ (hao k hk1))
  refine lv_goto (tgt := 15) hx hb dL_priceOf_9 (by decide) ?_
  refine lv_iconst (v := 0) hx hb dL_priceOf_15 (by decide) ?_
  refine W.widen (k := 1) (n := 6) (by omega) (by omega) ?_
  exact wr_i hC hr hlocks mov_X ⟨hB, hO⟩ hS dL_priceOf_16 rfl
set_option maxHeartbeats 4000000 in
set_option maxRecDepth 100000 in
theorem h_priceOf_1 (l : Launch) {D : va_G} {cI cQ cL : ClassId} {a : Nat → Nat} {S : bS} {o : Nat} {w : Int64} {x : Int32} (hao : ∀ k : Nat, k < 14 → a k ≠ o) (hM : Th l yX0_priceOf cX0_priceOf 2 (some .int) ({ frames := 7, cells := 1, slots := 6, locals := 110 } : Room) (BW D cI cQ a S) [.ref (a 13), .int (x)] eIO) : Hp l yL_priceOf cL_priceOf 4 [(0, 9, 12, 24)] ({ frames := 8, cells := 1, slots := 6, locals := 160 } : Room) (XW D cI cQ cL a S o w) (XW D cI cQ cL a S o w) (iBO a o) [.ref (a 13), .int (x), .ref (o)] 1 := by
  refine Hp.of (by decide) (Nat.le_of_ble_eq_true rfl) ?_
  intro p e s m args below meth c ls hC hr hlocks hxt hB hX hH hS hl
  obtain ⟨hB, hO⟩ := hB
  have hx := hC.1
  have hb := hC.2.1
  have hl : lv_has ls 4 [(0, .ref (a 13)), (1, .int (x)), (2, .ref (o))] := hl
  refine lv_aload_n hx hb dL_priceOf_0 rfl (lv_at hl 2 rfl) ?_
  refine lv_iconst (v := 0) hx hb dL_priceOf_1 (by decide) ?_
  refine lv_aload_n hx hb dL_priceOf_2 rfl (lv_at hl 0 rfl) ?_
  refine lv_iload_n hx hb dL_priceOf_3 rfl (lv_at hl 1 rfl) ?_
  refine kVX hC hM mov_B hB hX hH (rec_B hB) (good_V mv_242 mv_243 mv_244 mw_2 mv_245) rfl rfl ⟨rfl, by decide +kernel, by decide +kernel, show (parseMethodDescriptor yX0_priceOf.desc).map (fun d => d.parameters.length) = some 1 by decide +kernel⟩ ⟨Nat.le_of_ble_eq_true rfl, Nat.le_of_ble_eq_true rfl⟩ ⟨Nat.le_of_ble_eq_true rfl, Nat.le_of_ble_eq_true rfl⟩ hl.1 rfl (Nat.le_of_ble_eq_true rfl) dL_priceOf_4 (fun ce q9 H hz hk hce hcv hcl => ?_)
  have hO := hO.kept (hk o hO.lt)
  have hB := hB.kept (fun k hk1 => hk _ (hB.lt k hk1))
  have hS : va_S (iBO a o) s.heap H [] := ⟨hz, fun q h1 _ => hk q h1, fun q hq => nomatch hq⟩
  refine vx_catch (E := eIO) (name := eIO) hC.2.2.2.1 [] (⟨0, 9, 12, 24⟩ : ExceptionTableEntry) [] hxt (fun z hz => nomatch hz) (by decide) (by decide) (hC.2.2.2.2 _ mv_84) (va_Nw.use rfl (hX.2.1 eIO (by decide))) hce hcv hcl ?_
  refine lv_astore_n (lv' := [(3, .ref (q9)), (0, .ref (a 13)), (1, .int (x)), (2, .ref (o))]) hx hb dL_priceOf_12 rfl hl (by decide) rfl (fun ls hl => ?_)
  refine lv_iconst (v := 1) hx hb dL_priceOf_13 (by decide) ?_
  exact wr_i hC hr hlocks mov_X ⟨hB, hO⟩ hS dL_priceOf_14 rfl
set_option maxHeartbeats 4000000 in
set_option maxRecDepth 100000 in
theorem h_secondsUntilStroke_ok (l : Launch) {D : va_G} {cI cQ cL : ClassId} {a : Nat → Nat} {S : bS} {o : Nat} {w : Int64} {x : Int32} {v : Int32} (hao : ∀ k : Nat, k < 14 → a k ≠ o) (hM : Rd l yX0_secondsUntilStroke cX0_secondsUntilStroke 2 (some .int) ({ frames := 1, cells := 0, slots := 0, locals := 21 } : Room) (BW D cI cQ a S) [.ref (a 13), .int (x)] (.int v)) : Hp l yL_secondsUntilStroke cL_secondsUntilStroke 4 [(0, 9, 12, 24)] ({ frames := 8, cells := 1, slots := 6, locals := 160 } : Room) (XW D cI cQ cL a S o w) (XW D cI cQ cL a S o v.toInt64) (iBO a o) [.ref (a 13), .int (x), .ref (o)] 0 := by
  refine Hp.of (by decide) (Nat.le_of_ble_eq_true rfl) ?_
  intro p e s m args below meth c ls hC hr hlocks hxt hB hX hH hS hl
  obtain ⟨hB, hO⟩ := hB
  have hx := hC.1
  have hb := hC.2.1
  have hl : lv_has ls 4 [(0, .ref (a 13)), (1, .int (x)), (2, .ref (o))] := hl
  refine lv_aload_n hx hb dL_secondsUntilStroke_0 rfl (lv_at hl 2 rfl) ?_
  refine lv_iconst (v := 0) hx hb dL_secondsUntilStroke_1 (by decide) ?_
  refine lv_aload_n hx hb dL_secondsUntilStroke_2 rfl (lv_at hl 0 rfl) ?_
  refine lv_iload_n hx hb dL_secondsUntilStroke_3 rfl (lv_at hl 1 rfl) ?_
  refine kV hC hM mov_B hB (rec_B hB) (good_V mv_253 mv_254 mv_255 mw_2 mv_256) rfl rfl ⟨rfl, by decide +kernel, by decide +kernel, show (parseMethodDescriptor yX0_secondsUntilStroke.desc).map (fun d => d.parameters.length) = some 1 by decide +kernel⟩ ⟨Nat.le_of_ble_eq_true rfl, Nat.le_of_ble_eq_true rfl⟩ ⟨Nat.zero_le _, Nat.zero_le _⟩ hl.1 rfl (Nat.le_of_ble_eq_true rfl) dL_secondsUntilStroke_4 ?_
  refine lv_i2l (v := v.toInt64) hx hb dL_secondsUntilStroke_7 rfl ?_
  refine stO (x := v.toInt64) hC hO hS (Or.inr rfl) dL_secondsUntilStroke_8 (fun H locs hO hS hk => ?_)
  have hB := hB.kept (fun k hk1 => hk _ (hao k hk1))
  refine lv_goto (tgt := 15) hx hb dL_secondsUntilStroke_9 (by decide) ?_
  refine lv_iconst (v := 0) hx hb dL_secondsUntilStroke_15 (by decide) ?_
  refine W.widen (k := 1) (n := 6) (by omega) (by omega) ?_
  exact wr_i hC hr hlocks mov_X ⟨hB, hO⟩ hS dL_secondsUntilStroke_16 rfl
set_option maxHeartbeats 4000000 in
set_option maxRecDepth 100000 in
theorem h_secondsUntilStroke_1 (l : Launch) {D : va_G} {cI cQ cL : ClassId} {a : Nat → Nat} {S : bS} {o : Nat} {w : Int64} {x : Int32} (hao : ∀ k : Nat, k < 14 → a k ≠ o) (hM : Th l yX0_secondsUntilStroke cX0_secondsUntilStroke 2 (some .int) ({ frames := 7, cells := 1, slots := 6, locals := 110 } : Room) (BW D cI cQ a S) [.ref (a 13), .int (x)] eIO) : Hp l yL_secondsUntilStroke cL_secondsUntilStroke 4 [(0, 9, 12, 24)] ({ frames := 8, cells := 1, slots := 6, locals := 160 } : Room) (XW D cI cQ cL a S o w) (XW D cI cQ cL a S o w) (iBO a o) [.ref (a 13), .int (x), .ref (o)] 1 := by
  refine Hp.of (by decide) (Nat.le_of_ble_eq_true rfl) ?_
  intro p e s m args below meth c ls hC hr hlocks hxt hB hX hH hS hl
  obtain ⟨hB, hO⟩ := hB
  have hx := hC.1
  have hb := hC.2.1
  have hl : lv_has ls 4 [(0, .ref (a 13)), (1, .int (x)), (2, .ref (o))] := hl
  refine lv_aload_n hx hb dL_secondsUntilStroke_0 rfl (lv_at hl 2 rfl) ?_
  refine lv_iconst (v := 0) hx hb dL_secondsUntilStroke_1 (by decide) ?_
  refine lv_aload_n hx hb dL_secondsUntilStroke_2 rfl (lv_at hl 0 rfl) ?_
  refine lv_iload_n hx hb dL_secondsUntilStroke_3 rfl (lv_at hl 1 rfl) ?_
  refine kVX hC hM mov_B hB hX hH (rec_B hB) (good_V mv_253 mv_254 mv_255 mw_2 mv_256) rfl rfl ⟨rfl, by decide +kernel, by decide +kernel, show (parseMethodDescriptor yX0_secondsUntilStroke.desc).map (fun d => d.parameters.length) = some 1 by decide +kernel⟩ ⟨Nat.le_of_ble_eq_true rfl, Nat.le_of_ble_eq_true rfl⟩ ⟨Nat.le_of_ble_eq_true rfl, Nat.le_of_ble_eq_true rfl⟩ hl.1 rfl (Nat.le_of_ble_eq_true rfl) dL_secondsUntilStroke_4 (fun ce q9 H hz hk hce hcv hcl => ?_)
  have hO := hO.kept (hk o hO.lt)
  have hB := hB.kept (fun k hk1 => hk _ (hB.lt k hk1))
  have hS : va_S (iBO a o) s.heap H [] := ⟨hz, fun q h1 _ => hk q h1, fun q hq => nomatch hq⟩
  refine vx_catch (E := eIO) (name := eIO) hC.2.2.2.1 [] (⟨0, 9, 12, 24⟩ : ExceptionTableEntry) [] hxt (fun z hz => nomatch hz) (by decide) (by decide) (hC.2.2.2.2 _ mv_84) (va_Nw.use rfl (hX.2.1 eIO (by decide))) hce hcv hcl ?_
  refine lv_astore_n (lv' := [(3, .ref (q9)), (0, .ref (a 13)), (1, .int (x)), (2, .ref (o))]) hx hb dL_secondsUntilStroke_12 rfl hl (by decide) rfl (fun ls hl => ?_)
  refine lv_iconst (v := 1) hx hb dL_secondsUntilStroke_13 (by decide) ?_
  exact wr_i hC hr hlocks mov_X ⟨hB, hO⟩ hS dL_secondsUntilStroke_14 rfl
set_option maxHeartbeats 4000000 in
set_option maxRecDepth 100000 in
theorem h_strokesOf_ok (l : Launch) {D : va_G} {cI cQ cL : ClassId} {a : Nat → Nat} {S : bS} {o : Nat} {w : Int64} {x : Int32} {v : Int32} (hao : ∀ k : Nat, k < 14 → a k ≠ o) (hM : Rd l yX0_strokesOf cX0_strokesOf 2 (some .int) ({ frames := 1, cells := 0, slots := 0, locals := 21 } : Room) (BW D cI cQ a S) [.ref (a 13), .int (x)] (.int v)) : Hp l yL_strokesOf cL_strokesOf 4 [(0, 9, 12, 24)] ({ frames := 8, cells := 1, slots := 6, locals := 160 } : Room) (XW D cI cQ cL a S o w) (XW D cI cQ cL a S o v.toInt64) (iBO a o) [.ref (a 13), .int (x), .ref (o)] 0 := by
  refine Hp.of (by decide) (Nat.le_of_ble_eq_true rfl) ?_
  intro p e s m args below meth c ls hC hr hlocks hxt hB hX hH hS hl
  obtain ⟨hB, hO⟩ := hB
  have hx := hC.1
  have hb := hC.2.1
  have hl : lv_has ls 4 [(0, .ref (a 13)), (1, .int (x)), (2, .ref (o))] := hl
  refine lv_aload_n hx hb dL_strokesOf_0 rfl (lv_at hl 2 rfl) ?_
  refine lv_iconst (v := 0) hx hb dL_strokesOf_1 (by decide) ?_
  refine lv_aload_n hx hb dL_strokesOf_2 rfl (lv_at hl 0 rfl) ?_
  refine lv_iload_n hx hb dL_strokesOf_3 rfl (lv_at hl 1 rfl) ?_
  refine kV hC hM mov_B hB (rec_B hB) (good_V mv_268 mv_269 mv_270 mw_2 mv_271) rfl rfl ⟨rfl, by decide +kernel, by decide +kernel, show (parseMethodDescriptor yX0_strokesOf.desc).map (fun d => d.parameters.length) = some 1 by decide +kernel⟩ ⟨Nat.le_of_ble_eq_true rfl, Nat.le_of_ble_eq_true rfl⟩ ⟨Nat.zero_le _, Nat.zero_le _⟩ hl.1 rfl (Nat.le_of_ble_eq_true rfl) dL_strokesOf_4 ?_
  refine lv_i2l (v := v.toInt64) hx hb dL_strokesOf_7 rfl ?_
  refine stO (x := v.toInt64) hC hO hS (Or.inr rfl) dL_strokesOf_8 (fun H locs hO hS hk => ?_)
  have hB := hB.kept (fun k hk1 => hk _ (hao k hk1))
  refine lv_goto (tgt := 15) hx hb dL_strokesOf_9 (by decide) ?_
  refine lv_iconst (v := 0) hx hb dL_strokesOf_15 (by decide) ?_
  refine W.widen (k := 1) (n := 6) (by omega) (by omega) ?_
  exact wr_i hC hr hlocks mov_X ⟨hB, hO⟩ hS dL_strokesOf_16 rfl
set_option maxHeartbeats 4000000 in
set_option maxRecDepth 100000 in
theorem h_strokesOf_1 (l : Launch) {D : va_G} {cI cQ cL : ClassId} {a : Nat → Nat} {S : bS} {o : Nat} {w : Int64} {x : Int32} (hao : ∀ k : Nat, k < 14 → a k ≠ o) (hM : Th l yX0_strokesOf cX0_strokesOf 2 (some .int) ({ frames := 7, cells := 1, slots := 6, locals := 110 } : Room) (BW D cI cQ a S) [.ref (a 13), .int (x)] eIO) : Hp l yL_strokesOf cL_strokesOf 4 [(0, 9, 12, 24)] ({ frames := 8, cells := 1, slots := 6, locals := 160 } : Room) (XW D cI cQ cL a S o w) (XW D cI cQ cL a S o w) (iBO a o) [.ref (a 13), .int (x), .ref (o)] 1 := by
  refine Hp.of (by decide) (Nat.le_of_ble_eq_true rfl) ?_
  intro p e s m args below meth c ls hC hr hlocks hxt hB hX hH hS hl
  obtain ⟨hB, hO⟩ := hB
  have hx := hC.1
  have hb := hC.2.1
  have hl : lv_has ls 4 [(0, .ref (a 13)), (1, .int (x)), (2, .ref (o))] := hl
  refine lv_aload_n hx hb dL_strokesOf_0 rfl (lv_at hl 2 rfl) ?_
  refine lv_iconst (v := 0) hx hb dL_strokesOf_1 (by decide) ?_
  refine lv_aload_n hx hb dL_strokesOf_2 rfl (lv_at hl 0 rfl) ?_
  refine lv_iload_n hx hb dL_strokesOf_3 rfl (lv_at hl 1 rfl) ?_
  refine kVX hC hM mov_B hB hX hH (rec_B hB) (good_V mv_268 mv_269 mv_270 mw_2 mv_271) rfl rfl ⟨rfl, by decide +kernel, by decide +kernel, show (parseMethodDescriptor yX0_strokesOf.desc).map (fun d => d.parameters.length) = some 1 by decide +kernel⟩ ⟨Nat.le_of_ble_eq_true rfl, Nat.le_of_ble_eq_true rfl⟩ ⟨Nat.le_of_ble_eq_true rfl, Nat.le_of_ble_eq_true rfl⟩ hl.1 rfl (Nat.le_of_ble_eq_true rfl) dL_strokesOf_4 (fun ce q9 H hz hk hce hcv hcl => ?_)
  have hO := hO.kept (hk o hO.lt)
  have hB := hB.kept (fun k hk1 => hk _ (hB.lt k hk1))
  have hS : va_S (iBO a o) s.heap H [] := ⟨hz, fun q h1 _ => hk q h1, fun q hq => nomatch hq⟩
  refine vx_catch (E := eIO) (name := eIO) hC.2.2.2.1 [] (⟨0, 9, 12, 24⟩ : ExceptionTableEntry) [] hxt (fun z hz => nomatch hz) (by decide) (by decide) (hC.2.2.2.2 _ mv_84) (va_Nw.use rfl (hX.2.1 eIO (by decide))) hce hcv hcl ?_
  refine lv_astore_n (lv' := [(3, .ref (q9)), (0, .ref (a 13)), (1, .int (x)), (2, .ref (o))]) hx hb dL_strokesOf_12 rfl hl (by decide) rfl (fun ls hl => ?_)
  refine lv_iconst (v := 1) hx hb dL_strokesOf_13 (by decide) ?_
  exact wr_i hC hr hlocks mov_X ⟨hB, hO⟩ hS dL_strokesOf_14 rfl
set_option maxHeartbeats 4000000 in
set_option maxRecDepth 100000 in
theorem h_openSeconds_ok (l : Launch) {D : va_G} {cI cQ cL : ClassId} {a : Nat → Nat} {S : bS} {o : Nat} {w : Int64} {x : Int32} {v : Int32} (hao : ∀ k : Nat, k < 14 → a k ≠ o) (hM : Rd l yX0_openSeconds cX0_openSeconds 2 (some .int) ({ frames := 1, cells := 0, slots := 0, locals := 23 } : Room) (BW D cI cQ a S) [.ref (a 13), .int (x)] (.int v)) : Hp l yL_openSeconds cL_openSeconds 4 [(0, 9, 12, 24)] ({ frames := 8, cells := 1, slots := 6, locals := 160 } : Room) (XW D cI cQ cL a S o w) (XW D cI cQ cL a S o v.toInt64) (iBO a o) [.ref (a 13), .int (x), .ref (o)] 0 := by
  refine Hp.of (by decide) (Nat.le_of_ble_eq_true rfl) ?_
  intro p e s m args below meth c ls hC hr hlocks hxt hB hX hH hS hl
  obtain ⟨hB, hO⟩ := hB
  have hx := hC.1
  have hb := hC.2.1
  have hl : lv_has ls 4 [(0, .ref (a 13)), (1, .int (x)), (2, .ref (o))] := hl
  refine lv_aload_n hx hb dL_openSeconds_0 rfl (lv_at hl 2 rfl) ?_
  refine lv_iconst (v := 0) hx hb dL_openSeconds_1 (by decide) ?_
  refine lv_aload_n hx hb dL_openSeconds_2 rfl (lv_at hl 0 rfl) ?_
  refine lv_iload_n hx hb dL_openSeconds_3 rfl (lv_at hl 1 rfl) ?_
  refine kV hC hM mov_B hB (rec_B hB) (good_V mv_279 mv_280 mv_281 mw_2 mv_282) rfl rfl ⟨rfl, by decide +kernel, by decide +kernel, show (parseMethodDescriptor yX0_openSeconds.desc).map (fun d => d.parameters.length) = some 1 by decide +kernel⟩ ⟨Nat.le_of_ble_eq_true rfl, Nat.le_of_ble_eq_true rfl⟩ ⟨Nat.zero_le _, Nat.zero_le _⟩ hl.1 rfl (Nat.le_of_ble_eq_true rfl) dL_openSeconds_4 ?_
  refine lv_i2l (v := v.toInt64) hx hb dL_openSeconds_7 rfl ?_
  refine stO (x := v.toInt64) hC hO hS (Or.inr rfl) dL_openSeconds_8 (fun H locs hO hS hk => ?_)
  have hB := hB.kept (fun k hk1 => hk _ (hao k hk1))
  refine lv_goto (tgt := 15) hx hb dL_openSeconds_9 (by decide) ?_
  refine lv_iconst (v := 0) hx hb dL_openSeconds_15 (by decide) ?_
  refine W.widen (k := 1) (n := 6) (by omega) (by omega) ?_
  exact wr_i hC hr hlocks mov_X ⟨hB, hO⟩ hS dL_openSeconds_16 rfl
set_option maxHeartbeats 4000000 in
set_option maxRecDepth 100000 in
theorem h_openSeconds_1 (l : Launch) {D : va_G} {cI cQ cL : ClassId} {a : Nat → Nat} {S : bS} {o : Nat} {w : Int64} {x : Int32} (hao : ∀ k : Nat, k < 14 → a k ≠ o) (hM : Th l yX0_openSeconds cX0_openSeconds 2 (some .int) ({ frames := 7, cells := 1, slots := 6, locals := 110 } : Room) (BW D cI cQ a S) [.ref (a 13), .int (x)] eIO) : Hp l yL_openSeconds cL_openSeconds 4 [(0, 9, 12, 24)] ({ frames := 8, cells := 1, slots := 6, locals := 160 } : Room) (XW D cI cQ cL a S o w) (XW D cI cQ cL a S o w) (iBO a o) [.ref (a 13), .int (x), .ref (o)] 1 := by
  refine Hp.of (by decide) (Nat.le_of_ble_eq_true rfl) ?_
  intro p e s m args below meth c ls hC hr hlocks hxt hB hX hH hS hl
  obtain ⟨hB, hO⟩ := hB
  have hx := hC.1
  have hb := hC.2.1
  have hl : lv_has ls 4 [(0, .ref (a 13)), (1, .int (x)), (2, .ref (o))] := hl
  refine lv_aload_n hx hb dL_openSeconds_0 rfl (lv_at hl 2 rfl) ?_
  refine lv_iconst (v := 0) hx hb dL_openSeconds_1 (by decide) ?_
  refine lv_aload_n hx hb dL_openSeconds_2 rfl (lv_at hl 0 rfl) ?_
  refine lv_iload_n hx hb dL_openSeconds_3 rfl (lv_at hl 1 rfl) ?_
  refine kVX hC hM mov_B hB hX hH (rec_B hB) (good_V mv_279 mv_280 mv_281 mw_2 mv_282) rfl rfl ⟨rfl, by decide +kernel, by decide +kernel, show (parseMethodDescriptor yX0_openSeconds.desc).map (fun d => d.parameters.length) = some 1 by decide +kernel⟩ ⟨Nat.le_of_ble_eq_true rfl, Nat.le_of_ble_eq_true rfl⟩ ⟨Nat.le_of_ble_eq_true rfl, Nat.le_of_ble_eq_true rfl⟩ hl.1 rfl (Nat.le_of_ble_eq_true rfl) dL_openSeconds_4 (fun ce q9 H hz hk hce hcv hcl => ?_)
  have hO := hO.kept (hk o hO.lt)
  have hB := hB.kept (fun k hk1 => hk _ (hB.lt k hk1))
  have hS : va_S (iBO a o) s.heap H [] := ⟨hz, fun q h1 _ => hk q h1, fun q hq => nomatch hq⟩
  refine vx_catch (E := eIO) (name := eIO) hC.2.2.2.1 [] (⟨0, 9, 12, 24⟩ : ExceptionTableEntry) [] hxt (fun z hz => nomatch hz) (by decide) (by decide) (hC.2.2.2.2 _ mv_84) (va_Nw.use rfl (hX.2.1 eIO (by decide))) hce hcv hcl ?_
  refine lv_astore_n (lv' := [(3, .ref (q9)), (0, .ref (a 13)), (1, .int (x)), (2, .ref (o))]) hx hb dL_openSeconds_12 rfl hl (by decide) rfl (fun ls hl => ?_)
  refine lv_iconst (v := 1) hx hb dL_openSeconds_13 (by decide) ?_
  exact wr_i hC hr hlocks mov_X ⟨hB, hO⟩ hS dL_openSeconds_14 rfl
set_option maxHeartbeats 4000000 in
set_option maxRecDepth 100000 in
theorem h_purseOf_ok (l : Launch) {D : va_G} {cI cQ cL : ClassId} {a : Nat → Nat} {S : bS} {o : Nat} {w : Int64} {x : Int32} {v : Int32} (hao : ∀ k : Nat, k < 14 → a k ≠ o) (hM : Rd l yX0_purseOf cX0_purseOf 2 (some .int) ({ frames := 1, cells := 0, slots := 0, locals := 21 } : Room) (BW D cI cQ a S) [.ref (a 13), .int (x)] (.int v)) : Hp l yL_purseOf cL_purseOf 4 [(0, 9, 12, 24)] ({ frames := 8, cells := 1, slots := 6, locals := 160 } : Room) (XW D cI cQ cL a S o w) (XW D cI cQ cL a S o v.toInt64) (iBO a o) [.ref (a 13), .int (x), .ref (o)] 0 := by
  refine Hp.of (by decide) (Nat.le_of_ble_eq_true rfl) ?_
  intro p e s m args below meth c ls hC hr hlocks hxt hB hX hH hS hl
  obtain ⟨hB, hO⟩ := hB
  have hx := hC.1
  have hb := hC.2.1
  have hl : lv_has ls 4 [(0, .ref (a 13)), (1, .int (x)), (2, .ref (o))] := hl
  refine lv_aload_n hx hb dL_purseOf_0 rfl (lv_at hl 2 rfl) ?_
  refine lv_iconst (v := 0) hx hb dL_purseOf_1 (by decide) ?_
  refine lv_aload_n hx hb dL_purseOf_2 rfl (lv_at hl 0 rfl) ?_
  refine lv_iload_n hx hb dL_purseOf_3 rfl (lv_at hl 1 rfl) ?_
  refine kV hC hM mov_B hB (rec_B hB) (good_V mv_330 mv_331 mv_332 mw_2 mv_333) rfl rfl ⟨rfl, by decide +kernel, by decide +kernel, show (parseMethodDescriptor yX0_purseOf.desc).map (fun d => d.parameters.length) = some 1 by decide +kernel⟩ ⟨Nat.le_of_ble_eq_true rfl, Nat.le_of_ble_eq_true rfl⟩ ⟨Nat.zero_le _, Nat.zero_le _⟩ hl.1 rfl (Nat.le_of_ble_eq_true rfl) dL_purseOf_4 ?_
  refine lv_i2l (v := v.toInt64) hx hb dL_purseOf_7 rfl ?_
  refine stO (x := v.toInt64) hC hO hS (Or.inr rfl) dL_purseOf_8 (fun H locs hO hS hk => ?_)
  have hB := hB.kept (fun k hk1 => hk _ (hao k hk1))
  refine lv_goto (tgt := 15) hx hb dL_purseOf_9 (by decide) ?_
  refine lv_iconst (v := 0) hx hb dL_purseOf_15 (by decide) ?_
  refine W.widen (k := 1) (n := 6) (by omega) (by omega) ?_
  exact wr_i hC hr hlocks mov_X ⟨hB, hO⟩ hS dL_purseOf_16 rfl
set_option maxHeartbeats 4000000 in
set_option maxRecDepth 100000 in
theorem h_purseOf_1 (l : Launch) {D : va_G} {cI cQ cL : ClassId} {a : Nat → Nat} {S : bS} {o : Nat} {w : Int64} {x : Int32} (hao : ∀ k : Nat, k < 14 → a k ≠ o) (hM : Th l yX0_purseOf cX0_purseOf 2 (some .int) ({ frames := 7, cells := 1, slots := 6, locals := 110 } : Room) (BW D cI cQ a S) [.ref (a 13), .int (x)] eIO) : Hp l yL_purseOf cL_purseOf 4 [(0, 9, 12, 24)] ({ frames := 8, cells := 1, slots := 6, locals := 160 } : Room) (XW D cI cQ cL a S o w) (XW D cI cQ cL a S o w) (iBO a o) [.ref (a 13), .int (x), .ref (o)] 1 := by
  refine Hp.of (by decide) (Nat.le_of_ble_eq_true rfl) ?_
  intro p e s m args below meth c ls hC hr hlocks hxt hB hX hH hS hl
  obtain ⟨hB, hO⟩ := hB
  have hx := hC.1
  have hb := hC.2.1
  have hl : lv_has ls 4 [(0, .ref (a 13)), (1, .int (x)), (2, .ref (o))] := hl
  refine lv_aload_n hx hb dL_purseOf_0 rfl (lv_at hl 2 rfl) ?_
  refine lv_iconst (v := 0) hx hb dL_purseOf_1 (by decide) ?_
  refine lv_aload_n hx hb dL_purseOf_2 rfl (lv_at hl 0 rfl) ?_
  refine lv_iload_n hx hb dL_purseOf_3 rfl (lv_at hl 1 rfl) ?_
  refine kVX hC hM mov_B hB hX hH (rec_B hB) (good_V mv_330 mv_331 mv_332 mw_2 mv_333) rfl rfl ⟨rfl, by decide +kernel, by decide +kernel, show (parseMethodDescriptor yX0_purseOf.desc).map (fun d => d.parameters.length) = some 1 by decide +kernel⟩ ⟨Nat.le_of_ble_eq_true rfl, Nat.le_of_ble_eq_true rfl⟩ ⟨Nat.le_of_ble_eq_true rfl, Nat.le_of_ble_eq_true rfl⟩ hl.1 rfl (Nat.le_of_ble_eq_true rfl) dL_purseOf_4 (fun ce q9 H hz hk hce hcv hcl => ?_)
  have hO := hO.kept (hk o hO.lt)
  have hB := hB.kept (fun k hk1 => hk _ (hB.lt k hk1))
  have hS : va_S (iBO a o) s.heap H [] := ⟨hz, fun q h1 _ => hk q h1, fun q hq => nomatch hq⟩
  refine vx_catch (E := eIO) (name := eIO) hC.2.2.2.1 [] (⟨0, 9, 12, 24⟩ : ExceptionTableEntry) [] hxt (fun z hz => nomatch hz) (by decide) (by decide) (hC.2.2.2.2 _ mv_84) (va_Nw.use rfl (hX.2.1 eIO (by decide))) hce hcv hcl ?_
  refine lv_astore_n (lv' := [(3, .ref (q9)), (0, .ref (a 13)), (1, .int (x)), (2, .ref (o))]) hx hb dL_purseOf_12 rfl hl (by decide) rfl (fun ls hl => ?_)
  refine lv_iconst (v := 1) hx hb dL_purseOf_13 (by decide) ?_
  exact wr_i hC hr hlocks mov_X ⟨hB, hO⟩ hS dL_purseOf_14 rfl
set_option maxHeartbeats 4000000 in
set_option maxRecDepth 100000 in
theorem h_holds_ok (l : Launch) {D : va_G} {cI cQ cL : ClassId} {a : Nat → Nat} {S : bS} {o : Nat} {w : Int64} {x y : Int32} {v : Int32} (hao : ∀ k : Nat, k < 14 → a k ≠ o) (hM : Rd l yX0_holds cX0_holds 3 (some .int) ({ frames := 1, cells := 0, slots := 0, locals := 21 } : Room) (BW D cI cQ a S) [.ref (a 13), .int (x), .int (y)] (.int v)) : Hp l yL_holds cL_holds 5 [(0, 10, 13, 24)] ({ frames := 8, cells := 1, slots := 6, locals := 160 } : Room) (XW D cI cQ cL a S o w) (XW D cI cQ cL a S o v.toInt64) (iBO a o) [.ref (a 13), .int (x), .int (y), .ref (o)] 0 := by
  refine Hp.of (by decide) (Nat.le_of_ble_eq_true rfl) ?_
  intro p e s m args below meth c ls hC hr hlocks hxt hB hX hH hS hl
  obtain ⟨hB, hO⟩ := hB
  have hx := hC.1
  have hb := hC.2.1
  have hl : lv_has ls 5 [(0, .ref (a 13)), (1, .int (x)), (2, .int (y)), (3, .ref (o))] := hl
  refine lv_aload_n hx hb dL_holds_0 rfl (lv_at hl 3 rfl) ?_
  refine lv_iconst (v := 0) hx hb dL_holds_1 (by decide) ?_
  refine lv_aload_n hx hb dL_holds_2 rfl (lv_at hl 0 rfl) ?_
  refine lv_iload_n hx hb dL_holds_3 rfl (lv_at hl 1 rfl) ?_
  refine lv_iload_n hx hb dL_holds_4 rfl (lv_at hl 2 rfl) ?_
  refine kV hC hM mov_B hB (rec_B hB) (good_V mv_341 mv_342 mv_343 mw_2 mv_344) rfl rfl ⟨rfl, by decide +kernel, by decide +kernel, show (parseMethodDescriptor yX0_holds.desc).map (fun d => d.parameters.length) = some 2 by decide +kernel⟩ ⟨Nat.le_of_ble_eq_true rfl, Nat.le_of_ble_eq_true rfl⟩ ⟨Nat.zero_le _, Nat.zero_le _⟩ hl.1 rfl (Nat.le_of_ble_eq_true rfl) dL_holds_5 ?_
  refine lv_i2l (v := v.toInt64) hx hb dL_holds_8 rfl ?_
  refine stO (x := v.toInt64) hC hO hS (Or.inr rfl) dL_holds_9 (fun H locs hO hS hk => ?_)
  have hB := hB.kept (fun k hk1 => hk _ (hao k hk1))
  refine lv_goto (tgt := 17) hx hb dL_holds_10 (by decide) ?_
  refine lv_iconst (v := 0) hx hb dL_holds_17 (by decide) ?_
  refine W.widen (k := 1) (n := 6) (by omega) (by omega) ?_
  exact wr_i hC hr hlocks mov_X ⟨hB, hO⟩ hS dL_holds_18 rfl
set_option maxHeartbeats 4000000 in
set_option maxRecDepth 100000 in
theorem h_holds_1 (l : Launch) {D : va_G} {cI cQ cL : ClassId} {a : Nat → Nat} {S : bS} {o : Nat} {w : Int64} {x y : Int32} (hao : ∀ k : Nat, k < 14 → a k ≠ o) (hM : Th l yX0_holds cX0_holds 3 (some .int) ({ frames := 7, cells := 1, slots := 6, locals := 110 } : Room) (BW D cI cQ a S) [.ref (a 13), .int (x), .int (y)] eIO) : Hp l yL_holds cL_holds 5 [(0, 10, 13, 24)] ({ frames := 8, cells := 1, slots := 6, locals := 160 } : Room) (XW D cI cQ cL a S o w) (XW D cI cQ cL a S o w) (iBO a o) [.ref (a 13), .int (x), .int (y), .ref (o)] 1 := by
  refine Hp.of (by decide) (Nat.le_of_ble_eq_true rfl) ?_
  intro p e s m args below meth c ls hC hr hlocks hxt hB hX hH hS hl
  obtain ⟨hB, hO⟩ := hB
  have hx := hC.1
  have hb := hC.2.1
  have hl : lv_has ls 5 [(0, .ref (a 13)), (1, .int (x)), (2, .int (y)), (3, .ref (o))] := hl
  refine lv_aload_n hx hb dL_holds_0 rfl (lv_at hl 3 rfl) ?_
  refine lv_iconst (v := 0) hx hb dL_holds_1 (by decide) ?_
  refine lv_aload_n hx hb dL_holds_2 rfl (lv_at hl 0 rfl) ?_
  refine lv_iload_n hx hb dL_holds_3 rfl (lv_at hl 1 rfl) ?_
  refine lv_iload_n hx hb dL_holds_4 rfl (lv_at hl 2 rfl) ?_
  refine kVX hC hM mov_B hB hX hH (rec_B hB) (good_V mv_341 mv_342 mv_343 mw_2 mv_344) rfl rfl ⟨rfl, by decide +kernel, by decide +kernel, show (parseMethodDescriptor yX0_holds.desc).map (fun d => d.parameters.length) = some 2 by decide +kernel⟩ ⟨Nat.le_of_ble_eq_true rfl, Nat.le_of_ble_eq_true rfl⟩ ⟨Nat.le_of_ble_eq_true rfl, Nat.le_of_ble_eq_true rfl⟩ hl.1 rfl (Nat.le_of_ble_eq_true rfl) dL_holds_5 (fun ce q9 H hz hk hce hcv hcl => ?_)
  have hO := hO.kept (hk o hO.lt)
  have hB := hB.kept (fun k hk1 => hk _ (hB.lt k hk1))
  have hS : va_S (iBO a o) s.heap H [] := ⟨hz, fun q h1 _ => hk q h1, fun q hq => nomatch hq⟩
  refine vx_catch (E := eIO) (name := eIO) hC.2.2.2.1 [] (⟨0, 10, 13, 24⟩ : ExceptionTableEntry) [] hxt (fun z hz => nomatch hz) (by decide) (by decide) (hC.2.2.2.2 _ mv_84) (va_Nw.use rfl (hX.2.1 eIO (by decide))) hce hcv hcl ?_
  refine lv_astore (lv' := [(4, .ref (q9)), (0, .ref (a 13)), (1, .int (x)), (2, .int (y)), (3, .ref (o))]) hx hb dL_holds_13 hl (by decide) rfl (fun ls hl => ?_)
  refine lv_iconst (v := 1) hx hb dL_holds_15 (by decide) ?_
  exact wr_i hC hr hlocks mov_X ⟨hB, hO⟩ hS dL_holds_16 rfl
set_option maxHeartbeats 4000000 in
set_option maxRecDepth 100000 in
theorem h_worthOf_ok (l : Launch) {D : va_G} {cI cQ cL : ClassId} {a : Nat → Nat} {S : bS} {o : Nat} {w : Int64} {x : Int32} {v : Int32} (hao : ∀ k : Nat, k < 14 → a k ≠ o) (hM : Rd l yX0_worthOf cX0_worthOf 2 (some .int) ({ frames := 5, cells := 0, slots := 0, locals := 118 } : Room) (BW D cI cQ a S) [.ref (a 13), .int (x)] (.int v)) : Hp l yL_worthOf cL_worthOf 4 [(0, 9, 12, 24)] ({ frames := 8, cells := 1, slots := 6, locals := 160 } : Room) (XW D cI cQ cL a S o w) (XW D cI cQ cL a S o v.toInt64) (iBO a o) [.ref (a 13), .int (x), .ref (o)] 0 := by
  refine Hp.of (by decide) (Nat.le_of_ble_eq_true rfl) ?_
  intro p e s m args below meth c ls hC hr hlocks hxt hB hX hH hS hl
  obtain ⟨hB, hO⟩ := hB
  have hx := hC.1
  have hb := hC.2.1
  have hl : lv_has ls 4 [(0, .ref (a 13)), (1, .int (x)), (2, .ref (o))] := hl
  refine lv_aload_n hx hb dL_worthOf_0 rfl (lv_at hl 2 rfl) ?_
  refine lv_iconst (v := 0) hx hb dL_worthOf_1 (by decide) ?_
  refine lv_aload_n hx hb dL_worthOf_2 rfl (lv_at hl 0 rfl) ?_
  refine lv_iload_n hx hb dL_worthOf_3 rfl (lv_at hl 1 rfl) ?_
  refine kV hC hM mov_B hB (rec_B hB) (good_V mv_352 mv_353 mv_354 mw_2 mv_355) rfl rfl ⟨rfl, by decide +kernel, by decide +kernel, show (parseMethodDescriptor yX0_worthOf.desc).map (fun d => d.parameters.length) = some 1 by decide +kernel⟩ ⟨Nat.le_of_ble_eq_true rfl, Nat.le_of_ble_eq_true rfl⟩ ⟨Nat.zero_le _, Nat.zero_le _⟩ hl.1 rfl (Nat.le_of_ble_eq_true rfl) dL_worthOf_4 ?_
  refine lv_i2l (v := v.toInt64) hx hb dL_worthOf_7 rfl ?_
  refine stO (x := v.toInt64) hC hO hS (Or.inr rfl) dL_worthOf_8 (fun H locs hO hS hk => ?_)
  have hB := hB.kept (fun k hk1 => hk _ (hao k hk1))
  refine lv_goto (tgt := 15) hx hb dL_worthOf_9 (by decide) ?_
  refine lv_iconst (v := 0) hx hb dL_worthOf_15 (by decide) ?_
  refine W.widen (k := 1) (n := 6) (by omega) (by omega) ?_
  exact wr_i hC hr hlocks mov_X ⟨hB, hO⟩ hS dL_worthOf_16 rfl
set_option maxHeartbeats 4000000 in
set_option maxRecDepth 100000 in
theorem h_worthOf_1 (l : Launch) {D : va_G} {cI cQ cL : ClassId} {a : Nat → Nat} {S : bS} {o : Nat} {w : Int64} {x : Int32} (hao : ∀ k : Nat, k < 14 → a k ≠ o) (hM : Th l yX0_worthOf cX0_worthOf 2 (some .int) ({ frames := 7, cells := 1, slots := 6, locals := 110 } : Room) (BW D cI cQ a S) [.ref (a 13), .int (x)] eIO) : Hp l yL_worthOf cL_worthOf 4 [(0, 9, 12, 24)] ({ frames := 8, cells := 1, slots := 6, locals := 160 } : Room) (XW D cI cQ cL a S o w) (XW D cI cQ cL a S o w) (iBO a o) [.ref (a 13), .int (x), .ref (o)] 1 := by
  refine Hp.of (by decide) (Nat.le_of_ble_eq_true rfl) ?_
  intro p e s m args below meth c ls hC hr hlocks hxt hB hX hH hS hl
  obtain ⟨hB, hO⟩ := hB
  have hx := hC.1
  have hb := hC.2.1
  have hl : lv_has ls 4 [(0, .ref (a 13)), (1, .int (x)), (2, .ref (o))] := hl
  refine lv_aload_n hx hb dL_worthOf_0 rfl (lv_at hl 2 rfl) ?_
  refine lv_iconst (v := 0) hx hb dL_worthOf_1 (by decide) ?_
  refine lv_aload_n hx hb dL_worthOf_2 rfl (lv_at hl 0 rfl) ?_
  refine lv_iload_n hx hb dL_worthOf_3 rfl (lv_at hl 1 rfl) ?_
  refine kVX hC hM mov_B hB hX hH (rec_B hB) (good_V mv_352 mv_353 mv_354 mw_2 mv_355) rfl rfl ⟨rfl, by decide +kernel, by decide +kernel, show (parseMethodDescriptor yX0_worthOf.desc).map (fun d => d.parameters.length) = some 1 by decide +kernel⟩ ⟨Nat.le_of_ble_eq_true rfl, Nat.le_of_ble_eq_true rfl⟩ ⟨Nat.le_of_ble_eq_true rfl, Nat.le_of_ble_eq_true rfl⟩ hl.1 rfl (Nat.le_of_ble_eq_true rfl) dL_worthOf_4 (fun ce q9 H hz hk hce hcv hcl => ?_)
  have hO := hO.kept (hk o hO.lt)
  have hB := hB.kept (fun k hk1 => hk _ (hB.lt k hk1))
  have hS : va_S (iBO a o) s.heap H [] := ⟨hz, fun q h1 _ => hk q h1, fun q hq => nomatch hq⟩
  refine vx_catch (E := eIO) (name := eIO) hC.2.2.2.1 [] (⟨0, 9, 12, 24⟩ : ExceptionTableEntry) [] hxt (fun z hz => nomatch hz) (by decide) (by decide) (hC.2.2.2.2 _ mv_84) (va_Nw.use rfl (hX.2.1 eIO (by decide))) hce hcv hcl ?_
  refine lv_astore_n (lv' := [(3, .ref (q9)), (0, .ref (a 13)), (1, .int (x)), (2, .ref (o))]) hx hb dL_worthOf_12 rfl hl (by decide) rfl (fun ls hl => ?_)
  refine lv_iconst (v := 1) hx hb dL_worthOf_13 (by decide) ?_
  exact wr_i hC hr hlocks mov_X ⟨hB, hO⟩ hS dL_worthOf_14 rfl
set_option maxHeartbeats 4000000 in
set_option maxRecDepth 100000 in
theorem h_shortsOf_ok (l : Launch) {D : va_G} {cI cQ cL : ClassId} {a : Nat → Nat} {S : bS} {o : Nat} {w : Int64} {x : Int32} {v : Int32} (hao : ∀ k : Nat, k < 14 → a k ≠ o) (hM : Rd l yX0_shortsOf cX0_shortsOf 2 (some .int) ({ frames := 1, cells := 0, slots := 0, locals := 23 } : Room) (BW D cI cQ a S) [.ref (a 13), .int (x)] (.int v)) : Hp l yL_shortsOf cL_shortsOf 4 [(0, 9, 12, 24)] ({ frames := 8, cells := 1, slots := 6, locals := 160 } : Room) (XW D cI cQ cL a S o w) (XW D cI cQ cL a S o v.toInt64) (iBO a o) [.ref (a 13), .int (x), .ref (o)] 0 := by
  refine Hp.of (by decide) (Nat.le_of_ble_eq_true rfl) ?_
  intro p e s m args below meth c ls hC hr hlocks hxt hB hX hH hS hl
  obtain ⟨hB, hO⟩ := hB
  have hx := hC.1
  have hb := hC.2.1
  have hl : lv_has ls 4 [(0, .ref (a 13)), (1, .int (x)), (2, .ref (o))] := hl
  refine lv_aload_n hx hb dL_shortsOf_0 rfl (lv_at hl 2 rfl) ?_
  refine lv_iconst (v := 0) hx hb dL_shortsOf_1 (by decide) ?_
  refine lv_aload_n hx hb dL_shortsOf_2 rfl (lv_at hl 0 rfl) ?_
  refine lv_iload_n hx hb dL_shortsOf_3 rfl (lv_at hl 1 rfl) ?_
  refine kV hC hM mov_B hB (rec_B hB) (good_V mv_395 mv_396 mv_397 mw_2 mv_398) rfl rfl ⟨rfl, by decide +kernel, by decide +kernel, show (parseMethodDescriptor yX0_shortsOf.desc).map (fun d => d.parameters.length) = some 1 by decide +kernel⟩ ⟨Nat.le_of_ble_eq_true rfl, Nat.le_of_ble_eq_true rfl⟩ ⟨Nat.zero_le _, Nat.zero_le _⟩ hl.1 rfl (Nat.le_of_ble_eq_true rfl) dL_shortsOf_4 ?_
  refine lv_i2l (v := v.toInt64) hx hb dL_shortsOf_7 rfl ?_
  refine stO (x := v.toInt64) hC hO hS (Or.inr rfl) dL_shortsOf_8 (fun H locs hO hS hk => ?_)
  have hB := hB.kept (fun k hk1 => hk _ (hao k hk1))
  refine lv_goto (tgt := 15) hx hb dL_shortsOf_9 (by decide) ?_
  refine lv_iconst (v := 0) hx hb dL_shortsOf_15 (by decide) ?_
  refine W.widen (k := 1) (n := 6) (by omega) (by omega) ?_
  exact wr_i hC hr hlocks mov_X ⟨hB, hO⟩ hS dL_shortsOf_16 rfl
set_option maxHeartbeats 4000000 in
set_option maxRecDepth 100000 in
theorem h_shortsOf_1 (l : Launch) {D : va_G} {cI cQ cL : ClassId} {a : Nat → Nat} {S : bS} {o : Nat} {w : Int64} {x : Int32} (hao : ∀ k : Nat, k < 14 → a k ≠ o) (hM : Th l yX0_shortsOf cX0_shortsOf 2 (some .int) ({ frames := 7, cells := 1, slots := 6, locals := 110 } : Room) (BW D cI cQ a S) [.ref (a 13), .int (x)] eIO) : Hp l yL_shortsOf cL_shortsOf 4 [(0, 9, 12, 24)] ({ frames := 8, cells := 1, slots := 6, locals := 160 } : Room) (XW D cI cQ cL a S o w) (XW D cI cQ cL a S o w) (iBO a o) [.ref (a 13), .int (x), .ref (o)] 1 := by
  refine Hp.of (by decide) (Nat.le_of_ble_eq_true rfl) ?_
  intro p e s m args below meth c ls hC hr hlocks hxt hB hX hH hS hl
  obtain ⟨hB, hO⟩ := hB
  have hx := hC.1
  have hb := hC.2.1
  have hl : lv_has ls 4 [(0, .ref (a 13)), (1, .int (x)), (2, .ref (o))] := hl
  refine lv_aload_n hx hb dL_shortsOf_0 rfl (lv_at hl 2 rfl) ?_
  refine lv_iconst (v := 0) hx hb dL_shortsOf_1 (by decide) ?_
  refine lv_aload_n hx hb dL_shortsOf_2 rfl (lv_at hl 0 rfl) ?_
  refine lv_iload_n hx hb dL_shortsOf_3 rfl (lv_at hl 1 rfl) ?_
  refine kVX hC hM mov_B hB hX hH (rec_B hB) (good_V mv_395 mv_396 mv_397 mw_2 mv_398) rfl rfl ⟨rfl, by decide +kernel, by decide +kernel, show (parseMethodDescriptor yX0_shortsOf.desc).map (fun d => d.parameters.length) = some 1 by decide +kernel⟩ ⟨Nat.le_of_ble_eq_true rfl, Nat.le_of_ble_eq_true rfl⟩ ⟨Nat.le_of_ble_eq_true rfl, Nat.le_of_ble_eq_true rfl⟩ hl.1 rfl (Nat.le_of_ble_eq_true rfl) dL_shortsOf_4 (fun ce q9 H hz hk hce hcv hcl => ?_)
  have hO := hO.kept (hk o hO.lt)
  have hB := hB.kept (fun k hk1 => hk _ (hB.lt k hk1))
  have hS : va_S (iBO a o) s.heap H [] := ⟨hz, fun q h1 _ => hk q h1, fun q hq => nomatch hq⟩
  refine vx_catch (E := eIO) (name := eIO) hC.2.2.2.1 [] (⟨0, 9, 12, 24⟩ : ExceptionTableEntry) [] hxt (fun z hz => nomatch hz) (by decide) (by decide) (hC.2.2.2.2 _ mv_84) (va_Nw.use rfl (hX.2.1 eIO (by decide))) hce hcv hcl ?_
  refine lv_astore_n (lv' := [(3, .ref (q9)), (0, .ref (a 13)), (1, .int (x)), (2, .ref (o))]) hx hb dL_shortsOf_12 rfl hl (by decide) rfl (fun ls hl => ?_)
  refine lv_iconst (v := 1) hx hb dL_shortsOf_13 (by decide) ?_
  exact wr_i hC hr hlocks mov_X ⟨hB, hO⟩ hS dL_shortsOf_14 rfl
set_option maxHeartbeats 4000000 in
set_option maxRecDepth 100000 in
theorem h_closingPrice_ok (l : Launch) {D : va_G} {cI cQ cL : ClassId} {a : Nat → Nat} {S : bS} {o : Nat} {w : Int64} {x : Int32} {v : Int32} (hao : ∀ k : Nat, k < 14 → a k ≠ o) (hM : Rd l yX0_closingPrice cX0_closingPrice 2 (some .int) ({ frames := 4, cells := 0, slots := 0, locals := 89 } : Room) (BW D cI cQ a S) [.ref (a 13), .int (x)] (.int v)) : Hp l yL_closingPrice cL_closingPrice 4 [(0, 9, 12, 24)] ({ frames := 8, cells := 1, slots := 6, locals := 160 } : Room) (XW D cI cQ cL a S o w) (XW D cI cQ cL a S o v.toInt64) (iBO a o) [.ref (a 13), .int (x), .ref (o)] 0 := by
  refine Hp.of (by decide) (Nat.le_of_ble_eq_true rfl) ?_
  intro p e s m args below meth c ls hC hr hlocks hxt hB hX hH hS hl
  obtain ⟨hB, hO⟩ := hB
  have hx := hC.1
  have hb := hC.2.1
  have hl : lv_has ls 4 [(0, .ref (a 13)), (1, .int (x)), (2, .ref (o))] := hl
  refine lv_aload_n hx hb dL_closingPrice_0 rfl (lv_at hl 2 rfl) ?_
  refine lv_iconst (v := 0) hx hb dL_closingPrice_1 (by decide) ?_
  refine lv_aload_n hx hb dL_closingPrice_2 rfl (lv_at hl 0 rfl) ?_
  refine lv_iload_n hx hb dL_closingPrice_3 rfl (lv_at hl 1 rfl) ?_
  refine kV hC hM mov_B hB (rec_B hB) (good_V mv_426 mv_427 mv_428 mw_2 mv_429) rfl rfl ⟨rfl, by decide +kernel, by decide +kernel, show (parseMethodDescriptor yX0_closingPrice.desc).map (fun d => d.parameters.length) = some 1 by decide +kernel⟩ ⟨Nat.le_of_ble_eq_true rfl, Nat.le_of_ble_eq_true rfl⟩ ⟨Nat.zero_le _, Nat.zero_le _⟩ hl.1 rfl (Nat.le_of_ble_eq_true rfl) dL_closingPrice_4 ?_
  refine lv_i2l (v := v.toInt64) hx hb dL_closingPrice_7 rfl ?_
  refine stO (x := v.toInt64) hC hO hS (Or.inr rfl) dL_closingPrice_8 (fun H locs hO hS hk => ?_)
  have hB := hB.kept (fun k hk1 => hk _ (hao k hk1))
  refine lv_goto (tgt := 15) hx hb dL_closingPrice_9 (by decide) ?_
  refine lv_iconst (v := 0) hx hb dL_closingPrice_15 (by decide) ?_
  refine W.widen (k := 1) (n := 6) (by omega) (by omega) ?_
  exact wr_i hC hr hlocks mov_X ⟨hB, hO⟩ hS dL_closingPrice_16 rfl
set_option maxHeartbeats 4000000 in
set_option maxRecDepth 100000 in
theorem h_closingPrice_1 (l : Launch) {D : va_G} {cI cQ cL : ClassId} {a : Nat → Nat} {S : bS} {o : Nat} {w : Int64} {x : Int32} (hao : ∀ k : Nat, k < 14 → a k ≠ o) (hM : Th l yX0_closingPrice cX0_closingPrice 2 (some .int) ({ frames := 7, cells := 1, slots := 6, locals := 110 } : Room) (BW D cI cQ a S) [.ref (a 13), .int (x)] eIO) : Hp l yL_closingPrice cL_closingPrice 4 [(0, 9, 12, 24)] ({ frames := 8, cells := 1, slots := 6, locals := 160 } : Room) (XW D cI cQ cL a S o w) (XW D cI cQ cL a S o w) (iBO a o) [.ref (a 13), .int (x), .ref (o)] 1 := by
  refine Hp.of (by decide) (Nat.le_of_ble_eq_true rfl) ?_
  intro p e s m args below meth c ls hC hr hlocks hxt hB hX hH hS hl
  obtain ⟨hB, hO⟩ := hB
  have hx := hC.1
  have hb := hC.2.1
  have hl : lv_has ls 4 [(0, .ref (a 13)), (1, .int (x)), (2, .ref (o))] := hl
  refine lv_aload_n hx hb dL_closingPrice_0 rfl (lv_at hl 2 rfl) ?_
  refine lv_iconst (v := 0) hx hb dL_closingPrice_1 (by decide) ?_
  refine lv_aload_n hx hb dL_closingPrice_2 rfl (lv_at hl 0 rfl) ?_
  refine lv_iload_n hx hb dL_closingPrice_3 rfl (lv_at hl 1 rfl) ?_
  refine kVX hC hM mov_B hB hX hH (rec_B hB) (good_V mv_426 mv_427 mv_428 mw_2 mv_429) rfl rfl ⟨rfl, by decide +kernel, by decide +kernel, show (parseMethodDescriptor yX0_closingPrice.desc).map (fun d => d.parameters.length) = some 1 by decide +kernel⟩ ⟨Nat.le_of_ble_eq_true rfl, Nat.le_of_ble_eq_true rfl⟩ ⟨Nat.le_of_ble_eq_true rfl, Nat.le_of_ble_eq_true rfl⟩ hl.1 rfl (Nat.le_of_ble_eq_true rfl) dL_closingPrice_4 (fun ce q9 H hz hk hce hcv hcl => ?_)
  have hO := hO.kept (hk o hO.lt)
  have hB := hB.kept (fun k hk1 => hk _ (hB.lt k hk1))
  have hS : va_S (iBO a o) s.heap H [] := ⟨hz, fun q h1 _ => hk q h1, fun q hq => nomatch hq⟩
  refine vx_catch (E := eIO) (name := eIO) hC.2.2.2.1 [] (⟨0, 9, 12, 24⟩ : ExceptionTableEntry) [] hxt (fun z hz => nomatch hz) (by decide) (by decide) (hC.2.2.2.2 _ mv_84) (va_Nw.use rfl (hX.2.1 eIO (by decide))) hce hcv hcl ?_
  refine lv_astore_n (lv' := [(3, .ref (q9)), (0, .ref (a 13)), (1, .int (x)), (2, .ref (o))]) hx hb dL_closingPrice_12 rfl hl (by decide) rfl (fun ls hl => ?_)
  refine lv_iconst (v := 1) hx hb dL_closingPrice_13 (by decide) ?_
  exact wr_i hC hr hlocks mov_X ⟨hB, hO⟩ hS dL_closingPrice_14 rfl
set_option maxHeartbeats 4000000 in
set_option maxRecDepth 100000 in
theorem h_priceIn_ok (l : Launch) {D : va_G} {cI cQ cL : ClassId} {a : Nat → Nat} {S : bS} {o : Nat} {w : Int64} {x y : Int32} {v : Int32} (hao : ∀ k : Nat, k < 14 → a k ≠ o) (hM : Rd l yX0_priceIn cX0_priceIn 3 (some .int) ({ frames := 4, cells := 0, slots := 0, locals := 92 } : Room) (BW D cI cQ a S) [.ref (a 13), .int (x), .int (y)] (.int v)) : Hp l yL_priceIn cL_priceIn 5 [(0, 10, 13, 24), (0, 10, 17, 13)] ({ frames := 8, cells := 1, slots := 6, locals := 160 } : Room) (XW D cI cQ cL a S o w) (XW D cI cQ cL a S o v.toInt64) (iBO a o) [.ref (a 13), .int (x), .int (y), .ref (o)] 0 := by
  refine Hp.of (by decide) (Nat.le_of_ble_eq_true rfl) ?_
  intro p e s m args below meth c ls hC hr hlocks hxt hB hX hH hS hl
  obtain ⟨hB, hO⟩ := hB
  have hx := hC.1
  have hb := hC.2.1
  have hl : lv_has ls 5 [(0, .ref (a 13)), (1, .int (x)), (2, .int (y)), (3, .ref (o))] := hl
  refine lv_aload_n hx hb dL_priceIn_0 rfl (lv_at hl 3 rfl) ?_
  refine lv_iconst (v := 0) hx hb dL_priceIn_1 (by decide) ?_
  refine lv_aload_n hx hb dL_priceIn_2 rfl (lv_at hl 0 rfl) ?_
  refine lv_iload_n hx hb dL_priceIn_3 rfl (lv_at hl 1 rfl) ?_
  refine lv_iload_n hx hb dL_priceIn_4 rfl (lv_at hl 2 rfl) ?_
  refine kV hC hM mov_B hB (rec_B hB) (good_V mv_441 mv_442 mv_443 mw_2 mv_444) rfl rfl ⟨rfl, by decide +kernel, by decide +kernel, show (parseMethodDescriptor yX0_priceIn.desc).map (fun d => d.parameters.length) = some 2 by decide +kernel⟩ ⟨Nat.le_of_ble_eq_true rfl, Nat.le_of_ble_eq_true rfl⟩ ⟨Nat.zero_le _, Nat.zero_le _⟩ hl.1 rfl (Nat.le_of_ble_eq_true rfl) dL_priceIn_5 ?_
  refine lv_i2l (v := v.toInt64) hx hb dL_priceIn_8 rfl ?_
  refine stO (x := v.toInt64) hC hO hS (Or.inr rfl) dL_priceIn_9 (fun H locs hO hS hk => ?_)
  have hB := hB.kept (fun k hk1 => hk _ (hao k hk1))
  refine lv_goto (tgt := 21) hx hb dL_priceIn_10 (by decide) ?_
  refine lv_iconst (v := 0) hx hb dL_priceIn_21 (by decide) ?_
  refine W.widen (k := 1) (n := 6) (by omega) (by omega) ?_
  exact wr_i hC hr hlocks mov_X ⟨hB, hO⟩ hS dL_priceIn_22 rfl
set_option maxHeartbeats 4000000 in
set_option maxRecDepth 100000 in
theorem h_priceIn_1 (l : Launch) {D : va_G} {cI cQ cL : ClassId} {a : Nat → Nat} {S : bS} {o : Nat} {w : Int64} {x y : Int32} (hao : ∀ k : Nat, k < 14 → a k ≠ o) (hM : Th l yX0_priceIn cX0_priceIn 3 (some .int) ({ frames := 7, cells := 1, slots := 6, locals := 110 } : Room) (BW D cI cQ a S) [.ref (a 13), .int (x), .int (y)] eIO) : Hp l yL_priceIn cL_priceIn 5 [(0, 10, 13, 24), (0, 10, 17, 13)] ({ frames := 8, cells := 1, slots := 6, locals := 160 } : Room) (XW D cI cQ cL a S o w) (XW D cI cQ cL a S o w) (iBO a o) [.ref (a 13), .int (x), .int (y), .ref (o)] 1 := by
  refine Hp.of (by decide) (Nat.le_of_ble_eq_true rfl) ?_
  intro p e s m args below meth c ls hC hr hlocks hxt hB hX hH hS hl
  obtain ⟨hB, hO⟩ := hB
  have hx := hC.1
  have hb := hC.2.1
  have hl : lv_has ls 5 [(0, .ref (a 13)), (1, .int (x)), (2, .int (y)), (3, .ref (o))] := hl
  refine lv_aload_n hx hb dL_priceIn_0 rfl (lv_at hl 3 rfl) ?_
  refine lv_iconst (v := 0) hx hb dL_priceIn_1 (by decide) ?_
  refine lv_aload_n hx hb dL_priceIn_2 rfl (lv_at hl 0 rfl) ?_
  refine lv_iload_n hx hb dL_priceIn_3 rfl (lv_at hl 1 rfl) ?_
  refine lv_iload_n hx hb dL_priceIn_4 rfl (lv_at hl 2 rfl) ?_
  refine kVX hC hM mov_B hB hX hH (rec_B hB) (good_V mv_441 mv_442 mv_443 mw_2 mv_444) rfl rfl ⟨rfl, by decide +kernel, by decide +kernel, show (parseMethodDescriptor yX0_priceIn.desc).map (fun d => d.parameters.length) = some 2 by decide +kernel⟩ ⟨Nat.le_of_ble_eq_true rfl, Nat.le_of_ble_eq_true rfl⟩ ⟨Nat.le_of_ble_eq_true rfl, Nat.le_of_ble_eq_true rfl⟩ hl.1 rfl (Nat.le_of_ble_eq_true rfl) dL_priceIn_5 (fun ce q9 H hz hk hce hcv hcl => ?_)
  have hO := hO.kept (hk o hO.lt)
  have hB := hB.kept (fun k hk1 => hk _ (hB.lt k hk1))
  have hS : va_S (iBO a o) s.heap H [] := ⟨hz, fun q h1 _ => hk q h1, fun q hq => nomatch hq⟩
  refine vx_catch (E := eIO) (name := eIO) hC.2.2.2.1 [] (⟨0, 10, 13, 24⟩ : ExceptionTableEntry) [(⟨0, 10, 17, 13⟩ : ExceptionTableEntry)] hxt (fun z hz => nomatch hz) (by decide) (by decide) (hC.2.2.2.2 _ mv_84) (va_Nw.use rfl (hX.2.1 eIO (by decide))) hce hcv hcl ?_
  refine lv_astore (lv' := [(4, .ref (q9)), (0, .ref (a 13)), (1, .int (x)), (2, .int (y)), (3, .ref (o))]) hx hb dL_priceIn_13 hl (by decide) rfl (fun ls hl => ?_)
  refine lv_iconst (v := 1) hx hb dL_priceIn_15 (by decide) ?_
  exact wr_i hC hr hlocks mov_X ⟨hB, hO⟩ hS dL_priceIn_16 rfl
set_option maxHeartbeats 4000000 in
set_option maxRecDepth 100000 in
theorem h_priceIn_2 (l : Launch) {D : va_G} {cI cQ cL : ClassId} {a : Nat → Nat} {S : bS} {o : Nat} {w : Int64} {x y : Int32} (hao : ∀ k : Nat, k < 14 → a k ≠ o) (hM : Th l yX0_priceIn cX0_priceIn 3 (some .int) ({ frames := 7, cells := 1, slots := 6, locals := 110 } : Room) (BW D cI cQ a S) [.ref (a 13), .int (x), .int (y)] eIA) : Hp l yL_priceIn cL_priceIn 5 [(0, 10, 13, 24), (0, 10, 17, 13)] ({ frames := 8, cells := 1, slots := 6, locals := 160 } : Room) (XW D cI cQ cL a S o w) (XW D cI cQ cL a S o w) (iBO a o) [.ref (a 13), .int (x), .int (y), .ref (o)] 2 := by
  refine Hp.of (by decide) (Nat.le_of_ble_eq_true rfl) ?_
  intro p e s m args below meth c ls hC hr hlocks hxt hB hX hH hS hl
  obtain ⟨hB, hO⟩ := hB
  have hx := hC.1
  have hb := hC.2.1
  have hl : lv_has ls 5 [(0, .ref (a 13)), (1, .int (x)), (2, .int (y)), (3, .ref (o))] := hl
  refine lv_aload_n hx hb dL_priceIn_0 rfl (lv_at hl 3 rfl) ?_
  refine lv_iconst (v := 0) hx hb dL_priceIn_1 (by decide) ?_
  refine lv_aload_n hx hb dL_priceIn_2 rfl (lv_at hl 0 rfl) ?_
  refine lv_iload_n hx hb dL_priceIn_3 rfl (lv_at hl 1 rfl) ?_
  refine lv_iload_n hx hb dL_priceIn_4 rfl (lv_at hl 2 rfl) ?_
  refine kVX hC hM mov_B hB hX hH (rec_B hB) (good_V mv_441 mv_442 mv_443 mw_2 mv_444) rfl rfl ⟨rfl, by decide +kernel, by decide +kernel, show (parseMethodDescriptor yX0_priceIn.desc).map (fun d => d.parameters.length) = some 2 by decide +kernel⟩ ⟨Nat.le_of_ble_eq_true rfl, Nat.le_of_ble_eq_true rfl⟩ ⟨Nat.le_of_ble_eq_true rfl, Nat.le_of_ble_eq_true rfl⟩ hl.1 rfl (Nat.le_of_ble_eq_true rfl) dL_priceIn_5 (fun ce q9 H hz hk hce hcv hcl => ?_)
  have hO := hO.kept (hk o hO.lt)
  have hB := hB.kept (fun k hk1 => hk _ (hB.lt k hk1))
  have hS : va_S (iBO a o) s.heap H [] := ⟨hz, fun q h1 _ => hk q h1, fun q hq => nomatch hq⟩
  refine vx_catch (E := eIA) (name := eIA) hC.2.2.2.1 [(⟨0, 10, 13, 24⟩ : ExceptionTableEntry)] (⟨0, 10, 17, 13⟩ : ExceptionTableEntry) [] hxt (fun z hz => by rw [List.mem_singleton.mp hz]; exact Or.inr ⟨by decide, _, hC.2.2.2.2 _ mv_84, hX.2.2.1 eIA (by decide) eIO (by decide) (by decide)⟩) (by decide) (by decide) (hC.2.2.2.2 _ mv_35) (va_Nw.use rfl (hX.2.1 eIA (by decide))) hce hcv hcl ?_
  refine lv_astore (lv' := [(4, .ref (q9)), (0, .ref (a 13)), (1, .int (x)), (2, .int (y)), (3, .ref (o))]) hx hb dL_priceIn_17 hl (by decide) rfl (fun ls hl => ?_)
  refine lv_iconst (v := 2) hx hb dL_priceIn_19 (by decide) ?_
  exact wr_i hC hr hlocks mov_X ⟨hB, hO⟩ hS dL_priceIn_20 rfl
set_option maxHeartbeats 4000000 in
set_option maxRecDepth 100000 in
theorem h_worthIn_ok (l : Launch) {D : va_G} {cI cQ cL : ClassId} {a : Nat → Nat} {S : bS} {o : Nat} {w : Int64} {x y : Int32} {v : Int32} (hao : ∀ k : Nat, k < 14 → a k ≠ o) (hM : Rd l yX0_worthIn cX0_worthIn 3 (some .int) ({ frames := 5, cells := 0, slots := 0, locals := 118 } : Room) (BW D cI cQ a S) [.ref (a 13), .int (x), .int (y)] (.int v)) : Hp l yL_worthIn cL_worthIn 5 [(0, 10, 13, 24), (0, 10, 17, 13)] ({ frames := 8, cells := 1, slots := 6, locals := 160 } : Room) (XW D cI cQ cL a S o w) (XW D cI cQ cL a S o v.toInt64) (iBO a o) [.ref (a 13), .int (x), .int (y), .ref (o)] 0 := by
  refine Hp.of (by decide) (Nat.le_of_ble_eq_true rfl) ?_
  intro p e s m args below meth c ls hC hr hlocks hxt hB hX hH hS hl
  obtain ⟨hB, hO⟩ := hB
  have hx := hC.1
  have hb := hC.2.1
  have hl : lv_has ls 5 [(0, .ref (a 13)), (1, .int (x)), (2, .int (y)), (3, .ref (o))] := hl
  refine lv_aload_n hx hb dL_worthIn_0 rfl (lv_at hl 3 rfl) ?_
  refine lv_iconst (v := 0) hx hb dL_worthIn_1 (by decide) ?_
  refine lv_aload_n hx hb dL_worthIn_2 rfl (lv_at hl 0 rfl) ?_
  refine lv_iload_n hx hb dL_worthIn_3 rfl (lv_at hl 1 rfl) ?_
  refine lv_iload_n hx hb dL_worthIn_4 rfl (lv_at hl 2 rfl) ?_
  refine kV hC hM mov_B hB (rec_B hB) (good_V mv_464 mv_465 mv_466 mw_2 mv_467) rfl rfl ⟨rfl, by decide +kernel, by decide +kernel, show (parseMethodDescriptor yX0_worthIn.desc).map (fun d => d.parameters.length) = some 2 by decide +kernel⟩ ⟨Nat.le_of_ble_eq_true rfl, Nat.le_of_ble_eq_true rfl⟩ ⟨Nat.zero_le _, Nat.zero_le _⟩ hl.1 rfl (Nat.le_of_ble_eq_true rfl) dL_worthIn_5 ?_
  refine lv_i2l (v := v.toInt64) hx hb dL_worthIn_8 rfl ?_
  refine stO (x := v.toInt64) hC hO hS (Or.inr rfl) dL_worthIn_9 (fun H locs hO hS hk => ?_)
  have hB := hB.kept (fun k hk1 => hk _ (hao k hk1))
  refine lv_goto (tgt := 21) hx hb dL_worthIn_10 (by decide) ?_
  refine lv_iconst (v := 0) hx hb dL_worthIn_21 (by decide) ?_
  refine W.widen (k := 1) (n := 6) (by omega) (by omega) ?_
  exact wr_i hC hr hlocks mov_X ⟨hB, hO⟩ hS dL_worthIn_22 rfl
set_option maxHeartbeats 4000000 in
set_option maxRecDepth 100000 in
theorem h_worthIn_1 (l : Launch) {D : va_G} {cI cQ cL : ClassId} {a : Nat → Nat} {S : bS} {o : Nat} {w : Int64} {x y : Int32} (hao : ∀ k : Nat, k < 14 → a k ≠ o) (hM : Th l yX0_worthIn cX0_worthIn 3 (some .int) ({ frames := 7, cells := 1, slots := 6, locals := 110 } : Room) (BW D cI cQ a S) [.ref (a 13), .int (x), .int (y)] eIO) : Hp l yL_worthIn cL_worthIn 5 [(0, 10, 13, 24), (0, 10, 17, 13)] ({ frames := 8, cells := 1, slots := 6, locals := 160 } : Room) (XW D cI cQ cL a S o w) (XW D cI cQ cL a S o w) (iBO a o) [.ref (a 13), .int (x), .int (y), .ref (o)] 1 := by
  refine Hp.of (by decide) (Nat.le_of_ble_eq_true rfl) ?_
  intro p e s m args below meth c ls hC hr hlocks hxt hB hX hH hS hl
  obtain ⟨hB, hO⟩ := hB
  have hx := hC.1
  have hb := hC.2.1
  have hl : lv_has ls 5 [(0, .ref (a 13)), (1, .int (x)), (2, .int (y)), (3, .ref (o))] := hl
  refine lv_aload_n hx hb dL_worthIn_0 rfl (lv_at hl 3 rfl) ?_
  refine lv_iconst (v := 0) hx hb dL_worthIn_1 (by decide) ?_
  refine lv_aload_n hx hb dL_worthIn_2 rfl (lv_at hl 0 rfl) ?_
  refine lv_iload_n hx hb dL_worthIn_3 rfl (lv_at hl 1 rfl) ?_
  refine lv_iload_n hx hb dL_worthIn_4 rfl (lv_at hl 2 rfl) ?_
  refine kVX hC hM mov_B hB hX hH (rec_B hB) (good_V mv_464 mv_465 mv_466 mw_2 mv_467) rfl rfl ⟨rfl, by decide +kernel, by decide +kernel, show (parseMethodDescriptor yX0_worthIn.desc).map (fun d => d.parameters.length) = some 2 by decide +kernel⟩ ⟨Nat.le_of_ble_eq_true rfl, Nat.le_of_ble_eq_true rfl⟩ ⟨Nat.le_of_ble_eq_true rfl, Nat.le_of_ble_eq_true rfl⟩ hl.1 rfl (Nat.le_of_ble_eq_true rfl) dL_worthIn_5 (fun ce q9 H hz hk hce hcv hcl => ?_)
  have hO := hO.kept (hk o hO.lt)
  have hB := hB.kept (fun k hk1 => hk _ (hB.lt k hk1))
  have hS : va_S (iBO a o) s.heap H [] := ⟨hz, fun q h1 _ => hk q h1, fun q hq => nomatch hq⟩
  refine vx_catch (E := eIO) (name := eIO) hC.2.2.2.1 [] (⟨0, 10, 13, 24⟩ : ExceptionTableEntry) [(⟨0, 10, 17, 13⟩ : ExceptionTableEntry)] hxt (fun z hz => nomatch hz) (by decide) (by decide) (hC.2.2.2.2 _ mv_84) (va_Nw.use rfl (hX.2.1 eIO (by decide))) hce hcv hcl ?_
  refine lv_astore (lv' := [(4, .ref (q9)), (0, .ref (a 13)), (1, .int (x)), (2, .int (y)), (3, .ref (o))]) hx hb dL_worthIn_13 hl (by decide) rfl (fun ls hl => ?_)
  refine lv_iconst (v := 1) hx hb dL_worthIn_15 (by decide) ?_
  exact wr_i hC hr hlocks mov_X ⟨hB, hO⟩ hS dL_worthIn_16 rfl
set_option maxHeartbeats 4000000 in
set_option maxRecDepth 100000 in
theorem h_worthIn_2 (l : Launch) {D : va_G} {cI cQ cL : ClassId} {a : Nat → Nat} {S : bS} {o : Nat} {w : Int64} {x y : Int32} (hao : ∀ k : Nat, k < 14 → a k ≠ o) (hM : Th l yX0_worthIn cX0_worthIn 3 (some .int) ({ frames := 7, cells := 1, slots := 6, locals := 110 } : Room) (BW D cI cQ a S) [.ref (a 13), .int (x), .int (y)] eIA) : Hp l yL_worthIn cL_worthIn 5 [(0, 10, 13, 24), (0, 10, 17, 13)] ({ frames := 8, cells := 1, slots := 6, locals := 160 } : Room) (XW D cI cQ cL a S o w) (XW D cI cQ cL a S o w) (iBO a o) [.ref (a 13), .int (x), .int (y), .ref (o)] 2 := by
  refine Hp.of (by decide) (Nat.le_of_ble_eq_true rfl) ?_
  intro p e s m args below meth c ls hC hr hlocks hxt hB hX hH hS hl
  obtain ⟨hB, hO⟩ := hB
  have hx := hC.1
  have hb := hC.2.1
  have hl : lv_has ls 5 [(0, .ref (a 13)), (1, .int (x)), (2, .int (y)), (3, .ref (o))] := hl
  refine lv_aload_n hx hb dL_worthIn_0 rfl (lv_at hl 3 rfl) ?_
  refine lv_iconst (v := 0) hx hb dL_worthIn_1 (by decide) ?_
  refine lv_aload_n hx hb dL_worthIn_2 rfl (lv_at hl 0 rfl) ?_
  refine lv_iload_n hx hb dL_worthIn_3 rfl (lv_at hl 1 rfl) ?_
  refine lv_iload_n hx hb dL_worthIn_4 rfl (lv_at hl 2 rfl) ?_
  refine kVX hC hM mov_B hB hX hH (rec_B hB) (good_V mv_464 mv_465 mv_466 mw_2 mv_467) rfl rfl ⟨rfl, by decide +kernel, by decide +kernel, show (parseMethodDescriptor yX0_worthIn.desc).map (fun d => d.parameters.length) = some 2 by decide +kernel⟩ ⟨Nat.le_of_ble_eq_true rfl, Nat.le_of_ble_eq_true rfl⟩ ⟨Nat.le_of_ble_eq_true rfl, Nat.le_of_ble_eq_true rfl⟩ hl.1 rfl (Nat.le_of_ble_eq_true rfl) dL_worthIn_5 (fun ce q9 H hz hk hce hcv hcl => ?_)
  have hO := hO.kept (hk o hO.lt)
  have hB := hB.kept (fun k hk1 => hk _ (hB.lt k hk1))
  have hS : va_S (iBO a o) s.heap H [] := ⟨hz, fun q h1 _ => hk q h1, fun q hq => nomatch hq⟩
  refine vx_catch (E := eIA) (name := eIA) hC.2.2.2.1 [(⟨0, 10, 13, 24⟩ : ExceptionTableEntry)] (⟨0, 10, 17, 13⟩ : ExceptionTableEntry) [] hxt (fun z hz => by rw [List.mem_singleton.mp hz]; exact Or.inr ⟨by decide, _, hC.2.2.2.2 _ mv_84, hX.2.2.1 eIA (by decide) eIO (by decide) (by decide)⟩) (by decide) (by decide) (hC.2.2.2.2 _ mv_35) (va_Nw.use rfl (hX.2.1 eIA (by decide))) hce hcv hcl ?_
  refine lv_astore (lv' := [(4, .ref (q9)), (0, .ref (a 13)), (1, .int (x)), (2, .int (y)), (3, .ref (o))]) hx hb dL_worthIn_17 hl (by decide) rfl (fun ls hl => ?_)
  refine lv_iconst (v := 2) hx hb dL_worthIn_19 (by decide) ?_
  exact wr_i hC hr hlocks mov_X ⟨hB, hO⟩ hS dL_worthIn_20 rfl
set_option maxHeartbeats 4000000 in
set_option maxRecDepth 100000 in
theorem h_bestToSell_ok (l : Launch) {D : va_G} {cI cQ cL : ClassId} {a : Nat → Nat} {S : bS} {o : Nat} {w : Int64} {x y : Int32} {v : Int32} (hao : ∀ k : Nat, k < 14 → a k ≠ o) (hM : Rd l yX0_bestToSell cX0_bestToSell 6 (some .int) ({ frames := 5, cells := 0, slots := 0, locals := 114 } : Room) (BW D cI cQ a S) [.ref (a 13), .int (x), .int (y)] (.int v)) : Hp l yL_bestToSell cL_bestToSell 5 [(0, 10, 13, 24)] ({ frames := 8, cells := 1, slots := 6, locals := 160 } : Room) (XW D cI cQ cL a S o w) (XW D cI cQ cL a S o v.toInt64) (iBO a o) [.ref (a 13), .int (x), .int (y), .ref (o)] 0 := by
  refine Hp.of (by decide) (Nat.le_of_ble_eq_true rfl) ?_
  intro p e s m args below meth c ls hC hr hlocks hxt hB hX hH hS hl
  obtain ⟨hB, hO⟩ := hB
  have hx := hC.1
  have hb := hC.2.1
  have hl : lv_has ls 5 [(0, .ref (a 13)), (1, .int (x)), (2, .int (y)), (3, .ref (o))] := hl
  refine lv_aload_n hx hb dL_bestToSell_0 rfl (lv_at hl 3 rfl) ?_
  refine lv_iconst (v := 0) hx hb dL_bestToSell_1 (by decide) ?_
  refine lv_aload_n hx hb dL_bestToSell_2 rfl (lv_at hl 0 rfl) ?_
  refine lv_iload_n hx hb dL_bestToSell_3 rfl (lv_at hl 1 rfl) ?_
  refine lv_iload_n hx hb dL_bestToSell_4 rfl (lv_at hl 2 rfl) ?_
  refine kV hC hM mov_B hB (rec_B hB) (good_V mv_491 mv_492 mv_493 mw_2 mv_494) rfl rfl ⟨rfl, by decide +kernel, by decide +kernel, show (parseMethodDescriptor yX0_bestToSell.desc).map (fun d => d.parameters.length) = some 2 by decide +kernel⟩ ⟨Nat.le_of_ble_eq_true rfl, Nat.le_of_ble_eq_true rfl⟩ ⟨Nat.zero_le _, Nat.zero_le _⟩ hl.1 rfl (Nat.le_of_ble_eq_true rfl) dL_bestToSell_5 ?_
  refine lv_i2l (v := v.toInt64) hx hb dL_bestToSell_8 rfl ?_
  refine stO (x := v.toInt64) hC hO hS (Or.inr rfl) dL_bestToSell_9 (fun H locs hO hS hk => ?_)
  have hB := hB.kept (fun k hk1 => hk _ (hao k hk1))
  refine lv_goto (tgt := 17) hx hb dL_bestToSell_10 (by decide) ?_
  refine lv_iconst (v := 0) hx hb dL_bestToSell_17 (by decide) ?_
  refine W.widen (k := 1) (n := 6) (by omega) (by omega) ?_
  exact wr_i hC hr hlocks mov_X ⟨hB, hO⟩ hS dL_bestToSell_18 rfl
set_option maxHeartbeats 4000000 in
set_option maxRecDepth 100000 in
theorem h_bestToSell_1 (l : Launch) {D : va_G} {cI cQ cL : ClassId} {a : Nat → Nat} {S : bS} {o : Nat} {w : Int64} {x y : Int32} (hao : ∀ k : Nat, k < 14 → a k ≠ o) (hM : Th l yX0_bestToSell cX0_bestToSell 6 (some .int) ({ frames := 7, cells := 1, slots := 6, locals := 110 } : Room) (BW D cI cQ a S) [.ref (a 13), .int (x), .int (y)] eIO) : Hp l yL_bestToSell cL_bestToSell 5 [(0, 10, 13, 24)] ({ frames := 8, cells := 1, slots := 6, locals := 160 } : Room) (XW D cI cQ cL a S o w) (XW D cI cQ cL a S o w) (iBO a o) [.ref (a 13), .int (x), .int (y), .ref (o)] 1 := by
  refine Hp.of (by decide) (Nat.le_of_ble_eq_true rfl) ?_
  intro p e s m args below meth c ls hC hr hlocks hxt hB hX hH hS hl
  obtain ⟨hB, hO⟩ := hB
  have hx := hC.1
  have hb := hC.2.1
  have hl : lv_has ls 5 [(0, .ref (a 13)), (1, .int (x)), (2, .int (y)), (3, .ref (o))] := hl
  refine lv_aload_n hx hb dL_bestToSell_0 rfl (lv_at hl 3 rfl) ?_
  refine lv_iconst (v := 0) hx hb dL_bestToSell_1 (by decide) ?_
  refine lv_aload_n hx hb dL_bestToSell_2 rfl (lv_at hl 0 rfl) ?_
  refine lv_iload_n hx hb dL_bestToSell_3 rfl (lv_at hl 1 rfl) ?_
  refine lv_iload_n hx hb dL_bestToSell_4 rfl (lv_at hl 2 rfl) ?_
  refine kVX hC hM mov_B hB hX hH (rec_B hB) (good_V mv_491 mv_492 mv_493 mw_2 mv_494) rfl rfl ⟨rfl, by decide +kernel, by decide +kernel, show (parseMethodDescriptor yX0_bestToSell.desc).map (fun d => d.parameters.length) = some 2 by decide +kernel⟩ ⟨Nat.le_of_ble_eq_true rfl, Nat.le_of_ble_eq_true rfl⟩ ⟨Nat.le_of_ble_eq_true rfl, Nat.le_of_ble_eq_true rfl⟩ hl.1 rfl (Nat.le_of_ble_eq_true rfl) dL_bestToSell_5 (fun ce q9 H hz hk hce hcv hcl => ?_)
  have hO := hO.kept (hk o hO.lt)
  have hB := hB.kept (fun k hk1 => hk _ (hB.lt k hk1))
  have hS : va_S (iBO a o) s.heap H [] := ⟨hz, fun q h1 _ => hk q h1, fun q hq => nomatch hq⟩
  refine vx_catch (E := eIO) (name := eIO) hC.2.2.2.1 [] (⟨0, 10, 13, 24⟩ : ExceptionTableEntry) [] hxt (fun z hz => nomatch hz) (by decide) (by decide) (hC.2.2.2.2 _ mv_84) (va_Nw.use rfl (hX.2.1 eIO (by decide))) hce hcv hcl ?_
  refine lv_astore (lv' := [(4, .ref (q9)), (0, .ref (a 13)), (1, .int (x)), (2, .int (y)), (3, .ref (o))]) hx hb dL_bestToSell_13 hl (by decide) rfl (fun ls hl => ?_)
  refine lv_iconst (v := 1) hx hb dL_bestToSell_15 (by decide) ?_
  exact wr_i hC hr hlocks mov_X ⟨hB, hO⟩ hS dL_bestToSell_16 rfl
set_option maxHeartbeats 4000000 in
set_option maxRecDepth 100000 in
theorem h_secondsUntilDebt_ok (l : Launch) {D : va_G} {cI cQ cL : ClassId} {a : Nat → Nat} {S : bS} {o : Nat} {w : Int64} {x : Int32} {v : Int32} (hao : ∀ k : Nat, k < 14 → a k ≠ o) (hM : Rd l yX0_secondsUntilDebt cX0_secondsUntilDebt 4 (some .int) ({ frames := 5, cells := 0, slots := 0, locals := 113 } : Room) (BW D cI cQ a S) [.ref (a 13), .int (x)] (.int v)) : Hp l yL_secondsUntilDebt cL_secondsUntilDebt 4 [(0, 9, 12, 24)] ({ frames := 8, cells := 1, slots := 6, locals := 160 } : Room) (XW D cI cQ cL a S o w) (XW D cI cQ cL a S o v.toInt64) (iBO a o) [.ref (a 13), .int (x), .ref (o)] 0 := by
  refine Hp.of (by decide) (Nat.le_of_ble_eq_true rfl) ?_
  intro p e s m args below meth c ls hC hr hlocks hxt hB hX hH hS hl
  obtain ⟨hB, hO⟩ := hB
  have hx := hC.1
  have hb := hC.2.1
  have hl : lv_has ls 4 [(0, .ref (a 13)), (1, .int (x)), (2, .ref (o))] := hl
  refine lv_aload_n hx hb dL_secondsUntilDebt_0 rfl (lv_at hl 2 rfl) ?_
  refine lv_iconst (v := 0) hx hb dL_secondsUntilDebt_1 (by decide) ?_
  refine lv_aload_n hx hb dL_secondsUntilDebt_2 rfl (lv_at hl 0 rfl) ?_
  refine lv_iload_n hx hb dL_secondsUntilDebt_3 rfl (lv_at hl 1 rfl) ?_
  refine kV hC hM mov_B hB (rec_B hB) (good_V mv_510 mv_511 mv_512 mw_2 mv_513) rfl rfl ⟨rfl, by decide +kernel, by decide +kernel, show (parseMethodDescriptor yX0_secondsUntilDebt.desc).map (fun d => d.parameters.length) = some 1 by decide +kernel⟩ ⟨Nat.le_of_ble_eq_true rfl, Nat.le_of_ble_eq_true rfl⟩ ⟨Nat.zero_le _, Nat.zero_le _⟩ hl.1 rfl (Nat.le_of_ble_eq_true rfl) dL_secondsUntilDebt_4 ?_
  refine lv_i2l (v := v.toInt64) hx hb dL_secondsUntilDebt_7 rfl ?_
  refine stO (x := v.toInt64) hC hO hS (Or.inr rfl) dL_secondsUntilDebt_8 (fun H locs hO hS hk => ?_)
  have hB := hB.kept (fun k hk1 => hk _ (hao k hk1))
  refine lv_goto (tgt := 15) hx hb dL_secondsUntilDebt_9 (by decide) ?_
  refine lv_iconst (v := 0) hx hb dL_secondsUntilDebt_15 (by decide) ?_
  refine W.widen (k := 1) (n := 6) (by omega) (by omega) ?_
  exact wr_i hC hr hlocks mov_X ⟨hB, hO⟩ hS dL_secondsUntilDebt_16 rfl
set_option maxHeartbeats 4000000 in
set_option maxRecDepth 100000 in
theorem h_secondsUntilDebt_1 (l : Launch) {D : va_G} {cI cQ cL : ClassId} {a : Nat → Nat} {S : bS} {o : Nat} {w : Int64} {x : Int32} (hao : ∀ k : Nat, k < 14 → a k ≠ o) (hM : Th l yX0_secondsUntilDebt cX0_secondsUntilDebt 4 (some .int) ({ frames := 7, cells := 1, slots := 6, locals := 110 } : Room) (BW D cI cQ a S) [.ref (a 13), .int (x)] eIO) : Hp l yL_secondsUntilDebt cL_secondsUntilDebt 4 [(0, 9, 12, 24)] ({ frames := 8, cells := 1, slots := 6, locals := 160 } : Room) (XW D cI cQ cL a S o w) (XW D cI cQ cL a S o w) (iBO a o) [.ref (a 13), .int (x), .ref (o)] 1 := by
  refine Hp.of (by decide) (Nat.le_of_ble_eq_true rfl) ?_
  intro p e s m args below meth c ls hC hr hlocks hxt hB hX hH hS hl
  obtain ⟨hB, hO⟩ := hB
  have hx := hC.1
  have hb := hC.2.1
  have hl : lv_has ls 4 [(0, .ref (a 13)), (1, .int (x)), (2, .ref (o))] := hl
  refine lv_aload_n hx hb dL_secondsUntilDebt_0 rfl (lv_at hl 2 rfl) ?_
  refine lv_iconst (v := 0) hx hb dL_secondsUntilDebt_1 (by decide) ?_
  refine lv_aload_n hx hb dL_secondsUntilDebt_2 rfl (lv_at hl 0 rfl) ?_
  refine lv_iload_n hx hb dL_secondsUntilDebt_3 rfl (lv_at hl 1 rfl) ?_
  refine kVX hC hM mov_B hB hX hH (rec_B hB) (good_V mv_510 mv_511 mv_512 mw_2 mv_513) rfl rfl ⟨rfl, by decide +kernel, by decide +kernel, show (parseMethodDescriptor yX0_secondsUntilDebt.desc).map (fun d => d.parameters.length) = some 1 by decide +kernel⟩ ⟨Nat.le_of_ble_eq_true rfl, Nat.le_of_ble_eq_true rfl⟩ ⟨Nat.le_of_ble_eq_true rfl, Nat.le_of_ble_eq_true rfl⟩ hl.1 rfl (Nat.le_of_ble_eq_true rfl) dL_secondsUntilDebt_4 (fun ce q9 H hz hk hce hcv hcl => ?_)
  have hO := hO.kept (hk o hO.lt)
  have hB := hB.kept (fun k hk1 => hk _ (hB.lt k hk1))
  have hS : va_S (iBO a o) s.heap H [] := ⟨hz, fun q h1 _ => hk q h1, fun q hq => nomatch hq⟩
  refine vx_catch (E := eIO) (name := eIO) hC.2.2.2.1 [] (⟨0, 9, 12, 24⟩ : ExceptionTableEntry) [] hxt (fun z hz => nomatch hz) (by decide) (by decide) (hC.2.2.2.2 _ mv_84) (va_Nw.use rfl (hX.2.1 eIO (by decide))) hce hcv hcl ?_
  refine lv_astore_n (lv' := [(3, .ref (q9)), (0, .ref (a 13)), (1, .int (x)), (2, .ref (o))]) hx hb dL_secondsUntilDebt_12 rfl hl (by decide) rfl (fun ls hl => ?_)
  refine lv_iconst (v := 1) hx hb dL_secondsUntilDebt_13 (by decide) ?_
  exact wr_i hC hr hlocks mov_X ⟨hB, hO⟩ hS dL_secondsUntilDebt_14 rfl
