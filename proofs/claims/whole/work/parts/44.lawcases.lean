/-! ===== the law's cases ===== -/
def A0 (s : State) : Nat → Prop := fun q => s.heap.size ≤ q
def LX (l : Launch) (p : Program) (m : MethodId) (c : Code) (s : State) (args : Array Value) (bs L : Nat) (xs : Nat → Int32) (a b : Nat → Nat) (o : Nat) : Prop := CallFix p m c cL_law 9 s args wsL_law RL ∧ l.stackTraces = false ∧ va_X bs L xs s s.heap ∧ bs < s.heap.size ∧ L ≤ 2048 ∧ ZX s ∧ ZH (A0 s) s s.heap ∧ (∀ q, inB a q → A0 s q) ∧ (∀ q, inM b q → A0 s q) ∧ A0 s o ∧ (∀ i j, i < 14 → j < 6 → a i ≠ b j) ∧ (∀ i, i < 14 → a i ≠ o) ∧ (∀ j, j < 6 → b j ≠ o)
theorem ap_BO {a b : Nat → Nat} {o : Nat} (h1 : ∀ i j, i < 14 → j < 6 → a i ≠ b j) (h2 : ∀ j, j < 6 → b j ≠ o) {k : Nat} (hk : k < 6) : ¬ iBO a o (b k) := fun z => z.elim (fun ⟨i, hi, e⟩ => h1 i k hi hk e.symm) (fun e => h2 k hk e)
theorem ap_M {a b : Nat → Nat} (h1 : ∀ i j, i < 14 → j < 6 → a i ≠ b j) {k : Nat} (hk : k < 14) : ¬ inM b (a k) := fun ⟨j, hj, e⟩ => h1 k j hk hj e
theorem ap_Mo {b : Nat → Nat} {o : Nat} (h2 : ∀ j, j < 6 → b j ≠ o) : ¬ inM b o := fun ⟨j, hj, e⟩ => h2 j hj e.symm
theorem lg_self (x : Int64) : lg_cmp x x = 0 := by
  unfold lg_cmp
  rw [if_neg (Int64.lt_irrefl), if_pos rfl]
theorem good_SW {own : String} {idx n : Nat} {y : MethodName} {bytes : ByteArray} {hh : List (Nat × Nat × Nat × Nat)} (h1 : Cond.methodLink own idx y ∈ wsL_law) (h2 : Cond.static y ∈ wsL_law) (h4 : Cond.initialized y.cls ∈ wsL_law) (h5 : Cond.codeWith y bytes n (some .int) hh ∈ wsL_law) : GoodIn wsL_law (va_wsS own idx y (Cond.codeWith y bytes n (some .int) hh :: wsL_law)) := by
  refine good_in fun w hw => ?_
  simp only [va_wsS, List.cons_append, List.nil_append, List.mem_cons] at hw
  rcases hw with rfl | rfl | rfl | rfl | h
  · exact h1
  · exact h2
  · exact h4
  · exact h5
  · exact h
section BL
variable {p : Program} {l : Launch} {e : Env} {R : Room} {s : State} {m : MethodId} {args : Array Value} {below : List Frame} {meth : Method} {c : Code} {H : Heap} {locs : List Loc} {cells slots : Nat} {Q : State → Prop}
variable {cc : ByteArray} {pc nL n index bs L : Nat} {xs : Nat → Int32} {ls : Array Slot} {rest st0 : List Value} {a b : Nat → Nat} {o : Nat} {A : Nat → Prop} {B0 : Nat → Prop} {H0 : Heap} {rm : Room} {As : List Value} {own : String} {y : MethodName} {bytes : ByteArray} {hh : List (Nat × Nat × Nat × Nat)}
theorem ldS (hC : CallFix p m c cc nL s args wsL_law own) (hbx : va_X bs L xs s s.heap) (hbl : bs < s.heap.size) (hL : L ≤ 2048) (hS : va_S (A0 s) s.heap H locs) {i : Nat} {x : Int32} (hx : x = nI i) (hi : i < L) (hdg : decode cc pc = .ok (.iaload, 1)) (kk : W p l e R s m args below meth c H locs cells slots Q (F0 m (pc + 1) ls (.int (xs i) :: rest))) : W p l e R s m args below meth c H locs cells slots Q (F0 m pc ls (.int x :: .ref bs :: rest)) := by
  subst hx
  refine va_sld hC.1 hC.2.1 hbx hbl (show ¬ s.heap.size ≤ bs by omega) hS (vp_in_nI hi (by omega)) hdg ?_
  rw [nI_clamp (by omega)]
  exact kk
theorem kHp {Wd Wd' : State → Heap → Prop} {k9 : Int32} (hC : CallFix p m c cc nL s args wsL_law own) (hM : Hp l y bytes n hh rm Wd Wd' A As k9) (hm : Mov Wd) (hm' : Mov Wd') (hW : Wd s H) (hX : ZX s) (hH : ZH (fun _ => False) s H) (hG : GoodIn wsL_law (va_wsS own index y (Cond.codeWith y bytes n (some .int) hh :: wsL_law))) (hrc : rm.cells = 1) (hrs : rm.slots = 6)
    (hd : y.cls ≠ "java/lang/invoke/MethodHandle" ∧ y.cls ≠ "java/lang/invoke/VarHandle" ∧ (parseMethodDescriptor y.desc).map (fun d => d.parameters.length) = some As.length) (hR : rm.frames + 1 ≤ R.frames ∧ 8 + (n + 11) + rm.locals ≤ R.locals) (hf : cells + 1 ≤ R.cells ∧ slots + 6 ≤ R.slots) (hS : va_S B0 H0 H locs) (hA : ∀ q, A q → B0 q) (hls : ls.size = nL) (hst : st0 = As.reverse ++ rest) (hr8 : (rest.map fun v => v.category).sum ≤ 8) (hdg : decode cc pc = .ok (.invokestatic index, 3))
    (kk : ∀ (H1 : Heap) (locs1 : List Loc), Wd' s H1 → va_S B0 H0 H1 locs1 → (∀ q : Nat, q < H.size → ¬ A q → H1[q]? = H[q]?) → W p l e R s m args below meth c H1 locs1 (cells + 1) (slots + 6) Q (F0 m (pc + 3) ls (.int k9 :: rest))) : W p l e R s m args below meth c H locs cells slots Q (F0 m pc ls st0) := by
  have hr := vx_runSX (e := e) (As := As) (rest := rest) (locs := locs) (cells := cells) (slots := slots) (below := below) (meth := meth) (hh := hh) hC hM (vx_cwSW As.length hC.2.2.2.2 hG rfl hrc hrs hd hR) ⟨blindZ hm, fun U hU hW1 => ⟨rfl, by show Wd U U.heap; rw [hU]; exact hm s U H hW1.alike hW, hX.warm hW1, by rw [hU]; exact hH.moved hW1.alike⟩⟩ (g := F0 m pc ls st0) rfl rfl hls hst (lv_room hr8) hdg hf
  intro T hT X
  rcases hr T hT X with ⟨v', st₀, t, T', L9, h0, X', hL, e1, e2, ⟨hv, hb, hz, hk⟩, st⟩ | ⟨q, st₀, t, T', L9, E, ce, h0, X', hL, e1, e2, hx, -⟩
  · cases hv
    rw [h0] at hz hk
    obtain ⟨t2, a1, b1⟩ := kk T'.heap (locs ++ L9) (by rw [e1]; exact hm' t s t.heap (by rw [← e2]; exact X'.warmed.alike.symm) hb)
      ⟨Nat.le_trans hS.1 (by rw [e1]; exact hz), fun q h1 h2 => by rw [e1, hk q (Nat.lt_of_lt_of_le h1 hS.1) (fun z => h2 (hA q z))]; exact hS.2.1 q h1 h2, fun q hq => by
        rcases List.mem_append.mp hq with h | h
        · exact hS.2.2 q h
        · exact hA _ (hL q h)⟩ (fun q h1 h2 => by rw [e1]; exact hk q h1 h2) T' rfl X'
    exact ⟨t2, st t2 a1, b1⟩
  · exact hx.elim
end BL
theorem mv_31 : Cond.methodLink RL 83 yL_list ∈ wsL_law := List.mem_of_getElem? (i := 31) (by decide +kernel)
theorem mv_32 : Cond.static yL_list ∈ wsL_law := List.mem_of_getElem? (i := 32) (by decide +kernel)
theorem mv_33 : Cond.initialized RL ∈ wsL_law := List.mem_of_getElem? (i := 33) (by decide +kernel)
theorem mv_34 : Cond.codeWith yL_list cL_list 6 (some .int) [(0, 12, 15, 13), (0, 12, 19, 15)] ∈ wsL_law := List.mem_of_getElem? (i := 34) (by decide +kernel)
theorem mv_51 : Cond.methodLink RL 88 yX1_list ∈ wsL_law := List.mem_of_getElem? (i := 51) (by decide +kernel)
theorem mv_52 : Cond.instanceMethod yX1_list ∈ wsL_law := List.mem_of_getElem? (i := 52) (by decide +kernel)
theorem mv_53 : Cond.selects RX1 yX1_list yX1_list ∈ wsL_law := List.mem_of_getElem? (i := 53) (by decide +kernel)
theorem mv_54 : Cond.code yX1_list cX1_list 4 (some .int) ∈ wsL_law := List.mem_of_getElem? (i := 54) (by decide +kernel)
theorem mv_64 : Cond.methodLink RL 89 yX1_thrown ∈ wsL_law := List.mem_of_getElem? (i := 64) (by decide +kernel)
theorem mv_65 : Cond.instanceMethod yX1_thrown ∈ wsL_law := List.mem_of_getElem? (i := 65) (by decide +kernel)
theorem mv_66 : Cond.selects RX1 yX1_thrown yX1_thrown ∈ wsL_law := List.mem_of_getElem? (i := 66) (by decide +kernel)
theorem mv_67 : Cond.code yX1_thrown cX1_thrown 1 (some .int) ∈ wsL_law := List.mem_of_getElem? (i := 67) (by decide +kernel)
theorem mv_68 : Cond.methodLink RL 92 yL_addTrader ∈ wsL_law := List.mem_of_getElem? (i := 68) (by decide +kernel)
theorem mv_69 : Cond.static yL_addTrader ∈ wsL_law := List.mem_of_getElem? (i := 69) (by decide +kernel)
theorem mv_70 : Cond.codeWith yL_addTrader cL_addTrader 3 (some .int) [(0, 8, 11, 15)] ∈ wsL_law := List.mem_of_getElem? (i := 70) (by decide +kernel)
theorem mv_76 : Cond.methodLink RL 95 yX1_addTrader ∈ wsL_law := List.mem_of_getElem? (i := 76) (by decide +kernel)
theorem mv_77 : Cond.instanceMethod yX1_addTrader ∈ wsL_law := List.mem_of_getElem? (i := 77) (by decide +kernel)
theorem mv_78 : Cond.selects RX1 yX1_addTrader yX1_addTrader ∈ wsL_law := List.mem_of_getElem? (i := 78) (by decide +kernel)
theorem mv_79 : Cond.code yX1_addTrader cX1_addTrader 1 (some .int) ∈ wsL_law := List.mem_of_getElem? (i := 79) (by decide +kernel)
theorem mv_81 : Cond.methodLink RL 96 yL_buy ∈ wsL_law := List.mem_of_getElem? (i := 81) (by decide +kernel)
theorem mv_82 : Cond.static yL_buy ∈ wsL_law := List.mem_of_getElem? (i := 82) (by decide +kernel)
theorem mv_83 : Cond.codeWith yL_buy cL_buy 6 (some .int) [(0, 12, 15, 24), (0, 12, 19, 13), (0, 12, 23, 15)] ∈ wsL_law := List.mem_of_getElem? (i := 83) (by decide +kernel)
theorem mv_120 : Cond.methodLink RL 98 yX1_buy ∈ wsL_law := List.mem_of_getElem? (i := 120) (by decide +kernel)
theorem mv_121 : Cond.instanceMethod yX1_buy ∈ wsL_law := List.mem_of_getElem? (i := 121) (by decide +kernel)
theorem mv_122 : Cond.selects RX1 yX1_buy yX1_buy ∈ wsL_law := List.mem_of_getElem? (i := 122) (by decide +kernel)
theorem mv_123 : Cond.code yX1_buy cX1_buy 5 (some .int) ∈ wsL_law := List.mem_of_getElem? (i := 123) (by decide +kernel)
theorem mv_152 : Cond.methodLink RL 99 yL_sell ∈ wsL_law := List.mem_of_getElem? (i := 152) (by decide +kernel)
theorem mv_153 : Cond.static yL_sell ∈ wsL_law := List.mem_of_getElem? (i := 153) (by decide +kernel)
theorem mv_154 : Cond.codeWith yL_sell cL_sell 6 (some .int) [(0, 12, 15, 24), (0, 12, 19, 13), (0, 12, 23, 15)] ∈ wsL_law := List.mem_of_getElem? (i := 154) (by decide +kernel)
theorem mv_159 : Cond.methodLink RL 101 yX1_sell ∈ wsL_law := List.mem_of_getElem? (i := 159) (by decide +kernel)
theorem mv_160 : Cond.instanceMethod yX1_sell ∈ wsL_law := List.mem_of_getElem? (i := 160) (by decide +kernel)
theorem mv_161 : Cond.selects RX1 yX1_sell yX1_sell ∈ wsL_law := List.mem_of_getElem? (i := 161) (by decide +kernel)
theorem mv_162 : Cond.code yX1_sell cX1_sell 4 (some .int) ∈ wsL_law := List.mem_of_getElem? (i := 162) (by decide +kernel)
theorem mv_167 : Cond.methodLink RL 102 yL_pass ∈ wsL_law := List.mem_of_getElem? (i := 167) (by decide +kernel)
theorem mv_168 : Cond.static yL_pass ∈ wsL_law := List.mem_of_getElem? (i := 168) (by decide +kernel)
theorem mv_169 : Cond.codeWith yL_pass cL_pass 4 (some .int) [(0, 9, 12, 13)] ∈ wsL_law := List.mem_of_getElem? (i := 169) (by decide +kernel)
theorem mv_185 : Cond.methodLink RL 105 yX1_pass ∈ wsL_law := List.mem_of_getElem? (i := 185) (by decide +kernel)
theorem mv_186 : Cond.instanceMethod yX1_pass ∈ wsL_law := List.mem_of_getElem? (i := 186) (by decide +kernel)
theorem mv_187 : Cond.selects RX1 yX1_pass yX1_pass ∈ wsL_law := List.mem_of_getElem? (i := 187) (by decide +kernel)
theorem mv_188 : Cond.code yX1_pass cX1_pass 2 (some .int) ∈ wsL_law := List.mem_of_getElem? (i := 188) (by decide +kernel)
theorem mv_197 : Cond.methodLink RL 106 yX0_second ∈ wsL_law := List.mem_of_getElem? (i := 197) (by decide +kernel)
theorem mv_198 : Cond.instanceMethod yX0_second ∈ wsL_law := List.mem_of_getElem? (i := 198) (by decide +kernel)
theorem mv_199 : Cond.selects RX0 yX0_second yX0_second ∈ wsL_law := List.mem_of_getElem? (i := 199) (by decide +kernel)
theorem mv_200 : Cond.code yX0_second cX0_second 1 (some .int) ∈ wsL_law := List.mem_of_getElem? (i := 200) (by decide +kernel)
theorem mv_201 : Cond.methodLink RL 109 yX1_second ∈ wsL_law := List.mem_of_getElem? (i := 201) (by decide +kernel)
theorem mv_202 : Cond.instanceMethod yX1_second ∈ wsL_law := List.mem_of_getElem? (i := 202) (by decide +kernel)
theorem mv_203 : Cond.selects RX1 yX1_second yX1_second ∈ wsL_law := List.mem_of_getElem? (i := 203) (by decide +kernel)
theorem mv_204 : Cond.code yX1_second cX1_second 1 (some .int) ∈ wsL_law := List.mem_of_getElem? (i := 204) (by decide +kernel)
theorem mv_209 : Cond.methodLink RL 110 yX0_towers ∈ wsL_law := List.mem_of_getElem? (i := 209) (by decide +kernel)
theorem mv_210 : Cond.instanceMethod yX0_towers ∈ wsL_law := List.mem_of_getElem? (i := 210) (by decide +kernel)
theorem mv_211 : Cond.selects RX0 yX0_towers yX0_towers ∈ wsL_law := List.mem_of_getElem? (i := 211) (by decide +kernel)
theorem mv_212 : Cond.code yX0_towers cX0_towers 1 (some .int) ∈ wsL_law := List.mem_of_getElem? (i := 212) (by decide +kernel)
theorem mv_213 : Cond.methodLink RL 113 yX1_towers ∈ wsL_law := List.mem_of_getElem? (i := 213) (by decide +kernel)
theorem mv_214 : Cond.instanceMethod yX1_towers ∈ wsL_law := List.mem_of_getElem? (i := 214) (by decide +kernel)
theorem mv_215 : Cond.selects RX1 yX1_towers yX1_towers ∈ wsL_law := List.mem_of_getElem? (i := 215) (by decide +kernel)
theorem mv_216 : Cond.code yX1_towers cX1_towers 1 (some .int) ∈ wsL_law := List.mem_of_getElem? (i := 216) (by decide +kernel)
theorem mv_217 : Cond.methodLink RL 114 yL_silenceOf ∈ wsL_law := List.mem_of_getElem? (i := 217) (by decide +kernel)
theorem mv_218 : Cond.static yL_silenceOf ∈ wsL_law := List.mem_of_getElem? (i := 218) (by decide +kernel)
theorem mv_219 : Cond.codeWith yL_silenceOf cL_silenceOf 4 (some .int) [(0, 9, 12, 24)] ∈ wsL_law := List.mem_of_getElem? (i := 219) (by decide +kernel)
theorem mv_224 : Cond.methodLink RL 116 yX1_silenceOf ∈ wsL_law := List.mem_of_getElem? (i := 224) (by decide +kernel)
theorem mv_225 : Cond.instanceMethod yX1_silenceOf ∈ wsL_law := List.mem_of_getElem? (i := 225) (by decide +kernel)
theorem mv_226 : Cond.selects RX1 yX1_silenceOf yX1_silenceOf ∈ wsL_law := List.mem_of_getElem? (i := 226) (by decide +kernel)
theorem mv_227 : Cond.code yX1_silenceOf cX1_silenceOf 2 (some .int) ∈ wsL_law := List.mem_of_getElem? (i := 227) (by decide +kernel)
theorem mv_228 : Cond.methodLink RL 117 yL_dovesOn ∈ wsL_law := List.mem_of_getElem? (i := 228) (by decide +kernel)
theorem mv_229 : Cond.static yL_dovesOn ∈ wsL_law := List.mem_of_getElem? (i := 229) (by decide +kernel)
theorem mv_230 : Cond.codeWith yL_dovesOn cL_dovesOn 4 (some .int) [(0, 9, 12, 24)] ∈ wsL_law := List.mem_of_getElem? (i := 230) (by decide +kernel)
theorem mv_235 : Cond.methodLink RL 119 yX1_dovesOn ∈ wsL_law := List.mem_of_getElem? (i := 235) (by decide +kernel)
theorem mv_236 : Cond.instanceMethod yX1_dovesOn ∈ wsL_law := List.mem_of_getElem? (i := 236) (by decide +kernel)
theorem mv_237 : Cond.selects RX1 yX1_dovesOn yX1_dovesOn ∈ wsL_law := List.mem_of_getElem? (i := 237) (by decide +kernel)
theorem mv_238 : Cond.code yX1_dovesOn cX1_dovesOn 2 (some .int) ∈ wsL_law := List.mem_of_getElem? (i := 238) (by decide +kernel)
theorem mv_239 : Cond.methodLink RL 120 yL_priceOf ∈ wsL_law := List.mem_of_getElem? (i := 239) (by decide +kernel)
theorem mv_240 : Cond.static yL_priceOf ∈ wsL_law := List.mem_of_getElem? (i := 240) (by decide +kernel)
theorem mv_241 : Cond.codeWith yL_priceOf cL_priceOf 4 (some .int) [(0, 9, 12, 24)] ∈ wsL_law := List.mem_of_getElem? (i := 241) (by decide +kernel)
theorem mv_246 : Cond.methodLink RL 122 yX1_priceOf ∈ wsL_law := List.mem_of_getElem? (i := 246) (by decide +kernel)
theorem mv_247 : Cond.instanceMethod yX1_priceOf ∈ wsL_law := List.mem_of_getElem? (i := 247) (by decide +kernel)
theorem mv_248 : Cond.selects RX1 yX1_priceOf yX1_priceOf ∈ wsL_law := List.mem_of_getElem? (i := 248) (by decide +kernel)
theorem mv_249 : Cond.code yX1_priceOf cX1_priceOf 2 (some .int) ∈ wsL_law := List.mem_of_getElem? (i := 249) (by decide +kernel)
theorem mv_250 : Cond.methodLink RL 123 yL_secondsUntilStroke ∈ wsL_law := List.mem_of_getElem? (i := 250) (by decide +kernel)
theorem mv_251 : Cond.static yL_secondsUntilStroke ∈ wsL_law := List.mem_of_getElem? (i := 251) (by decide +kernel)
theorem mv_252 : Cond.codeWith yL_secondsUntilStroke cL_secondsUntilStroke 4 (some .int) [(0, 9, 12, 24)] ∈ wsL_law := List.mem_of_getElem? (i := 252) (by decide +kernel)
theorem mv_257 : Cond.methodLink RL 125 yX1_secondsUntilStroke ∈ wsL_law := List.mem_of_getElem? (i := 257) (by decide +kernel)
theorem mv_258 : Cond.instanceMethod yX1_secondsUntilStroke ∈ wsL_law := List.mem_of_getElem? (i := 258) (by decide +kernel)
theorem mv_259 : Cond.selects RX1 yX1_secondsUntilStroke yX1_secondsUntilStroke ∈ wsL_law := List.mem_of_getElem? (i := 259) (by decide +kernel)
theorem mv_260 : Cond.code yX1_secondsUntilStroke cX1_secondsUntilStroke 2 (some .int) ∈ wsL_law := List.mem_of_getElem? (i := 260) (by decide +kernel)
theorem mv_265 : Cond.methodLink RL 126 yL_strokesOf ∈ wsL_law := List.mem_of_getElem? (i := 265) (by decide +kernel)
theorem mv_266 : Cond.static yL_strokesOf ∈ wsL_law := List.mem_of_getElem? (i := 266) (by decide +kernel)
theorem mv_267 : Cond.codeWith yL_strokesOf cL_strokesOf 4 (some .int) [(0, 9, 12, 24)] ∈ wsL_law := List.mem_of_getElem? (i := 267) (by decide +kernel)
theorem mv_272 : Cond.methodLink RL 128 yX1_strokesOf ∈ wsL_law := List.mem_of_getElem? (i := 272) (by decide +kernel)
theorem mv_273 : Cond.instanceMethod yX1_strokesOf ∈ wsL_law := List.mem_of_getElem? (i := 273) (by decide +kernel)
theorem mv_274 : Cond.selects RX1 yX1_strokesOf yX1_strokesOf ∈ wsL_law := List.mem_of_getElem? (i := 274) (by decide +kernel)
theorem mv_275 : Cond.code yX1_strokesOf cX1_strokesOf 2 (some .int) ∈ wsL_law := List.mem_of_getElem? (i := 275) (by decide +kernel)
theorem mv_276 : Cond.methodLink RL 129 yL_openSeconds ∈ wsL_law := List.mem_of_getElem? (i := 276) (by decide +kernel)
theorem mv_277 : Cond.static yL_openSeconds ∈ wsL_law := List.mem_of_getElem? (i := 277) (by decide +kernel)
theorem mv_278 : Cond.codeWith yL_openSeconds cL_openSeconds 4 (some .int) [(0, 9, 12, 24)] ∈ wsL_law := List.mem_of_getElem? (i := 278) (by decide +kernel)
theorem mv_287 : Cond.methodLink RL 131 yX1_openSeconds ∈ wsL_law := List.mem_of_getElem? (i := 287) (by decide +kernel)
theorem mv_288 : Cond.instanceMethod yX1_openSeconds ∈ wsL_law := List.mem_of_getElem? (i := 288) (by decide +kernel)
theorem mv_289 : Cond.selects RX1 yX1_openSeconds yX1_openSeconds ∈ wsL_law := List.mem_of_getElem? (i := 289) (by decide +kernel)
theorem mv_290 : Cond.code yX1_openSeconds cX1_openSeconds 2 (some .int) ∈ wsL_law := List.mem_of_getElem? (i := 290) (by decide +kernel)
theorem mv_295 : Cond.methodLink RL 132 yX0_dearest ∈ wsL_law := List.mem_of_getElem? (i := 295) (by decide +kernel)
theorem mv_299 : Cond.methodLink RL 135 yX1_dearest ∈ wsL_law := List.mem_of_getElem? (i := 299) (by decide +kernel)
theorem mv_300 : Cond.instanceMethod yX1_dearest ∈ wsL_law := List.mem_of_getElem? (i := 300) (by decide +kernel)
theorem mv_301 : Cond.selects RX1 yX1_dearest yX1_dearest ∈ wsL_law := List.mem_of_getElem? (i := 301) (by decide +kernel)
theorem mv_302 : Cond.code yX1_dearest cX1_dearest 1 (some .int) ∈ wsL_law := List.mem_of_getElem? (i := 302) (by decide +kernel)
theorem mv_307 : Cond.methodLink RL 136 yX0_nextToStrike ∈ wsL_law := List.mem_of_getElem? (i := 307) (by decide +kernel)
theorem mv_311 : Cond.methodLink RL 139 yX1_nextToStrike ∈ wsL_law := List.mem_of_getElem? (i := 311) (by decide +kernel)
theorem mv_312 : Cond.instanceMethod yX1_nextToStrike ∈ wsL_law := List.mem_of_getElem? (i := 312) (by decide +kernel)
theorem mv_313 : Cond.selects RX1 yX1_nextToStrike yX1_nextToStrike ∈ wsL_law := List.mem_of_getElem? (i := 313) (by decide +kernel)
theorem mv_314 : Cond.code yX1_nextToStrike cX1_nextToStrike 1 (some .int) ∈ wsL_law := List.mem_of_getElem? (i := 314) (by decide +kernel)
theorem mv_319 : Cond.methodLink RL 140 yX0_traders ∈ wsL_law := List.mem_of_getElem? (i := 319) (by decide +kernel)
theorem mv_320 : Cond.instanceMethod yX0_traders ∈ wsL_law := List.mem_of_getElem? (i := 320) (by decide +kernel)
theorem mv_321 : Cond.selects RX0 yX0_traders yX0_traders ∈ wsL_law := List.mem_of_getElem? (i := 321) (by decide +kernel)
theorem mv_322 : Cond.code yX0_traders cX0_traders 1 (some .int) ∈ wsL_law := List.mem_of_getElem? (i := 322) (by decide +kernel)
theorem mv_323 : Cond.methodLink RL 143 yX1_traders ∈ wsL_law := List.mem_of_getElem? (i := 323) (by decide +kernel)
theorem mv_324 : Cond.instanceMethod yX1_traders ∈ wsL_law := List.mem_of_getElem? (i := 324) (by decide +kernel)
theorem mv_325 : Cond.selects RX1 yX1_traders yX1_traders ∈ wsL_law := List.mem_of_getElem? (i := 325) (by decide +kernel)
theorem mv_326 : Cond.code yX1_traders cX1_traders 1 (some .int) ∈ wsL_law := List.mem_of_getElem? (i := 326) (by decide +kernel)
theorem mv_327 : Cond.methodLink RL 144 yL_purseOf ∈ wsL_law := List.mem_of_getElem? (i := 327) (by decide +kernel)
theorem mv_328 : Cond.static yL_purseOf ∈ wsL_law := List.mem_of_getElem? (i := 328) (by decide +kernel)
theorem mv_329 : Cond.codeWith yL_purseOf cL_purseOf 4 (some .int) [(0, 9, 12, 24)] ∈ wsL_law := List.mem_of_getElem? (i := 329) (by decide +kernel)
theorem mv_334 : Cond.methodLink RL 146 yX1_purseOf ∈ wsL_law := List.mem_of_getElem? (i := 334) (by decide +kernel)
theorem mv_335 : Cond.instanceMethod yX1_purseOf ∈ wsL_law := List.mem_of_getElem? (i := 335) (by decide +kernel)
theorem mv_336 : Cond.selects RX1 yX1_purseOf yX1_purseOf ∈ wsL_law := List.mem_of_getElem? (i := 336) (by decide +kernel)
theorem mv_337 : Cond.code yX1_purseOf cX1_purseOf 2 (some .int) ∈ wsL_law := List.mem_of_getElem? (i := 337) (by decide +kernel)
theorem mv_338 : Cond.methodLink RL 147 yL_holds ∈ wsL_law := List.mem_of_getElem? (i := 338) (by decide +kernel)
theorem mv_339 : Cond.static yL_holds ∈ wsL_law := List.mem_of_getElem? (i := 339) (by decide +kernel)
theorem mv_340 : Cond.codeWith yL_holds cL_holds 5 (some .int) [(0, 10, 13, 24)] ∈ wsL_law := List.mem_of_getElem? (i := 340) (by decide +kernel)
theorem mv_345 : Cond.methodLink RL 150 yX1_holds ∈ wsL_law := List.mem_of_getElem? (i := 345) (by decide +kernel)
theorem mv_346 : Cond.instanceMethod yX1_holds ∈ wsL_law := List.mem_of_getElem? (i := 346) (by decide +kernel)
theorem mv_347 : Cond.selects RX1 yX1_holds yX1_holds ∈ wsL_law := List.mem_of_getElem? (i := 347) (by decide +kernel)
theorem mv_348 : Cond.code yX1_holds cX1_holds 3 (some .int) ∈ wsL_law := List.mem_of_getElem? (i := 348) (by decide +kernel)
theorem mv_349 : Cond.methodLink RL 151 yL_worthOf ∈ wsL_law := List.mem_of_getElem? (i := 349) (by decide +kernel)
theorem mv_350 : Cond.static yL_worthOf ∈ wsL_law := List.mem_of_getElem? (i := 350) (by decide +kernel)
theorem mv_351 : Cond.codeWith yL_worthOf cL_worthOf 4 (some .int) [(0, 9, 12, 24)] ∈ wsL_law := List.mem_of_getElem? (i := 351) (by decide +kernel)
theorem mv_372 : Cond.methodLink RL 153 yX1_worthOf ∈ wsL_law := List.mem_of_getElem? (i := 372) (by decide +kernel)
theorem mv_373 : Cond.instanceMethod yX1_worthOf ∈ wsL_law := List.mem_of_getElem? (i := 373) (by decide +kernel)
theorem mv_374 : Cond.selects RX1 yX1_worthOf yX1_worthOf ∈ wsL_law := List.mem_of_getElem? (i := 374) (by decide +kernel)
theorem mv_375 : Cond.code yX1_worthOf cX1_worthOf 2 (some .int) ∈ wsL_law := List.mem_of_getElem? (i := 375) (by decide +kernel)
theorem mv_380 : Cond.methodLink RL 154 yX0_richest ∈ wsL_law := List.mem_of_getElem? (i := 380) (by decide +kernel)
theorem mv_384 : Cond.methodLink RL 157 yX1_richest ∈ wsL_law := List.mem_of_getElem? (i := 384) (by decide +kernel)
theorem mv_385 : Cond.instanceMethod yX1_richest ∈ wsL_law := List.mem_of_getElem? (i := 385) (by decide +kernel)
theorem mv_386 : Cond.selects RX1 yX1_richest yX1_richest ∈ wsL_law := List.mem_of_getElem? (i := 386) (by decide +kernel)
theorem mv_387 : Cond.code yX1_richest cX1_richest 1 (some .int) ∈ wsL_law := List.mem_of_getElem? (i := 387) (by decide +kernel)
theorem mv_392 : Cond.methodLink RL 158 yL_shortsOf ∈ wsL_law := List.mem_of_getElem? (i := 392) (by decide +kernel)
theorem mv_393 : Cond.static yL_shortsOf ∈ wsL_law := List.mem_of_getElem? (i := 393) (by decide +kernel)
theorem mv_394 : Cond.codeWith yL_shortsOf cL_shortsOf 4 (some .int) [(0, 9, 12, 24)] ∈ wsL_law := List.mem_of_getElem? (i := 394) (by decide +kernel)
theorem mv_403 : Cond.methodLink RL 160 yX1_shortsOf ∈ wsL_law := List.mem_of_getElem? (i := 403) (by decide +kernel)
theorem mv_404 : Cond.instanceMethod yX1_shortsOf ∈ wsL_law := List.mem_of_getElem? (i := 404) (by decide +kernel)
theorem mv_405 : Cond.selects RX1 yX1_shortsOf yX1_shortsOf ∈ wsL_law := List.mem_of_getElem? (i := 405) (by decide +kernel)
theorem mv_406 : Cond.code yX1_shortsOf cX1_shortsOf 2 (some .int) ∈ wsL_law := List.mem_of_getElem? (i := 406) (by decide +kernel)
theorem mv_411 : Cond.methodLink RL 161 yX0_inDebt ∈ wsL_law := List.mem_of_getElem? (i := 411) (by decide +kernel)
theorem mv_415 : Cond.methodLink RL 164 yX1_inDebt ∈ wsL_law := List.mem_of_getElem? (i := 415) (by decide +kernel)
theorem mv_416 : Cond.instanceMethod yX1_inDebt ∈ wsL_law := List.mem_of_getElem? (i := 416) (by decide +kernel)
theorem mv_417 : Cond.selects RX1 yX1_inDebt yX1_inDebt ∈ wsL_law := List.mem_of_getElem? (i := 417) (by decide +kernel)
theorem mv_418 : Cond.code yX1_inDebt cX1_inDebt 1 (some .int) ∈ wsL_law := List.mem_of_getElem? (i := 418) (by decide +kernel)
theorem mv_423 : Cond.methodLink RL 165 yL_closingPrice ∈ wsL_law := List.mem_of_getElem? (i := 423) (by decide +kernel)
theorem mv_424 : Cond.static yL_closingPrice ∈ wsL_law := List.mem_of_getElem? (i := 424) (by decide +kernel)
theorem mv_425 : Cond.codeWith yL_closingPrice cL_closingPrice 4 (some .int) [(0, 9, 12, 24)] ∈ wsL_law := List.mem_of_getElem? (i := 425) (by decide +kernel)
theorem mv_430 : Cond.methodLink RL 167 yX1_closingPrice ∈ wsL_law := List.mem_of_getElem? (i := 430) (by decide +kernel)
theorem mv_431 : Cond.instanceMethod yX1_closingPrice ∈ wsL_law := List.mem_of_getElem? (i := 431) (by decide +kernel)
theorem mv_432 : Cond.selects RX1 yX1_closingPrice yX1_closingPrice ∈ wsL_law := List.mem_of_getElem? (i := 432) (by decide +kernel)
theorem mv_433 : Cond.code yX1_closingPrice cX1_closingPrice 2 (some .int) ∈ wsL_law := List.mem_of_getElem? (i := 433) (by decide +kernel)
theorem mv_438 : Cond.methodLink RL 168 yL_priceIn ∈ wsL_law := List.mem_of_getElem? (i := 438) (by decide +kernel)
theorem mv_439 : Cond.static yL_priceIn ∈ wsL_law := List.mem_of_getElem? (i := 439) (by decide +kernel)
theorem mv_440 : Cond.codeWith yL_priceIn cL_priceIn 5 (some .int) [(0, 10, 13, 24), (0, 10, 17, 13)] ∈ wsL_law := List.mem_of_getElem? (i := 440) (by decide +kernel)
theorem mv_445 : Cond.methodLink RL 170 yX1_priceIn ∈ wsL_law := List.mem_of_getElem? (i := 445) (by decide +kernel)
theorem mv_446 : Cond.instanceMethod yX1_priceIn ∈ wsL_law := List.mem_of_getElem? (i := 446) (by decide +kernel)
theorem mv_447 : Cond.selects RX1 yX1_priceIn yX1_priceIn ∈ wsL_law := List.mem_of_getElem? (i := 447) (by decide +kernel)
theorem mv_448 : Cond.code yX1_priceIn cX1_priceIn 4 (some .int) ∈ wsL_law := List.mem_of_getElem? (i := 448) (by decide +kernel)
theorem mv_461 : Cond.methodLink RL 171 yL_worthIn ∈ wsL_law := List.mem_of_getElem? (i := 461) (by decide +kernel)
theorem mv_462 : Cond.static yL_worthIn ∈ wsL_law := List.mem_of_getElem? (i := 462) (by decide +kernel)
theorem mv_463 : Cond.codeWith yL_worthIn cL_worthIn 5 (some .int) [(0, 10, 13, 24), (0, 10, 17, 13)] ∈ wsL_law := List.mem_of_getElem? (i := 463) (by decide +kernel)
theorem mv_468 : Cond.methodLink RL 173 yX1_worthIn ∈ wsL_law := List.mem_of_getElem? (i := 468) (by decide +kernel)
theorem mv_469 : Cond.instanceMethod yX1_worthIn ∈ wsL_law := List.mem_of_getElem? (i := 469) (by decide +kernel)
theorem mv_470 : Cond.selects RX1 yX1_worthIn yX1_worthIn ∈ wsL_law := List.mem_of_getElem? (i := 470) (by decide +kernel)
theorem mv_471 : Cond.code yX1_worthIn cX1_worthIn 4 (some .int) ∈ wsL_law := List.mem_of_getElem? (i := 471) (by decide +kernel)
theorem mv_472 : Cond.methodLink RL 174 yX0_bestToBuy ∈ wsL_law := List.mem_of_getElem? (i := 472) (by decide +kernel)
theorem mv_480 : Cond.methodLink RL 177 yX1_bestToBuy ∈ wsL_law := List.mem_of_getElem? (i := 480) (by decide +kernel)
theorem mv_481 : Cond.instanceMethod yX1_bestToBuy ∈ wsL_law := List.mem_of_getElem? (i := 481) (by decide +kernel)
theorem mv_482 : Cond.selects RX1 yX1_bestToBuy yX1_bestToBuy ∈ wsL_law := List.mem_of_getElem? (i := 482) (by decide +kernel)
theorem mv_483 : Cond.code yX1_bestToBuy cX1_bestToBuy 1 (some .int) ∈ wsL_law := List.mem_of_getElem? (i := 483) (by decide +kernel)
theorem mv_488 : Cond.methodLink RL 178 yL_bestToSell ∈ wsL_law := List.mem_of_getElem? (i := 488) (by decide +kernel)
theorem mv_489 : Cond.static yL_bestToSell ∈ wsL_law := List.mem_of_getElem? (i := 489) (by decide +kernel)
theorem mv_490 : Cond.codeWith yL_bestToSell cL_bestToSell 5 (some .int) [(0, 10, 13, 24)] ∈ wsL_law := List.mem_of_getElem? (i := 490) (by decide +kernel)
theorem mv_502 : Cond.methodLink RL 180 yX1_bestToSell ∈ wsL_law := List.mem_of_getElem? (i := 502) (by decide +kernel)
theorem mv_503 : Cond.instanceMethod yX1_bestToSell ∈ wsL_law := List.mem_of_getElem? (i := 503) (by decide +kernel)
theorem mv_504 : Cond.selects RX1 yX1_bestToSell yX1_bestToSell ∈ wsL_law := List.mem_of_getElem? (i := 504) (by decide +kernel)
theorem mv_505 : Cond.code yX1_bestToSell cX1_bestToSell 9 (some .int) ∈ wsL_law := List.mem_of_getElem? (i := 505) (by decide +kernel)
theorem mv_507 : Cond.methodLink RL 181 yL_secondsUntilDebt ∈ wsL_law := List.mem_of_getElem? (i := 507) (by decide +kernel)
theorem mv_508 : Cond.static yL_secondsUntilDebt ∈ wsL_law := List.mem_of_getElem? (i := 508) (by decide +kernel)
theorem mv_509 : Cond.codeWith yL_secondsUntilDebt cL_secondsUntilDebt 4 (some .int) [(0, 9, 12, 24)] ∈ wsL_law := List.mem_of_getElem? (i := 509) (by decide +kernel)
theorem mv_518 : Cond.methodLink RL 183 yX1_secondsUntilDebt ∈ wsL_law := List.mem_of_getElem? (i := 518) (by decide +kernel)
theorem mv_519 : Cond.instanceMethod yX1_secondsUntilDebt ∈ wsL_law := List.mem_of_getElem? (i := 519) (by decide +kernel)
theorem mv_520 : Cond.selects RX1 yX1_secondsUntilDebt yX1_secondsUntilDebt ∈ wsL_law := List.mem_of_getElem? (i := 520) (by decide +kernel)
theorem mv_521 : Cond.code yX1_secondsUntilDebt cX1_secondsUntilDebt 3 (some .int) ∈ wsL_law := List.mem_of_getElem? (i := 521) (by decide +kernel)
theorem mv_522 : Cond.methodLink RL 184 yX0_meanPrice ∈ wsL_law := List.mem_of_getElem? (i := 522) (by decide +kernel)
theorem mv_523 : Cond.instanceMethod yX0_meanPrice ∈ wsL_law := List.mem_of_getElem? (i := 523) (by decide +kernel)
theorem mv_524 : Cond.selects RX0 yX0_meanPrice yX0_meanPrice ∈ wsL_law := List.mem_of_getElem? (i := 524) (by decide +kernel)
theorem mv_525 : Cond.code yX0_meanPrice cX0_meanPrice 3 (some .double) ∈ wsL_law := List.mem_of_getElem? (i := 525) (by decide +kernel)
theorem mv_526 : Cond.methodLink RL 188 yX1_meanPrice ∈ wsL_law := List.mem_of_getElem? (i := 526) (by decide +kernel)
theorem mv_527 : Cond.instanceMethod yX1_meanPrice ∈ wsL_law := List.mem_of_getElem? (i := 527) (by decide +kernel)
theorem mv_528 : Cond.selects RX1 yX1_meanPrice yX1_meanPrice ∈ wsL_law := List.mem_of_getElem? (i := 528) (by decide +kernel)
theorem mv_529 : Cond.code yX1_meanPrice cX1_meanPrice 3 (some .double) ∈ wsL_law := List.mem_of_getElem? (i := 529) (by decide +kernel)
theorem mv_530 : Cond.methodLink RL 189 yX0_digest ∈ wsL_law := List.mem_of_getElem? (i := 530) (by decide +kernel)
theorem mv_531 : Cond.instanceMethod yX0_digest ∈ wsL_law := List.mem_of_getElem? (i := 531) (by decide +kernel)
theorem mv_532 : Cond.selects RX0 yX0_digest yX0_digest ∈ wsL_law := List.mem_of_getElem? (i := 532) (by decide +kernel)
theorem mv_533 : Cond.code yX0_digest cX0_digest 4 (some .long) ∈ wsL_law := List.mem_of_getElem? (i := 533) (by decide +kernel)
theorem mv_552 : Cond.methodLink RL 193 yX1_digest ∈ wsL_law := List.mem_of_getElem? (i := 552) (by decide +kernel)
theorem mv_553 : Cond.instanceMethod yX1_digest ∈ wsL_law := List.mem_of_getElem? (i := 553) (by decide +kernel)
theorem mv_554 : Cond.selects RX1 yX1_digest yX1_digest ∈ wsL_law := List.mem_of_getElem? (i := 554) (by decide +kernel)
theorem mv_555 : Cond.code yX1_digest cX1_digest 10 (some .long) ∈ wsL_law := List.mem_of_getElem? (i := 555) (by decide +kernel)
set_option maxHeartbeats 4000000 in
set_option maxRecDepth 100000 in
theorem lc_list {p : Program} {l : Launch} {e : Env} {s : State} {m : MethodId} {args : Array Value} {below : List Frame} {meth : Method} {c : Code} {H : Heap} {locs : List Loc} {cells slots : Nat} {Q : State → Prop} {ls : Array Slot} {bs L : Nat} {xs : Nat → Int32} {D : va_G} {cI cQ cL : ClassId} {a b : Nat → Nat} {o : Nat} {S N N' : bS} {w : Int64} {rm : Room} {n : Nat} (hX : LX l p m c s args bs L xs a b o) (hn : 4 * n + 4 ≤ L) (hB : BW D cI cQ a S s H) (hN : MW D cI b N s H) (hO : OW D cL o w s H) (hS : va_S (A0 s) s.heap H locs) (hf : cells + 9 ≤ 601024 ∧ slots + 64 ≤ 7293034) (hl : lv_has ls 9 [(4, .int (nI (4 * n))), (0, .ref (bs)), (1, .ref (a 13)), (2, .ref (b 5)), (3, .ref (o))]) {r : Int32} {S' : bS} {w' : Int64} {k9 : Int32} {T R : Nat} (hHp : Hp l yL_list cL_list 6 [(0, 12, 15, 13), (0, 12, 19, 15)] ({ frames := 8, cells := 1, slots := 6, locals := 160 } : Room) (XW D cI cQ cL a S o w) (XW D cI cQ cL a S' o w') (iBO a o) [.ref (a 13), .int (xs ((4 * n) + 1)), .int (xs ((4 * n) + 2)), .int (xs ((4 * n) + 3)), .ref (o)] k9) (hI : MI N' T R) (h5 : N' 5 0 = k9) (he : k9 = 0 → w' = r.toInt64) (hMd : Wr l yX1_list cX1_list 4 (some .int) rm (MW D cI b N) (MW D cI b N') (inM b) [.ref (b 5), .int (xs ((4 * n) + 1)), .int (xs ((4 * n) + 2)), .int (xs ((4 * n) + 3))] (some (.int r)) 0 0) (hrm : rm.cells = 0 ∧ rm.slots = 0) (hrR : rm.frames + 1 ≤ 11 ∧ 8 + (4 + 11) + rm.locals ≤ 390) (kx : ∀ (H1 : Heap) (locs1 : List Loc) (ls1 : Array Slot), BW D cI cQ a S' s H1 → MW D cI b N' s H1 → OW D cL o w' s H1 → va_S (A0 s) s.heap H1 locs1 → lv_has ls1 9 [(4, .int (nI (4 * n))), (0, .ref (bs)), (1, .ref (a 13)), (2, .ref (b 5)), (3, .ref (o))] → W p l e room_1 s m args below meth c H1 locs1 (cells + 9) (slots + 64) Q (F0 m 1559 ls1 [])) : W p l e room_1 s m args below meth c H locs cells slots Q (F0 m 172 ls []) := by
  obtain ⟨hC, hl9, hbx, hbl, hL, hZ, hZH, hA1, hA2, hA3, hab, hao, hbo⟩ := hX
  have hx := hC.1
  have hb := hC.2.1
  have hf1 := hf.1
  have hf2 := hf.2
  have hTh : Rd l yX1_thrown cX1_thrown 1 (some .int) ({ frames := 0, cells := 0, slots := 0, locals := 0 } : Room) (MW D cI b N') [.ref (b 5)] (.int k9) := by rw [← h5]; exact c_X1_thrown l D cI b N' hI
  refine lv_aload_n hx hb dL_law_172 rfl (lv_at hl 2 rfl) ?_
  refine lv_aload_n hx hb dL_law_173 rfl (lv_at hl 1 rfl) ?_
  refine lv_iload hx hb dL_law_174 (lv_at hl 0 rfl) ?_
  refine lv_iconst (v := 1) hx hb dL_law_176 (by decide) ?_
  refine xadd (v := nI ((4 * n) + 1)) hC dL_law_177 (nadd (i := 4 * n) (j := 1) rfl rfl) ?_
  refine ldS hC hbx hbl hL hS (i := (4 * n) + 1) rfl (by omega) dL_law_178 ?_
  refine lv_aload_n hx hb dL_law_179 rfl (lv_at hl 1 rfl) ?_
  refine lv_iload hx hb dL_law_180 (lv_at hl 0 rfl) ?_
  refine lv_iconst (v := 2) hx hb dL_law_182 (by decide) ?_
  refine xadd (v := nI ((4 * n) + 2)) hC dL_law_183 (nadd (i := 4 * n) (j := 2) rfl rfl) ?_
  refine ldS hC hbx hbl hL hS (i := (4 * n) + 2) rfl (by omega) dL_law_184 ?_
  refine lv_aload_n hx hb dL_law_185 rfl (lv_at hl 1 rfl) ?_
  refine lv_iload hx hb dL_law_186 (lv_at hl 0 rfl) ?_
  refine lv_iconst (v := 3) hx hb dL_law_188 (by decide) ?_
  refine xadd (v := nI ((4 * n) + 3)) hC dL_law_189 (nadd (i := 4 * n) (j := 3) rfl rfl) ?_
  refine ldS hC hbx hbl hL hS (i := (4 * n) + 3) rfl (by omega) dL_law_190 ?_
  refine lv_aload_n hx hb dL_law_191 rfl (lv_at hl 4 rfl) ?_
  refine kHp hC hHp mov_X mov_X ⟨hB, hO⟩ hZ (hZH.kept hS.2.1 |>.narrow (fun _ z => z.elim)) (good_SW mv_31 mv_32 mv_33 mv_34) rfl rfl ⟨by decide +kernel, by decide +kernel, show (parseMethodDescriptor yL_list.desc).map (fun d => d.parameters.length) = some 5 by decide +kernel⟩ ⟨Nat.le_of_ble_eq_true rfl, Nat.le_of_ble_eq_true rfl⟩ ⟨by show _ ≤ 601024; omega, by show _ ≤ 7293034; omega⟩ hS (fun q z => z.elim (hA1 q) (fun e => by rw [e]; exact hA3)) hl.1 rfl (Nat.le_of_ble_eq_true rfl) dL_law_192 (fun H locs hBO hS hk => ?_)
  obtain ⟨hB, hO⟩ := hBO
  have hN := hN.kept (fun k hk1 => hk _ (hN.lt k hk1) (ap_BO hab hbo hk1))
  refine lv_istore (lv' := [(5, .int (k9)), (4, .int (nI (4 * n))), (0, .ref (bs)), (1, .ref (a 13)), (2, .ref (b 5)), (3, .ref (o))]) hx hb dL_law_195 hl (by decide) rfl (fun ls hl => ?_)
  refine lv_aload_n hx hb dL_law_197 rfl (lv_at hl 4 rfl) ?_
  refine lv_aload_n hx hb dL_law_198 rfl (lv_at hl 2 rfl) ?_
  refine lv_iload hx hb dL_law_199 (lv_at hl 1 rfl) ?_
  refine lv_iconst (v := 1) hx hb dL_law_201 (by decide) ?_
  refine xadd (v := nI ((4 * n) + 1)) hC dL_law_202 (nadd (i := 4 * n) (j := 1) rfl rfl) ?_
  refine ldS hC hbx hbl hL hS (i := (4 * n) + 1) rfl (by omega) dL_law_203 ?_
  refine lv_aload_n hx hb dL_law_204 rfl (lv_at hl 2 rfl) ?_
  refine lv_iload hx hb dL_law_205 (lv_at hl 1 rfl) ?_
  refine lv_iconst (v := 2) hx hb dL_law_207 (by decide) ?_
  refine xadd (v := nI ((4 * n) + 2)) hC dL_law_208 (nadd (i := 4 * n) (j := 2) rfl rfl) ?_
  refine ldS hC hbx hbl hL hS (i := (4 * n) + 2) rfl (by omega) dL_law_209 ?_
  refine lv_aload_n hx hb dL_law_210 rfl (lv_at hl 2 rfl) ?_
  refine lv_iload hx hb dL_law_211 (lv_at hl 1 rfl) ?_
  refine lv_iconst (v := 3) hx hb dL_law_213 (by decide) ?_
  refine xadd (v := nI ((4 * n) + 3)) hC dL_law_214 (nadd (i := 4 * n) (j := 3) rfl rfl) ?_
  refine ldS hC hbx hbl hL hS (i := (4 * n) + 3) rfl (by omega) dL_law_215 ?_
  refine kVw (A := inM b) hC hMd mov_M mov_M hN (rec_M hN) (good_V mv_51 mv_52 mv_53 mw_5 mv_54) hrm.1 hrm.2 ⟨rfl, by decide +kernel, by decide +kernel, show (parseMethodDescriptor yX1_list.desc).map (fun d => d.parameters.length) = some 3 by decide +kernel⟩ hrR ⟨by show _ ≤ 601024; omega, by show _ ≤ 7293034; omega⟩ hS hA2 hl.1 rfl (Nat.le_of_ble_eq_true rfl) dL_law_216 (fun H locs hN hS hz hk => ?_)
  have hO := hO.kept (hk o hO.lt (ap_Mo hbo))
  have hB := hB.kept (fun k hk1 => hk _ (hB.lt k hk1) (ap_M hab hk1))
  refine lv_istore (lv' := [(6, .int (r)), (5, .int (k9)), (4, .int (nI (4 * n))), (0, .ref (bs)), (1, .ref (a 13)), (2, .ref (b 5)), (3, .ref (o))]) hx hb dL_law_219 hl (by decide) rfl (fun ls hl => ?_)
  refine lv_aload_n hx hb dL_law_221 rfl (lv_at hl 5 rfl) ?_
  refine kV hC hTh mov_M hN (rec_M hN) (good_V mv_64 mv_65 mv_66 mw_5 mv_67) rfl rfl ⟨rfl, by decide +kernel, by decide +kernel, show (parseMethodDescriptor yX1_thrown.desc).map (fun d => d.parameters.length) = some 0 by decide +kernel⟩ ⟨Nat.le_of_ble_eq_true rfl, Nat.le_of_ble_eq_true rfl⟩ ⟨by show _ ≤ 601024; omega, by show _ ≤ 7293034; omega⟩ hl.1 rfl (Nat.le_of_ble_eq_true rfl) dL_law_222 ?_
  refine lv_iload hx hb dL_law_225 (lv_at hl 1 rfl) ?_
  refine lv_icmp_eq (tgt := 232) hx hb dL_law_227 (by decide) (fun c1 => ?_) (fun c1 => ?_)
  · refine lv_iload hx hb dL_law_232 (lv_at hl 1 rfl) ?_
    refine lv_if_ne (tgt := 249) hx hb dL_law_234 (by decide) (fun c2 => ?_) (fun c2 => ?_)
    · refine lv_goto (tgt := 1559) hx hb dL_law_249 (by decide) ?_
      exact W.widen (k := cells + 9) (n := slots + 64) (by omega) (by omega) (kx _ _ _ hB hN hO hS (lv_sub hl [2, 3, 4, 5, 6] rfl))
    · refine lv_aload_n hx hb dL_law_237 rfl (lv_at hl 6 rfl) ?_
      refine lv_iconst (v := 0) hx hb dL_law_238 (by decide) ?_
      refine ldO hC hO dL_law_239 ?_
      refine lv_iload hx hb dL_law_240 (lv_at hl 0 rfl) ?_
      refine lv_i2l (v := r.toInt64) hx hb dL_law_242 rfl ?_
      have hw := he c2
      refine W.lcmp hx hb dL_law_243 ?_
      rw [hw, lg_self]
      refine lv_if_eq (tgt := 249) hx hb dL_law_244 (by decide) (fun c3 => ?_) (fun c3 => ?_)
      · refine lv_goto (tgt := 1559) hx hb dL_law_249 (by decide) ?_
        exact W.widen (k := cells + 9) (n := slots + 64) (by omega) (by omega) (kx _ _ _ hB hN hO hS (lv_sub hl [2, 3, 4, 5, 6] rfl))
      · exfalso; exact c3 rfl
  · exfalso; exact c1 rfl
set_option maxHeartbeats 4000000 in
set_option maxRecDepth 100000 in
theorem lc_addTrader {p : Program} {l : Launch} {e : Env} {s : State} {m : MethodId} {args : Array Value} {below : List Frame} {meth : Method} {c : Code} {H : Heap} {locs : List Loc} {cells slots : Nat} {Q : State → Prop} {ls : Array Slot} {bs L : Nat} {xs : Nat → Int32} {D : va_G} {cI cQ cL : ClassId} {a b : Nat → Nat} {o : Nat} {S N N' : bS} {w : Int64} {rm : Room} {n : Nat} (hX : LX l p m c s args bs L xs a b o) (hn : 4 * n + 4 ≤ L) (hB : BW D cI cQ a S s H) (hN : MW D cI b N s H) (hO : OW D cL o w s H) (hS : va_S (A0 s) s.heap H locs) (hf : cells + 9 ≤ 601024 ∧ slots + 64 ≤ 7293034) (hl : lv_has ls 9 [(4, .int (nI (4 * n))), (0, .ref (bs)), (1, .ref (a 13)), (2, .ref (b 5)), (3, .ref (o))]) {r : Int32} {S' : bS} {w' : Int64} {k9 : Int32} {T R : Nat} (hHp : Hp l yL_addTrader cL_addTrader 3 [(0, 8, 11, 15)] ({ frames := 8, cells := 1, slots := 6, locals := 160 } : Room) (XW D cI cQ cL a S o w) (XW D cI cQ cL a S' o w') (iBO a o) [.ref (a 13), .ref (o)] k9) (hI : MI N' T R) (h5 : N' 5 0 = k9) (he : k9 = 0 → w' = r.toInt64) (hMd : Wr l yX1_addTrader cX1_addTrader 1 (some .int) rm (MW D cI b N) (MW D cI b N') (inM b) [.ref (b 5)] (some (.int r)) 0 0) (hrm : rm.cells = 0 ∧ rm.slots = 0) (hrR : rm.frames + 1 ≤ 11 ∧ 8 + (1 + 11) + rm.locals ≤ 390) (kx : ∀ (H1 : Heap) (locs1 : List Loc) (ls1 : Array Slot), BW D cI cQ a S' s H1 → MW D cI b N' s H1 → OW D cL o w' s H1 → va_S (A0 s) s.heap H1 locs1 → lv_has ls1 9 [(4, .int (nI (4 * n))), (0, .ref (bs)), (1, .ref (a 13)), (2, .ref (b 5)), (3, .ref (o))] → W p l e room_1 s m args below meth c H1 locs1 (cells + 9) (slots + 64) Q (F0 m 1559 ls1 [])) : W p l e room_1 s m args below meth c H locs cells slots Q (F0 m 252 ls []) := by
  obtain ⟨hC, hl9, hbx, hbl, hL, hZ, hZH, hA1, hA2, hA3, hab, hao, hbo⟩ := hX
  have hx := hC.1
  have hb := hC.2.1
  have hf1 := hf.1
  have hf2 := hf.2
  have hTh : Rd l yX1_thrown cX1_thrown 1 (some .int) ({ frames := 0, cells := 0, slots := 0, locals := 0 } : Room) (MW D cI b N') [.ref (b 5)] (.int k9) := by rw [← h5]; exact c_X1_thrown l D cI b N' hI
  refine lv_aload_n hx hb dL_law_252 rfl (lv_at hl 2 rfl) ?_
  refine lv_aload_n hx hb dL_law_253 rfl (lv_at hl 4 rfl) ?_
  refine kHp hC hHp mov_X mov_X ⟨hB, hO⟩ hZ (hZH.kept hS.2.1 |>.narrow (fun _ z => z.elim)) (good_SW mv_68 mv_69 mv_33 mv_70) rfl rfl ⟨by decide +kernel, by decide +kernel, show (parseMethodDescriptor yL_addTrader.desc).map (fun d => d.parameters.length) = some 2 by decide +kernel⟩ ⟨Nat.le_of_ble_eq_true rfl, Nat.le_of_ble_eq_true rfl⟩ ⟨by show _ ≤ 601024; omega, by show _ ≤ 7293034; omega⟩ hS (fun q z => z.elim (hA1 q) (fun e => by rw [e]; exact hA3)) hl.1 rfl (Nat.le_of_ble_eq_true rfl) dL_law_254 (fun H locs hBO hS hk => ?_)
  obtain ⟨hB, hO⟩ := hBO
  have hN := hN.kept (fun k hk1 => hk _ (hN.lt k hk1) (ap_BO hab hbo hk1))
  refine lv_istore (lv' := [(5, .int (k9)), (4, .int (nI (4 * n))), (0, .ref (bs)), (1, .ref (a 13)), (2, .ref (b 5)), (3, .ref (o))]) hx hb dL_law_257 hl (by decide) rfl (fun ls hl => ?_)
  refine lv_aload_n hx hb dL_law_259 rfl (lv_at hl 4 rfl) ?_
  refine kVw (A := inM b) hC hMd mov_M mov_M hN (rec_M hN) (good_V mv_76 mv_77 mv_78 mw_5 mv_79) hrm.1 hrm.2 ⟨rfl, by decide +kernel, by decide +kernel, show (parseMethodDescriptor yX1_addTrader.desc).map (fun d => d.parameters.length) = some 0 by decide +kernel⟩ hrR ⟨by show _ ≤ 601024; omega, by show _ ≤ 7293034; omega⟩ hS hA2 hl.1 rfl (Nat.le_of_ble_eq_true rfl) dL_law_260 (fun H locs hN hS hz hk => ?_)
  have hO := hO.kept (hk o hO.lt (ap_Mo hbo))
  have hB := hB.kept (fun k hk1 => hk _ (hB.lt k hk1) (ap_M hab hk1))
  refine lv_istore (lv' := [(6, .int (r)), (5, .int (k9)), (4, .int (nI (4 * n))), (0, .ref (bs)), (1, .ref (a 13)), (2, .ref (b 5)), (3, .ref (o))]) hx hb dL_law_263 hl (by decide) rfl (fun ls hl => ?_)
  refine lv_aload_n hx hb dL_law_265 rfl (lv_at hl 5 rfl) ?_
  refine kV hC hTh mov_M hN (rec_M hN) (good_V mv_64 mv_65 mv_66 mw_5 mv_67) rfl rfl ⟨rfl, by decide +kernel, by decide +kernel, show (parseMethodDescriptor yX1_thrown.desc).map (fun d => d.parameters.length) = some 0 by decide +kernel⟩ ⟨Nat.le_of_ble_eq_true rfl, Nat.le_of_ble_eq_true rfl⟩ ⟨by show _ ≤ 601024; omega, by show _ ≤ 7293034; omega⟩ hl.1 rfl (Nat.le_of_ble_eq_true rfl) dL_law_266 ?_
  refine lv_iload hx hb dL_law_269 (lv_at hl 1 rfl) ?_
  refine lv_icmp_eq (tgt := 276) hx hb dL_law_271 (by decide) (fun c1 => ?_) (fun c1 => ?_)
  · refine lv_iload hx hb dL_law_276 (lv_at hl 1 rfl) ?_
    refine lv_if_ne (tgt := 293) hx hb dL_law_278 (by decide) (fun c2 => ?_) (fun c2 => ?_)
    · refine lv_goto (tgt := 1559) hx hb dL_law_293 (by decide) ?_
      exact W.widen (k := cells + 9) (n := slots + 64) (by omega) (by omega) (kx _ _ _ hB hN hO hS (lv_sub hl [2, 3, 4, 5, 6] rfl))
    · refine lv_aload_n hx hb dL_law_281 rfl (lv_at hl 6 rfl) ?_
      refine lv_iconst (v := 0) hx hb dL_law_282 (by decide) ?_
      refine ldO hC hO dL_law_283 ?_
      refine lv_iload hx hb dL_law_284 (lv_at hl 0 rfl) ?_
      refine lv_i2l (v := r.toInt64) hx hb dL_law_286 rfl ?_
      have hw := he c2
      refine W.lcmp hx hb dL_law_287 ?_
      rw [hw, lg_self]
      refine lv_if_eq (tgt := 293) hx hb dL_law_288 (by decide) (fun c3 => ?_) (fun c3 => ?_)
      · refine lv_goto (tgt := 1559) hx hb dL_law_293 (by decide) ?_
        exact W.widen (k := cells + 9) (n := slots + 64) (by omega) (by omega) (kx _ _ _ hB hN hO hS (lv_sub hl [2, 3, 4, 5, 6] rfl))
      · exfalso; exact c3 rfl
  · exfalso; exact c1 rfl
set_option maxHeartbeats 4000000 in
set_option maxRecDepth 100000 in
theorem lc_buy {p : Program} {l : Launch} {e : Env} {s : State} {m : MethodId} {args : Array Value} {below : List Frame} {meth : Method} {c : Code} {H : Heap} {locs : List Loc} {cells slots : Nat} {Q : State → Prop} {ls : Array Slot} {bs L : Nat} {xs : Nat → Int32} {D : va_G} {cI cQ cL : ClassId} {a b : Nat → Nat} {o : Nat} {S N N' : bS} {w : Int64} {rm : Room} {n : Nat} (hX : LX l p m c s args bs L xs a b o) (hn : 4 * n + 4 ≤ L) (hB : BW D cI cQ a S s H) (hN : MW D cI b N s H) (hO : OW D cL o w s H) (hS : va_S (A0 s) s.heap H locs) (hf : cells + 9 ≤ 601024 ∧ slots + 64 ≤ 7293034) (hl : lv_has ls 9 [(4, .int (nI (4 * n))), (0, .ref (bs)), (1, .ref (a 13)), (2, .ref (b 5)), (3, .ref (o))]) {r : Int32} {S' : bS} {w' : Int64} {k9 : Int32} {T R : Nat} (hHp : Hp l yL_buy cL_buy 6 [(0, 12, 15, 24), (0, 12, 19, 13), (0, 12, 23, 15)] ({ frames := 8, cells := 1, slots := 6, locals := 160 } : Room) (XW D cI cQ cL a S o w) (XW D cI cQ cL a S' o w') (iBO a o) [.ref (a 13), .int (xs ((4 * n) + 1)), .int (xs ((4 * n) + 2)), .int (xs ((4 * n) + 3)), .ref (o)] k9) (hI : MI N' T R) (h5 : N' 5 0 = k9) (he : k9 = 0 → w' = r.toInt64) (hMd : Wr l yX1_buy cX1_buy 5 (some .int) rm (MW D cI b N) (MW D cI b N') (inM b) [.ref (b 5), .int (xs ((4 * n) + 1)), .int (xs ((4 * n) + 2)), .int (xs ((4 * n) + 3))] (some (.int r)) 0 0) (hrm : rm.cells = 0 ∧ rm.slots = 0) (hrR : rm.frames + 1 ≤ 11 ∧ 8 + (5 + 11) + rm.locals ≤ 390) (kx : ∀ (H1 : Heap) (locs1 : List Loc) (ls1 : Array Slot), BW D cI cQ a S' s H1 → MW D cI b N' s H1 → OW D cL o w' s H1 → va_S (A0 s) s.heap H1 locs1 → lv_has ls1 9 [(4, .int (nI (4 * n))), (0, .ref (bs)), (1, .ref (a 13)), (2, .ref (b 5)), (3, .ref (o))] → W p l e room_1 s m args below meth c H1 locs1 (cells + 9) (slots + 64) Q (F0 m 1559 ls1 [])) : W p l e room_1 s m args below meth c H locs cells slots Q (F0 m 296 ls []) := by
  obtain ⟨hC, hl9, hbx, hbl, hL, hZ, hZH, hA1, hA2, hA3, hab, hao, hbo⟩ := hX
  have hx := hC.1
  have hb := hC.2.1
  have hf1 := hf.1
  have hf2 := hf.2
  have hTh : Rd l yX1_thrown cX1_thrown 1 (some .int) ({ frames := 0, cells := 0, slots := 0, locals := 0 } : Room) (MW D cI b N') [.ref (b 5)] (.int k9) := by rw [← h5]; exact c_X1_thrown l D cI b N' hI
  refine lv_aload_n hx hb dL_law_296 rfl (lv_at hl 2 rfl) ?_
  refine lv_aload_n hx hb dL_law_297 rfl (lv_at hl 1 rfl) ?_
  refine lv_iload hx hb dL_law_298 (lv_at hl 0 rfl) ?_
  refine lv_iconst (v := 1) hx hb dL_law_300 (by decide) ?_
  refine xadd (v := nI ((4 * n) + 1)) hC dL_law_301 (nadd (i := 4 * n) (j := 1) rfl rfl) ?_
  refine ldS hC hbx hbl hL hS (i := (4 * n) + 1) rfl (by omega) dL_law_302 ?_
  refine lv_aload_n hx hb dL_law_303 rfl (lv_at hl 1 rfl) ?_
  refine lv_iload hx hb dL_law_304 (lv_at hl 0 rfl) ?_
  refine lv_iconst (v := 2) hx hb dL_law_306 (by decide) ?_
  refine xadd (v := nI ((4 * n) + 2)) hC dL_law_307 (nadd (i := 4 * n) (j := 2) rfl rfl) ?_
  refine ldS hC hbx hbl hL hS (i := (4 * n) + 2) rfl (by omega) dL_law_308 ?_
  refine lv_aload_n hx hb dL_law_309 rfl (lv_at hl 1 rfl) ?_
  refine lv_iload hx hb dL_law_310 (lv_at hl 0 rfl) ?_
  refine lv_iconst (v := 3) hx hb dL_law_312 (by decide) ?_
  refine xadd (v := nI ((4 * n) + 3)) hC dL_law_313 (nadd (i := 4 * n) (j := 3) rfl rfl) ?_
  refine ldS hC hbx hbl hL hS (i := (4 * n) + 3) rfl (by omega) dL_law_314 ?_
  refine lv_aload_n hx hb dL_law_315 rfl (lv_at hl 4 rfl) ?_
  refine kHp hC hHp mov_X mov_X ⟨hB, hO⟩ hZ (hZH.kept hS.2.1 |>.narrow (fun _ z => z.elim)) (good_SW mv_81 mv_82 mv_33 mv_83) rfl rfl ⟨by decide +kernel, by decide +kernel, show (parseMethodDescriptor yL_buy.desc).map (fun d => d.parameters.length) = some 5 by decide +kernel⟩ ⟨Nat.le_of_ble_eq_true rfl, Nat.le_of_ble_eq_true rfl⟩ ⟨by show _ ≤ 601024; omega, by show _ ≤ 7293034; omega⟩ hS (fun q z => z.elim (hA1 q) (fun e => by rw [e]; exact hA3)) hl.1 rfl (Nat.le_of_ble_eq_true rfl) dL_law_316 (fun H locs hBO hS hk => ?_)
  obtain ⟨hB, hO⟩ := hBO
  have hN := hN.kept (fun k hk1 => hk _ (hN.lt k hk1) (ap_BO hab hbo hk1))
  refine lv_istore (lv' := [(5, .int (k9)), (4, .int (nI (4 * n))), (0, .ref (bs)), (1, .ref (a 13)), (2, .ref (b 5)), (3, .ref (o))]) hx hb dL_law_319 hl (by decide) rfl (fun ls hl => ?_)
  refine lv_aload_n hx hb dL_law_321 rfl (lv_at hl 4 rfl) ?_
  refine lv_aload_n hx hb dL_law_322 rfl (lv_at hl 2 rfl) ?_
  refine lv_iload hx hb dL_law_323 (lv_at hl 1 rfl) ?_
  refine lv_iconst (v := 1) hx hb dL_law_325 (by decide) ?_
  refine xadd (v := nI ((4 * n) + 1)) hC dL_law_326 (nadd (i := 4 * n) (j := 1) rfl rfl) ?_
  refine ldS hC hbx hbl hL hS (i := (4 * n) + 1) rfl (by omega) dL_law_327 ?_
  refine lv_aload_n hx hb dL_law_328 rfl (lv_at hl 2 rfl) ?_
  refine lv_iload hx hb dL_law_329 (lv_at hl 1 rfl) ?_
  refine lv_iconst (v := 2) hx hb dL_law_331 (by decide) ?_
  refine xadd (v := nI ((4 * n) + 2)) hC dL_law_332 (nadd (i := 4 * n) (j := 2) rfl rfl) ?_
  refine ldS hC hbx hbl hL hS (i := (4 * n) + 2) rfl (by omega) dL_law_333 ?_
  refine lv_aload_n hx hb dL_law_334 rfl (lv_at hl 2 rfl) ?_
  refine lv_iload hx hb dL_law_335 (lv_at hl 1 rfl) ?_
  refine lv_iconst (v := 3) hx hb dL_law_337 (by decide) ?_
  refine xadd (v := nI ((4 * n) + 3)) hC dL_law_338 (nadd (i := 4 * n) (j := 3) rfl rfl) ?_
  refine ldS hC hbx hbl hL hS (i := (4 * n) + 3) rfl (by omega) dL_law_339 ?_
  refine kVw (A := inM b) hC hMd mov_M mov_M hN (rec_M hN) (good_V mv_120 mv_121 mv_122 mw_5 mv_123) hrm.1 hrm.2 ⟨rfl, by decide +kernel, by decide +kernel, show (parseMethodDescriptor yX1_buy.desc).map (fun d => d.parameters.length) = some 3 by decide +kernel⟩ hrR ⟨by show _ ≤ 601024; omega, by show _ ≤ 7293034; omega⟩ hS hA2 hl.1 rfl (Nat.le_of_ble_eq_true rfl) dL_law_340 (fun H locs hN hS hz hk => ?_)
  have hO := hO.kept (hk o hO.lt (ap_Mo hbo))
  have hB := hB.kept (fun k hk1 => hk _ (hB.lt k hk1) (ap_M hab hk1))
  refine lv_istore (lv' := [(6, .int (r)), (5, .int (k9)), (4, .int (nI (4 * n))), (0, .ref (bs)), (1, .ref (a 13)), (2, .ref (b 5)), (3, .ref (o))]) hx hb dL_law_343 hl (by decide) rfl (fun ls hl => ?_)
  refine lv_aload_n hx hb dL_law_345 rfl (lv_at hl 5 rfl) ?_
  refine kV hC hTh mov_M hN (rec_M hN) (good_V mv_64 mv_65 mv_66 mw_5 mv_67) rfl rfl ⟨rfl, by decide +kernel, by decide +kernel, show (parseMethodDescriptor yX1_thrown.desc).map (fun d => d.parameters.length) = some 0 by decide +kernel⟩ ⟨Nat.le_of_ble_eq_true rfl, Nat.le_of_ble_eq_true rfl⟩ ⟨by show _ ≤ 601024; omega, by show _ ≤ 7293034; omega⟩ hl.1 rfl (Nat.le_of_ble_eq_true rfl) dL_law_346 ?_
  refine lv_iload hx hb dL_law_349 (lv_at hl 1 rfl) ?_
  refine lv_icmp_eq (tgt := 356) hx hb dL_law_351 (by decide) (fun c1 => ?_) (fun c1 => ?_)
  · refine lv_iload hx hb dL_law_356 (lv_at hl 1 rfl) ?_
    refine lv_if_ne (tgt := 373) hx hb dL_law_358 (by decide) (fun c2 => ?_) (fun c2 => ?_)
    · refine lv_goto (tgt := 1559) hx hb dL_law_373 (by decide) ?_
      exact W.widen (k := cells + 9) (n := slots + 64) (by omega) (by omega) (kx _ _ _ hB hN hO hS (lv_sub hl [2, 3, 4, 5, 6] rfl))
    · refine lv_aload_n hx hb dL_law_361 rfl (lv_at hl 6 rfl) ?_
      refine lv_iconst (v := 0) hx hb dL_law_362 (by decide) ?_
      refine ldO hC hO dL_law_363 ?_
      refine lv_iload hx hb dL_law_364 (lv_at hl 0 rfl) ?_
      refine lv_i2l (v := r.toInt64) hx hb dL_law_366 rfl ?_
      have hw := he c2
      refine W.lcmp hx hb dL_law_367 ?_
      rw [hw, lg_self]
      refine lv_if_eq (tgt := 373) hx hb dL_law_368 (by decide) (fun c3 => ?_) (fun c3 => ?_)
      · refine lv_goto (tgt := 1559) hx hb dL_law_373 (by decide) ?_
        exact W.widen (k := cells + 9) (n := slots + 64) (by omega) (by omega) (kx _ _ _ hB hN hO hS (lv_sub hl [2, 3, 4, 5, 6] rfl))
      · exfalso; exact c3 rfl
  · exfalso; exact c1 rfl
set_option maxHeartbeats 4000000 in
set_option maxRecDepth 100000 in
theorem lc_sell {p : Program} {l : Launch} {e : Env} {s : State} {m : MethodId} {args : Array Value} {below : List Frame} {meth : Method} {c : Code} {H : Heap} {locs : List Loc} {cells slots : Nat} {Q : State → Prop} {ls : Array Slot} {bs L : Nat} {xs : Nat → Int32} {D : va_G} {cI cQ cL : ClassId} {a b : Nat → Nat} {o : Nat} {S N N' : bS} {w : Int64} {rm : Room} {n : Nat} (hX : LX l p m c s args bs L xs a b o) (hn : 4 * n + 4 ≤ L) (hB : BW D cI cQ a S s H) (hN : MW D cI b N s H) (hO : OW D cL o w s H) (hS : va_S (A0 s) s.heap H locs) (hf : cells + 9 ≤ 601024 ∧ slots + 64 ≤ 7293034) (hl : lv_has ls 9 [(4, .int (nI (4 * n))), (0, .ref (bs)), (1, .ref (a 13)), (2, .ref (b 5)), (3, .ref (o))]) {r : Int32} {S' : bS} {w' : Int64} {k9 : Int32} {T R : Nat} (hHp : Hp l yL_sell cL_sell 6 [(0, 12, 15, 24), (0, 12, 19, 13), (0, 12, 23, 15)] ({ frames := 8, cells := 1, slots := 6, locals := 160 } : Room) (XW D cI cQ cL a S o w) (XW D cI cQ cL a S' o w') (iBO a o) [.ref (a 13), .int (xs ((4 * n) + 1)), .int (xs ((4 * n) + 2)), .int (xs ((4 * n) + 3)), .ref (o)] k9) (hI : MI N' T R) (h5 : N' 5 0 = k9) (he : k9 = 0 → w' = r.toInt64) (hMd : Wr l yX1_sell cX1_sell 4 (some .int) rm (MW D cI b N) (MW D cI b N') (inM b) [.ref (b 5), .int (xs ((4 * n) + 1)), .int (xs ((4 * n) + 2)), .int (xs ((4 * n) + 3))] (some (.int r)) 0 0) (hrm : rm.cells = 0 ∧ rm.slots = 0) (hrR : rm.frames + 1 ≤ 11 ∧ 8 + (4 + 11) + rm.locals ≤ 390) (kx : ∀ (H1 : Heap) (locs1 : List Loc) (ls1 : Array Slot), BW D cI cQ a S' s H1 → MW D cI b N' s H1 → OW D cL o w' s H1 → va_S (A0 s) s.heap H1 locs1 → lv_has ls1 9 [(4, .int (nI (4 * n))), (0, .ref (bs)), (1, .ref (a 13)), (2, .ref (b 5)), (3, .ref (o))] → W p l e room_1 s m args below meth c H1 locs1 (cells + 9) (slots + 64) Q (F0 m 1559 ls1 [])) : W p l e room_1 s m args below meth c H locs cells slots Q (F0 m 376 ls []) := by
  obtain ⟨hC, hl9, hbx, hbl, hL, hZ, hZH, hA1, hA2, hA3, hab, hao, hbo⟩ := hX
  have hx := hC.1
  have hb := hC.2.1
  have hf1 := hf.1
  have hf2 := hf.2
  have hTh : Rd l yX1_thrown cX1_thrown 1 (some .int) ({ frames := 0, cells := 0, slots := 0, locals := 0 } : Room) (MW D cI b N') [.ref (b 5)] (.int k9) := by rw [← h5]; exact c_X1_thrown l D cI b N' hI
  refine lv_aload_n hx hb dL_law_376 rfl (lv_at hl 2 rfl) ?_
  refine lv_aload_n hx hb dL_law_377 rfl (lv_at hl 1 rfl) ?_
  refine lv_iload hx hb dL_law_378 (lv_at hl 0 rfl) ?_
  refine lv_iconst (v := 1) hx hb dL_law_380 (by decide) ?_
  refine xadd (v := nI ((4 * n) + 1)) hC dL_law_381 (nadd (i := 4 * n) (j := 1) rfl rfl) ?_
  refine ldS hC hbx hbl hL hS (i := (4 * n) + 1) rfl (by omega) dL_law_382 ?_
  refine lv_aload_n hx hb dL_law_383 rfl (lv_at hl 1 rfl) ?_
  refine lv_iload hx hb dL_law_384 (lv_at hl 0 rfl) ?_
  refine lv_iconst (v := 2) hx hb dL_law_386 (by decide) ?_
  refine xadd (v := nI ((4 * n) + 2)) hC dL_law_387 (nadd (i := 4 * n) (j := 2) rfl rfl) ?_
  refine ldS hC hbx hbl hL hS (i := (4 * n) + 2) rfl (by omega) dL_law_388 ?_
  refine lv_aload_n hx hb dL_law_389 rfl (lv_at hl 1 rfl) ?_
  refine lv_iload hx hb dL_law_390 (lv_at hl 0 rfl) ?_
  refine lv_iconst (v := 3) hx hb dL_law_392 (by decide) ?_
  refine xadd (v := nI ((4 * n) + 3)) hC dL_law_393 (nadd (i := 4 * n) (j := 3) rfl rfl) ?_
  refine ldS hC hbx hbl hL hS (i := (4 * n) + 3) rfl (by omega) dL_law_394 ?_
  refine lv_aload_n hx hb dL_law_395 rfl (lv_at hl 4 rfl) ?_
  refine kHp hC hHp mov_X mov_X ⟨hB, hO⟩ hZ (hZH.kept hS.2.1 |>.narrow (fun _ z => z.elim)) (good_SW mv_152 mv_153 mv_33 mv_154) rfl rfl ⟨by decide +kernel, by decide +kernel, show (parseMethodDescriptor yL_sell.desc).map (fun d => d.parameters.length) = some 5 by decide +kernel⟩ ⟨Nat.le_of_ble_eq_true rfl, Nat.le_of_ble_eq_true rfl⟩ ⟨by show _ ≤ 601024; omega, by show _ ≤ 7293034; omega⟩ hS (fun q z => z.elim (hA1 q) (fun e => by rw [e]; exact hA3)) hl.1 rfl (Nat.le_of_ble_eq_true rfl) dL_law_396 (fun H locs hBO hS hk => ?_)
  obtain ⟨hB, hO⟩ := hBO
  have hN := hN.kept (fun k hk1 => hk _ (hN.lt k hk1) (ap_BO hab hbo hk1))
  refine lv_istore (lv' := [(5, .int (k9)), (4, .int (nI (4 * n))), (0, .ref (bs)), (1, .ref (a 13)), (2, .ref (b 5)), (3, .ref (o))]) hx hb dL_law_399 hl (by decide) rfl (fun ls hl => ?_)
  refine lv_aload_n hx hb dL_law_401 rfl (lv_at hl 4 rfl) ?_
  refine lv_aload_n hx hb dL_law_402 rfl (lv_at hl 2 rfl) ?_
  refine lv_iload hx hb dL_law_403 (lv_at hl 1 rfl) ?_
  refine lv_iconst (v := 1) hx hb dL_law_405 (by decide) ?_
  refine xadd (v := nI ((4 * n) + 1)) hC dL_law_406 (nadd (i := 4 * n) (j := 1) rfl rfl) ?_
  refine ldS hC hbx hbl hL hS (i := (4 * n) + 1) rfl (by omega) dL_law_407 ?_
  refine lv_aload_n hx hb dL_law_408 rfl (lv_at hl 2 rfl) ?_
  refine lv_iload hx hb dL_law_409 (lv_at hl 1 rfl) ?_
  refine lv_iconst (v := 2) hx hb dL_law_411 (by decide) ?_
  refine xadd (v := nI ((4 * n) + 2)) hC dL_law_412 (nadd (i := 4 * n) (j := 2) rfl rfl) ?_
  refine ldS hC hbx hbl hL hS (i := (4 * n) + 2) rfl (by omega) dL_law_413 ?_
  refine lv_aload_n hx hb dL_law_414 rfl (lv_at hl 2 rfl) ?_
  refine lv_iload hx hb dL_law_415 (lv_at hl 1 rfl) ?_
  refine lv_iconst (v := 3) hx hb dL_law_417 (by decide) ?_
  refine xadd (v := nI ((4 * n) + 3)) hC dL_law_418 (nadd (i := 4 * n) (j := 3) rfl rfl) ?_
  refine ldS hC hbx hbl hL hS (i := (4 * n) + 3) rfl (by omega) dL_law_419 ?_
  refine kVw (A := inM b) hC hMd mov_M mov_M hN (rec_M hN) (good_V mv_159 mv_160 mv_161 mw_5 mv_162) hrm.1 hrm.2 ⟨rfl, by decide +kernel, by decide +kernel, show (parseMethodDescriptor yX1_sell.desc).map (fun d => d.parameters.length) = some 3 by decide +kernel⟩ hrR ⟨by show _ ≤ 601024; omega, by show _ ≤ 7293034; omega⟩ hS hA2 hl.1 rfl (Nat.le_of_ble_eq_true rfl) dL_law_420 (fun H locs hN hS hz hk => ?_)
  have hO := hO.kept (hk o hO.lt (ap_Mo hbo))
  have hB := hB.kept (fun k hk1 => hk _ (hB.lt k hk1) (ap_M hab hk1))
  refine lv_istore (lv' := [(6, .int (r)), (5, .int (k9)), (4, .int (nI (4 * n))), (0, .ref (bs)), (1, .ref (a 13)), (2, .ref (b 5)), (3, .ref (o))]) hx hb dL_law_423 hl (by decide) rfl (fun ls hl => ?_)
  refine lv_aload_n hx hb dL_law_425 rfl (lv_at hl 5 rfl) ?_
  refine kV hC hTh mov_M hN (rec_M hN) (good_V mv_64 mv_65 mv_66 mw_5 mv_67) rfl rfl ⟨rfl, by decide +kernel, by decide +kernel, show (parseMethodDescriptor yX1_thrown.desc).map (fun d => d.parameters.length) = some 0 by decide +kernel⟩ ⟨Nat.le_of_ble_eq_true rfl, Nat.le_of_ble_eq_true rfl⟩ ⟨by show _ ≤ 601024; omega, by show _ ≤ 7293034; omega⟩ hl.1 rfl (Nat.le_of_ble_eq_true rfl) dL_law_426 ?_
  refine lv_iload hx hb dL_law_429 (lv_at hl 1 rfl) ?_
  refine lv_icmp_eq (tgt := 436) hx hb dL_law_431 (by decide) (fun c1 => ?_) (fun c1 => ?_)
  · refine lv_iload hx hb dL_law_436 (lv_at hl 1 rfl) ?_
    refine lv_if_ne (tgt := 453) hx hb dL_law_438 (by decide) (fun c2 => ?_) (fun c2 => ?_)
    · refine lv_goto (tgt := 1559) hx hb dL_law_453 (by decide) ?_
      exact W.widen (k := cells + 9) (n := slots + 64) (by omega) (by omega) (kx _ _ _ hB hN hO hS (lv_sub hl [2, 3, 4, 5, 6] rfl))
    · refine lv_aload_n hx hb dL_law_441 rfl (lv_at hl 6 rfl) ?_
      refine lv_iconst (v := 0) hx hb dL_law_442 (by decide) ?_
      refine ldO hC hO dL_law_443 ?_
      refine lv_iload hx hb dL_law_444 (lv_at hl 0 rfl) ?_
      refine lv_i2l (v := r.toInt64) hx hb dL_law_446 rfl ?_
      have hw := he c2
      refine W.lcmp hx hb dL_law_447 ?_
      rw [hw, lg_self]
      refine lv_if_eq (tgt := 453) hx hb dL_law_448 (by decide) (fun c3 => ?_) (fun c3 => ?_)
      · refine lv_goto (tgt := 1559) hx hb dL_law_453 (by decide) ?_
        exact W.widen (k := cells + 9) (n := slots + 64) (by omega) (by omega) (kx _ _ _ hB hN hO hS (lv_sub hl [2, 3, 4, 5, 6] rfl))
      · exfalso; exact c3 rfl
  · exfalso; exact c1 rfl
set_option maxHeartbeats 4000000 in
set_option maxRecDepth 100000 in
theorem lc_pass {p : Program} {l : Launch} {e : Env} {s : State} {m : MethodId} {args : Array Value} {below : List Frame} {meth : Method} {c : Code} {H : Heap} {locs : List Loc} {cells slots : Nat} {Q : State → Prop} {ls : Array Slot} {bs L : Nat} {xs : Nat → Int32} {D : va_G} {cI cQ cL : ClassId} {a b : Nat → Nat} {o : Nat} {S N N' : bS} {w : Int64} {rm : Room} {n : Nat} (hX : LX l p m c s args bs L xs a b o) (hn : 4 * n + 4 ≤ L) (hB : BW D cI cQ a S s H) (hN : MW D cI b N s H) (hO : OW D cL o w s H) (hS : va_S (A0 s) s.heap H locs) (hf : cells + 9 ≤ 601024 ∧ slots + 64 ≤ 7293034) (hl : lv_has ls 9 [(4, .int (nI (4 * n))), (0, .ref (bs)), (1, .ref (a 13)), (2, .ref (b 5)), (3, .ref (o))]) {r : Int32} {S' : bS} {w' : Int64} {k9 : Int32} {T R : Nat} (hHp : Hp l yL_pass cL_pass 4 [(0, 9, 12, 13)] ({ frames := 8, cells := 1, slots := 6, locals := 160 } : Room) (XW D cI cQ cL a S o w) (XW D cI cQ cL a S' o w') (iBO a o) [.ref (a 13), .int (xs ((4 * n) + 1)), .ref (o)] k9) (hI : MI N' T R) (h5 : N' 5 0 = k9) (he : k9 = 0 → w' = r.toInt64) (hMd : Wr l yX1_pass cX1_pass 2 (some .int) rm (MW D cI b N) (MW D cI b N') (inM b) [.ref (b 5), .int (xs ((4 * n) + 1))] (some (.int r)) 0 0) (hrm : rm.cells = 0 ∧ rm.slots = 0) (hrR : rm.frames + 1 ≤ 11 ∧ 8 + (2 + 11) + rm.locals ≤ 390) (kx : ∀ (H1 : Heap) (locs1 : List Loc) (ls1 : Array Slot), BW D cI cQ a S' s H1 → MW D cI b N' s H1 → OW D cL o w' s H1 → va_S (A0 s) s.heap H1 locs1 → lv_has ls1 9 [(4, .int (nI (4 * n))), (0, .ref (bs)), (1, .ref (a 13)), (2, .ref (b 5)), (3, .ref (o))] → W p l e room_1 s m args below meth c H1 locs1 (cells + 9) (slots + 64) Q (F0 m 1559 ls1 [])) : W p l e room_1 s m args below meth c H locs cells slots Q (F0 m 456 ls []) := by
  obtain ⟨hC, hl9, hbx, hbl, hL, hZ, hZH, hA1, hA2, hA3, hab, hao, hbo⟩ := hX
  have hx := hC.1
  have hb := hC.2.1
  have hf1 := hf.1
  have hf2 := hf.2
  have hTh : Rd l yX1_thrown cX1_thrown 1 (some .int) ({ frames := 0, cells := 0, slots := 0, locals := 0 } : Room) (MW D cI b N') [.ref (b 5)] (.int k9) := by rw [← h5]; exact c_X1_thrown l D cI b N' hI
  refine lv_aload_n hx hb dL_law_456 rfl (lv_at hl 2 rfl) ?_
  refine lv_aload_n hx hb dL_law_457 rfl (lv_at hl 1 rfl) ?_
  refine lv_iload hx hb dL_law_458 (lv_at hl 0 rfl) ?_
  refine lv_iconst (v := 1) hx hb dL_law_460 (by decide) ?_
  refine xadd (v := nI ((4 * n) + 1)) hC dL_law_461 (nadd (i := 4 * n) (j := 1) rfl rfl) ?_
  refine ldS hC hbx hbl hL hS (i := (4 * n) + 1) rfl (by omega) dL_law_462 ?_
  refine lv_aload_n hx hb dL_law_463 rfl (lv_at hl 4 rfl) ?_
  refine kHp hC hHp mov_X mov_X ⟨hB, hO⟩ hZ (hZH.kept hS.2.1 |>.narrow (fun _ z => z.elim)) (good_SW mv_167 mv_168 mv_33 mv_169) rfl rfl ⟨by decide +kernel, by decide +kernel, show (parseMethodDescriptor yL_pass.desc).map (fun d => d.parameters.length) = some 3 by decide +kernel⟩ ⟨Nat.le_of_ble_eq_true rfl, Nat.le_of_ble_eq_true rfl⟩ ⟨by show _ ≤ 601024; omega, by show _ ≤ 7293034; omega⟩ hS (fun q z => z.elim (hA1 q) (fun e => by rw [e]; exact hA3)) hl.1 rfl (Nat.le_of_ble_eq_true rfl) dL_law_464 (fun H locs hBO hS hk => ?_)
  obtain ⟨hB, hO⟩ := hBO
  have hN := hN.kept (fun k hk1 => hk _ (hN.lt k hk1) (ap_BO hab hbo hk1))
  refine lv_istore (lv' := [(5, .int (k9)), (4, .int (nI (4 * n))), (0, .ref (bs)), (1, .ref (a 13)), (2, .ref (b 5)), (3, .ref (o))]) hx hb dL_law_467 hl (by decide) rfl (fun ls hl => ?_)
  refine lv_aload_n hx hb dL_law_469 rfl (lv_at hl 4 rfl) ?_
  refine lv_aload_n hx hb dL_law_470 rfl (lv_at hl 2 rfl) ?_
  refine lv_iload hx hb dL_law_471 (lv_at hl 1 rfl) ?_
  refine lv_iconst (v := 1) hx hb dL_law_473 (by decide) ?_
  refine xadd (v := nI ((4 * n) + 1)) hC dL_law_474 (nadd (i := 4 * n) (j := 1) rfl rfl) ?_
  refine ldS hC hbx hbl hL hS (i := (4 * n) + 1) rfl (by omega) dL_law_475 ?_
  refine kVw (A := inM b) hC hMd mov_M mov_M hN (rec_M hN) (good_V mv_185 mv_186 mv_187 mw_5 mv_188) hrm.1 hrm.2 ⟨rfl, by decide +kernel, by decide +kernel, show (parseMethodDescriptor yX1_pass.desc).map (fun d => d.parameters.length) = some 1 by decide +kernel⟩ hrR ⟨by show _ ≤ 601024; omega, by show _ ≤ 7293034; omega⟩ hS hA2 hl.1 rfl (Nat.le_of_ble_eq_true rfl) dL_law_476 (fun H locs hN hS hz hk => ?_)
  have hO := hO.kept (hk o hO.lt (ap_Mo hbo))
  have hB := hB.kept (fun k hk1 => hk _ (hB.lt k hk1) (ap_M hab hk1))
  refine lv_istore (lv' := [(6, .int (r)), (5, .int (k9)), (4, .int (nI (4 * n))), (0, .ref (bs)), (1, .ref (a 13)), (2, .ref (b 5)), (3, .ref (o))]) hx hb dL_law_479 hl (by decide) rfl (fun ls hl => ?_)
  refine lv_aload_n hx hb dL_law_481 rfl (lv_at hl 5 rfl) ?_
  refine kV hC hTh mov_M hN (rec_M hN) (good_V mv_64 mv_65 mv_66 mw_5 mv_67) rfl rfl ⟨rfl, by decide +kernel, by decide +kernel, show (parseMethodDescriptor yX1_thrown.desc).map (fun d => d.parameters.length) = some 0 by decide +kernel⟩ ⟨Nat.le_of_ble_eq_true rfl, Nat.le_of_ble_eq_true rfl⟩ ⟨by show _ ≤ 601024; omega, by show _ ≤ 7293034; omega⟩ hl.1 rfl (Nat.le_of_ble_eq_true rfl) dL_law_482 ?_
  refine lv_iload hx hb dL_law_485 (lv_at hl 1 rfl) ?_
  refine lv_icmp_eq (tgt := 492) hx hb dL_law_487 (by decide) (fun c1 => ?_) (fun c1 => ?_)
  · refine lv_iload hx hb dL_law_492 (lv_at hl 1 rfl) ?_
    refine lv_if_ne (tgt := 509) hx hb dL_law_494 (by decide) (fun c2 => ?_) (fun c2 => ?_)
    · refine lv_goto (tgt := 1559) hx hb dL_law_509 (by decide) ?_
      exact W.widen (k := cells + 9) (n := slots + 64) (by omega) (by omega) (kx _ _ _ hB hN hO hS (lv_sub hl [2, 3, 4, 5, 6] rfl))
    · refine lv_aload_n hx hb dL_law_497 rfl (lv_at hl 6 rfl) ?_
      refine lv_iconst (v := 0) hx hb dL_law_498 (by decide) ?_
      refine ldO hC hO dL_law_499 ?_
      refine lv_iload hx hb dL_law_500 (lv_at hl 0 rfl) ?_
      refine lv_i2l (v := r.toInt64) hx hb dL_law_502 rfl ?_
      have hw := he c2
      refine W.lcmp hx hb dL_law_503 ?_
      rw [hw, lg_self]
      refine lv_if_eq (tgt := 509) hx hb dL_law_504 (by decide) (fun c3 => ?_) (fun c3 => ?_)
      · refine lv_goto (tgt := 1559) hx hb dL_law_509 (by decide) ?_
        exact W.widen (k := cells + 9) (n := slots + 64) (by omega) (by omega) (kx _ _ _ hB hN hO hS (lv_sub hl [2, 3, 4, 5, 6] rfl))
      · exfalso; exact c3 rfl
  · exfalso; exact c1 rfl
set_option maxHeartbeats 4000000 in
set_option maxRecDepth 100000 in
theorem lc_second {p : Program} {l : Launch} {e : Env} {s : State} {m : MethodId} {args : Array Value} {below : List Frame} {meth : Method} {c : Code} {H : Heap} {locs : List Loc} {cells slots : Nat} {Q : State → Prop} {ls : Array Slot} {bs L : Nat} {xs : Nat → Int32} {D : va_G} {cI cQ cL : ClassId} {a b : Nat → Nat} {o : Nat} {S N N' : bS} {w : Int64} {rm : Room} {n : Nat} (hX : LX l p m c s args bs L xs a b o) (hn : 4 * n + 4 ≤ L) (hB : BW D cI cQ a S s H) (hN : MW D cI b N s H) (hO : OW D cL o w s H) (hS : va_S (A0 s) s.heap H locs) (hf : cells + 9 ≤ 601024 ∧ slots + 64 ≤ 7293034) (hl : lv_has ls 9 [(4, .int (nI (4 * n))), (0, .ref (bs)), (1, .ref (a 13)), (2, .ref (b 5)), (3, .ref (o))]) {r : Int32} (hBd : Rd l yX0_second cX0_second 1 (some .int) ({ frames := 0, cells := 0, slots := 0, locals := 0 } : Room) (BW D cI cQ a S) [.ref (a 13)] (.int r)) (hMd : Wr l yX1_second cX1_second 1 (some .int) rm (MW D cI b N) (MW D cI b N') (inM b) [.ref (b 5)] (some (.int r)) 0 0) (hrm : rm.cells = 0 ∧ rm.slots = 0) (hrR : rm.frames + 1 ≤ 11 ∧ 8 + (1 + 11) + rm.locals ≤ 390) (kx : ∀ (H1 : Heap) (locs1 : List Loc) (ls1 : Array Slot), BW D cI cQ a S s H1 → MW D cI b N' s H1 → OW D cL o w s H1 → va_S (A0 s) s.heap H1 locs1 → lv_has ls1 9 [(4, .int (nI (4 * n))), (0, .ref (bs)), (1, .ref (a 13)), (2, .ref (b 5)), (3, .ref (o))] → W p l e room_1 s m args below meth c H1 locs1 (cells + 9) (slots + 64) Q (F0 m 1559 ls1 [])) : W p l e room_1 s m args below meth c H locs cells slots Q (F0 m 512 ls []) := by
  obtain ⟨hC, hl9, hbx, hbl, hL, hZ, hZH, hA1, hA2, hA3, hab, hao, hbo⟩ := hX
  have hx := hC.1
  have hb := hC.2.1
  have hf1 := hf.1
  have hf2 := hf.2
  refine lv_aload_n hx hb dL_law_512 rfl (lv_at hl 2 rfl) ?_
  refine kV hC hBd mov_B hB (rec_B hB) (good_V mv_197 mv_198 mv_199 mw_2 mv_200) rfl rfl ⟨rfl, by decide +kernel, by decide +kernel, show (parseMethodDescriptor yX0_second.desc).map (fun d => d.parameters.length) = some 0 by decide +kernel⟩ ⟨Nat.le_of_ble_eq_true rfl, Nat.le_of_ble_eq_true rfl⟩ ⟨by show _ ≤ 601024; omega, by show _ ≤ 7293034; omega⟩ hl.1 rfl (Nat.le_of_ble_eq_true rfl) dL_law_513 ?_
  refine lv_aload_n hx hb dL_law_516 rfl (lv_at hl 3 rfl) ?_
  refine kVw (A := inM b) hC hMd mov_M mov_M hN (rec_M hN) (good_V mv_201 mv_202 mv_203 mw_5 mv_204) hrm.1 hrm.2 ⟨rfl, by decide +kernel, by decide +kernel, show (parseMethodDescriptor yX1_second.desc).map (fun d => d.parameters.length) = some 0 by decide +kernel⟩ hrR ⟨by show _ ≤ 601024; omega, by show _ ≤ 7293034; omega⟩ hS hA2 hl.1 rfl (Nat.le_of_ble_eq_true rfl) dL_law_517 (fun H locs hN hS hz hk => ?_)
  have hO := hO.kept (hk o hO.lt (ap_Mo hbo))
  have hB := hB.kept (fun k hk1 => hk _ (hB.lt k hk1) (ap_M hab hk1))
  refine lv_icmp_eq (tgt := 1559) hx hb dL_law_520 (by decide) (fun c1 => ?_) (fun c1 => ?_)
  · exact W.widen (k := cells + 9) (n := slots + 64) (by omega) (by omega) (kx _ _ _ hB hN hO hS (lv_sub hl [0, 1, 2, 3, 4] rfl))
  · exfalso; exact c1 rfl
set_option maxHeartbeats 4000000 in
set_option maxRecDepth 100000 in
theorem lc_towers {p : Program} {l : Launch} {e : Env} {s : State} {m : MethodId} {args : Array Value} {below : List Frame} {meth : Method} {c : Code} {H : Heap} {locs : List Loc} {cells slots : Nat} {Q : State → Prop} {ls : Array Slot} {bs L : Nat} {xs : Nat → Int32} {D : va_G} {cI cQ cL : ClassId} {a b : Nat → Nat} {o : Nat} {S N N' : bS} {w : Int64} {rm : Room} {n : Nat} (hX : LX l p m c s args bs L xs a b o) (hn : 4 * n + 4 ≤ L) (hB : BW D cI cQ a S s H) (hN : MW D cI b N s H) (hO : OW D cL o w s H) (hS : va_S (A0 s) s.heap H locs) (hf : cells + 9 ≤ 601024 ∧ slots + 64 ≤ 7293034) (hl : lv_has ls 9 [(4, .int (nI (4 * n))), (0, .ref (bs)), (1, .ref (a 13)), (2, .ref (b 5)), (3, .ref (o))]) {r : Int32} (hBd : Rd l yX0_towers cX0_towers 1 (some .int) ({ frames := 0, cells := 0, slots := 0, locals := 0 } : Room) (BW D cI cQ a S) [.ref (a 13)] (.int r)) (hMd : Wr l yX1_towers cX1_towers 1 (some .int) rm (MW D cI b N) (MW D cI b N') (inM b) [.ref (b 5)] (some (.int r)) 0 0) (hrm : rm.cells = 0 ∧ rm.slots = 0) (hrR : rm.frames + 1 ≤ 11 ∧ 8 + (1 + 11) + rm.locals ≤ 390) (kx : ∀ (H1 : Heap) (locs1 : List Loc) (ls1 : Array Slot), BW D cI cQ a S s H1 → MW D cI b N' s H1 → OW D cL o w s H1 → va_S (A0 s) s.heap H1 locs1 → lv_has ls1 9 [(4, .int (nI (4 * n))), (0, .ref (bs)), (1, .ref (a 13)), (2, .ref (b 5)), (3, .ref (o))] → W p l e room_1 s m args below meth c H1 locs1 (cells + 9) (slots + 64) Q (F0 m 1559 ls1 [])) : W p l e room_1 s m args below meth c H locs cells slots Q (F0 m 525 ls []) := by
  obtain ⟨hC, hl9, hbx, hbl, hL, hZ, hZH, hA1, hA2, hA3, hab, hao, hbo⟩ := hX
  have hx := hC.1
  have hb := hC.2.1
  have hf1 := hf.1
  have hf2 := hf.2
  refine lv_aload_n hx hb dL_law_525 rfl (lv_at hl 2 rfl) ?_
  refine kV hC hBd mov_B hB (rec_B hB) (good_V mv_209 mv_210 mv_211 mw_2 mv_212) rfl rfl ⟨rfl, by decide +kernel, by decide +kernel, show (parseMethodDescriptor yX0_towers.desc).map (fun d => d.parameters.length) = some 0 by decide +kernel⟩ ⟨Nat.le_of_ble_eq_true rfl, Nat.le_of_ble_eq_true rfl⟩ ⟨by show _ ≤ 601024; omega, by show _ ≤ 7293034; omega⟩ hl.1 rfl (Nat.le_of_ble_eq_true rfl) dL_law_526 ?_
  refine lv_aload_n hx hb dL_law_529 rfl (lv_at hl 3 rfl) ?_
  refine kVw (A := inM b) hC hMd mov_M mov_M hN (rec_M hN) (good_V mv_213 mv_214 mv_215 mw_5 mv_216) hrm.1 hrm.2 ⟨rfl, by decide +kernel, by decide +kernel, show (parseMethodDescriptor yX1_towers.desc).map (fun d => d.parameters.length) = some 0 by decide +kernel⟩ hrR ⟨by show _ ≤ 601024; omega, by show _ ≤ 7293034; omega⟩ hS hA2 hl.1 rfl (Nat.le_of_ble_eq_true rfl) dL_law_530 (fun H locs hN hS hz hk => ?_)
  have hO := hO.kept (hk o hO.lt (ap_Mo hbo))
  have hB := hB.kept (fun k hk1 => hk _ (hB.lt k hk1) (ap_M hab hk1))
  refine lv_icmp_eq (tgt := 1559) hx hb dL_law_533 (by decide) (fun c1 => ?_) (fun c1 => ?_)
  · exact W.widen (k := cells + 9) (n := slots + 64) (by omega) (by omega) (kx _ _ _ hB hN hO hS (lv_sub hl [0, 1, 2, 3, 4] rfl))
  · exfalso; exact c1 rfl
set_option maxHeartbeats 4000000 in
set_option maxRecDepth 100000 in
theorem lc_silenceOf {p : Program} {l : Launch} {e : Env} {s : State} {m : MethodId} {args : Array Value} {below : List Frame} {meth : Method} {c : Code} {H : Heap} {locs : List Loc} {cells slots : Nat} {Q : State → Prop} {ls : Array Slot} {bs L : Nat} {xs : Nat → Int32} {D : va_G} {cI cQ cL : ClassId} {a b : Nat → Nat} {o : Nat} {S N N' : bS} {w : Int64} {rm : Room} {n : Nat} (hX : LX l p m c s args bs L xs a b o) (hn : 4 * n + 4 ≤ L) (hB : BW D cI cQ a S s H) (hN : MW D cI b N s H) (hO : OW D cL o w s H) (hS : va_S (A0 s) s.heap H locs) (hf : cells + 9 ≤ 601024 ∧ slots + 64 ≤ 7293034) (hl : lv_has ls 9 [(4, .int (nI (4 * n))), (0, .ref (bs)), (1, .ref (a 13)), (2, .ref (b 5)), (3, .ref (o))]) {r : Int32} {S' : bS} {w' : Int64} {k9 : Int32} {T R : Nat} (hHp : Hp l yL_silenceOf cL_silenceOf 4 [(0, 9, 12, 24)] ({ frames := 8, cells := 1, slots := 6, locals := 160 } : Room) (XW D cI cQ cL a S o w) (XW D cI cQ cL a S' o w') (iBO a o) [.ref (a 13), .int (xs ((4 * n) + 1)), .ref (o)] k9) (hI : MI N' T R) (h5 : N' 5 0 = k9) (he : k9 = 0 → w' = r.toInt64) (hMd : Wr l yX1_silenceOf cX1_silenceOf 2 (some .int) rm (MW D cI b N) (MW D cI b N') (inM b) [.ref (b 5), .int (xs ((4 * n) + 1))] (some (.int r)) 0 0) (hrm : rm.cells = 0 ∧ rm.slots = 0) (hrR : rm.frames + 1 ≤ 11 ∧ 8 + (2 + 11) + rm.locals ≤ 390) (kx : ∀ (H1 : Heap) (locs1 : List Loc) (ls1 : Array Slot), BW D cI cQ a S' s H1 → MW D cI b N' s H1 → OW D cL o w' s H1 → va_S (A0 s) s.heap H1 locs1 → lv_has ls1 9 [(4, .int (nI (4 * n))), (0, .ref (bs)), (1, .ref (a 13)), (2, .ref (b 5)), (3, .ref (o))] → W p l e room_1 s m args below meth c H1 locs1 (cells + 9) (slots + 64) Q (F0 m 1559 ls1 [])) : W p l e room_1 s m args below meth c H locs cells slots Q (F0 m 538 ls []) := by
  obtain ⟨hC, hl9, hbx, hbl, hL, hZ, hZH, hA1, hA2, hA3, hab, hao, hbo⟩ := hX
  have hx := hC.1
  have hb := hC.2.1
  have hf1 := hf.1
  have hf2 := hf.2
  have hTh : Rd l yX1_thrown cX1_thrown 1 (some .int) ({ frames := 0, cells := 0, slots := 0, locals := 0 } : Room) (MW D cI b N') [.ref (b 5)] (.int k9) := by rw [← h5]; exact c_X1_thrown l D cI b N' hI
  refine lv_aload_n hx hb dL_law_538 rfl (lv_at hl 2 rfl) ?_
  refine lv_aload_n hx hb dL_law_539 rfl (lv_at hl 1 rfl) ?_
  refine lv_iload hx hb dL_law_540 (lv_at hl 0 rfl) ?_
  refine lv_iconst (v := 1) hx hb dL_law_542 (by decide) ?_
  refine xadd (v := nI ((4 * n) + 1)) hC dL_law_543 (nadd (i := 4 * n) (j := 1) rfl rfl) ?_
  refine ldS hC hbx hbl hL hS (i := (4 * n) + 1) rfl (by omega) dL_law_544 ?_
  refine lv_aload_n hx hb dL_law_545 rfl (lv_at hl 4 rfl) ?_
  refine kHp hC hHp mov_X mov_X ⟨hB, hO⟩ hZ (hZH.kept hS.2.1 |>.narrow (fun _ z => z.elim)) (good_SW mv_217 mv_218 mv_33 mv_219) rfl rfl ⟨by decide +kernel, by decide +kernel, show (parseMethodDescriptor yL_silenceOf.desc).map (fun d => d.parameters.length) = some 3 by decide +kernel⟩ ⟨Nat.le_of_ble_eq_true rfl, Nat.le_of_ble_eq_true rfl⟩ ⟨by show _ ≤ 601024; omega, by show _ ≤ 7293034; omega⟩ hS (fun q z => z.elim (hA1 q) (fun e => by rw [e]; exact hA3)) hl.1 rfl (Nat.le_of_ble_eq_true rfl) dL_law_546 (fun H locs hBO hS hk => ?_)
  obtain ⟨hB, hO⟩ := hBO
  have hN := hN.kept (fun k hk1 => hk _ (hN.lt k hk1) (ap_BO hab hbo hk1))
  refine lv_istore (lv' := [(5, .int (k9)), (4, .int (nI (4 * n))), (0, .ref (bs)), (1, .ref (a 13)), (2, .ref (b 5)), (3, .ref (o))]) hx hb dL_law_549 hl (by decide) rfl (fun ls hl => ?_)
  refine lv_aload_n hx hb dL_law_551 rfl (lv_at hl 4 rfl) ?_
  refine lv_aload_n hx hb dL_law_552 rfl (lv_at hl 2 rfl) ?_
  refine lv_iload hx hb dL_law_553 (lv_at hl 1 rfl) ?_
  refine lv_iconst (v := 1) hx hb dL_law_555 (by decide) ?_
  refine xadd (v := nI ((4 * n) + 1)) hC dL_law_556 (nadd (i := 4 * n) (j := 1) rfl rfl) ?_
  refine ldS hC hbx hbl hL hS (i := (4 * n) + 1) rfl (by omega) dL_law_557 ?_
  refine kVw (A := inM b) hC hMd mov_M mov_M hN (rec_M hN) (good_V mv_224 mv_225 mv_226 mw_5 mv_227) hrm.1 hrm.2 ⟨rfl, by decide +kernel, by decide +kernel, show (parseMethodDescriptor yX1_silenceOf.desc).map (fun d => d.parameters.length) = some 1 by decide +kernel⟩ hrR ⟨by show _ ≤ 601024; omega, by show _ ≤ 7293034; omega⟩ hS hA2 hl.1 rfl (Nat.le_of_ble_eq_true rfl) dL_law_558 (fun H locs hN hS hz hk => ?_)
  have hO := hO.kept (hk o hO.lt (ap_Mo hbo))
  have hB := hB.kept (fun k hk1 => hk _ (hB.lt k hk1) (ap_M hab hk1))
  refine lv_istore (lv' := [(6, .int (r)), (5, .int (k9)), (4, .int (nI (4 * n))), (0, .ref (bs)), (1, .ref (a 13)), (2, .ref (b 5)), (3, .ref (o))]) hx hb dL_law_561 hl (by decide) rfl (fun ls hl => ?_)
  refine lv_aload_n hx hb dL_law_563 rfl (lv_at hl 5 rfl) ?_
  refine kV hC hTh mov_M hN (rec_M hN) (good_V mv_64 mv_65 mv_66 mw_5 mv_67) rfl rfl ⟨rfl, by decide +kernel, by decide +kernel, show (parseMethodDescriptor yX1_thrown.desc).map (fun d => d.parameters.length) = some 0 by decide +kernel⟩ ⟨Nat.le_of_ble_eq_true rfl, Nat.le_of_ble_eq_true rfl⟩ ⟨by show _ ≤ 601024; omega, by show _ ≤ 7293034; omega⟩ hl.1 rfl (Nat.le_of_ble_eq_true rfl) dL_law_564 ?_
  refine lv_iload hx hb dL_law_567 (lv_at hl 1 rfl) ?_
  refine lv_icmp_eq (tgt := 574) hx hb dL_law_569 (by decide) (fun c1 => ?_) (fun c1 => ?_)
  · refine lv_iload hx hb dL_law_574 (lv_at hl 1 rfl) ?_
    refine lv_if_ne (tgt := 591) hx hb dL_law_576 (by decide) (fun c2 => ?_) (fun c2 => ?_)
    · refine lv_goto (tgt := 1559) hx hb dL_law_591 (by decide) ?_
      exact W.widen (k := cells + 9) (n := slots + 64) (by omega) (by omega) (kx _ _ _ hB hN hO hS (lv_sub hl [2, 3, 4, 5, 6] rfl))
    · refine lv_aload_n hx hb dL_law_579 rfl (lv_at hl 6 rfl) ?_
      refine lv_iconst (v := 0) hx hb dL_law_580 (by decide) ?_
      refine ldO hC hO dL_law_581 ?_
      refine lv_iload hx hb dL_law_582 (lv_at hl 0 rfl) ?_
      refine lv_i2l (v := r.toInt64) hx hb dL_law_584 rfl ?_
      have hw := he c2
      refine W.lcmp hx hb dL_law_585 ?_
      rw [hw, lg_self]
      refine lv_if_eq (tgt := 591) hx hb dL_law_586 (by decide) (fun c3 => ?_) (fun c3 => ?_)
      · refine lv_goto (tgt := 1559) hx hb dL_law_591 (by decide) ?_
        exact W.widen (k := cells + 9) (n := slots + 64) (by omega) (by omega) (kx _ _ _ hB hN hO hS (lv_sub hl [2, 3, 4, 5, 6] rfl))
      · exfalso; exact c3 rfl
  · exfalso; exact c1 rfl
set_option maxHeartbeats 4000000 in
set_option maxRecDepth 100000 in
theorem lc_dovesOn {p : Program} {l : Launch} {e : Env} {s : State} {m : MethodId} {args : Array Value} {below : List Frame} {meth : Method} {c : Code} {H : Heap} {locs : List Loc} {cells slots : Nat} {Q : State → Prop} {ls : Array Slot} {bs L : Nat} {xs : Nat → Int32} {D : va_G} {cI cQ cL : ClassId} {a b : Nat → Nat} {o : Nat} {S N N' : bS} {w : Int64} {rm : Room} {n : Nat} (hX : LX l p m c s args bs L xs a b o) (hn : 4 * n + 4 ≤ L) (hB : BW D cI cQ a S s H) (hN : MW D cI b N s H) (hO : OW D cL o w s H) (hS : va_S (A0 s) s.heap H locs) (hf : cells + 9 ≤ 601024 ∧ slots + 64 ≤ 7293034) (hl : lv_has ls 9 [(4, .int (nI (4 * n))), (0, .ref (bs)), (1, .ref (a 13)), (2, .ref (b 5)), (3, .ref (o))]) {r : Int32} {S' : bS} {w' : Int64} {k9 : Int32} {T R : Nat} (hHp : Hp l yL_dovesOn cL_dovesOn 4 [(0, 9, 12, 24)] ({ frames := 8, cells := 1, slots := 6, locals := 160 } : Room) (XW D cI cQ cL a S o w) (XW D cI cQ cL a S' o w') (iBO a o) [.ref (a 13), .int (xs ((4 * n) + 1)), .ref (o)] k9) (hI : MI N' T R) (h5 : N' 5 0 = k9) (he : k9 = 0 → w' = r.toInt64) (hMd : Wr l yX1_dovesOn cX1_dovesOn 2 (some .int) rm (MW D cI b N) (MW D cI b N') (inM b) [.ref (b 5), .int (xs ((4 * n) + 1))] (some (.int r)) 0 0) (hrm : rm.cells = 0 ∧ rm.slots = 0) (hrR : rm.frames + 1 ≤ 11 ∧ 8 + (2 + 11) + rm.locals ≤ 390) (kx : ∀ (H1 : Heap) (locs1 : List Loc) (ls1 : Array Slot), BW D cI cQ a S' s H1 → MW D cI b N' s H1 → OW D cL o w' s H1 → va_S (A0 s) s.heap H1 locs1 → lv_has ls1 9 [(4, .int (nI (4 * n))), (0, .ref (bs)), (1, .ref (a 13)), (2, .ref (b 5)), (3, .ref (o))] → W p l e room_1 s m args below meth c H1 locs1 (cells + 9) (slots + 64) Q (F0 m 1559 ls1 [])) : W p l e room_1 s m args below meth c H locs cells slots Q (F0 m 594 ls []) := by
  obtain ⟨hC, hl9, hbx, hbl, hL, hZ, hZH, hA1, hA2, hA3, hab, hao, hbo⟩ := hX
  have hx := hC.1
  have hb := hC.2.1
  have hf1 := hf.1
  have hf2 := hf.2
  have hTh : Rd l yX1_thrown cX1_thrown 1 (some .int) ({ frames := 0, cells := 0, slots := 0, locals := 0 } : Room) (MW D cI b N') [.ref (b 5)] (.int k9) := by rw [← h5]; exact c_X1_thrown l D cI b N' hI
  refine lv_aload_n hx hb dL_law_594 rfl (lv_at hl 2 rfl) ?_
  refine lv_aload_n hx hb dL_law_595 rfl (lv_at hl 1 rfl) ?_
  refine lv_iload hx hb dL_law_596 (lv_at hl 0 rfl) ?_
  refine lv_iconst (v := 1) hx hb dL_law_598 (by decide) ?_
  refine xadd (v := nI ((4 * n) + 1)) hC dL_law_599 (nadd (i := 4 * n) (j := 1) rfl rfl) ?_
  refine ldS hC hbx hbl hL hS (i := (4 * n) + 1) rfl (by omega) dL_law_600 ?_
  refine lv_aload_n hx hb dL_law_601 rfl (lv_at hl 4 rfl) ?_
  refine kHp hC hHp mov_X mov_X ⟨hB, hO⟩ hZ (hZH.kept hS.2.1 |>.narrow (fun _ z => z.elim)) (good_SW mv_228 mv_229 mv_33 mv_230) rfl rfl ⟨by decide +kernel, by decide +kernel, show (parseMethodDescriptor yL_dovesOn.desc).map (fun d => d.parameters.length) = some 3 by decide +kernel⟩ ⟨Nat.le_of_ble_eq_true rfl, Nat.le_of_ble_eq_true rfl⟩ ⟨by show _ ≤ 601024; omega, by show _ ≤ 7293034; omega⟩ hS (fun q z => z.elim (hA1 q) (fun e => by rw [e]; exact hA3)) hl.1 rfl (Nat.le_of_ble_eq_true rfl) dL_law_602 (fun H locs hBO hS hk => ?_)
  obtain ⟨hB, hO⟩ := hBO
  have hN := hN.kept (fun k hk1 => hk _ (hN.lt k hk1) (ap_BO hab hbo hk1))
  refine lv_istore (lv' := [(5, .int (k9)), (4, .int (nI (4 * n))), (0, .ref (bs)), (1, .ref (a 13)), (2, .ref (b 5)), (3, .ref (o))]) hx hb dL_law_605 hl (by decide) rfl (fun ls hl => ?_)
  refine lv_aload_n hx hb dL_law_607 rfl (lv_at hl 4 rfl) ?_
  refine lv_aload_n hx hb dL_law_608 rfl (lv_at hl 2 rfl) ?_
  refine lv_iload hx hb dL_law_609 (lv_at hl 1 rfl) ?_
  refine lv_iconst (v := 1) hx hb dL_law_611 (by decide) ?_
  refine xadd (v := nI ((4 * n) + 1)) hC dL_law_612 (nadd (i := 4 * n) (j := 1) rfl rfl) ?_
  refine ldS hC hbx hbl hL hS (i := (4 * n) + 1) rfl (by omega) dL_law_613 ?_
  refine kVw (A := inM b) hC hMd mov_M mov_M hN (rec_M hN) (good_V mv_235 mv_236 mv_237 mw_5 mv_238) hrm.1 hrm.2 ⟨rfl, by decide +kernel, by decide +kernel, show (parseMethodDescriptor yX1_dovesOn.desc).map (fun d => d.parameters.length) = some 1 by decide +kernel⟩ hrR ⟨by show _ ≤ 601024; omega, by show _ ≤ 7293034; omega⟩ hS hA2 hl.1 rfl (Nat.le_of_ble_eq_true rfl) dL_law_614 (fun H locs hN hS hz hk => ?_)
  have hO := hO.kept (hk o hO.lt (ap_Mo hbo))
  have hB := hB.kept (fun k hk1 => hk _ (hB.lt k hk1) (ap_M hab hk1))
  refine lv_istore (lv' := [(6, .int (r)), (5, .int (k9)), (4, .int (nI (4 * n))), (0, .ref (bs)), (1, .ref (a 13)), (2, .ref (b 5)), (3, .ref (o))]) hx hb dL_law_617 hl (by decide) rfl (fun ls hl => ?_)
  refine lv_aload_n hx hb dL_law_619 rfl (lv_at hl 5 rfl) ?_
  refine kV hC hTh mov_M hN (rec_M hN) (good_V mv_64 mv_65 mv_66 mw_5 mv_67) rfl rfl ⟨rfl, by decide +kernel, by decide +kernel, show (parseMethodDescriptor yX1_thrown.desc).map (fun d => d.parameters.length) = some 0 by decide +kernel⟩ ⟨Nat.le_of_ble_eq_true rfl, Nat.le_of_ble_eq_true rfl⟩ ⟨by show _ ≤ 601024; omega, by show _ ≤ 7293034; omega⟩ hl.1 rfl (Nat.le_of_ble_eq_true rfl) dL_law_620 ?_
  refine lv_iload hx hb dL_law_623 (lv_at hl 1 rfl) ?_
  refine lv_icmp_eq (tgt := 630) hx hb dL_law_625 (by decide) (fun c1 => ?_) (fun c1 => ?_)
  · refine lv_iload hx hb dL_law_630 (lv_at hl 1 rfl) ?_
    refine lv_if_ne (tgt := 647) hx hb dL_law_632 (by decide) (fun c2 => ?_) (fun c2 => ?_)
    · refine lv_goto (tgt := 1559) hx hb dL_law_647 (by decide) ?_
      exact W.widen (k := cells + 9) (n := slots + 64) (by omega) (by omega) (kx _ _ _ hB hN hO hS (lv_sub hl [2, 3, 4, 5, 6] rfl))
    · refine lv_aload_n hx hb dL_law_635 rfl (lv_at hl 6 rfl) ?_
      refine lv_iconst (v := 0) hx hb dL_law_636 (by decide) ?_
      refine ldO hC hO dL_law_637 ?_
      refine lv_iload hx hb dL_law_638 (lv_at hl 0 rfl) ?_
      refine lv_i2l (v := r.toInt64) hx hb dL_law_640 rfl ?_
      have hw := he c2
      refine W.lcmp hx hb dL_law_641 ?_
      rw [hw, lg_self]
      refine lv_if_eq (tgt := 647) hx hb dL_law_642 (by decide) (fun c3 => ?_) (fun c3 => ?_)
      · refine lv_goto (tgt := 1559) hx hb dL_law_647 (by decide) ?_
        exact W.widen (k := cells + 9) (n := slots + 64) (by omega) (by omega) (kx _ _ _ hB hN hO hS (lv_sub hl [2, 3, 4, 5, 6] rfl))
      · exfalso; exact c3 rfl
  · exfalso; exact c1 rfl
set_option maxHeartbeats 4000000 in
set_option maxRecDepth 100000 in
theorem lc_priceOf {p : Program} {l : Launch} {e : Env} {s : State} {m : MethodId} {args : Array Value} {below : List Frame} {meth : Method} {c : Code} {H : Heap} {locs : List Loc} {cells slots : Nat} {Q : State → Prop} {ls : Array Slot} {bs L : Nat} {xs : Nat → Int32} {D : va_G} {cI cQ cL : ClassId} {a b : Nat → Nat} {o : Nat} {S N N' : bS} {w : Int64} {rm : Room} {n : Nat} (hX : LX l p m c s args bs L xs a b o) (hn : 4 * n + 4 ≤ L) (hB : BW D cI cQ a S s H) (hN : MW D cI b N s H) (hO : OW D cL o w s H) (hS : va_S (A0 s) s.heap H locs) (hf : cells + 9 ≤ 601024 ∧ slots + 64 ≤ 7293034) (hl : lv_has ls 9 [(4, .int (nI (4 * n))), (0, .ref (bs)), (1, .ref (a 13)), (2, .ref (b 5)), (3, .ref (o))]) {r : Int32} {S' : bS} {w' : Int64} {k9 : Int32} {T R : Nat} (hHp : Hp l yL_priceOf cL_priceOf 4 [(0, 9, 12, 24)] ({ frames := 8, cells := 1, slots := 6, locals := 160 } : Room) (XW D cI cQ cL a S o w) (XW D cI cQ cL a S' o w') (iBO a o) [.ref (a 13), .int (xs ((4 * n) + 1)), .ref (o)] k9) (hI : MI N' T R) (h5 : N' 5 0 = k9) (he : k9 = 0 → w' = r.toInt64) (hMd : Wr l yX1_priceOf cX1_priceOf 2 (some .int) rm (MW D cI b N) (MW D cI b N') (inM b) [.ref (b 5), .int (xs ((4 * n) + 1))] (some (.int r)) 0 0) (hrm : rm.cells = 0 ∧ rm.slots = 0) (hrR : rm.frames + 1 ≤ 11 ∧ 8 + (2 + 11) + rm.locals ≤ 390) (kx : ∀ (H1 : Heap) (locs1 : List Loc) (ls1 : Array Slot), BW D cI cQ a S' s H1 → MW D cI b N' s H1 → OW D cL o w' s H1 → va_S (A0 s) s.heap H1 locs1 → lv_has ls1 9 [(4, .int (nI (4 * n))), (0, .ref (bs)), (1, .ref (a 13)), (2, .ref (b 5)), (3, .ref (o))] → W p l e room_1 s m args below meth c H1 locs1 (cells + 9) (slots + 64) Q (F0 m 1559 ls1 [])) : W p l e room_1 s m args below meth c H locs cells slots Q (F0 m 650 ls []) := by
  obtain ⟨hC, hl9, hbx, hbl, hL, hZ, hZH, hA1, hA2, hA3, hab, hao, hbo⟩ := hX
  have hx := hC.1
  have hb := hC.2.1
  have hf1 := hf.1
  have hf2 := hf.2
  have hTh : Rd l yX1_thrown cX1_thrown 1 (some .int) ({ frames := 0, cells := 0, slots := 0, locals := 0 } : Room) (MW D cI b N') [.ref (b 5)] (.int k9) := by rw [← h5]; exact c_X1_thrown l D cI b N' hI
  refine lv_aload_n hx hb dL_law_650 rfl (lv_at hl 2 rfl) ?_
  refine lv_aload_n hx hb dL_law_651 rfl (lv_at hl 1 rfl) ?_
  refine lv_iload hx hb dL_law_652 (lv_at hl 0 rfl) ?_
  refine lv_iconst (v := 1) hx hb dL_law_654 (by decide) ?_
  refine xadd (v := nI ((4 * n) + 1)) hC dL_law_655 (nadd (i := 4 * n) (j := 1) rfl rfl) ?_
  refine ldS hC hbx hbl hL hS (i := (4 * n) + 1) rfl (by omega) dL_law_656 ?_
  refine lv_aload_n hx hb dL_law_657 rfl (lv_at hl 4 rfl) ?_
  refine kHp hC hHp mov_X mov_X ⟨hB, hO⟩ hZ (hZH.kept hS.2.1 |>.narrow (fun _ z => z.elim)) (good_SW mv_239 mv_240 mv_33 mv_241) rfl rfl ⟨by decide +kernel, by decide +kernel, show (parseMethodDescriptor yL_priceOf.desc).map (fun d => d.parameters.length) = some 3 by decide +kernel⟩ ⟨Nat.le_of_ble_eq_true rfl, Nat.le_of_ble_eq_true rfl⟩ ⟨by show _ ≤ 601024; omega, by show _ ≤ 7293034; omega⟩ hS (fun q z => z.elim (hA1 q) (fun e => by rw [e]; exact hA3)) hl.1 rfl (Nat.le_of_ble_eq_true rfl) dL_law_658 (fun H locs hBO hS hk => ?_)
  obtain ⟨hB, hO⟩ := hBO
  have hN := hN.kept (fun k hk1 => hk _ (hN.lt k hk1) (ap_BO hab hbo hk1))
  refine lv_istore (lv' := [(5, .int (k9)), (4, .int (nI (4 * n))), (0, .ref (bs)), (1, .ref (a 13)), (2, .ref (b 5)), (3, .ref (o))]) hx hb dL_law_661 hl (by decide) rfl (fun ls hl => ?_)
  refine lv_aload_n hx hb dL_law_663 rfl (lv_at hl 4 rfl) ?_
  refine lv_aload_n hx hb dL_law_664 rfl (lv_at hl 2 rfl) ?_
  refine lv_iload hx hb dL_law_665 (lv_at hl 1 rfl) ?_
  refine lv_iconst (v := 1) hx hb dL_law_667 (by decide) ?_
  refine xadd (v := nI ((4 * n) + 1)) hC dL_law_668 (nadd (i := 4 * n) (j := 1) rfl rfl) ?_
  refine ldS hC hbx hbl hL hS (i := (4 * n) + 1) rfl (by omega) dL_law_669 ?_
  refine kVw (A := inM b) hC hMd mov_M mov_M hN (rec_M hN) (good_V mv_246 mv_247 mv_248 mw_5 mv_249) hrm.1 hrm.2 ⟨rfl, by decide +kernel, by decide +kernel, show (parseMethodDescriptor yX1_priceOf.desc).map (fun d => d.parameters.length) = some 1 by decide +kernel⟩ hrR ⟨by show _ ≤ 601024; omega, by show _ ≤ 7293034; omega⟩ hS hA2 hl.1 rfl (Nat.le_of_ble_eq_true rfl) dL_law_670 (fun H locs hN hS hz hk => ?_)
  have hO := hO.kept (hk o hO.lt (ap_Mo hbo))
  have hB := hB.kept (fun k hk1 => hk _ (hB.lt k hk1) (ap_M hab hk1))
  refine lv_istore (lv' := [(6, .int (r)), (5, .int (k9)), (4, .int (nI (4 * n))), (0, .ref (bs)), (1, .ref (a 13)), (2, .ref (b 5)), (3, .ref (o))]) hx hb dL_law_673 hl (by decide) rfl (fun ls hl => ?_)
  refine lv_aload_n hx hb dL_law_675 rfl (lv_at hl 5 rfl) ?_
  refine kV hC hTh mov_M hN (rec_M hN) (good_V mv_64 mv_65 mv_66 mw_5 mv_67) rfl rfl ⟨rfl, by decide +kernel, by decide +kernel, show (parseMethodDescriptor yX1_thrown.desc).map (fun d => d.parameters.length) = some 0 by decide +kernel⟩ ⟨Nat.le_of_ble_eq_true rfl, Nat.le_of_ble_eq_true rfl⟩ ⟨by show _ ≤ 601024; omega, by show _ ≤ 7293034; omega⟩ hl.1 rfl (Nat.le_of_ble_eq_true rfl) dL_law_676 ?_
  refine lv_iload hx hb dL_law_679 (lv_at hl 1 rfl) ?_
  refine lv_icmp_eq (tgt := 686) hx hb dL_law_681 (by decide) (fun c1 => ?_) (fun c1 => ?_)
  · refine lv_iload hx hb dL_law_686 (lv_at hl 1 rfl) ?_
    refine lv_if_ne (tgt := 703) hx hb dL_law_688 (by decide) (fun c2 => ?_) (fun c2 => ?_)
    · refine lv_goto (tgt := 1559) hx hb dL_law_703 (by decide) ?_
      exact W.widen (k := cells + 9) (n := slots + 64) (by omega) (by omega) (kx _ _ _ hB hN hO hS (lv_sub hl [2, 3, 4, 5, 6] rfl))
    · refine lv_aload_n hx hb dL_law_691 rfl (lv_at hl 6 rfl) ?_
      refine lv_iconst (v := 0) hx hb dL_law_692 (by decide) ?_
      refine ldO hC hO dL_law_693 ?_
      refine lv_iload hx hb dL_law_694 (lv_at hl 0 rfl) ?_
      refine lv_i2l (v := r.toInt64) hx hb dL_law_696 rfl ?_
      have hw := he c2
      refine W.lcmp hx hb dL_law_697 ?_
      rw [hw, lg_self]
      refine lv_if_eq (tgt := 703) hx hb dL_law_698 (by decide) (fun c3 => ?_) (fun c3 => ?_)
      · refine lv_goto (tgt := 1559) hx hb dL_law_703 (by decide) ?_
        exact W.widen (k := cells + 9) (n := slots + 64) (by omega) (by omega) (kx _ _ _ hB hN hO hS (lv_sub hl [2, 3, 4, 5, 6] rfl))
      · exfalso; exact c3 rfl
  · exfalso; exact c1 rfl
set_option maxHeartbeats 4000000 in
set_option maxRecDepth 100000 in
theorem lc_secondsUntilStroke {p : Program} {l : Launch} {e : Env} {s : State} {m : MethodId} {args : Array Value} {below : List Frame} {meth : Method} {c : Code} {H : Heap} {locs : List Loc} {cells slots : Nat} {Q : State → Prop} {ls : Array Slot} {bs L : Nat} {xs : Nat → Int32} {D : va_G} {cI cQ cL : ClassId} {a b : Nat → Nat} {o : Nat} {S N N' : bS} {w : Int64} {rm : Room} {n : Nat} (hX : LX l p m c s args bs L xs a b o) (hn : 4 * n + 4 ≤ L) (hB : BW D cI cQ a S s H) (hN : MW D cI b N s H) (hO : OW D cL o w s H) (hS : va_S (A0 s) s.heap H locs) (hf : cells + 9 ≤ 601024 ∧ slots + 64 ≤ 7293034) (hl : lv_has ls 9 [(4, .int (nI (4 * n))), (0, .ref (bs)), (1, .ref (a 13)), (2, .ref (b 5)), (3, .ref (o))]) {r : Int32} {S' : bS} {w' : Int64} {k9 : Int32} {T R : Nat} (hHp : Hp l yL_secondsUntilStroke cL_secondsUntilStroke 4 [(0, 9, 12, 24)] ({ frames := 8, cells := 1, slots := 6, locals := 160 } : Room) (XW D cI cQ cL a S o w) (XW D cI cQ cL a S' o w') (iBO a o) [.ref (a 13), .int (xs ((4 * n) + 1)), .ref (o)] k9) (hI : MI N' T R) (h5 : N' 5 0 = k9) (he : k9 = 0 → w' = r.toInt64) (hMd : Wr l yX1_secondsUntilStroke cX1_secondsUntilStroke 2 (some .int) rm (MW D cI b N) (MW D cI b N') (inM b) [.ref (b 5), .int (xs ((4 * n) + 1))] (some (.int r)) 0 0) (hrm : rm.cells = 0 ∧ rm.slots = 0) (hrR : rm.frames + 1 ≤ 11 ∧ 8 + (2 + 11) + rm.locals ≤ 390) (kx : ∀ (H1 : Heap) (locs1 : List Loc) (ls1 : Array Slot), BW D cI cQ a S' s H1 → MW D cI b N' s H1 → OW D cL o w' s H1 → va_S (A0 s) s.heap H1 locs1 → lv_has ls1 9 [(4, .int (nI (4 * n))), (0, .ref (bs)), (1, .ref (a 13)), (2, .ref (b 5)), (3, .ref (o))] → W p l e room_1 s m args below meth c H1 locs1 (cells + 9) (slots + 64) Q (F0 m 1559 ls1 [])) : W p l e room_1 s m args below meth c H locs cells slots Q (F0 m 706 ls []) := by
  obtain ⟨hC, hl9, hbx, hbl, hL, hZ, hZH, hA1, hA2, hA3, hab, hao, hbo⟩ := hX
  have hx := hC.1
  have hb := hC.2.1
  have hf1 := hf.1
  have hf2 := hf.2
  have hTh : Rd l yX1_thrown cX1_thrown 1 (some .int) ({ frames := 0, cells := 0, slots := 0, locals := 0 } : Room) (MW D cI b N') [.ref (b 5)] (.int k9) := by rw [← h5]; exact c_X1_thrown l D cI b N' hI
  refine lv_aload_n hx hb dL_law_706 rfl (lv_at hl 2 rfl) ?_
  refine lv_aload_n hx hb dL_law_707 rfl (lv_at hl 1 rfl) ?_
  refine lv_iload hx hb dL_law_708 (lv_at hl 0 rfl) ?_
  refine lv_iconst (v := 1) hx hb dL_law_710 (by decide) ?_
  refine xadd (v := nI ((4 * n) + 1)) hC dL_law_711 (nadd (i := 4 * n) (j := 1) rfl rfl) ?_
  refine ldS hC hbx hbl hL hS (i := (4 * n) + 1) rfl (by omega) dL_law_712 ?_
  refine lv_aload_n hx hb dL_law_713 rfl (lv_at hl 4 rfl) ?_
  refine kHp hC hHp mov_X mov_X ⟨hB, hO⟩ hZ (hZH.kept hS.2.1 |>.narrow (fun _ z => z.elim)) (good_SW mv_250 mv_251 mv_33 mv_252) rfl rfl ⟨by decide +kernel, by decide +kernel, show (parseMethodDescriptor yL_secondsUntilStroke.desc).map (fun d => d.parameters.length) = some 3 by decide +kernel⟩ ⟨Nat.le_of_ble_eq_true rfl, Nat.le_of_ble_eq_true rfl⟩ ⟨by show _ ≤ 601024; omega, by show _ ≤ 7293034; omega⟩ hS (fun q z => z.elim (hA1 q) (fun e => by rw [e]; exact hA3)) hl.1 rfl (Nat.le_of_ble_eq_true rfl) dL_law_714 (fun H locs hBO hS hk => ?_)
  obtain ⟨hB, hO⟩ := hBO
  have hN := hN.kept (fun k hk1 => hk _ (hN.lt k hk1) (ap_BO hab hbo hk1))
  refine lv_istore (lv' := [(5, .int (k9)), (4, .int (nI (4 * n))), (0, .ref (bs)), (1, .ref (a 13)), (2, .ref (b 5)), (3, .ref (o))]) hx hb dL_law_717 hl (by decide) rfl (fun ls hl => ?_)
  refine lv_aload_n hx hb dL_law_719 rfl (lv_at hl 4 rfl) ?_
  refine lv_aload_n hx hb dL_law_720 rfl (lv_at hl 2 rfl) ?_
  refine lv_iload hx hb dL_law_721 (lv_at hl 1 rfl) ?_
  refine lv_iconst (v := 1) hx hb dL_law_723 (by decide) ?_
  refine xadd (v := nI ((4 * n) + 1)) hC dL_law_724 (nadd (i := 4 * n) (j := 1) rfl rfl) ?_
  refine ldS hC hbx hbl hL hS (i := (4 * n) + 1) rfl (by omega) dL_law_725 ?_
  refine kVw (A := inM b) hC hMd mov_M mov_M hN (rec_M hN) (good_V mv_257 mv_258 mv_259 mw_5 mv_260) hrm.1 hrm.2 ⟨rfl, by decide +kernel, by decide +kernel, show (parseMethodDescriptor yX1_secondsUntilStroke.desc).map (fun d => d.parameters.length) = some 1 by decide +kernel⟩ hrR ⟨by show _ ≤ 601024; omega, by show _ ≤ 7293034; omega⟩ hS hA2 hl.1 rfl (Nat.le_of_ble_eq_true rfl) dL_law_726 (fun H locs hN hS hz hk => ?_)
  have hO := hO.kept (hk o hO.lt (ap_Mo hbo))
  have hB := hB.kept (fun k hk1 => hk _ (hB.lt k hk1) (ap_M hab hk1))
  refine lv_istore (lv' := [(6, .int (r)), (5, .int (k9)), (4, .int (nI (4 * n))), (0, .ref (bs)), (1, .ref (a 13)), (2, .ref (b 5)), (3, .ref (o))]) hx hb dL_law_729 hl (by decide) rfl (fun ls hl => ?_)
  refine lv_aload_n hx hb dL_law_731 rfl (lv_at hl 5 rfl) ?_
  refine kV hC hTh mov_M hN (rec_M hN) (good_V mv_64 mv_65 mv_66 mw_5 mv_67) rfl rfl ⟨rfl, by decide +kernel, by decide +kernel, show (parseMethodDescriptor yX1_thrown.desc).map (fun d => d.parameters.length) = some 0 by decide +kernel⟩ ⟨Nat.le_of_ble_eq_true rfl, Nat.le_of_ble_eq_true rfl⟩ ⟨by show _ ≤ 601024; omega, by show _ ≤ 7293034; omega⟩ hl.1 rfl (Nat.le_of_ble_eq_true rfl) dL_law_732 ?_
  refine lv_iload hx hb dL_law_735 (lv_at hl 1 rfl) ?_
  refine lv_icmp_eq (tgt := 742) hx hb dL_law_737 (by decide) (fun c1 => ?_) (fun c1 => ?_)
  · refine lv_iload hx hb dL_law_742 (lv_at hl 1 rfl) ?_
    refine lv_if_ne (tgt := 759) hx hb dL_law_744 (by decide) (fun c2 => ?_) (fun c2 => ?_)
    · refine lv_goto (tgt := 1559) hx hb dL_law_759 (by decide) ?_
      exact W.widen (k := cells + 9) (n := slots + 64) (by omega) (by omega) (kx _ _ _ hB hN hO hS (lv_sub hl [2, 3, 4, 5, 6] rfl))
    · refine lv_aload_n hx hb dL_law_747 rfl (lv_at hl 6 rfl) ?_
      refine lv_iconst (v := 0) hx hb dL_law_748 (by decide) ?_
      refine ldO hC hO dL_law_749 ?_
      refine lv_iload hx hb dL_law_750 (lv_at hl 0 rfl) ?_
      refine lv_i2l (v := r.toInt64) hx hb dL_law_752 rfl ?_
      have hw := he c2
      refine W.lcmp hx hb dL_law_753 ?_
      rw [hw, lg_self]
      refine lv_if_eq (tgt := 759) hx hb dL_law_754 (by decide) (fun c3 => ?_) (fun c3 => ?_)
      · refine lv_goto (tgt := 1559) hx hb dL_law_759 (by decide) ?_
        exact W.widen (k := cells + 9) (n := slots + 64) (by omega) (by omega) (kx _ _ _ hB hN hO hS (lv_sub hl [2, 3, 4, 5, 6] rfl))
      · exfalso; exact c3 rfl
  · exfalso; exact c1 rfl
set_option maxHeartbeats 4000000 in
set_option maxRecDepth 100000 in
theorem lc_strokesOf {p : Program} {l : Launch} {e : Env} {s : State} {m : MethodId} {args : Array Value} {below : List Frame} {meth : Method} {c : Code} {H : Heap} {locs : List Loc} {cells slots : Nat} {Q : State → Prop} {ls : Array Slot} {bs L : Nat} {xs : Nat → Int32} {D : va_G} {cI cQ cL : ClassId} {a b : Nat → Nat} {o : Nat} {S N N' : bS} {w : Int64} {rm : Room} {n : Nat} (hX : LX l p m c s args bs L xs a b o) (hn : 4 * n + 4 ≤ L) (hB : BW D cI cQ a S s H) (hN : MW D cI b N s H) (hO : OW D cL o w s H) (hS : va_S (A0 s) s.heap H locs) (hf : cells + 9 ≤ 601024 ∧ slots + 64 ≤ 7293034) (hl : lv_has ls 9 [(4, .int (nI (4 * n))), (0, .ref (bs)), (1, .ref (a 13)), (2, .ref (b 5)), (3, .ref (o))]) {r : Int32} {S' : bS} {w' : Int64} {k9 : Int32} {T R : Nat} (hHp : Hp l yL_strokesOf cL_strokesOf 4 [(0, 9, 12, 24)] ({ frames := 8, cells := 1, slots := 6, locals := 160 } : Room) (XW D cI cQ cL a S o w) (XW D cI cQ cL a S' o w') (iBO a o) [.ref (a 13), .int (xs ((4 * n) + 1)), .ref (o)] k9) (hI : MI N' T R) (h5 : N' 5 0 = k9) (he : k9 = 0 → w' = r.toInt64) (hMd : Wr l yX1_strokesOf cX1_strokesOf 2 (some .int) rm (MW D cI b N) (MW D cI b N') (inM b) [.ref (b 5), .int (xs ((4 * n) + 1))] (some (.int r)) 0 0) (hrm : rm.cells = 0 ∧ rm.slots = 0) (hrR : rm.frames + 1 ≤ 11 ∧ 8 + (2 + 11) + rm.locals ≤ 390) (kx : ∀ (H1 : Heap) (locs1 : List Loc) (ls1 : Array Slot), BW D cI cQ a S' s H1 → MW D cI b N' s H1 → OW D cL o w' s H1 → va_S (A0 s) s.heap H1 locs1 → lv_has ls1 9 [(4, .int (nI (4 * n))), (0, .ref (bs)), (1, .ref (a 13)), (2, .ref (b 5)), (3, .ref (o))] → W p l e room_1 s m args below meth c H1 locs1 (cells + 9) (slots + 64) Q (F0 m 1559 ls1 [])) : W p l e room_1 s m args below meth c H locs cells slots Q (F0 m 762 ls []) := by
  obtain ⟨hC, hl9, hbx, hbl, hL, hZ, hZH, hA1, hA2, hA3, hab, hao, hbo⟩ := hX
  have hx := hC.1
  have hb := hC.2.1
  have hf1 := hf.1
  have hf2 := hf.2
  have hTh : Rd l yX1_thrown cX1_thrown 1 (some .int) ({ frames := 0, cells := 0, slots := 0, locals := 0 } : Room) (MW D cI b N') [.ref (b 5)] (.int k9) := by rw [← h5]; exact c_X1_thrown l D cI b N' hI
  refine lv_aload_n hx hb dL_law_762 rfl (lv_at hl 2 rfl) ?_
  refine lv_aload_n hx hb dL_law_763 rfl (lv_at hl 1 rfl) ?_
  refine lv_iload hx hb dL_law_764 (lv_at hl 0 rfl) ?_
  refine lv_iconst (v := 1) hx hb dL_law_766 (by decide) ?_
  refine xadd (v := nI ((4 * n) + 1)) hC dL_law_767 (nadd (i := 4 * n) (j := 1) rfl rfl) ?_
  refine ldS hC hbx hbl hL hS (i := (4 * n) + 1) rfl (by omega) dL_law_768 ?_
  refine lv_aload_n hx hb dL_law_769 rfl (lv_at hl 4 rfl) ?_
  refine kHp hC hHp mov_X mov_X ⟨hB, hO⟩ hZ (hZH.kept hS.2.1 |>.narrow (fun _ z => z.elim)) (good_SW mv_265 mv_266 mv_33 mv_267) rfl rfl ⟨by decide +kernel, by decide +kernel, show (parseMethodDescriptor yL_strokesOf.desc).map (fun d => d.parameters.length) = some 3 by decide +kernel⟩ ⟨Nat.le_of_ble_eq_true rfl, Nat.le_of_ble_eq_true rfl⟩ ⟨by show _ ≤ 601024; omega, by show _ ≤ 7293034; omega⟩ hS (fun q z => z.elim (hA1 q) (fun e => by rw [e]; exact hA3)) hl.1 rfl (Nat.le_of_ble_eq_true rfl) dL_law_770 (fun H locs hBO hS hk => ?_)
  obtain ⟨hB, hO⟩ := hBO
  have hN := hN.kept (fun k hk1 => hk _ (hN.lt k hk1) (ap_BO hab hbo hk1))
  refine lv_istore (lv' := [(5, .int (k9)), (4, .int (nI (4 * n))), (0, .ref (bs)), (1, .ref (a 13)), (2, .ref (b 5)), (3, .ref (o))]) hx hb dL_law_773 hl (by decide) rfl (fun ls hl => ?_)
  refine lv_aload_n hx hb dL_law_775 rfl (lv_at hl 4 rfl) ?_
  refine lv_aload_n hx hb dL_law_776 rfl (lv_at hl 2 rfl) ?_
  refine lv_iload hx hb dL_law_777 (lv_at hl 1 rfl) ?_
  refine lv_iconst (v := 1) hx hb dL_law_779 (by decide) ?_
  refine xadd (v := nI ((4 * n) + 1)) hC dL_law_780 (nadd (i := 4 * n) (j := 1) rfl rfl) ?_
  refine ldS hC hbx hbl hL hS (i := (4 * n) + 1) rfl (by omega) dL_law_781 ?_
  refine kVw (A := inM b) hC hMd mov_M mov_M hN (rec_M hN) (good_V mv_272 mv_273 mv_274 mw_5 mv_275) hrm.1 hrm.2 ⟨rfl, by decide +kernel, by decide +kernel, show (parseMethodDescriptor yX1_strokesOf.desc).map (fun d => d.parameters.length) = some 1 by decide +kernel⟩ hrR ⟨by show _ ≤ 601024; omega, by show _ ≤ 7293034; omega⟩ hS hA2 hl.1 rfl (Nat.le_of_ble_eq_true rfl) dL_law_782 (fun H locs hN hS hz hk => ?_)
  have hO := hO.kept (hk o hO.lt (ap_Mo hbo))
  have hB := hB.kept (fun k hk1 => hk _ (hB.lt k hk1) (ap_M hab hk1))
  refine lv_istore (lv' := [(6, .int (r)), (5, .int (k9)), (4, .int (nI (4 * n))), (0, .ref (bs)), (1, .ref (a 13)), (2, .ref (b 5)), (3, .ref (o))]) hx hb dL_law_785 hl (by decide) rfl (fun ls hl => ?_)
  refine lv_aload_n hx hb dL_law_787 rfl (lv_at hl 5 rfl) ?_
  refine kV hC hTh mov_M hN (rec_M hN) (good_V mv_64 mv_65 mv_66 mw_5 mv_67) rfl rfl ⟨rfl, by decide +kernel, by decide +kernel, show (parseMethodDescriptor yX1_thrown.desc).map (fun d => d.parameters.length) = some 0 by decide +kernel⟩ ⟨Nat.le_of_ble_eq_true rfl, Nat.le_of_ble_eq_true rfl⟩ ⟨by show _ ≤ 601024; omega, by show _ ≤ 7293034; omega⟩ hl.1 rfl (Nat.le_of_ble_eq_true rfl) dL_law_788 ?_
  refine lv_iload hx hb dL_law_791 (lv_at hl 1 rfl) ?_
  refine lv_icmp_eq (tgt := 798) hx hb dL_law_793 (by decide) (fun c1 => ?_) (fun c1 => ?_)
  · refine lv_iload hx hb dL_law_798 (lv_at hl 1 rfl) ?_
    refine lv_if_ne (tgt := 815) hx hb dL_law_800 (by decide) (fun c2 => ?_) (fun c2 => ?_)
    · refine lv_goto (tgt := 1559) hx hb dL_law_815 (by decide) ?_
      exact W.widen (k := cells + 9) (n := slots + 64) (by omega) (by omega) (kx _ _ _ hB hN hO hS (lv_sub hl [2, 3, 4, 5, 6] rfl))
    · refine lv_aload_n hx hb dL_law_803 rfl (lv_at hl 6 rfl) ?_
      refine lv_iconst (v := 0) hx hb dL_law_804 (by decide) ?_
      refine ldO hC hO dL_law_805 ?_
      refine lv_iload hx hb dL_law_806 (lv_at hl 0 rfl) ?_
      refine lv_i2l (v := r.toInt64) hx hb dL_law_808 rfl ?_
      have hw := he c2
      refine W.lcmp hx hb dL_law_809 ?_
      rw [hw, lg_self]
      refine lv_if_eq (tgt := 815) hx hb dL_law_810 (by decide) (fun c3 => ?_) (fun c3 => ?_)
      · refine lv_goto (tgt := 1559) hx hb dL_law_815 (by decide) ?_
        exact W.widen (k := cells + 9) (n := slots + 64) (by omega) (by omega) (kx _ _ _ hB hN hO hS (lv_sub hl [2, 3, 4, 5, 6] rfl))
      · exfalso; exact c3 rfl
  · exfalso; exact c1 rfl
set_option maxHeartbeats 4000000 in
set_option maxRecDepth 100000 in
theorem lc_openSeconds {p : Program} {l : Launch} {e : Env} {s : State} {m : MethodId} {args : Array Value} {below : List Frame} {meth : Method} {c : Code} {H : Heap} {locs : List Loc} {cells slots : Nat} {Q : State → Prop} {ls : Array Slot} {bs L : Nat} {xs : Nat → Int32} {D : va_G} {cI cQ cL : ClassId} {a b : Nat → Nat} {o : Nat} {S N N' : bS} {w : Int64} {rm : Room} {n : Nat} (hX : LX l p m c s args bs L xs a b o) (hn : 4 * n + 4 ≤ L) (hB : BW D cI cQ a S s H) (hN : MW D cI b N s H) (hO : OW D cL o w s H) (hS : va_S (A0 s) s.heap H locs) (hf : cells + 9 ≤ 601024 ∧ slots + 64 ≤ 7293034) (hl : lv_has ls 9 [(4, .int (nI (4 * n))), (0, .ref (bs)), (1, .ref (a 13)), (2, .ref (b 5)), (3, .ref (o))]) {r : Int32} {S' : bS} {w' : Int64} {k9 : Int32} {T R : Nat} (hHp : Hp l yL_openSeconds cL_openSeconds 4 [(0, 9, 12, 24)] ({ frames := 8, cells := 1, slots := 6, locals := 160 } : Room) (XW D cI cQ cL a S o w) (XW D cI cQ cL a S' o w') (iBO a o) [.ref (a 13), .int (xs ((4 * n) + 1)), .ref (o)] k9) (hI : MI N' T R) (h5 : N' 5 0 = k9) (he : k9 = 0 → w' = r.toInt64) (hMd : Wr l yX1_openSeconds cX1_openSeconds 2 (some .int) rm (MW D cI b N) (MW D cI b N') (inM b) [.ref (b 5), .int (xs ((4 * n) + 1))] (some (.int r)) 0 0) (hrm : rm.cells = 0 ∧ rm.slots = 0) (hrR : rm.frames + 1 ≤ 11 ∧ 8 + (2 + 11) + rm.locals ≤ 390) (kx : ∀ (H1 : Heap) (locs1 : List Loc) (ls1 : Array Slot), BW D cI cQ a S' s H1 → MW D cI b N' s H1 → OW D cL o w' s H1 → va_S (A0 s) s.heap H1 locs1 → lv_has ls1 9 [(4, .int (nI (4 * n))), (0, .ref (bs)), (1, .ref (a 13)), (2, .ref (b 5)), (3, .ref (o))] → W p l e room_1 s m args below meth c H1 locs1 (cells + 9) (slots + 64) Q (F0 m 1559 ls1 [])) : W p l e room_1 s m args below meth c H locs cells slots Q (F0 m 818 ls []) := by
  obtain ⟨hC, hl9, hbx, hbl, hL, hZ, hZH, hA1, hA2, hA3, hab, hao, hbo⟩ := hX
  have hx := hC.1
  have hb := hC.2.1
  have hf1 := hf.1
  have hf2 := hf.2
  have hTh : Rd l yX1_thrown cX1_thrown 1 (some .int) ({ frames := 0, cells := 0, slots := 0, locals := 0 } : Room) (MW D cI b N') [.ref (b 5)] (.int k9) := by rw [← h5]; exact c_X1_thrown l D cI b N' hI
  refine lv_aload_n hx hb dL_law_818 rfl (lv_at hl 2 rfl) ?_
  refine lv_aload_n hx hb dL_law_819 rfl (lv_at hl 1 rfl) ?_
  refine lv_iload hx hb dL_law_820 (lv_at hl 0 rfl) ?_
  refine lv_iconst (v := 1) hx hb dL_law_822 (by decide) ?_
  refine xadd (v := nI ((4 * n) + 1)) hC dL_law_823 (nadd (i := 4 * n) (j := 1) rfl rfl) ?_
  refine ldS hC hbx hbl hL hS (i := (4 * n) + 1) rfl (by omega) dL_law_824 ?_
  refine lv_aload_n hx hb dL_law_825 rfl (lv_at hl 4 rfl) ?_
  refine kHp hC hHp mov_X mov_X ⟨hB, hO⟩ hZ (hZH.kept hS.2.1 |>.narrow (fun _ z => z.elim)) (good_SW mv_276 mv_277 mv_33 mv_278) rfl rfl ⟨by decide +kernel, by decide +kernel, show (parseMethodDescriptor yL_openSeconds.desc).map (fun d => d.parameters.length) = some 3 by decide +kernel⟩ ⟨Nat.le_of_ble_eq_true rfl, Nat.le_of_ble_eq_true rfl⟩ ⟨by show _ ≤ 601024; omega, by show _ ≤ 7293034; omega⟩ hS (fun q z => z.elim (hA1 q) (fun e => by rw [e]; exact hA3)) hl.1 rfl (Nat.le_of_ble_eq_true rfl) dL_law_826 (fun H locs hBO hS hk => ?_)
  obtain ⟨hB, hO⟩ := hBO
  have hN := hN.kept (fun k hk1 => hk _ (hN.lt k hk1) (ap_BO hab hbo hk1))
  refine lv_istore (lv' := [(5, .int (k9)), (4, .int (nI (4 * n))), (0, .ref (bs)), (1, .ref (a 13)), (2, .ref (b 5)), (3, .ref (o))]) hx hb dL_law_829 hl (by decide) rfl (fun ls hl => ?_)
  refine lv_aload_n hx hb dL_law_831 rfl (lv_at hl 4 rfl) ?_
  refine lv_aload_n hx hb dL_law_832 rfl (lv_at hl 2 rfl) ?_
  refine lv_iload hx hb dL_law_833 (lv_at hl 1 rfl) ?_
  refine lv_iconst (v := 1) hx hb dL_law_835 (by decide) ?_
  refine xadd (v := nI ((4 * n) + 1)) hC dL_law_836 (nadd (i := 4 * n) (j := 1) rfl rfl) ?_
  refine ldS hC hbx hbl hL hS (i := (4 * n) + 1) rfl (by omega) dL_law_837 ?_
  refine kVw (A := inM b) hC hMd mov_M mov_M hN (rec_M hN) (good_V mv_287 mv_288 mv_289 mw_5 mv_290) hrm.1 hrm.2 ⟨rfl, by decide +kernel, by decide +kernel, show (parseMethodDescriptor yX1_openSeconds.desc).map (fun d => d.parameters.length) = some 1 by decide +kernel⟩ hrR ⟨by show _ ≤ 601024; omega, by show _ ≤ 7293034; omega⟩ hS hA2 hl.1 rfl (Nat.le_of_ble_eq_true rfl) dL_law_838 (fun H locs hN hS hz hk => ?_)
  have hO := hO.kept (hk o hO.lt (ap_Mo hbo))
  have hB := hB.kept (fun k hk1 => hk _ (hB.lt k hk1) (ap_M hab hk1))
  refine lv_istore (lv' := [(6, .int (r)), (5, .int (k9)), (4, .int (nI (4 * n))), (0, .ref (bs)), (1, .ref (a 13)), (2, .ref (b 5)), (3, .ref (o))]) hx hb dL_law_841 hl (by decide) rfl (fun ls hl => ?_)
  refine lv_aload_n hx hb dL_law_843 rfl (lv_at hl 5 rfl) ?_
  refine kV hC hTh mov_M hN (rec_M hN) (good_V mv_64 mv_65 mv_66 mw_5 mv_67) rfl rfl ⟨rfl, by decide +kernel, by decide +kernel, show (parseMethodDescriptor yX1_thrown.desc).map (fun d => d.parameters.length) = some 0 by decide +kernel⟩ ⟨Nat.le_of_ble_eq_true rfl, Nat.le_of_ble_eq_true rfl⟩ ⟨by show _ ≤ 601024; omega, by show _ ≤ 7293034; omega⟩ hl.1 rfl (Nat.le_of_ble_eq_true rfl) dL_law_844 ?_
  refine lv_iload hx hb dL_law_847 (lv_at hl 1 rfl) ?_
  refine lv_icmp_eq (tgt := 854) hx hb dL_law_849 (by decide) (fun c1 => ?_) (fun c1 => ?_)
  · refine lv_iload hx hb dL_law_854 (lv_at hl 1 rfl) ?_
    refine lv_if_ne (tgt := 871) hx hb dL_law_856 (by decide) (fun c2 => ?_) (fun c2 => ?_)
    · refine lv_goto (tgt := 1559) hx hb dL_law_871 (by decide) ?_
      exact W.widen (k := cells + 9) (n := slots + 64) (by omega) (by omega) (kx _ _ _ hB hN hO hS (lv_sub hl [2, 3, 4, 5, 6] rfl))
    · refine lv_aload_n hx hb dL_law_859 rfl (lv_at hl 6 rfl) ?_
      refine lv_iconst (v := 0) hx hb dL_law_860 (by decide) ?_
      refine ldO hC hO dL_law_861 ?_
      refine lv_iload hx hb dL_law_862 (lv_at hl 0 rfl) ?_
      refine lv_i2l (v := r.toInt64) hx hb dL_law_864 rfl ?_
      have hw := he c2
      refine W.lcmp hx hb dL_law_865 ?_
      rw [hw, lg_self]
      refine lv_if_eq (tgt := 871) hx hb dL_law_866 (by decide) (fun c3 => ?_) (fun c3 => ?_)
      · refine lv_goto (tgt := 1559) hx hb dL_law_871 (by decide) ?_
        exact W.widen (k := cells + 9) (n := slots + 64) (by omega) (by omega) (kx _ _ _ hB hN hO hS (lv_sub hl [2, 3, 4, 5, 6] rfl))
      · exfalso; exact c3 rfl
  · exfalso; exact c1 rfl
set_option maxHeartbeats 4000000 in
set_option maxRecDepth 100000 in
theorem lc_dearest {p : Program} {l : Launch} {e : Env} {s : State} {m : MethodId} {args : Array Value} {below : List Frame} {meth : Method} {c : Code} {H : Heap} {locs : List Loc} {cells slots : Nat} {Q : State → Prop} {ls : Array Slot} {bs L : Nat} {xs : Nat → Int32} {D : va_G} {cI cQ cL : ClassId} {a b : Nat → Nat} {o : Nat} {S N N' : bS} {w : Int64} {rm : Room} {n : Nat} (hX : LX l p m c s args bs L xs a b o) (hn : 4 * n + 4 ≤ L) (hB : BW D cI cQ a S s H) (hN : MW D cI b N s H) (hO : OW D cL o w s H) (hS : va_S (A0 s) s.heap H locs) (hf : cells + 9 ≤ 601024 ∧ slots + 64 ≤ 7293034) (hl : lv_has ls 9 [(4, .int (nI (4 * n))), (0, .ref (bs)), (1, .ref (a 13)), (2, .ref (b 5)), (3, .ref (o))]) {r : Int32} (hBd : Rd l yX0_dearest cX0_dearest 3 (some .int) ({ frames := 4, cells := 0, slots := 0, locals := 88 } : Room) (BW D cI cQ a S) [.ref (a 13)] (.int r)) (hMd : Wr l yX1_dearest cX1_dearest 1 (some .int) rm (MW D cI b N) (MW D cI b N') (inM b) [.ref (b 5)] (some (.int r)) 0 0) (hrm : rm.cells = 0 ∧ rm.slots = 0) (hrR : rm.frames + 1 ≤ 11 ∧ 8 + (1 + 11) + rm.locals ≤ 390) (kx : ∀ (H1 : Heap) (locs1 : List Loc) (ls1 : Array Slot), BW D cI cQ a S s H1 → MW D cI b N' s H1 → OW D cL o w s H1 → va_S (A0 s) s.heap H1 locs1 → lv_has ls1 9 [(4, .int (nI (4 * n))), (0, .ref (bs)), (1, .ref (a 13)), (2, .ref (b 5)), (3, .ref (o))] → W p l e room_1 s m args below meth c H1 locs1 (cells + 9) (slots + 64) Q (F0 m 1559 ls1 [])) : W p l e room_1 s m args below meth c H locs cells slots Q (F0 m 874 ls []) := by
  obtain ⟨hC, hl9, hbx, hbl, hL, hZ, hZH, hA1, hA2, hA3, hab, hao, hbo⟩ := hX
  have hx := hC.1
  have hb := hC.2.1
  have hf1 := hf.1
  have hf2 := hf.2
  refine lv_aload_n hx hb dL_law_874 rfl (lv_at hl 2 rfl) ?_
  refine kV hC hBd mov_B hB (rec_B hB) (good_V mv_295 mw_296 mw_297 mw_2 mw_298) rfl rfl ⟨rfl, by decide +kernel, by decide +kernel, show (parseMethodDescriptor yX0_dearest.desc).map (fun d => d.parameters.length) = some 0 by decide +kernel⟩ ⟨Nat.le_of_ble_eq_true rfl, Nat.le_of_ble_eq_true rfl⟩ ⟨by show _ ≤ 601024; omega, by show _ ≤ 7293034; omega⟩ hl.1 rfl (Nat.le_of_ble_eq_true rfl) dL_law_875 ?_
  refine lv_aload_n hx hb dL_law_878 rfl (lv_at hl 3 rfl) ?_
  refine kVw (A := inM b) hC hMd mov_M mov_M hN (rec_M hN) (good_V mv_299 mv_300 mv_301 mw_5 mv_302) hrm.1 hrm.2 ⟨rfl, by decide +kernel, by decide +kernel, show (parseMethodDescriptor yX1_dearest.desc).map (fun d => d.parameters.length) = some 0 by decide +kernel⟩ hrR ⟨by show _ ≤ 601024; omega, by show _ ≤ 7293034; omega⟩ hS hA2 hl.1 rfl (Nat.le_of_ble_eq_true rfl) dL_law_879 (fun H locs hN hS hz hk => ?_)
  have hO := hO.kept (hk o hO.lt (ap_Mo hbo))
  have hB := hB.kept (fun k hk1 => hk _ (hB.lt k hk1) (ap_M hab hk1))
  refine lv_icmp_eq (tgt := 1559) hx hb dL_law_882 (by decide) (fun c1 => ?_) (fun c1 => ?_)
  · exact W.widen (k := cells + 9) (n := slots + 64) (by omega) (by omega) (kx _ _ _ hB hN hO hS (lv_sub hl [0, 1, 2, 3, 4] rfl))
  · exfalso; exact c1 rfl
set_option maxHeartbeats 4000000 in
set_option maxRecDepth 100000 in
theorem lc_nextToStrike {p : Program} {l : Launch} {e : Env} {s : State} {m : MethodId} {args : Array Value} {below : List Frame} {meth : Method} {c : Code} {H : Heap} {locs : List Loc} {cells slots : Nat} {Q : State → Prop} {ls : Array Slot} {bs L : Nat} {xs : Nat → Int32} {D : va_G} {cI cQ cL : ClassId} {a b : Nat → Nat} {o : Nat} {S N N' : bS} {w : Int64} {rm : Room} {n : Nat} (hX : LX l p m c s args bs L xs a b o) (hn : 4 * n + 4 ≤ L) (hB : BW D cI cQ a S s H) (hN : MW D cI b N s H) (hO : OW D cL o w s H) (hS : va_S (A0 s) s.heap H locs) (hf : cells + 9 ≤ 601024 ∧ slots + 64 ≤ 7293034) (hl : lv_has ls 9 [(4, .int (nI (4 * n))), (0, .ref (bs)), (1, .ref (a 13)), (2, .ref (b 5)), (3, .ref (o))]) {r : Int32} (hBd : Rd l yX0_nextToStrike cX0_nextToStrike 3 (some .int) ({ frames := 0, cells := 0, slots := 0, locals := 0 } : Room) (BW D cI cQ a S) [.ref (a 13)] (.int r)) (hMd : Wr l yX1_nextToStrike cX1_nextToStrike 1 (some .int) rm (MW D cI b N) (MW D cI b N') (inM b) [.ref (b 5)] (some (.int r)) 0 0) (hrm : rm.cells = 0 ∧ rm.slots = 0) (hrR : rm.frames + 1 ≤ 11 ∧ 8 + (1 + 11) + rm.locals ≤ 390) (kx : ∀ (H1 : Heap) (locs1 : List Loc) (ls1 : Array Slot), BW D cI cQ a S s H1 → MW D cI b N' s H1 → OW D cL o w s H1 → va_S (A0 s) s.heap H1 locs1 → lv_has ls1 9 [(4, .int (nI (4 * n))), (0, .ref (bs)), (1, .ref (a 13)), (2, .ref (b 5)), (3, .ref (o))] → W p l e room_1 s m args below meth c H1 locs1 (cells + 9) (slots + 64) Q (F0 m 1559 ls1 [])) : W p l e room_1 s m args below meth c H locs cells slots Q (F0 m 887 ls []) := by
  obtain ⟨hC, hl9, hbx, hbl, hL, hZ, hZH, hA1, hA2, hA3, hab, hao, hbo⟩ := hX
  have hx := hC.1
  have hb := hC.2.1
  have hf1 := hf.1
  have hf2 := hf.2
  refine lv_aload_n hx hb dL_law_887 rfl (lv_at hl 2 rfl) ?_
  refine kV hC hBd mov_B hB (rec_B hB) (good_V mv_307 mw_308 mw_309 mw_2 mw_310) rfl rfl ⟨rfl, by decide +kernel, by decide +kernel, show (parseMethodDescriptor yX0_nextToStrike.desc).map (fun d => d.parameters.length) = some 0 by decide +kernel⟩ ⟨Nat.le_of_ble_eq_true rfl, Nat.le_of_ble_eq_true rfl⟩ ⟨by show _ ≤ 601024; omega, by show _ ≤ 7293034; omega⟩ hl.1 rfl (Nat.le_of_ble_eq_true rfl) dL_law_888 ?_
  refine lv_aload_n hx hb dL_law_891 rfl (lv_at hl 3 rfl) ?_
  refine kVw (A := inM b) hC hMd mov_M mov_M hN (rec_M hN) (good_V mv_311 mv_312 mv_313 mw_5 mv_314) hrm.1 hrm.2 ⟨rfl, by decide +kernel, by decide +kernel, show (parseMethodDescriptor yX1_nextToStrike.desc).map (fun d => d.parameters.length) = some 0 by decide +kernel⟩ hrR ⟨by show _ ≤ 601024; omega, by show _ ≤ 7293034; omega⟩ hS hA2 hl.1 rfl (Nat.le_of_ble_eq_true rfl) dL_law_892 (fun H locs hN hS hz hk => ?_)
  have hO := hO.kept (hk o hO.lt (ap_Mo hbo))
  have hB := hB.kept (fun k hk1 => hk _ (hB.lt k hk1) (ap_M hab hk1))
  refine lv_icmp_eq (tgt := 1559) hx hb dL_law_895 (by decide) (fun c1 => ?_) (fun c1 => ?_)
  · exact W.widen (k := cells + 9) (n := slots + 64) (by omega) (by omega) (kx _ _ _ hB hN hO hS (lv_sub hl [0, 1, 2, 3, 4] rfl))
  · exfalso; exact c1 rfl
set_option maxHeartbeats 4000000 in
set_option maxRecDepth 100000 in
theorem lc_traders {p : Program} {l : Launch} {e : Env} {s : State} {m : MethodId} {args : Array Value} {below : List Frame} {meth : Method} {c : Code} {H : Heap} {locs : List Loc} {cells slots : Nat} {Q : State → Prop} {ls : Array Slot} {bs L : Nat} {xs : Nat → Int32} {D : va_G} {cI cQ cL : ClassId} {a b : Nat → Nat} {o : Nat} {S N N' : bS} {w : Int64} {rm : Room} {n : Nat} (hX : LX l p m c s args bs L xs a b o) (hn : 4 * n + 4 ≤ L) (hB : BW D cI cQ a S s H) (hN : MW D cI b N s H) (hO : OW D cL o w s H) (hS : va_S (A0 s) s.heap H locs) (hf : cells + 9 ≤ 601024 ∧ slots + 64 ≤ 7293034) (hl : lv_has ls 9 [(4, .int (nI (4 * n))), (0, .ref (bs)), (1, .ref (a 13)), (2, .ref (b 5)), (3, .ref (o))]) {r : Int32} (hBd : Rd l yX0_traders cX0_traders 1 (some .int) ({ frames := 0, cells := 0, slots := 0, locals := 0 } : Room) (BW D cI cQ a S) [.ref (a 13)] (.int r)) (hMd : Wr l yX1_traders cX1_traders 1 (some .int) rm (MW D cI b N) (MW D cI b N') (inM b) [.ref (b 5)] (some (.int r)) 0 0) (hrm : rm.cells = 0 ∧ rm.slots = 0) (hrR : rm.frames + 1 ≤ 11 ∧ 8 + (1 + 11) + rm.locals ≤ 390) (kx : ∀ (H1 : Heap) (locs1 : List Loc) (ls1 : Array Slot), BW D cI cQ a S s H1 → MW D cI b N' s H1 → OW D cL o w s H1 → va_S (A0 s) s.heap H1 locs1 → lv_has ls1 9 [(4, .int (nI (4 * n))), (0, .ref (bs)), (1, .ref (a 13)), (2, .ref (b 5)), (3, .ref (o))] → W p l e room_1 s m args below meth c H1 locs1 (cells + 9) (slots + 64) Q (F0 m 1559 ls1 [])) : W p l e room_1 s m args below meth c H locs cells slots Q (F0 m 900 ls []) := by
  obtain ⟨hC, hl9, hbx, hbl, hL, hZ, hZH, hA1, hA2, hA3, hab, hao, hbo⟩ := hX
  have hx := hC.1
  have hb := hC.2.1
  have hf1 := hf.1
  have hf2 := hf.2
  refine lv_aload_n hx hb dL_law_900 rfl (lv_at hl 2 rfl) ?_
  refine kV hC hBd mov_B hB (rec_B hB) (good_V mv_319 mv_320 mv_321 mw_2 mv_322) rfl rfl ⟨rfl, by decide +kernel, by decide +kernel, show (parseMethodDescriptor yX0_traders.desc).map (fun d => d.parameters.length) = some 0 by decide +kernel⟩ ⟨Nat.le_of_ble_eq_true rfl, Nat.le_of_ble_eq_true rfl⟩ ⟨by show _ ≤ 601024; omega, by show _ ≤ 7293034; omega⟩ hl.1 rfl (Nat.le_of_ble_eq_true rfl) dL_law_901 ?_
  refine lv_aload_n hx hb dL_law_904 rfl (lv_at hl 3 rfl) ?_
  refine kVw (A := inM b) hC hMd mov_M mov_M hN (rec_M hN) (good_V mv_323 mv_324 mv_325 mw_5 mv_326) hrm.1 hrm.2 ⟨rfl, by decide +kernel, by decide +kernel, show (parseMethodDescriptor yX1_traders.desc).map (fun d => d.parameters.length) = some 0 by decide +kernel⟩ hrR ⟨by show _ ≤ 601024; omega, by show _ ≤ 7293034; omega⟩ hS hA2 hl.1 rfl (Nat.le_of_ble_eq_true rfl) dL_law_905 (fun H locs hN hS hz hk => ?_)
  have hO := hO.kept (hk o hO.lt (ap_Mo hbo))
  have hB := hB.kept (fun k hk1 => hk _ (hB.lt k hk1) (ap_M hab hk1))
  refine lv_icmp_eq (tgt := 1559) hx hb dL_law_908 (by decide) (fun c1 => ?_) (fun c1 => ?_)
  · exact W.widen (k := cells + 9) (n := slots + 64) (by omega) (by omega) (kx _ _ _ hB hN hO hS (lv_sub hl [0, 1, 2, 3, 4] rfl))
  · exfalso; exact c1 rfl
set_option maxHeartbeats 4000000 in
set_option maxRecDepth 100000 in
theorem lc_purseOf {p : Program} {l : Launch} {e : Env} {s : State} {m : MethodId} {args : Array Value} {below : List Frame} {meth : Method} {c : Code} {H : Heap} {locs : List Loc} {cells slots : Nat} {Q : State → Prop} {ls : Array Slot} {bs L : Nat} {xs : Nat → Int32} {D : va_G} {cI cQ cL : ClassId} {a b : Nat → Nat} {o : Nat} {S N N' : bS} {w : Int64} {rm : Room} {n : Nat} (hX : LX l p m c s args bs L xs a b o) (hn : 4 * n + 4 ≤ L) (hB : BW D cI cQ a S s H) (hN : MW D cI b N s H) (hO : OW D cL o w s H) (hS : va_S (A0 s) s.heap H locs) (hf : cells + 9 ≤ 601024 ∧ slots + 64 ≤ 7293034) (hl : lv_has ls 9 [(4, .int (nI (4 * n))), (0, .ref (bs)), (1, .ref (a 13)), (2, .ref (b 5)), (3, .ref (o))]) {r : Int32} {S' : bS} {w' : Int64} {k9 : Int32} {T R : Nat} (hHp : Hp l yL_purseOf cL_purseOf 4 [(0, 9, 12, 24)] ({ frames := 8, cells := 1, slots := 6, locals := 160 } : Room) (XW D cI cQ cL a S o w) (XW D cI cQ cL a S' o w') (iBO a o) [.ref (a 13), .int (xs ((4 * n) + 1)), .ref (o)] k9) (hI : MI N' T R) (h5 : N' 5 0 = k9) (he : k9 = 0 → w' = r.toInt64) (hMd : Wr l yX1_purseOf cX1_purseOf 2 (some .int) rm (MW D cI b N) (MW D cI b N') (inM b) [.ref (b 5), .int (xs ((4 * n) + 1))] (some (.int r)) 0 0) (hrm : rm.cells = 0 ∧ rm.slots = 0) (hrR : rm.frames + 1 ≤ 11 ∧ 8 + (2 + 11) + rm.locals ≤ 390) (kx : ∀ (H1 : Heap) (locs1 : List Loc) (ls1 : Array Slot), BW D cI cQ a S' s H1 → MW D cI b N' s H1 → OW D cL o w' s H1 → va_S (A0 s) s.heap H1 locs1 → lv_has ls1 9 [(4, .int (nI (4 * n))), (0, .ref (bs)), (1, .ref (a 13)), (2, .ref (b 5)), (3, .ref (o))] → W p l e room_1 s m args below meth c H1 locs1 (cells + 9) (slots + 64) Q (F0 m 1559 ls1 [])) : W p l e room_1 s m args below meth c H locs cells slots Q (F0 m 913 ls []) := by
  obtain ⟨hC, hl9, hbx, hbl, hL, hZ, hZH, hA1, hA2, hA3, hab, hao, hbo⟩ := hX
  have hx := hC.1
  have hb := hC.2.1
  have hf1 := hf.1
  have hf2 := hf.2
  have hTh : Rd l yX1_thrown cX1_thrown 1 (some .int) ({ frames := 0, cells := 0, slots := 0, locals := 0 } : Room) (MW D cI b N') [.ref (b 5)] (.int k9) := by rw [← h5]; exact c_X1_thrown l D cI b N' hI
  refine lv_aload_n hx hb dL_law_913 rfl (lv_at hl 2 rfl) ?_
  refine lv_aload_n hx hb dL_law_914 rfl (lv_at hl 1 rfl) ?_
  refine lv_iload hx hb dL_law_915 (lv_at hl 0 rfl) ?_
  refine lv_iconst (v := 1) hx hb dL_law_917 (by decide) ?_
  refine xadd (v := nI ((4 * n) + 1)) hC dL_law_918 (nadd (i := 4 * n) (j := 1) rfl rfl) ?_
  refine ldS hC hbx hbl hL hS (i := (4 * n) + 1) rfl (by omega) dL_law_919 ?_
  refine lv_aload_n hx hb dL_law_920 rfl (lv_at hl 4 rfl) ?_
  refine kHp hC hHp mov_X mov_X ⟨hB, hO⟩ hZ (hZH.kept hS.2.1 |>.narrow (fun _ z => z.elim)) (good_SW mv_327 mv_328 mv_33 mv_329) rfl rfl ⟨by decide +kernel, by decide +kernel, show (parseMethodDescriptor yL_purseOf.desc).map (fun d => d.parameters.length) = some 3 by decide +kernel⟩ ⟨Nat.le_of_ble_eq_true rfl, Nat.le_of_ble_eq_true rfl⟩ ⟨by show _ ≤ 601024; omega, by show _ ≤ 7293034; omega⟩ hS (fun q z => z.elim (hA1 q) (fun e => by rw [e]; exact hA3)) hl.1 rfl (Nat.le_of_ble_eq_true rfl) dL_law_921 (fun H locs hBO hS hk => ?_)
  obtain ⟨hB, hO⟩ := hBO
  have hN := hN.kept (fun k hk1 => hk _ (hN.lt k hk1) (ap_BO hab hbo hk1))
  refine lv_istore (lv' := [(5, .int (k9)), (4, .int (nI (4 * n))), (0, .ref (bs)), (1, .ref (a 13)), (2, .ref (b 5)), (3, .ref (o))]) hx hb dL_law_924 hl (by decide) rfl (fun ls hl => ?_)
  refine lv_aload_n hx hb dL_law_926 rfl (lv_at hl 4 rfl) ?_
  refine lv_aload_n hx hb dL_law_927 rfl (lv_at hl 2 rfl) ?_
  refine lv_iload hx hb dL_law_928 (lv_at hl 1 rfl) ?_
  refine lv_iconst (v := 1) hx hb dL_law_930 (by decide) ?_
  refine xadd (v := nI ((4 * n) + 1)) hC dL_law_931 (nadd (i := 4 * n) (j := 1) rfl rfl) ?_
  refine ldS hC hbx hbl hL hS (i := (4 * n) + 1) rfl (by omega) dL_law_932 ?_
  refine kVw (A := inM b) hC hMd mov_M mov_M hN (rec_M hN) (good_V mv_334 mv_335 mv_336 mw_5 mv_337) hrm.1 hrm.2 ⟨rfl, by decide +kernel, by decide +kernel, show (parseMethodDescriptor yX1_purseOf.desc).map (fun d => d.parameters.length) = some 1 by decide +kernel⟩ hrR ⟨by show _ ≤ 601024; omega, by show _ ≤ 7293034; omega⟩ hS hA2 hl.1 rfl (Nat.le_of_ble_eq_true rfl) dL_law_933 (fun H locs hN hS hz hk => ?_)
  have hO := hO.kept (hk o hO.lt (ap_Mo hbo))
  have hB := hB.kept (fun k hk1 => hk _ (hB.lt k hk1) (ap_M hab hk1))
  refine lv_istore (lv' := [(6, .int (r)), (5, .int (k9)), (4, .int (nI (4 * n))), (0, .ref (bs)), (1, .ref (a 13)), (2, .ref (b 5)), (3, .ref (o))]) hx hb dL_law_936 hl (by decide) rfl (fun ls hl => ?_)
  refine lv_aload_n hx hb dL_law_938 rfl (lv_at hl 5 rfl) ?_
  refine kV hC hTh mov_M hN (rec_M hN) (good_V mv_64 mv_65 mv_66 mw_5 mv_67) rfl rfl ⟨rfl, by decide +kernel, by decide +kernel, show (parseMethodDescriptor yX1_thrown.desc).map (fun d => d.parameters.length) = some 0 by decide +kernel⟩ ⟨Nat.le_of_ble_eq_true rfl, Nat.le_of_ble_eq_true rfl⟩ ⟨by show _ ≤ 601024; omega, by show _ ≤ 7293034; omega⟩ hl.1 rfl (Nat.le_of_ble_eq_true rfl) dL_law_939 ?_
  refine lv_iload hx hb dL_law_942 (lv_at hl 1 rfl) ?_
  refine lv_icmp_eq (tgt := 949) hx hb dL_law_944 (by decide) (fun c1 => ?_) (fun c1 => ?_)
  · refine lv_iload hx hb dL_law_949 (lv_at hl 1 rfl) ?_
    refine lv_if_ne (tgt := 966) hx hb dL_law_951 (by decide) (fun c2 => ?_) (fun c2 => ?_)
    · refine lv_goto (tgt := 1559) hx hb dL_law_966 (by decide) ?_
      exact W.widen (k := cells + 9) (n := slots + 64) (by omega) (by omega) (kx _ _ _ hB hN hO hS (lv_sub hl [2, 3, 4, 5, 6] rfl))
    · refine lv_aload_n hx hb dL_law_954 rfl (lv_at hl 6 rfl) ?_
      refine lv_iconst (v := 0) hx hb dL_law_955 (by decide) ?_
      refine ldO hC hO dL_law_956 ?_
      refine lv_iload hx hb dL_law_957 (lv_at hl 0 rfl) ?_
      refine lv_i2l (v := r.toInt64) hx hb dL_law_959 rfl ?_
      have hw := he c2
      refine W.lcmp hx hb dL_law_960 ?_
      rw [hw, lg_self]
      refine lv_if_eq (tgt := 966) hx hb dL_law_961 (by decide) (fun c3 => ?_) (fun c3 => ?_)
      · refine lv_goto (tgt := 1559) hx hb dL_law_966 (by decide) ?_
        exact W.widen (k := cells + 9) (n := slots + 64) (by omega) (by omega) (kx _ _ _ hB hN hO hS (lv_sub hl [2, 3, 4, 5, 6] rfl))
      · exfalso; exact c3 rfl
  · exfalso; exact c1 rfl
set_option maxHeartbeats 4000000 in
set_option maxRecDepth 100000 in
theorem lc_holds {p : Program} {l : Launch} {e : Env} {s : State} {m : MethodId} {args : Array Value} {below : List Frame} {meth : Method} {c : Code} {H : Heap} {locs : List Loc} {cells slots : Nat} {Q : State → Prop} {ls : Array Slot} {bs L : Nat} {xs : Nat → Int32} {D : va_G} {cI cQ cL : ClassId} {a b : Nat → Nat} {o : Nat} {S N N' : bS} {w : Int64} {rm : Room} {n : Nat} (hX : LX l p m c s args bs L xs a b o) (hn : 4 * n + 4 ≤ L) (hB : BW D cI cQ a S s H) (hN : MW D cI b N s H) (hO : OW D cL o w s H) (hS : va_S (A0 s) s.heap H locs) (hf : cells + 9 ≤ 601024 ∧ slots + 64 ≤ 7293034) (hl : lv_has ls 9 [(4, .int (nI (4 * n))), (0, .ref (bs)), (1, .ref (a 13)), (2, .ref (b 5)), (3, .ref (o))]) {r : Int32} {S' : bS} {w' : Int64} {k9 : Int32} {T R : Nat} (hHp : Hp l yL_holds cL_holds 5 [(0, 10, 13, 24)] ({ frames := 8, cells := 1, slots := 6, locals := 160 } : Room) (XW D cI cQ cL a S o w) (XW D cI cQ cL a S' o w') (iBO a o) [.ref (a 13), .int (xs ((4 * n) + 1)), .int (xs ((4 * n) + 2)), .ref (o)] k9) (hI : MI N' T R) (h5 : N' 5 0 = k9) (he : k9 = 0 → w' = r.toInt64) (hMd : Wr l yX1_holds cX1_holds 3 (some .int) rm (MW D cI b N) (MW D cI b N') (inM b) [.ref (b 5), .int (xs ((4 * n) + 1)), .int (xs ((4 * n) + 2))] (some (.int r)) 0 0) (hrm : rm.cells = 0 ∧ rm.slots = 0) (hrR : rm.frames + 1 ≤ 11 ∧ 8 + (3 + 11) + rm.locals ≤ 390) (kx : ∀ (H1 : Heap) (locs1 : List Loc) (ls1 : Array Slot), BW D cI cQ a S' s H1 → MW D cI b N' s H1 → OW D cL o w' s H1 → va_S (A0 s) s.heap H1 locs1 → lv_has ls1 9 [(4, .int (nI (4 * n))), (0, .ref (bs)), (1, .ref (a 13)), (2, .ref (b 5)), (3, .ref (o))] → W p l e room_1 s m args below meth c H1 locs1 (cells + 9) (slots + 64) Q (F0 m 1559 ls1 [])) : W p l e room_1 s m args below meth c H locs cells slots Q (F0 m 969 ls []) := by
  obtain ⟨hC, hl9, hbx, hbl, hL, hZ, hZH, hA1, hA2, hA3, hab, hao, hbo⟩ := hX
  have hx := hC.1
  have hb := hC.2.1
  have hf1 := hf.1
  have hf2 := hf.2
  have hTh : Rd l yX1_thrown cX1_thrown 1 (some .int) ({ frames := 0, cells := 0, slots := 0, locals := 0 } : Room) (MW D cI b N') [.ref (b 5)] (.int k9) := by rw [← h5]; exact c_X1_thrown l D cI b N' hI
  refine lv_aload_n hx hb dL_law_969 rfl (lv_at hl 2 rfl) ?_
  refine lv_aload_n hx hb dL_law_970 rfl (lv_at hl 1 rfl) ?_
  refine lv_iload hx hb dL_law_971 (lv_at hl 0 rfl) ?_
  refine lv_iconst (v := 1) hx hb dL_law_973 (by decide) ?_
  refine xadd (v := nI ((4 * n) + 1)) hC dL_law_974 (nadd (i := 4 * n) (j := 1) rfl rfl) ?_
  refine ldS hC hbx hbl hL hS (i := (4 * n) + 1) rfl (by omega) dL_law_975 ?_
  refine lv_aload_n hx hb dL_law_976 rfl (lv_at hl 1 rfl) ?_
  refine lv_iload hx hb dL_law_977 (lv_at hl 0 rfl) ?_
  refine lv_iconst (v := 2) hx hb dL_law_979 (by decide) ?_
  refine xadd (v := nI ((4 * n) + 2)) hC dL_law_980 (nadd (i := 4 * n) (j := 2) rfl rfl) ?_
  refine ldS hC hbx hbl hL hS (i := (4 * n) + 2) rfl (by omega) dL_law_981 ?_
  refine lv_aload_n hx hb dL_law_982 rfl (lv_at hl 4 rfl) ?_
  refine kHp hC hHp mov_X mov_X ⟨hB, hO⟩ hZ (hZH.kept hS.2.1 |>.narrow (fun _ z => z.elim)) (good_SW mv_338 mv_339 mv_33 mv_340) rfl rfl ⟨by decide +kernel, by decide +kernel, show (parseMethodDescriptor yL_holds.desc).map (fun d => d.parameters.length) = some 4 by decide +kernel⟩ ⟨Nat.le_of_ble_eq_true rfl, Nat.le_of_ble_eq_true rfl⟩ ⟨by show _ ≤ 601024; omega, by show _ ≤ 7293034; omega⟩ hS (fun q z => z.elim (hA1 q) (fun e => by rw [e]; exact hA3)) hl.1 rfl (Nat.le_of_ble_eq_true rfl) dL_law_983 (fun H locs hBO hS hk => ?_)
  obtain ⟨hB, hO⟩ := hBO
  have hN := hN.kept (fun k hk1 => hk _ (hN.lt k hk1) (ap_BO hab hbo hk1))
  refine lv_istore (lv' := [(5, .int (k9)), (4, .int (nI (4 * n))), (0, .ref (bs)), (1, .ref (a 13)), (2, .ref (b 5)), (3, .ref (o))]) hx hb dL_law_986 hl (by decide) rfl (fun ls hl => ?_)
  refine lv_aload_n hx hb dL_law_988 rfl (lv_at hl 4 rfl) ?_
  refine lv_aload_n hx hb dL_law_989 rfl (lv_at hl 2 rfl) ?_
  refine lv_iload hx hb dL_law_990 (lv_at hl 1 rfl) ?_
  refine lv_iconst (v := 1) hx hb dL_law_992 (by decide) ?_
  refine xadd (v := nI ((4 * n) + 1)) hC dL_law_993 (nadd (i := 4 * n) (j := 1) rfl rfl) ?_
  refine ldS hC hbx hbl hL hS (i := (4 * n) + 1) rfl (by omega) dL_law_994 ?_
  refine lv_aload_n hx hb dL_law_995 rfl (lv_at hl 2 rfl) ?_
  refine lv_iload hx hb dL_law_996 (lv_at hl 1 rfl) ?_
  refine lv_iconst (v := 2) hx hb dL_law_998 (by decide) ?_
  refine xadd (v := nI ((4 * n) + 2)) hC dL_law_999 (nadd (i := 4 * n) (j := 2) rfl rfl) ?_
  refine ldS hC hbx hbl hL hS (i := (4 * n) + 2) rfl (by omega) dL_law_1000 ?_
  refine kVw (A := inM b) hC hMd mov_M mov_M hN (rec_M hN) (good_V mv_345 mv_346 mv_347 mw_5 mv_348) hrm.1 hrm.2 ⟨rfl, by decide +kernel, by decide +kernel, show (parseMethodDescriptor yX1_holds.desc).map (fun d => d.parameters.length) = some 2 by decide +kernel⟩ hrR ⟨by show _ ≤ 601024; omega, by show _ ≤ 7293034; omega⟩ hS hA2 hl.1 rfl (Nat.le_of_ble_eq_true rfl) dL_law_1001 (fun H locs hN hS hz hk => ?_)
  have hO := hO.kept (hk o hO.lt (ap_Mo hbo))
  have hB := hB.kept (fun k hk1 => hk _ (hB.lt k hk1) (ap_M hab hk1))
  refine lv_istore (lv' := [(6, .int (r)), (5, .int (k9)), (4, .int (nI (4 * n))), (0, .ref (bs)), (1, .ref (a 13)), (2, .ref (b 5)), (3, .ref (o))]) hx hb dL_law_1004 hl (by decide) rfl (fun ls hl => ?_)
  refine lv_aload_n hx hb dL_law_1006 rfl (lv_at hl 5 rfl) ?_
  refine kV hC hTh mov_M hN (rec_M hN) (good_V mv_64 mv_65 mv_66 mw_5 mv_67) rfl rfl ⟨rfl, by decide +kernel, by decide +kernel, show (parseMethodDescriptor yX1_thrown.desc).map (fun d => d.parameters.length) = some 0 by decide +kernel⟩ ⟨Nat.le_of_ble_eq_true rfl, Nat.le_of_ble_eq_true rfl⟩ ⟨by show _ ≤ 601024; omega, by show _ ≤ 7293034; omega⟩ hl.1 rfl (Nat.le_of_ble_eq_true rfl) dL_law_1007 ?_
  refine lv_iload hx hb dL_law_1010 (lv_at hl 1 rfl) ?_
  refine lv_icmp_eq (tgt := 1017) hx hb dL_law_1012 (by decide) (fun c1 => ?_) (fun c1 => ?_)
  · refine lv_iload hx hb dL_law_1017 (lv_at hl 1 rfl) ?_
    refine lv_if_ne (tgt := 1034) hx hb dL_law_1019 (by decide) (fun c2 => ?_) (fun c2 => ?_)
    · refine lv_goto (tgt := 1559) hx hb dL_law_1034 (by decide) ?_
      exact W.widen (k := cells + 9) (n := slots + 64) (by omega) (by omega) (kx _ _ _ hB hN hO hS (lv_sub hl [2, 3, 4, 5, 6] rfl))
    · refine lv_aload_n hx hb dL_law_1022 rfl (lv_at hl 6 rfl) ?_
      refine lv_iconst (v := 0) hx hb dL_law_1023 (by decide) ?_
      refine ldO hC hO dL_law_1024 ?_
      refine lv_iload hx hb dL_law_1025 (lv_at hl 0 rfl) ?_
      refine lv_i2l (v := r.toInt64) hx hb dL_law_1027 rfl ?_
      have hw := he c2
      refine W.lcmp hx hb dL_law_1028 ?_
      rw [hw, lg_self]
      refine lv_if_eq (tgt := 1034) hx hb dL_law_1029 (by decide) (fun c3 => ?_) (fun c3 => ?_)
      · refine lv_goto (tgt := 1559) hx hb dL_law_1034 (by decide) ?_
        exact W.widen (k := cells + 9) (n := slots + 64) (by omega) (by omega) (kx _ _ _ hB hN hO hS (lv_sub hl [2, 3, 4, 5, 6] rfl))
      · exfalso; exact c3 rfl
  · exfalso; exact c1 rfl
set_option maxHeartbeats 4000000 in
set_option maxRecDepth 100000 in
theorem lc_worthOf {p : Program} {l : Launch} {e : Env} {s : State} {m : MethodId} {args : Array Value} {below : List Frame} {meth : Method} {c : Code} {H : Heap} {locs : List Loc} {cells slots : Nat} {Q : State → Prop} {ls : Array Slot} {bs L : Nat} {xs : Nat → Int32} {D : va_G} {cI cQ cL : ClassId} {a b : Nat → Nat} {o : Nat} {S N N' : bS} {w : Int64} {rm : Room} {n : Nat} (hX : LX l p m c s args bs L xs a b o) (hn : 4 * n + 4 ≤ L) (hB : BW D cI cQ a S s H) (hN : MW D cI b N s H) (hO : OW D cL o w s H) (hS : va_S (A0 s) s.heap H locs) (hf : cells + 9 ≤ 601024 ∧ slots + 64 ≤ 7293034) (hl : lv_has ls 9 [(4, .int (nI (4 * n))), (0, .ref (bs)), (1, .ref (a 13)), (2, .ref (b 5)), (3, .ref (o))]) {r : Int32} {S' : bS} {w' : Int64} {k9 : Int32} {T R : Nat} (hHp : Hp l yL_worthOf cL_worthOf 4 [(0, 9, 12, 24)] ({ frames := 8, cells := 1, slots := 6, locals := 160 } : Room) (XW D cI cQ cL a S o w) (XW D cI cQ cL a S' o w') (iBO a o) [.ref (a 13), .int (xs ((4 * n) + 1)), .ref (o)] k9) (hI : MI N' T R) (h5 : N' 5 0 = k9) (he : k9 = 0 → w' = r.toInt64) (hMd : Wr l yX1_worthOf cX1_worthOf 2 (some .int) rm (MW D cI b N) (MW D cI b N') (inM b) [.ref (b 5), .int (xs ((4 * n) + 1))] (some (.int r)) 0 0) (hrm : rm.cells = 0 ∧ rm.slots = 0) (hrR : rm.frames + 1 ≤ 11 ∧ 8 + (2 + 11) + rm.locals ≤ 390) (kx : ∀ (H1 : Heap) (locs1 : List Loc) (ls1 : Array Slot), BW D cI cQ a S' s H1 → MW D cI b N' s H1 → OW D cL o w' s H1 → va_S (A0 s) s.heap H1 locs1 → lv_has ls1 9 [(4, .int (nI (4 * n))), (0, .ref (bs)), (1, .ref (a 13)), (2, .ref (b 5)), (3, .ref (o))] → W p l e room_1 s m args below meth c H1 locs1 (cells + 9) (slots + 64) Q (F0 m 1559 ls1 [])) : W p l e room_1 s m args below meth c H locs cells slots Q (F0 m 1037 ls []) := by
  obtain ⟨hC, hl9, hbx, hbl, hL, hZ, hZH, hA1, hA2, hA3, hab, hao, hbo⟩ := hX
  have hx := hC.1
  have hb := hC.2.1
  have hf1 := hf.1
  have hf2 := hf.2
  have hTh : Rd l yX1_thrown cX1_thrown 1 (some .int) ({ frames := 0, cells := 0, slots := 0, locals := 0 } : Room) (MW D cI b N') [.ref (b 5)] (.int k9) := by rw [← h5]; exact c_X1_thrown l D cI b N' hI
  refine lv_aload_n hx hb dL_law_1037 rfl (lv_at hl 2 rfl) ?_
  refine lv_aload_n hx hb dL_law_1038 rfl (lv_at hl 1 rfl) ?_
  refine lv_iload hx hb dL_law_1039 (lv_at hl 0 rfl) ?_
  refine lv_iconst (v := 1) hx hb dL_law_1041 (by decide) ?_
  refine xadd (v := nI ((4 * n) + 1)) hC dL_law_1042 (nadd (i := 4 * n) (j := 1) rfl rfl) ?_
  refine ldS hC hbx hbl hL hS (i := (4 * n) + 1) rfl (by omega) dL_law_1043 ?_
  refine lv_aload_n hx hb dL_law_1044 rfl (lv_at hl 4 rfl) ?_
  refine kHp hC hHp mov_X mov_X ⟨hB, hO⟩ hZ (hZH.kept hS.2.1 |>.narrow (fun _ z => z.elim)) (good_SW mv_349 mv_350 mv_33 mv_351) rfl rfl ⟨by decide +kernel, by decide +kernel, show (parseMethodDescriptor yL_worthOf.desc).map (fun d => d.parameters.length) = some 3 by decide +kernel⟩ ⟨Nat.le_of_ble_eq_true rfl, Nat.le_of_ble_eq_true rfl⟩ ⟨by show _ ≤ 601024; omega, by show _ ≤ 7293034; omega⟩ hS (fun q z => z.elim (hA1 q) (fun e => by rw [e]; exact hA3)) hl.1 rfl (Nat.le_of_ble_eq_true rfl) dL_law_1045 (fun H locs hBO hS hk => ?_)
  obtain ⟨hB, hO⟩ := hBO
  have hN := hN.kept (fun k hk1 => hk _ (hN.lt k hk1) (ap_BO hab hbo hk1))
  refine lv_istore (lv' := [(5, .int (k9)), (4, .int (nI (4 * n))), (0, .ref (bs)), (1, .ref (a 13)), (2, .ref (b 5)), (3, .ref (o))]) hx hb dL_law_1048 hl (by decide) rfl (fun ls hl => ?_)
  refine lv_aload_n hx hb dL_law_1050 rfl (lv_at hl 4 rfl) ?_
  refine lv_aload_n hx hb dL_law_1051 rfl (lv_at hl 2 rfl) ?_
  refine lv_iload hx hb dL_law_1052 (lv_at hl 1 rfl) ?_
  refine lv_iconst (v := 1) hx hb dL_law_1054 (by decide) ?_
  refine xadd (v := nI ((4 * n) + 1)) hC dL_law_1055 (nadd (i := 4 * n) (j := 1) rfl rfl) ?_
  refine ldS hC hbx hbl hL hS (i := (4 * n) + 1) rfl (by omega) dL_law_1056 ?_
  refine kVw (A := inM b) hC hMd mov_M mov_M hN (rec_M hN) (good_V mv_372 mv_373 mv_374 mw_5 mv_375) hrm.1 hrm.2 ⟨rfl, by decide +kernel, by decide +kernel, show (parseMethodDescriptor yX1_worthOf.desc).map (fun d => d.parameters.length) = some 1 by decide +kernel⟩ hrR ⟨by show _ ≤ 601024; omega, by show _ ≤ 7293034; omega⟩ hS hA2 hl.1 rfl (Nat.le_of_ble_eq_true rfl) dL_law_1057 (fun H locs hN hS hz hk => ?_)
  have hO := hO.kept (hk o hO.lt (ap_Mo hbo))
  have hB := hB.kept (fun k hk1 => hk _ (hB.lt k hk1) (ap_M hab hk1))
  refine lv_istore (lv' := [(6, .int (r)), (5, .int (k9)), (4, .int (nI (4 * n))), (0, .ref (bs)), (1, .ref (a 13)), (2, .ref (b 5)), (3, .ref (o))]) hx hb dL_law_1060 hl (by decide) rfl (fun ls hl => ?_)
  refine lv_aload_n hx hb dL_law_1062 rfl (lv_at hl 5 rfl) ?_
  refine kV hC hTh mov_M hN (rec_M hN) (good_V mv_64 mv_65 mv_66 mw_5 mv_67) rfl rfl ⟨rfl, by decide +kernel, by decide +kernel, show (parseMethodDescriptor yX1_thrown.desc).map (fun d => d.parameters.length) = some 0 by decide +kernel⟩ ⟨Nat.le_of_ble_eq_true rfl, Nat.le_of_ble_eq_true rfl⟩ ⟨by show _ ≤ 601024; omega, by show _ ≤ 7293034; omega⟩ hl.1 rfl (Nat.le_of_ble_eq_true rfl) dL_law_1063 ?_
  refine lv_iload hx hb dL_law_1066 (lv_at hl 1 rfl) ?_
  refine lv_icmp_eq (tgt := 1073) hx hb dL_law_1068 (by decide) (fun c1 => ?_) (fun c1 => ?_)
  · refine lv_iload hx hb dL_law_1073 (lv_at hl 1 rfl) ?_
    refine lv_if_ne (tgt := 1090) hx hb dL_law_1075 (by decide) (fun c2 => ?_) (fun c2 => ?_)
    · refine lv_goto (tgt := 1559) hx hb dL_law_1090 (by decide) ?_
      exact W.widen (k := cells + 9) (n := slots + 64) (by omega) (by omega) (kx _ _ _ hB hN hO hS (lv_sub hl [2, 3, 4, 5, 6] rfl))
    · refine lv_aload_n hx hb dL_law_1078 rfl (lv_at hl 6 rfl) ?_
      refine lv_iconst (v := 0) hx hb dL_law_1079 (by decide) ?_
      refine ldO hC hO dL_law_1080 ?_
      refine lv_iload hx hb dL_law_1081 (lv_at hl 0 rfl) ?_
      refine lv_i2l (v := r.toInt64) hx hb dL_law_1083 rfl ?_
      have hw := he c2
      refine W.lcmp hx hb dL_law_1084 ?_
      rw [hw, lg_self]
      refine lv_if_eq (tgt := 1090) hx hb dL_law_1085 (by decide) (fun c3 => ?_) (fun c3 => ?_)
      · refine lv_goto (tgt := 1559) hx hb dL_law_1090 (by decide) ?_
        exact W.widen (k := cells + 9) (n := slots + 64) (by omega) (by omega) (kx _ _ _ hB hN hO hS (lv_sub hl [2, 3, 4, 5, 6] rfl))
      · exfalso; exact c3 rfl
  · exfalso; exact c1 rfl
set_option maxHeartbeats 4000000 in
set_option maxRecDepth 100000 in
theorem lc_richest {p : Program} {l : Launch} {e : Env} {s : State} {m : MethodId} {args : Array Value} {below : List Frame} {meth : Method} {c : Code} {H : Heap} {locs : List Loc} {cells slots : Nat} {Q : State → Prop} {ls : Array Slot} {bs L : Nat} {xs : Nat → Int32} {D : va_G} {cI cQ cL : ClassId} {a b : Nat → Nat} {o : Nat} {S N N' : bS} {w : Int64} {rm : Room} {n : Nat} (hX : LX l p m c s args bs L xs a b o) (hn : 4 * n + 4 ≤ L) (hB : BW D cI cQ a S s H) (hN : MW D cI b N s H) (hO : OW D cL o w s H) (hS : va_S (A0 s) s.heap H locs) (hf : cells + 9 ≤ 601024 ∧ slots + 64 ≤ 7293034) (hl : lv_has ls 9 [(4, .int (nI (4 * n))), (0, .ref (bs)), (1, .ref (a 13)), (2, .ref (b 5)), (3, .ref (o))]) {r : Int32} (hBd : Rd l yX0_richest cX0_richest 3 (some .int) ({ frames := 5, cells := 0, slots := 0, locals := 118 } : Room) (BW D cI cQ a S) [.ref (a 13)] (.int r)) (hMd : Wr l yX1_richest cX1_richest 1 (some .int) rm (MW D cI b N) (MW D cI b N') (inM b) [.ref (b 5)] (some (.int r)) 0 0) (hrm : rm.cells = 0 ∧ rm.slots = 0) (hrR : rm.frames + 1 ≤ 11 ∧ 8 + (1 + 11) + rm.locals ≤ 390) (kx : ∀ (H1 : Heap) (locs1 : List Loc) (ls1 : Array Slot), BW D cI cQ a S s H1 → MW D cI b N' s H1 → OW D cL o w s H1 → va_S (A0 s) s.heap H1 locs1 → lv_has ls1 9 [(4, .int (nI (4 * n))), (0, .ref (bs)), (1, .ref (a 13)), (2, .ref (b 5)), (3, .ref (o))] → W p l e room_1 s m args below meth c H1 locs1 (cells + 9) (slots + 64) Q (F0 m 1559 ls1 [])) : W p l e room_1 s m args below meth c H locs cells slots Q (F0 m 1093 ls []) := by
  obtain ⟨hC, hl9, hbx, hbl, hL, hZ, hZH, hA1, hA2, hA3, hab, hao, hbo⟩ := hX
  have hx := hC.1
  have hb := hC.2.1
  have hf1 := hf.1
  have hf2 := hf.2
  refine lv_aload_n hx hb dL_law_1093 rfl (lv_at hl 2 rfl) ?_
  refine kV hC hBd mov_B hB (rec_B hB) (good_V mv_380 mw_381 mw_382 mw_2 mw_383) rfl rfl ⟨rfl, by decide +kernel, by decide +kernel, show (parseMethodDescriptor yX0_richest.desc).map (fun d => d.parameters.length) = some 0 by decide +kernel⟩ ⟨Nat.le_of_ble_eq_true rfl, Nat.le_of_ble_eq_true rfl⟩ ⟨by show _ ≤ 601024; omega, by show _ ≤ 7293034; omega⟩ hl.1 rfl (Nat.le_of_ble_eq_true rfl) dL_law_1094 ?_
  refine lv_aload_n hx hb dL_law_1097 rfl (lv_at hl 3 rfl) ?_
  refine kVw (A := inM b) hC hMd mov_M mov_M hN (rec_M hN) (good_V mv_384 mv_385 mv_386 mw_5 mv_387) hrm.1 hrm.2 ⟨rfl, by decide +kernel, by decide +kernel, show (parseMethodDescriptor yX1_richest.desc).map (fun d => d.parameters.length) = some 0 by decide +kernel⟩ hrR ⟨by show _ ≤ 601024; omega, by show _ ≤ 7293034; omega⟩ hS hA2 hl.1 rfl (Nat.le_of_ble_eq_true rfl) dL_law_1098 (fun H locs hN hS hz hk => ?_)
  have hO := hO.kept (hk o hO.lt (ap_Mo hbo))
  have hB := hB.kept (fun k hk1 => hk _ (hB.lt k hk1) (ap_M hab hk1))
  refine lv_icmp_eq (tgt := 1559) hx hb dL_law_1101 (by decide) (fun c1 => ?_) (fun c1 => ?_)
  · exact W.widen (k := cells + 9) (n := slots + 64) (by omega) (by omega) (kx _ _ _ hB hN hO hS (lv_sub hl [0, 1, 2, 3, 4] rfl))
  · exfalso; exact c1 rfl
set_option maxHeartbeats 4000000 in
set_option maxRecDepth 100000 in
theorem lc_shortsOf {p : Program} {l : Launch} {e : Env} {s : State} {m : MethodId} {args : Array Value} {below : List Frame} {meth : Method} {c : Code} {H : Heap} {locs : List Loc} {cells slots : Nat} {Q : State → Prop} {ls : Array Slot} {bs L : Nat} {xs : Nat → Int32} {D : va_G} {cI cQ cL : ClassId} {a b : Nat → Nat} {o : Nat} {S N N' : bS} {w : Int64} {rm : Room} {n : Nat} (hX : LX l p m c s args bs L xs a b o) (hn : 4 * n + 4 ≤ L) (hB : BW D cI cQ a S s H) (hN : MW D cI b N s H) (hO : OW D cL o w s H) (hS : va_S (A0 s) s.heap H locs) (hf : cells + 9 ≤ 601024 ∧ slots + 64 ≤ 7293034) (hl : lv_has ls 9 [(4, .int (nI (4 * n))), (0, .ref (bs)), (1, .ref (a 13)), (2, .ref (b 5)), (3, .ref (o))]) {r : Int32} {S' : bS} {w' : Int64} {k9 : Int32} {T R : Nat} (hHp : Hp l yL_shortsOf cL_shortsOf 4 [(0, 9, 12, 24)] ({ frames := 8, cells := 1, slots := 6, locals := 160 } : Room) (XW D cI cQ cL a S o w) (XW D cI cQ cL a S' o w') (iBO a o) [.ref (a 13), .int (xs ((4 * n) + 1)), .ref (o)] k9) (hI : MI N' T R) (h5 : N' 5 0 = k9) (he : k9 = 0 → w' = r.toInt64) (hMd : Wr l yX1_shortsOf cX1_shortsOf 2 (some .int) rm (MW D cI b N) (MW D cI b N') (inM b) [.ref (b 5), .int (xs ((4 * n) + 1))] (some (.int r)) 0 0) (hrm : rm.cells = 0 ∧ rm.slots = 0) (hrR : rm.frames + 1 ≤ 11 ∧ 8 + (2 + 11) + rm.locals ≤ 390) (kx : ∀ (H1 : Heap) (locs1 : List Loc) (ls1 : Array Slot), BW D cI cQ a S' s H1 → MW D cI b N' s H1 → OW D cL o w' s H1 → va_S (A0 s) s.heap H1 locs1 → lv_has ls1 9 [(4, .int (nI (4 * n))), (0, .ref (bs)), (1, .ref (a 13)), (2, .ref (b 5)), (3, .ref (o))] → W p l e room_1 s m args below meth c H1 locs1 (cells + 9) (slots + 64) Q (F0 m 1559 ls1 [])) : W p l e room_1 s m args below meth c H locs cells slots Q (F0 m 1106 ls []) := by
  obtain ⟨hC, hl9, hbx, hbl, hL, hZ, hZH, hA1, hA2, hA3, hab, hao, hbo⟩ := hX
  have hx := hC.1
  have hb := hC.2.1
  have hf1 := hf.1
  have hf2 := hf.2
  have hTh : Rd l yX1_thrown cX1_thrown 1 (some .int) ({ frames := 0, cells := 0, slots := 0, locals := 0 } : Room) (MW D cI b N') [.ref (b 5)] (.int k9) := by rw [← h5]; exact c_X1_thrown l D cI b N' hI
  refine lv_aload_n hx hb dL_law_1106 rfl (lv_at hl 2 rfl) ?_
  refine lv_aload_n hx hb dL_law_1107 rfl (lv_at hl 1 rfl) ?_
  refine lv_iload hx hb dL_law_1108 (lv_at hl 0 rfl) ?_
  refine lv_iconst (v := 1) hx hb dL_law_1110 (by decide) ?_
  refine xadd (v := nI ((4 * n) + 1)) hC dL_law_1111 (nadd (i := 4 * n) (j := 1) rfl rfl) ?_
  refine ldS hC hbx hbl hL hS (i := (4 * n) + 1) rfl (by omega) dL_law_1112 ?_
  refine lv_aload_n hx hb dL_law_1113 rfl (lv_at hl 4 rfl) ?_
  refine kHp hC hHp mov_X mov_X ⟨hB, hO⟩ hZ (hZH.kept hS.2.1 |>.narrow (fun _ z => z.elim)) (good_SW mv_392 mv_393 mv_33 mv_394) rfl rfl ⟨by decide +kernel, by decide +kernel, show (parseMethodDescriptor yL_shortsOf.desc).map (fun d => d.parameters.length) = some 3 by decide +kernel⟩ ⟨Nat.le_of_ble_eq_true rfl, Nat.le_of_ble_eq_true rfl⟩ ⟨by show _ ≤ 601024; omega, by show _ ≤ 7293034; omega⟩ hS (fun q z => z.elim (hA1 q) (fun e => by rw [e]; exact hA3)) hl.1 rfl (Nat.le_of_ble_eq_true rfl) dL_law_1114 (fun H locs hBO hS hk => ?_)
  obtain ⟨hB, hO⟩ := hBO
  have hN := hN.kept (fun k hk1 => hk _ (hN.lt k hk1) (ap_BO hab hbo hk1))
  refine lv_istore (lv' := [(5, .int (k9)), (4, .int (nI (4 * n))), (0, .ref (bs)), (1, .ref (a 13)), (2, .ref (b 5)), (3, .ref (o))]) hx hb dL_law_1117 hl (by decide) rfl (fun ls hl => ?_)
  refine lv_aload_n hx hb dL_law_1119 rfl (lv_at hl 4 rfl) ?_
  refine lv_aload_n hx hb dL_law_1120 rfl (lv_at hl 2 rfl) ?_
  refine lv_iload hx hb dL_law_1121 (lv_at hl 1 rfl) ?_
  refine lv_iconst (v := 1) hx hb dL_law_1123 (by decide) ?_
  refine xadd (v := nI ((4 * n) + 1)) hC dL_law_1124 (nadd (i := 4 * n) (j := 1) rfl rfl) ?_
  refine ldS hC hbx hbl hL hS (i := (4 * n) + 1) rfl (by omega) dL_law_1125 ?_
  refine kVw (A := inM b) hC hMd mov_M mov_M hN (rec_M hN) (good_V mv_403 mv_404 mv_405 mw_5 mv_406) hrm.1 hrm.2 ⟨rfl, by decide +kernel, by decide +kernel, show (parseMethodDescriptor yX1_shortsOf.desc).map (fun d => d.parameters.length) = some 1 by decide +kernel⟩ hrR ⟨by show _ ≤ 601024; omega, by show _ ≤ 7293034; omega⟩ hS hA2 hl.1 rfl (Nat.le_of_ble_eq_true rfl) dL_law_1126 (fun H locs hN hS hz hk => ?_)
  have hO := hO.kept (hk o hO.lt (ap_Mo hbo))
  have hB := hB.kept (fun k hk1 => hk _ (hB.lt k hk1) (ap_M hab hk1))
  refine lv_istore (lv' := [(6, .int (r)), (5, .int (k9)), (4, .int (nI (4 * n))), (0, .ref (bs)), (1, .ref (a 13)), (2, .ref (b 5)), (3, .ref (o))]) hx hb dL_law_1129 hl (by decide) rfl (fun ls hl => ?_)
  refine lv_aload_n hx hb dL_law_1131 rfl (lv_at hl 5 rfl) ?_
  refine kV hC hTh mov_M hN (rec_M hN) (good_V mv_64 mv_65 mv_66 mw_5 mv_67) rfl rfl ⟨rfl, by decide +kernel, by decide +kernel, show (parseMethodDescriptor yX1_thrown.desc).map (fun d => d.parameters.length) = some 0 by decide +kernel⟩ ⟨Nat.le_of_ble_eq_true rfl, Nat.le_of_ble_eq_true rfl⟩ ⟨by show _ ≤ 601024; omega, by show _ ≤ 7293034; omega⟩ hl.1 rfl (Nat.le_of_ble_eq_true rfl) dL_law_1132 ?_
  refine lv_iload hx hb dL_law_1135 (lv_at hl 1 rfl) ?_
  refine lv_icmp_eq (tgt := 1142) hx hb dL_law_1137 (by decide) (fun c1 => ?_) (fun c1 => ?_)
  · refine lv_iload hx hb dL_law_1142 (lv_at hl 1 rfl) ?_
    refine lv_if_ne (tgt := 1159) hx hb dL_law_1144 (by decide) (fun c2 => ?_) (fun c2 => ?_)
    · refine lv_goto (tgt := 1559) hx hb dL_law_1159 (by decide) ?_
      exact W.widen (k := cells + 9) (n := slots + 64) (by omega) (by omega) (kx _ _ _ hB hN hO hS (lv_sub hl [2, 3, 4, 5, 6] rfl))
    · refine lv_aload_n hx hb dL_law_1147 rfl (lv_at hl 6 rfl) ?_
      refine lv_iconst (v := 0) hx hb dL_law_1148 (by decide) ?_
      refine ldO hC hO dL_law_1149 ?_
      refine lv_iload hx hb dL_law_1150 (lv_at hl 0 rfl) ?_
      refine lv_i2l (v := r.toInt64) hx hb dL_law_1152 rfl ?_
      have hw := he c2
      refine W.lcmp hx hb dL_law_1153 ?_
      rw [hw, lg_self]
      refine lv_if_eq (tgt := 1159) hx hb dL_law_1154 (by decide) (fun c3 => ?_) (fun c3 => ?_)
      · refine lv_goto (tgt := 1559) hx hb dL_law_1159 (by decide) ?_
        exact W.widen (k := cells + 9) (n := slots + 64) (by omega) (by omega) (kx _ _ _ hB hN hO hS (lv_sub hl [2, 3, 4, 5, 6] rfl))
      · exfalso; exact c3 rfl
  · exfalso; exact c1 rfl
set_option maxHeartbeats 4000000 in
set_option maxRecDepth 100000 in
theorem lc_inDebt {p : Program} {l : Launch} {e : Env} {s : State} {m : MethodId} {args : Array Value} {below : List Frame} {meth : Method} {c : Code} {H : Heap} {locs : List Loc} {cells slots : Nat} {Q : State → Prop} {ls : Array Slot} {bs L : Nat} {xs : Nat → Int32} {D : va_G} {cI cQ cL : ClassId} {a b : Nat → Nat} {o : Nat} {S N N' : bS} {w : Int64} {rm : Room} {n : Nat} (hX : LX l p m c s args bs L xs a b o) (hn : 4 * n + 4 ≤ L) (hB : BW D cI cQ a S s H) (hN : MW D cI b N s H) (hO : OW D cL o w s H) (hS : va_S (A0 s) s.heap H locs) (hf : cells + 9 ≤ 601024 ∧ slots + 64 ≤ 7293034) (hl : lv_has ls 9 [(4, .int (nI (4 * n))), (0, .ref (bs)), (1, .ref (a 13)), (2, .ref (b 5)), (3, .ref (o))]) {r : Int32} (hBd : Rd l yX0_inDebt cX0_inDebt 3 (some .int) ({ frames := 0, cells := 0, slots := 0, locals := 0 } : Room) (BW D cI cQ a S) [.ref (a 13)] (.int r)) (hMd : Wr l yX1_inDebt cX1_inDebt 1 (some .int) rm (MW D cI b N) (MW D cI b N') (inM b) [.ref (b 5)] (some (.int r)) 0 0) (hrm : rm.cells = 0 ∧ rm.slots = 0) (hrR : rm.frames + 1 ≤ 11 ∧ 8 + (1 + 11) + rm.locals ≤ 390) (kx : ∀ (H1 : Heap) (locs1 : List Loc) (ls1 : Array Slot), BW D cI cQ a S s H1 → MW D cI b N' s H1 → OW D cL o w s H1 → va_S (A0 s) s.heap H1 locs1 → lv_has ls1 9 [(4, .int (nI (4 * n))), (0, .ref (bs)), (1, .ref (a 13)), (2, .ref (b 5)), (3, .ref (o))] → W p l e room_1 s m args below meth c H1 locs1 (cells + 9) (slots + 64) Q (F0 m 1559 ls1 [])) : W p l e room_1 s m args below meth c H locs cells slots Q (F0 m 1162 ls []) := by
  obtain ⟨hC, hl9, hbx, hbl, hL, hZ, hZH, hA1, hA2, hA3, hab, hao, hbo⟩ := hX
  have hx := hC.1
  have hb := hC.2.1
  have hf1 := hf.1
  have hf2 := hf.2
  refine lv_aload_n hx hb dL_law_1162 rfl (lv_at hl 2 rfl) ?_
  refine kV hC hBd mov_B hB (rec_B hB) (good_V mv_411 mw_412 mw_413 mw_2 mw_414) rfl rfl ⟨rfl, by decide +kernel, by decide +kernel, show (parseMethodDescriptor yX0_inDebt.desc).map (fun d => d.parameters.length) = some 0 by decide +kernel⟩ ⟨Nat.le_of_ble_eq_true rfl, Nat.le_of_ble_eq_true rfl⟩ ⟨by show _ ≤ 601024; omega, by show _ ≤ 7293034; omega⟩ hl.1 rfl (Nat.le_of_ble_eq_true rfl) dL_law_1163 ?_
  refine lv_aload_n hx hb dL_law_1166 rfl (lv_at hl 3 rfl) ?_
  refine kVw (A := inM b) hC hMd mov_M mov_M hN (rec_M hN) (good_V mv_415 mv_416 mv_417 mw_5 mv_418) hrm.1 hrm.2 ⟨rfl, by decide +kernel, by decide +kernel, show (parseMethodDescriptor yX1_inDebt.desc).map (fun d => d.parameters.length) = some 0 by decide +kernel⟩ hrR ⟨by show _ ≤ 601024; omega, by show _ ≤ 7293034; omega⟩ hS hA2 hl.1 rfl (Nat.le_of_ble_eq_true rfl) dL_law_1167 (fun H locs hN hS hz hk => ?_)
  have hO := hO.kept (hk o hO.lt (ap_Mo hbo))
  have hB := hB.kept (fun k hk1 => hk _ (hB.lt k hk1) (ap_M hab hk1))
  refine lv_icmp_eq (tgt := 1559) hx hb dL_law_1170 (by decide) (fun c1 => ?_) (fun c1 => ?_)
  · exact W.widen (k := cells + 9) (n := slots + 64) (by omega) (by omega) (kx _ _ _ hB hN hO hS (lv_sub hl [0, 1, 2, 3, 4] rfl))
  · exfalso; exact c1 rfl
set_option maxHeartbeats 4000000 in
set_option maxRecDepth 100000 in
theorem lc_closingPrice {p : Program} {l : Launch} {e : Env} {s : State} {m : MethodId} {args : Array Value} {below : List Frame} {meth : Method} {c : Code} {H : Heap} {locs : List Loc} {cells slots : Nat} {Q : State → Prop} {ls : Array Slot} {bs L : Nat} {xs : Nat → Int32} {D : va_G} {cI cQ cL : ClassId} {a b : Nat → Nat} {o : Nat} {S N N' : bS} {w : Int64} {rm : Room} {n : Nat} (hX : LX l p m c s args bs L xs a b o) (hn : 4 * n + 4 ≤ L) (hB : BW D cI cQ a S s H) (hN : MW D cI b N s H) (hO : OW D cL o w s H) (hS : va_S (A0 s) s.heap H locs) (hf : cells + 9 ≤ 601024 ∧ slots + 64 ≤ 7293034) (hl : lv_has ls 9 [(4, .int (nI (4 * n))), (0, .ref (bs)), (1, .ref (a 13)), (2, .ref (b 5)), (3, .ref (o))]) {r : Int32} {S' : bS} {w' : Int64} {k9 : Int32} {T R : Nat} (hHp : Hp l yL_closingPrice cL_closingPrice 4 [(0, 9, 12, 24)] ({ frames := 8, cells := 1, slots := 6, locals := 160 } : Room) (XW D cI cQ cL a S o w) (XW D cI cQ cL a S' o w') (iBO a o) [.ref (a 13), .int (xs ((4 * n) + 1)), .ref (o)] k9) (hI : MI N' T R) (h5 : N' 5 0 = k9) (he : k9 = 0 → w' = r.toInt64) (hMd : Wr l yX1_closingPrice cX1_closingPrice 2 (some .int) rm (MW D cI b N) (MW D cI b N') (inM b) [.ref (b 5), .int (xs ((4 * n) + 1))] (some (.int r)) 0 0) (hrm : rm.cells = 0 ∧ rm.slots = 0) (hrR : rm.frames + 1 ≤ 11 ∧ 8 + (2 + 11) + rm.locals ≤ 390) (kx : ∀ (H1 : Heap) (locs1 : List Loc) (ls1 : Array Slot), BW D cI cQ a S' s H1 → MW D cI b N' s H1 → OW D cL o w' s H1 → va_S (A0 s) s.heap H1 locs1 → lv_has ls1 9 [(4, .int (nI (4 * n))), (0, .ref (bs)), (1, .ref (a 13)), (2, .ref (b 5)), (3, .ref (o))] → W p l e room_1 s m args below meth c H1 locs1 (cells + 9) (slots + 64) Q (F0 m 1559 ls1 [])) : W p l e room_1 s m args below meth c H locs cells slots Q (F0 m 1175 ls []) := by
  obtain ⟨hC, hl9, hbx, hbl, hL, hZ, hZH, hA1, hA2, hA3, hab, hao, hbo⟩ := hX
  have hx := hC.1
  have hb := hC.2.1
  have hf1 := hf.1
  have hf2 := hf.2
  have hTh : Rd l yX1_thrown cX1_thrown 1 (some .int) ({ frames := 0, cells := 0, slots := 0, locals := 0 } : Room) (MW D cI b N') [.ref (b 5)] (.int k9) := by rw [← h5]; exact c_X1_thrown l D cI b N' hI
  refine lv_aload_n hx hb dL_law_1175 rfl (lv_at hl 2 rfl) ?_
  refine lv_aload_n hx hb dL_law_1176 rfl (lv_at hl 1 rfl) ?_
  refine lv_iload hx hb dL_law_1177 (lv_at hl 0 rfl) ?_
  refine lv_iconst (v := 1) hx hb dL_law_1179 (by decide) ?_
  refine xadd (v := nI ((4 * n) + 1)) hC dL_law_1180 (nadd (i := 4 * n) (j := 1) rfl rfl) ?_
  refine ldS hC hbx hbl hL hS (i := (4 * n) + 1) rfl (by omega) dL_law_1181 ?_
  refine lv_aload_n hx hb dL_law_1182 rfl (lv_at hl 4 rfl) ?_
  refine kHp hC hHp mov_X mov_X ⟨hB, hO⟩ hZ (hZH.kept hS.2.1 |>.narrow (fun _ z => z.elim)) (good_SW mv_423 mv_424 mv_33 mv_425) rfl rfl ⟨by decide +kernel, by decide +kernel, show (parseMethodDescriptor yL_closingPrice.desc).map (fun d => d.parameters.length) = some 3 by decide +kernel⟩ ⟨Nat.le_of_ble_eq_true rfl, Nat.le_of_ble_eq_true rfl⟩ ⟨by show _ ≤ 601024; omega, by show _ ≤ 7293034; omega⟩ hS (fun q z => z.elim (hA1 q) (fun e => by rw [e]; exact hA3)) hl.1 rfl (Nat.le_of_ble_eq_true rfl) dL_law_1183 (fun H locs hBO hS hk => ?_)
  obtain ⟨hB, hO⟩ := hBO
  have hN := hN.kept (fun k hk1 => hk _ (hN.lt k hk1) (ap_BO hab hbo hk1))
  refine lv_istore (lv' := [(5, .int (k9)), (4, .int (nI (4 * n))), (0, .ref (bs)), (1, .ref (a 13)), (2, .ref (b 5)), (3, .ref (o))]) hx hb dL_law_1186 hl (by decide) rfl (fun ls hl => ?_)
  refine lv_aload_n hx hb dL_law_1188 rfl (lv_at hl 4 rfl) ?_
  refine lv_aload_n hx hb dL_law_1189 rfl (lv_at hl 2 rfl) ?_
  refine lv_iload hx hb dL_law_1190 (lv_at hl 1 rfl) ?_
  refine lv_iconst (v := 1) hx hb dL_law_1192 (by decide) ?_
  refine xadd (v := nI ((4 * n) + 1)) hC dL_law_1193 (nadd (i := 4 * n) (j := 1) rfl rfl) ?_
  refine ldS hC hbx hbl hL hS (i := (4 * n) + 1) rfl (by omega) dL_law_1194 ?_
  refine kVw (A := inM b) hC hMd mov_M mov_M hN (rec_M hN) (good_V mv_430 mv_431 mv_432 mw_5 mv_433) hrm.1 hrm.2 ⟨rfl, by decide +kernel, by decide +kernel, show (parseMethodDescriptor yX1_closingPrice.desc).map (fun d => d.parameters.length) = some 1 by decide +kernel⟩ hrR ⟨by show _ ≤ 601024; omega, by show _ ≤ 7293034; omega⟩ hS hA2 hl.1 rfl (Nat.le_of_ble_eq_true rfl) dL_law_1195 (fun H locs hN hS hz hk => ?_)
  have hO := hO.kept (hk o hO.lt (ap_Mo hbo))
  have hB := hB.kept (fun k hk1 => hk _ (hB.lt k hk1) (ap_M hab hk1))
  refine lv_istore (lv' := [(6, .int (r)), (5, .int (k9)), (4, .int (nI (4 * n))), (0, .ref (bs)), (1, .ref (a 13)), (2, .ref (b 5)), (3, .ref (o))]) hx hb dL_law_1198 hl (by decide) rfl (fun ls hl => ?_)
  refine lv_aload_n hx hb dL_law_1200 rfl (lv_at hl 5 rfl) ?_
  refine kV hC hTh mov_M hN (rec_M hN) (good_V mv_64 mv_65 mv_66 mw_5 mv_67) rfl rfl ⟨rfl, by decide +kernel, by decide +kernel, show (parseMethodDescriptor yX1_thrown.desc).map (fun d => d.parameters.length) = some 0 by decide +kernel⟩ ⟨Nat.le_of_ble_eq_true rfl, Nat.le_of_ble_eq_true rfl⟩ ⟨by show _ ≤ 601024; omega, by show _ ≤ 7293034; omega⟩ hl.1 rfl (Nat.le_of_ble_eq_true rfl) dL_law_1201 ?_
  refine lv_iload hx hb dL_law_1204 (lv_at hl 1 rfl) ?_
  refine lv_icmp_eq (tgt := 1211) hx hb dL_law_1206 (by decide) (fun c1 => ?_) (fun c1 => ?_)
  · refine lv_iload hx hb dL_law_1211 (lv_at hl 1 rfl) ?_
    refine lv_if_ne (tgt := 1228) hx hb dL_law_1213 (by decide) (fun c2 => ?_) (fun c2 => ?_)
    · refine lv_goto (tgt := 1559) hx hb dL_law_1228 (by decide) ?_
      exact W.widen (k := cells + 9) (n := slots + 64) (by omega) (by omega) (kx _ _ _ hB hN hO hS (lv_sub hl [2, 3, 4, 5, 6] rfl))
    · refine lv_aload_n hx hb dL_law_1216 rfl (lv_at hl 6 rfl) ?_
      refine lv_iconst (v := 0) hx hb dL_law_1217 (by decide) ?_
      refine ldO hC hO dL_law_1218 ?_
      refine lv_iload hx hb dL_law_1219 (lv_at hl 0 rfl) ?_
      refine lv_i2l (v := r.toInt64) hx hb dL_law_1221 rfl ?_
      have hw := he c2
      refine W.lcmp hx hb dL_law_1222 ?_
      rw [hw, lg_self]
      refine lv_if_eq (tgt := 1228) hx hb dL_law_1223 (by decide) (fun c3 => ?_) (fun c3 => ?_)
      · refine lv_goto (tgt := 1559) hx hb dL_law_1228 (by decide) ?_
        exact W.widen (k := cells + 9) (n := slots + 64) (by omega) (by omega) (kx _ _ _ hB hN hO hS (lv_sub hl [2, 3, 4, 5, 6] rfl))
      · exfalso; exact c3 rfl
  · exfalso; exact c1 rfl
set_option maxHeartbeats 4000000 in
set_option maxRecDepth 100000 in
theorem lc_priceIn {p : Program} {l : Launch} {e : Env} {s : State} {m : MethodId} {args : Array Value} {below : List Frame} {meth : Method} {c : Code} {H : Heap} {locs : List Loc} {cells slots : Nat} {Q : State → Prop} {ls : Array Slot} {bs L : Nat} {xs : Nat → Int32} {D : va_G} {cI cQ cL : ClassId} {a b : Nat → Nat} {o : Nat} {S N N' : bS} {w : Int64} {rm : Room} {n : Nat} (hX : LX l p m c s args bs L xs a b o) (hn : 4 * n + 4 ≤ L) (hB : BW D cI cQ a S s H) (hN : MW D cI b N s H) (hO : OW D cL o w s H) (hS : va_S (A0 s) s.heap H locs) (hf : cells + 9 ≤ 601024 ∧ slots + 64 ≤ 7293034) (hl : lv_has ls 9 [(4, .int (nI (4 * n))), (0, .ref (bs)), (1, .ref (a 13)), (2, .ref (b 5)), (3, .ref (o))]) {r : Int32} {S' : bS} {w' : Int64} {k9 : Int32} {T R : Nat} (hHp : Hp l yL_priceIn cL_priceIn 5 [(0, 10, 13, 24), (0, 10, 17, 13)] ({ frames := 8, cells := 1, slots := 6, locals := 160 } : Room) (XW D cI cQ cL a S o w) (XW D cI cQ cL a S' o w') (iBO a o) [.ref (a 13), .int (xs ((4 * n) + 1)), .int (xs ((4 * n) + 2)), .ref (o)] k9) (hI : MI N' T R) (h5 : N' 5 0 = k9) (he : k9 = 0 → w' = r.toInt64) (hMd : Wr l yX1_priceIn cX1_priceIn 4 (some .int) rm (MW D cI b N) (MW D cI b N') (inM b) [.ref (b 5), .int (xs ((4 * n) + 1)), .int (xs ((4 * n) + 2))] (some (.int r)) 0 0) (hrm : rm.cells = 0 ∧ rm.slots = 0) (hrR : rm.frames + 1 ≤ 11 ∧ 8 + (4 + 11) + rm.locals ≤ 390) (kx : ∀ (H1 : Heap) (locs1 : List Loc) (ls1 : Array Slot), BW D cI cQ a S' s H1 → MW D cI b N' s H1 → OW D cL o w' s H1 → va_S (A0 s) s.heap H1 locs1 → lv_has ls1 9 [(4, .int (nI (4 * n))), (0, .ref (bs)), (1, .ref (a 13)), (2, .ref (b 5)), (3, .ref (o))] → W p l e room_1 s m args below meth c H1 locs1 (cells + 9) (slots + 64) Q (F0 m 1559 ls1 [])) : W p l e room_1 s m args below meth c H locs cells slots Q (F0 m 1231 ls []) := by
  obtain ⟨hC, hl9, hbx, hbl, hL, hZ, hZH, hA1, hA2, hA3, hab, hao, hbo⟩ := hX
  have hx := hC.1
  have hb := hC.2.1
  have hf1 := hf.1
  have hf2 := hf.2
  have hTh : Rd l yX1_thrown cX1_thrown 1 (some .int) ({ frames := 0, cells := 0, slots := 0, locals := 0 } : Room) (MW D cI b N') [.ref (b 5)] (.int k9) := by rw [← h5]; exact c_X1_thrown l D cI b N' hI
  refine lv_aload_n hx hb dL_law_1231 rfl (lv_at hl 2 rfl) ?_
  refine lv_aload_n hx hb dL_law_1232 rfl (lv_at hl 1 rfl) ?_
  refine lv_iload hx hb dL_law_1233 (lv_at hl 0 rfl) ?_
  refine lv_iconst (v := 1) hx hb dL_law_1235 (by decide) ?_
  refine xadd (v := nI ((4 * n) + 1)) hC dL_law_1236 (nadd (i := 4 * n) (j := 1) rfl rfl) ?_
  refine ldS hC hbx hbl hL hS (i := (4 * n) + 1) rfl (by omega) dL_law_1237 ?_
  refine lv_aload_n hx hb dL_law_1238 rfl (lv_at hl 1 rfl) ?_
  refine lv_iload hx hb dL_law_1239 (lv_at hl 0 rfl) ?_
  refine lv_iconst (v := 2) hx hb dL_law_1241 (by decide) ?_
  refine xadd (v := nI ((4 * n) + 2)) hC dL_law_1242 (nadd (i := 4 * n) (j := 2) rfl rfl) ?_
  refine ldS hC hbx hbl hL hS (i := (4 * n) + 2) rfl (by omega) dL_law_1243 ?_
  refine lv_aload_n hx hb dL_law_1244 rfl (lv_at hl 4 rfl) ?_
  refine kHp hC hHp mov_X mov_X ⟨hB, hO⟩ hZ (hZH.kept hS.2.1 |>.narrow (fun _ z => z.elim)) (good_SW mv_438 mv_439 mv_33 mv_440) rfl rfl ⟨by decide +kernel, by decide +kernel, show (parseMethodDescriptor yL_priceIn.desc).map (fun d => d.parameters.length) = some 4 by decide +kernel⟩ ⟨Nat.le_of_ble_eq_true rfl, Nat.le_of_ble_eq_true rfl⟩ ⟨by show _ ≤ 601024; omega, by show _ ≤ 7293034; omega⟩ hS (fun q z => z.elim (hA1 q) (fun e => by rw [e]; exact hA3)) hl.1 rfl (Nat.le_of_ble_eq_true rfl) dL_law_1245 (fun H locs hBO hS hk => ?_)
  obtain ⟨hB, hO⟩ := hBO
  have hN := hN.kept (fun k hk1 => hk _ (hN.lt k hk1) (ap_BO hab hbo hk1))
  refine lv_istore (lv' := [(5, .int (k9)), (4, .int (nI (4 * n))), (0, .ref (bs)), (1, .ref (a 13)), (2, .ref (b 5)), (3, .ref (o))]) hx hb dL_law_1248 hl (by decide) rfl (fun ls hl => ?_)
  refine lv_aload_n hx hb dL_law_1250 rfl (lv_at hl 4 rfl) ?_
  refine lv_aload_n hx hb dL_law_1251 rfl (lv_at hl 2 rfl) ?_
  refine lv_iload hx hb dL_law_1252 (lv_at hl 1 rfl) ?_
  refine lv_iconst (v := 1) hx hb dL_law_1254 (by decide) ?_
  refine xadd (v := nI ((4 * n) + 1)) hC dL_law_1255 (nadd (i := 4 * n) (j := 1) rfl rfl) ?_
  refine ldS hC hbx hbl hL hS (i := (4 * n) + 1) rfl (by omega) dL_law_1256 ?_
  refine lv_aload_n hx hb dL_law_1257 rfl (lv_at hl 2 rfl) ?_
  refine lv_iload hx hb dL_law_1258 (lv_at hl 1 rfl) ?_
  refine lv_iconst (v := 2) hx hb dL_law_1260 (by decide) ?_
  refine xadd (v := nI ((4 * n) + 2)) hC dL_law_1261 (nadd (i := 4 * n) (j := 2) rfl rfl) ?_
  refine ldS hC hbx hbl hL hS (i := (4 * n) + 2) rfl (by omega) dL_law_1262 ?_
  refine kVw (A := inM b) hC hMd mov_M mov_M hN (rec_M hN) (good_V mv_445 mv_446 mv_447 mw_5 mv_448) hrm.1 hrm.2 ⟨rfl, by decide +kernel, by decide +kernel, show (parseMethodDescriptor yX1_priceIn.desc).map (fun d => d.parameters.length) = some 2 by decide +kernel⟩ hrR ⟨by show _ ≤ 601024; omega, by show _ ≤ 7293034; omega⟩ hS hA2 hl.1 rfl (Nat.le_of_ble_eq_true rfl) dL_law_1263 (fun H locs hN hS hz hk => ?_)
  have hO := hO.kept (hk o hO.lt (ap_Mo hbo))
  have hB := hB.kept (fun k hk1 => hk _ (hB.lt k hk1) (ap_M hab hk1))
  refine lv_istore (lv' := [(6, .int (r)), (5, .int (k9)), (4, .int (nI (4 * n))), (0, .ref (bs)), (1, .ref (a 13)), (2, .ref (b 5)), (3, .ref (o))]) hx hb dL_law_1266 hl (by decide) rfl (fun ls hl => ?_)
  refine lv_aload_n hx hb dL_law_1268 rfl (lv_at hl 5 rfl) ?_
  refine kV hC hTh mov_M hN (rec_M hN) (good_V mv_64 mv_65 mv_66 mw_5 mv_67) rfl rfl ⟨rfl, by decide +kernel, by decide +kernel, show (parseMethodDescriptor yX1_thrown.desc).map (fun d => d.parameters.length) = some 0 by decide +kernel⟩ ⟨Nat.le_of_ble_eq_true rfl, Nat.le_of_ble_eq_true rfl⟩ ⟨by show _ ≤ 601024; omega, by show _ ≤ 7293034; omega⟩ hl.1 rfl (Nat.le_of_ble_eq_true rfl) dL_law_1269 ?_
  refine lv_iload hx hb dL_law_1272 (lv_at hl 1 rfl) ?_
  refine lv_icmp_eq (tgt := 1279) hx hb dL_law_1274 (by decide) (fun c1 => ?_) (fun c1 => ?_)
  · refine lv_iload hx hb dL_law_1279 (lv_at hl 1 rfl) ?_
    refine lv_if_ne (tgt := 1296) hx hb dL_law_1281 (by decide) (fun c2 => ?_) (fun c2 => ?_)
    · refine lv_goto (tgt := 1559) hx hb dL_law_1296 (by decide) ?_
      exact W.widen (k := cells + 9) (n := slots + 64) (by omega) (by omega) (kx _ _ _ hB hN hO hS (lv_sub hl [2, 3, 4, 5, 6] rfl))
    · refine lv_aload_n hx hb dL_law_1284 rfl (lv_at hl 6 rfl) ?_
      refine lv_iconst (v := 0) hx hb dL_law_1285 (by decide) ?_
      refine ldO hC hO dL_law_1286 ?_
      refine lv_iload hx hb dL_law_1287 (lv_at hl 0 rfl) ?_
      refine lv_i2l (v := r.toInt64) hx hb dL_law_1289 rfl ?_
      have hw := he c2
      refine W.lcmp hx hb dL_law_1290 ?_
      rw [hw, lg_self]
      refine lv_if_eq (tgt := 1296) hx hb dL_law_1291 (by decide) (fun c3 => ?_) (fun c3 => ?_)
      · refine lv_goto (tgt := 1559) hx hb dL_law_1296 (by decide) ?_
        exact W.widen (k := cells + 9) (n := slots + 64) (by omega) (by omega) (kx _ _ _ hB hN hO hS (lv_sub hl [2, 3, 4, 5, 6] rfl))
      · exfalso; exact c3 rfl
  · exfalso; exact c1 rfl
set_option maxHeartbeats 4000000 in
set_option maxRecDepth 100000 in
theorem lc_worthIn {p : Program} {l : Launch} {e : Env} {s : State} {m : MethodId} {args : Array Value} {below : List Frame} {meth : Method} {c : Code} {H : Heap} {locs : List Loc} {cells slots : Nat} {Q : State → Prop} {ls : Array Slot} {bs L : Nat} {xs : Nat → Int32} {D : va_G} {cI cQ cL : ClassId} {a b : Nat → Nat} {o : Nat} {S N N' : bS} {w : Int64} {rm : Room} {n : Nat} (hX : LX l p m c s args bs L xs a b o) (hn : 4 * n + 4 ≤ L) (hB : BW D cI cQ a S s H) (hN : MW D cI b N s H) (hO : OW D cL o w s H) (hS : va_S (A0 s) s.heap H locs) (hf : cells + 9 ≤ 601024 ∧ slots + 64 ≤ 7293034) (hl : lv_has ls 9 [(4, .int (nI (4 * n))), (0, .ref (bs)), (1, .ref (a 13)), (2, .ref (b 5)), (3, .ref (o))]) {r : Int32} {S' : bS} {w' : Int64} {k9 : Int32} {T R : Nat} (hHp : Hp l yL_worthIn cL_worthIn 5 [(0, 10, 13, 24), (0, 10, 17, 13)] ({ frames := 8, cells := 1, slots := 6, locals := 160 } : Room) (XW D cI cQ cL a S o w) (XW D cI cQ cL a S' o w') (iBO a o) [.ref (a 13), .int (xs ((4 * n) + 1)), .int (xs ((4 * n) + 2)), .ref (o)] k9) (hI : MI N' T R) (h5 : N' 5 0 = k9) (he : k9 = 0 → w' = r.toInt64) (hMd : Wr l yX1_worthIn cX1_worthIn 4 (some .int) rm (MW D cI b N) (MW D cI b N') (inM b) [.ref (b 5), .int (xs ((4 * n) + 1)), .int (xs ((4 * n) + 2))] (some (.int r)) 0 0) (hrm : rm.cells = 0 ∧ rm.slots = 0) (hrR : rm.frames + 1 ≤ 11 ∧ 8 + (4 + 11) + rm.locals ≤ 390) (kx : ∀ (H1 : Heap) (locs1 : List Loc) (ls1 : Array Slot), BW D cI cQ a S' s H1 → MW D cI b N' s H1 → OW D cL o w' s H1 → va_S (A0 s) s.heap H1 locs1 → lv_has ls1 9 [(4, .int (nI (4 * n))), (0, .ref (bs)), (1, .ref (a 13)), (2, .ref (b 5)), (3, .ref (o))] → W p l e room_1 s m args below meth c H1 locs1 (cells + 9) (slots + 64) Q (F0 m 1559 ls1 [])) : W p l e room_1 s m args below meth c H locs cells slots Q (F0 m 1299 ls []) := by
  obtain ⟨hC, hl9, hbx, hbl, hL, hZ, hZH, hA1, hA2, hA3, hab, hao, hbo⟩ := hX
  have hx := hC.1
  have hb := hC.2.1
  have hf1 := hf.1
  have hf2 := hf.2
  have hTh : Rd l yX1_thrown cX1_thrown 1 (some .int) ({ frames := 0, cells := 0, slots := 0, locals := 0 } : Room) (MW D cI b N') [.ref (b 5)] (.int k9) := by rw [← h5]; exact c_X1_thrown l D cI b N' hI
  refine lv_aload_n hx hb dL_law_1299 rfl (lv_at hl 2 rfl) ?_
  refine lv_aload_n hx hb dL_law_1300 rfl (lv_at hl 1 rfl) ?_
  refine lv_iload hx hb dL_law_1301 (lv_at hl 0 rfl) ?_
  refine lv_iconst (v := 1) hx hb dL_law_1303 (by decide) ?_
  refine xadd (v := nI ((4 * n) + 1)) hC dL_law_1304 (nadd (i := 4 * n) (j := 1) rfl rfl) ?_
  refine ldS hC hbx hbl hL hS (i := (4 * n) + 1) rfl (by omega) dL_law_1305 ?_
  refine lv_aload_n hx hb dL_law_1306 rfl (lv_at hl 1 rfl) ?_
  refine lv_iload hx hb dL_law_1307 (lv_at hl 0 rfl) ?_
  refine lv_iconst (v := 2) hx hb dL_law_1309 (by decide) ?_
  refine xadd (v := nI ((4 * n) + 2)) hC dL_law_1310 (nadd (i := 4 * n) (j := 2) rfl rfl) ?_
  refine ldS hC hbx hbl hL hS (i := (4 * n) + 2) rfl (by omega) dL_law_1311 ?_
  refine lv_aload_n hx hb dL_law_1312 rfl (lv_at hl 4 rfl) ?_
  refine kHp hC hHp mov_X mov_X ⟨hB, hO⟩ hZ (hZH.kept hS.2.1 |>.narrow (fun _ z => z.elim)) (good_SW mv_461 mv_462 mv_33 mv_463) rfl rfl ⟨by decide +kernel, by decide +kernel, show (parseMethodDescriptor yL_worthIn.desc).map (fun d => d.parameters.length) = some 4 by decide +kernel⟩ ⟨Nat.le_of_ble_eq_true rfl, Nat.le_of_ble_eq_true rfl⟩ ⟨by show _ ≤ 601024; omega, by show _ ≤ 7293034; omega⟩ hS (fun q z => z.elim (hA1 q) (fun e => by rw [e]; exact hA3)) hl.1 rfl (Nat.le_of_ble_eq_true rfl) dL_law_1313 (fun H locs hBO hS hk => ?_)
  obtain ⟨hB, hO⟩ := hBO
  have hN := hN.kept (fun k hk1 => hk _ (hN.lt k hk1) (ap_BO hab hbo hk1))
  refine lv_istore (lv' := [(5, .int (k9)), (4, .int (nI (4 * n))), (0, .ref (bs)), (1, .ref (a 13)), (2, .ref (b 5)), (3, .ref (o))]) hx hb dL_law_1316 hl (by decide) rfl (fun ls hl => ?_)
  refine lv_aload_n hx hb dL_law_1318 rfl (lv_at hl 4 rfl) ?_
  refine lv_aload_n hx hb dL_law_1319 rfl (lv_at hl 2 rfl) ?_
  refine lv_iload hx hb dL_law_1320 (lv_at hl 1 rfl) ?_
  refine lv_iconst (v := 1) hx hb dL_law_1322 (by decide) ?_
  refine xadd (v := nI ((4 * n) + 1)) hC dL_law_1323 (nadd (i := 4 * n) (j := 1) rfl rfl) ?_
  refine ldS hC hbx hbl hL hS (i := (4 * n) + 1) rfl (by omega) dL_law_1324 ?_
  refine lv_aload_n hx hb dL_law_1325 rfl (lv_at hl 2 rfl) ?_
  refine lv_iload hx hb dL_law_1326 (lv_at hl 1 rfl) ?_
  refine lv_iconst (v := 2) hx hb dL_law_1328 (by decide) ?_
  refine xadd (v := nI ((4 * n) + 2)) hC dL_law_1329 (nadd (i := 4 * n) (j := 2) rfl rfl) ?_
  refine ldS hC hbx hbl hL hS (i := (4 * n) + 2) rfl (by omega) dL_law_1330 ?_
  refine kVw (A := inM b) hC hMd mov_M mov_M hN (rec_M hN) (good_V mv_468 mv_469 mv_470 mw_5 mv_471) hrm.1 hrm.2 ⟨rfl, by decide +kernel, by decide +kernel, show (parseMethodDescriptor yX1_worthIn.desc).map (fun d => d.parameters.length) = some 2 by decide +kernel⟩ hrR ⟨by show _ ≤ 601024; omega, by show _ ≤ 7293034; omega⟩ hS hA2 hl.1 rfl (Nat.le_of_ble_eq_true rfl) dL_law_1331 (fun H locs hN hS hz hk => ?_)
  have hO := hO.kept (hk o hO.lt (ap_Mo hbo))
  have hB := hB.kept (fun k hk1 => hk _ (hB.lt k hk1) (ap_M hab hk1))
  refine lv_istore (lv' := [(6, .int (r)), (5, .int (k9)), (4, .int (nI (4 * n))), (0, .ref (bs)), (1, .ref (a 13)), (2, .ref (b 5)), (3, .ref (o))]) hx hb dL_law_1334 hl (by decide) rfl (fun ls hl => ?_)
  refine lv_aload_n hx hb dL_law_1336 rfl (lv_at hl 5 rfl) ?_
  refine kV hC hTh mov_M hN (rec_M hN) (good_V mv_64 mv_65 mv_66 mw_5 mv_67) rfl rfl ⟨rfl, by decide +kernel, by decide +kernel, show (parseMethodDescriptor yX1_thrown.desc).map (fun d => d.parameters.length) = some 0 by decide +kernel⟩ ⟨Nat.le_of_ble_eq_true rfl, Nat.le_of_ble_eq_true rfl⟩ ⟨by show _ ≤ 601024; omega, by show _ ≤ 7293034; omega⟩ hl.1 rfl (Nat.le_of_ble_eq_true rfl) dL_law_1337 ?_
  refine lv_iload hx hb dL_law_1340 (lv_at hl 1 rfl) ?_
  refine lv_icmp_eq (tgt := 1347) hx hb dL_law_1342 (by decide) (fun c1 => ?_) (fun c1 => ?_)
  · refine lv_iload hx hb dL_law_1347 (lv_at hl 1 rfl) ?_
    refine lv_if_ne (tgt := 1364) hx hb dL_law_1349 (by decide) (fun c2 => ?_) (fun c2 => ?_)
    · refine lv_goto (tgt := 1559) hx hb dL_law_1364 (by decide) ?_
      exact W.widen (k := cells + 9) (n := slots + 64) (by omega) (by omega) (kx _ _ _ hB hN hO hS (lv_sub hl [2, 3, 4, 5, 6] rfl))
    · refine lv_aload_n hx hb dL_law_1352 rfl (lv_at hl 6 rfl) ?_
      refine lv_iconst (v := 0) hx hb dL_law_1353 (by decide) ?_
      refine ldO hC hO dL_law_1354 ?_
      refine lv_iload hx hb dL_law_1355 (lv_at hl 0 rfl) ?_
      refine lv_i2l (v := r.toInt64) hx hb dL_law_1357 rfl ?_
      have hw := he c2
      refine W.lcmp hx hb dL_law_1358 ?_
      rw [hw, lg_self]
      refine lv_if_eq (tgt := 1364) hx hb dL_law_1359 (by decide) (fun c3 => ?_) (fun c3 => ?_)
      · refine lv_goto (tgt := 1559) hx hb dL_law_1364 (by decide) ?_
        exact W.widen (k := cells + 9) (n := slots + 64) (by omega) (by omega) (kx _ _ _ hB hN hO hS (lv_sub hl [2, 3, 4, 5, 6] rfl))
      · exfalso; exact c3 rfl
  · exfalso; exact c1 rfl
set_option maxHeartbeats 4000000 in
set_option maxRecDepth 100000 in
theorem lc_bestToBuy {p : Program} {l : Launch} {e : Env} {s : State} {m : MethodId} {args : Array Value} {below : List Frame} {meth : Method} {c : Code} {H : Heap} {locs : List Loc} {cells slots : Nat} {Q : State → Prop} {ls : Array Slot} {bs L : Nat} {xs : Nat → Int32} {D : va_G} {cI cQ cL : ClassId} {a b : Nat → Nat} {o : Nat} {S N N' : bS} {w : Int64} {rm : Room} {n : Nat} (hX : LX l p m c s args bs L xs a b o) (hn : 4 * n + 4 ≤ L) (hB : BW D cI cQ a S s H) (hN : MW D cI b N s H) (hO : OW D cL o w s H) (hS : va_S (A0 s) s.heap H locs) (hf : cells + 9 ≤ 601024 ∧ slots + 64 ≤ 7293034) (hl : lv_has ls 9 [(4, .int (nI (4 * n))), (0, .ref (bs)), (1, .ref (a 13)), (2, .ref (b 5)), (3, .ref (o))]) {r : Int32} (hBd : Rd l yX0_bestToBuy cX0_bestToBuy 4 (some .int) ({ frames := 5, cells := 0, slots := 0, locals := 110 } : Room) (BW D cI cQ a S) [.ref (a 13)] (.int r)) (hMd : Wr l yX1_bestToBuy cX1_bestToBuy 1 (some .int) rm (MW D cI b N) (MW D cI b N') (inM b) [.ref (b 5)] (some (.int r)) 0 0) (hrm : rm.cells = 0 ∧ rm.slots = 0) (hrR : rm.frames + 1 ≤ 11 ∧ 8 + (1 + 11) + rm.locals ≤ 390) (kx : ∀ (H1 : Heap) (locs1 : List Loc) (ls1 : Array Slot), BW D cI cQ a S s H1 → MW D cI b N' s H1 → OW D cL o w s H1 → va_S (A0 s) s.heap H1 locs1 → lv_has ls1 9 [(4, .int (nI (4 * n))), (0, .ref (bs)), (1, .ref (a 13)), (2, .ref (b 5)), (3, .ref (o))] → W p l e room_1 s m args below meth c H1 locs1 (cells + 9) (slots + 64) Q (F0 m 1559 ls1 [])) : W p l e room_1 s m args below meth c H locs cells slots Q (F0 m 1367 ls []) := by
  obtain ⟨hC, hl9, hbx, hbl, hL, hZ, hZH, hA1, hA2, hA3, hab, hao, hbo⟩ := hX
  have hx := hC.1
  have hb := hC.2.1
  have hf1 := hf.1
  have hf2 := hf.2
  refine lv_aload_n hx hb dL_law_1367 rfl (lv_at hl 2 rfl) ?_
  refine kV hC hBd mov_B hB (rec_B hB) (good_V mv_472 mw_473 mw_474 mw_2 mw_475) rfl rfl ⟨rfl, by decide +kernel, by decide +kernel, show (parseMethodDescriptor yX0_bestToBuy.desc).map (fun d => d.parameters.length) = some 0 by decide +kernel⟩ ⟨Nat.le_of_ble_eq_true rfl, Nat.le_of_ble_eq_true rfl⟩ ⟨by show _ ≤ 601024; omega, by show _ ≤ 7293034; omega⟩ hl.1 rfl (Nat.le_of_ble_eq_true rfl) dL_law_1368 ?_
  refine lv_aload_n hx hb dL_law_1371 rfl (lv_at hl 3 rfl) ?_
  refine kVw (A := inM b) hC hMd mov_M mov_M hN (rec_M hN) (good_V mv_480 mv_481 mv_482 mw_5 mv_483) hrm.1 hrm.2 ⟨rfl, by decide +kernel, by decide +kernel, show (parseMethodDescriptor yX1_bestToBuy.desc).map (fun d => d.parameters.length) = some 0 by decide +kernel⟩ hrR ⟨by show _ ≤ 601024; omega, by show _ ≤ 7293034; omega⟩ hS hA2 hl.1 rfl (Nat.le_of_ble_eq_true rfl) dL_law_1372 (fun H locs hN hS hz hk => ?_)
  have hO := hO.kept (hk o hO.lt (ap_Mo hbo))
  have hB := hB.kept (fun k hk1 => hk _ (hB.lt k hk1) (ap_M hab hk1))
  refine lv_icmp_eq (tgt := 1559) hx hb dL_law_1375 (by decide) (fun c1 => ?_) (fun c1 => ?_)
  · exact W.widen (k := cells + 9) (n := slots + 64) (by omega) (by omega) (kx _ _ _ hB hN hO hS (lv_sub hl [0, 1, 2, 3, 4] rfl))
  · exfalso; exact c1 rfl
set_option maxHeartbeats 4000000 in
set_option maxRecDepth 100000 in
theorem lc_bestToSell {p : Program} {l : Launch} {e : Env} {s : State} {m : MethodId} {args : Array Value} {below : List Frame} {meth : Method} {c : Code} {H : Heap} {locs : List Loc} {cells slots : Nat} {Q : State → Prop} {ls : Array Slot} {bs L : Nat} {xs : Nat → Int32} {D : va_G} {cI cQ cL : ClassId} {a b : Nat → Nat} {o : Nat} {S N N' : bS} {w : Int64} {rm : Room} {n : Nat} (hX : LX l p m c s args bs L xs a b o) (hn : 4 * n + 4 ≤ L) (hB : BW D cI cQ a S s H) (hN : MW D cI b N s H) (hO : OW D cL o w s H) (hS : va_S (A0 s) s.heap H locs) (hf : cells + 9 ≤ 601024 ∧ slots + 64 ≤ 7293034) (hl : lv_has ls 9 [(4, .int (nI (4 * n))), (0, .ref (bs)), (1, .ref (a 13)), (2, .ref (b 5)), (3, .ref (o))]) {r : Int32} {S' : bS} {w' : Int64} {k9 : Int32} {T R : Nat} (hHp : Hp l yL_bestToSell cL_bestToSell 5 [(0, 10, 13, 24)] ({ frames := 8, cells := 1, slots := 6, locals := 160 } : Room) (XW D cI cQ cL a S o w) (XW D cI cQ cL a S' o w') (iBO a o) [.ref (a 13), .int (xs ((4 * n) + 1)), .int (xs ((4 * n) + 2)), .ref (o)] k9) (hI : MI N' T R) (h5 : N' 5 0 = k9) (he : k9 = 0 → w' = r.toInt64) (hMd : Wr l yX1_bestToSell cX1_bestToSell 9 (some .int) rm (MW D cI b N) (MW D cI b N') (inM b) [.ref (b 5), .int (xs ((4 * n) + 1)), .int (xs ((4 * n) + 2))] (some (.int r)) 0 0) (hrm : rm.cells = 0 ∧ rm.slots = 0) (hrR : rm.frames + 1 ≤ 11 ∧ 8 + (9 + 11) + rm.locals ≤ 390) (kx : ∀ (H1 : Heap) (locs1 : List Loc) (ls1 : Array Slot), BW D cI cQ a S' s H1 → MW D cI b N' s H1 → OW D cL o w' s H1 → va_S (A0 s) s.heap H1 locs1 → lv_has ls1 9 [(4, .int (nI (4 * n))), (0, .ref (bs)), (1, .ref (a 13)), (2, .ref (b 5)), (3, .ref (o))] → W p l e room_1 s m args below meth c H1 locs1 (cells + 9) (slots + 64) Q (F0 m 1559 ls1 [])) : W p l e room_1 s m args below meth c H locs cells slots Q (F0 m 1380 ls []) := by
  obtain ⟨hC, hl9, hbx, hbl, hL, hZ, hZH, hA1, hA2, hA3, hab, hao, hbo⟩ := hX
  have hx := hC.1
  have hb := hC.2.1
  have hf1 := hf.1
  have hf2 := hf.2
  have hTh : Rd l yX1_thrown cX1_thrown 1 (some .int) ({ frames := 0, cells := 0, slots := 0, locals := 0 } : Room) (MW D cI b N') [.ref (b 5)] (.int k9) := by rw [← h5]; exact c_X1_thrown l D cI b N' hI
  refine lv_aload_n hx hb dL_law_1380 rfl (lv_at hl 2 rfl) ?_
  refine lv_aload_n hx hb dL_law_1381 rfl (lv_at hl 1 rfl) ?_
  refine lv_iload hx hb dL_law_1382 (lv_at hl 0 rfl) ?_
  refine lv_iconst (v := 1) hx hb dL_law_1384 (by decide) ?_
  refine xadd (v := nI ((4 * n) + 1)) hC dL_law_1385 (nadd (i := 4 * n) (j := 1) rfl rfl) ?_
  refine ldS hC hbx hbl hL hS (i := (4 * n) + 1) rfl (by omega) dL_law_1386 ?_
  refine lv_aload_n hx hb dL_law_1387 rfl (lv_at hl 1 rfl) ?_
  refine lv_iload hx hb dL_law_1388 (lv_at hl 0 rfl) ?_
  refine lv_iconst (v := 2) hx hb dL_law_1390 (by decide) ?_
  refine xadd (v := nI ((4 * n) + 2)) hC dL_law_1391 (nadd (i := 4 * n) (j := 2) rfl rfl) ?_
  refine ldS hC hbx hbl hL hS (i := (4 * n) + 2) rfl (by omega) dL_law_1392 ?_
  refine lv_aload_n hx hb dL_law_1393 rfl (lv_at hl 4 rfl) ?_
  refine kHp hC hHp mov_X mov_X ⟨hB, hO⟩ hZ (hZH.kept hS.2.1 |>.narrow (fun _ z => z.elim)) (good_SW mv_488 mv_489 mv_33 mv_490) rfl rfl ⟨by decide +kernel, by decide +kernel, show (parseMethodDescriptor yL_bestToSell.desc).map (fun d => d.parameters.length) = some 4 by decide +kernel⟩ ⟨Nat.le_of_ble_eq_true rfl, Nat.le_of_ble_eq_true rfl⟩ ⟨by show _ ≤ 601024; omega, by show _ ≤ 7293034; omega⟩ hS (fun q z => z.elim (hA1 q) (fun e => by rw [e]; exact hA3)) hl.1 rfl (Nat.le_of_ble_eq_true rfl) dL_law_1394 (fun H locs hBO hS hk => ?_)
  obtain ⟨hB, hO⟩ := hBO
  have hN := hN.kept (fun k hk1 => hk _ (hN.lt k hk1) (ap_BO hab hbo hk1))
  refine lv_istore (lv' := [(5, .int (k9)), (4, .int (nI (4 * n))), (0, .ref (bs)), (1, .ref (a 13)), (2, .ref (b 5)), (3, .ref (o))]) hx hb dL_law_1397 hl (by decide) rfl (fun ls hl => ?_)
  refine lv_aload_n hx hb dL_law_1399 rfl (lv_at hl 4 rfl) ?_
  refine lv_aload_n hx hb dL_law_1400 rfl (lv_at hl 2 rfl) ?_
  refine lv_iload hx hb dL_law_1401 (lv_at hl 1 rfl) ?_
  refine lv_iconst (v := 1) hx hb dL_law_1403 (by decide) ?_
  refine xadd (v := nI ((4 * n) + 1)) hC dL_law_1404 (nadd (i := 4 * n) (j := 1) rfl rfl) ?_
  refine ldS hC hbx hbl hL hS (i := (4 * n) + 1) rfl (by omega) dL_law_1405 ?_
  refine lv_aload_n hx hb dL_law_1406 rfl (lv_at hl 2 rfl) ?_
  refine lv_iload hx hb dL_law_1407 (lv_at hl 1 rfl) ?_
  refine lv_iconst (v := 2) hx hb dL_law_1409 (by decide) ?_
  refine xadd (v := nI ((4 * n) + 2)) hC dL_law_1410 (nadd (i := 4 * n) (j := 2) rfl rfl) ?_
  refine ldS hC hbx hbl hL hS (i := (4 * n) + 2) rfl (by omega) dL_law_1411 ?_
  refine kVw (A := inM b) hC hMd mov_M mov_M hN (rec_M hN) (good_V mv_502 mv_503 mv_504 mw_5 mv_505) hrm.1 hrm.2 ⟨rfl, by decide +kernel, by decide +kernel, show (parseMethodDescriptor yX1_bestToSell.desc).map (fun d => d.parameters.length) = some 2 by decide +kernel⟩ hrR ⟨by show _ ≤ 601024; omega, by show _ ≤ 7293034; omega⟩ hS hA2 hl.1 rfl (Nat.le_of_ble_eq_true rfl) dL_law_1412 (fun H locs hN hS hz hk => ?_)
  have hO := hO.kept (hk o hO.lt (ap_Mo hbo))
  have hB := hB.kept (fun k hk1 => hk _ (hB.lt k hk1) (ap_M hab hk1))
  refine lv_istore (lv' := [(6, .int (r)), (5, .int (k9)), (4, .int (nI (4 * n))), (0, .ref (bs)), (1, .ref (a 13)), (2, .ref (b 5)), (3, .ref (o))]) hx hb dL_law_1415 hl (by decide) rfl (fun ls hl => ?_)
  refine lv_aload_n hx hb dL_law_1417 rfl (lv_at hl 5 rfl) ?_
  refine kV hC hTh mov_M hN (rec_M hN) (good_V mv_64 mv_65 mv_66 mw_5 mv_67) rfl rfl ⟨rfl, by decide +kernel, by decide +kernel, show (parseMethodDescriptor yX1_thrown.desc).map (fun d => d.parameters.length) = some 0 by decide +kernel⟩ ⟨Nat.le_of_ble_eq_true rfl, Nat.le_of_ble_eq_true rfl⟩ ⟨by show _ ≤ 601024; omega, by show _ ≤ 7293034; omega⟩ hl.1 rfl (Nat.le_of_ble_eq_true rfl) dL_law_1418 ?_
  refine lv_iload hx hb dL_law_1421 (lv_at hl 1 rfl) ?_
  refine lv_icmp_eq (tgt := 1428) hx hb dL_law_1423 (by decide) (fun c1 => ?_) (fun c1 => ?_)
  · refine lv_iload hx hb dL_law_1428 (lv_at hl 1 rfl) ?_
    refine lv_if_ne (tgt := 1445) hx hb dL_law_1430 (by decide) (fun c2 => ?_) (fun c2 => ?_)
    · refine lv_goto (tgt := 1559) hx hb dL_law_1445 (by decide) ?_
      exact W.widen (k := cells + 9) (n := slots + 64) (by omega) (by omega) (kx _ _ _ hB hN hO hS (lv_sub hl [2, 3, 4, 5, 6] rfl))
    · refine lv_aload_n hx hb dL_law_1433 rfl (lv_at hl 6 rfl) ?_
      refine lv_iconst (v := 0) hx hb dL_law_1434 (by decide) ?_
      refine ldO hC hO dL_law_1435 ?_
      refine lv_iload hx hb dL_law_1436 (lv_at hl 0 rfl) ?_
      refine lv_i2l (v := r.toInt64) hx hb dL_law_1438 rfl ?_
      have hw := he c2
      refine W.lcmp hx hb dL_law_1439 ?_
      rw [hw, lg_self]
      refine lv_if_eq (tgt := 1445) hx hb dL_law_1440 (by decide) (fun c3 => ?_) (fun c3 => ?_)
      · refine lv_goto (tgt := 1559) hx hb dL_law_1445 (by decide) ?_
        exact W.widen (k := cells + 9) (n := slots + 64) (by omega) (by omega) (kx _ _ _ hB hN hO hS (lv_sub hl [2, 3, 4, 5, 6] rfl))
      · exfalso; exact c3 rfl
  · exfalso; exact c1 rfl
set_option maxHeartbeats 4000000 in
set_option maxRecDepth 100000 in
theorem lc_secondsUntilDebt {p : Program} {l : Launch} {e : Env} {s : State} {m : MethodId} {args : Array Value} {below : List Frame} {meth : Method} {c : Code} {H : Heap} {locs : List Loc} {cells slots : Nat} {Q : State → Prop} {ls : Array Slot} {bs L : Nat} {xs : Nat → Int32} {D : va_G} {cI cQ cL : ClassId} {a b : Nat → Nat} {o : Nat} {S N N' : bS} {w : Int64} {rm : Room} {n : Nat} (hX : LX l p m c s args bs L xs a b o) (hn : 4 * n + 4 ≤ L) (hB : BW D cI cQ a S s H) (hN : MW D cI b N s H) (hO : OW D cL o w s H) (hS : va_S (A0 s) s.heap H locs) (hf : cells + 9 ≤ 601024 ∧ slots + 64 ≤ 7293034) (hl : lv_has ls 9 [(4, .int (nI (4 * n))), (0, .ref (bs)), (1, .ref (a 13)), (2, .ref (b 5)), (3, .ref (o))]) {r : Int32} {S' : bS} {w' : Int64} {k9 : Int32} {T R : Nat} (hHp : Hp l yL_secondsUntilDebt cL_secondsUntilDebt 4 [(0, 9, 12, 24)] ({ frames := 8, cells := 1, slots := 6, locals := 160 } : Room) (XW D cI cQ cL a S o w) (XW D cI cQ cL a S' o w') (iBO a o) [.ref (a 13), .int (xs ((4 * n) + 1)), .ref (o)] k9) (hI : MI N' T R) (h5 : N' 5 0 = k9) (he : k9 = 0 → w' = r.toInt64) (hMd : Wr l yX1_secondsUntilDebt cX1_secondsUntilDebt 3 (some .int) rm (MW D cI b N) (MW D cI b N') (inM b) [.ref (b 5), .int (xs ((4 * n) + 1))] (some (.int r)) 0 0) (hrm : rm.cells = 0 ∧ rm.slots = 0) (hrR : rm.frames + 1 ≤ 11 ∧ 8 + (3 + 11) + rm.locals ≤ 390) (kx : ∀ (H1 : Heap) (locs1 : List Loc) (ls1 : Array Slot), BW D cI cQ a S' s H1 → MW D cI b N' s H1 → OW D cL o w' s H1 → va_S (A0 s) s.heap H1 locs1 → lv_has ls1 9 [(4, .int (nI (4 * n))), (0, .ref (bs)), (1, .ref (a 13)), (2, .ref (b 5)), (3, .ref (o))] → W p l e room_1 s m args below meth c H1 locs1 (cells + 9) (slots + 64) Q (F0 m 1559 ls1 [])) : W p l e room_1 s m args below meth c H locs cells slots Q (F0 m 1448 ls []) := by
  obtain ⟨hC, hl9, hbx, hbl, hL, hZ, hZH, hA1, hA2, hA3, hab, hao, hbo⟩ := hX
  have hx := hC.1
  have hb := hC.2.1
  have hf1 := hf.1
  have hf2 := hf.2
  have hTh : Rd l yX1_thrown cX1_thrown 1 (some .int) ({ frames := 0, cells := 0, slots := 0, locals := 0 } : Room) (MW D cI b N') [.ref (b 5)] (.int k9) := by rw [← h5]; exact c_X1_thrown l D cI b N' hI
  refine lv_aload_n hx hb dL_law_1448 rfl (lv_at hl 2 rfl) ?_
  refine lv_aload_n hx hb dL_law_1449 rfl (lv_at hl 1 rfl) ?_
  refine lv_iload hx hb dL_law_1450 (lv_at hl 0 rfl) ?_
  refine lv_iconst (v := 1) hx hb dL_law_1452 (by decide) ?_
  refine xadd (v := nI ((4 * n) + 1)) hC dL_law_1453 (nadd (i := 4 * n) (j := 1) rfl rfl) ?_
  refine ldS hC hbx hbl hL hS (i := (4 * n) + 1) rfl (by omega) dL_law_1454 ?_
  refine lv_aload_n hx hb dL_law_1455 rfl (lv_at hl 4 rfl) ?_
  refine kHp hC hHp mov_X mov_X ⟨hB, hO⟩ hZ (hZH.kept hS.2.1 |>.narrow (fun _ z => z.elim)) (good_SW mv_507 mv_508 mv_33 mv_509) rfl rfl ⟨by decide +kernel, by decide +kernel, show (parseMethodDescriptor yL_secondsUntilDebt.desc).map (fun d => d.parameters.length) = some 3 by decide +kernel⟩ ⟨Nat.le_of_ble_eq_true rfl, Nat.le_of_ble_eq_true rfl⟩ ⟨by show _ ≤ 601024; omega, by show _ ≤ 7293034; omega⟩ hS (fun q z => z.elim (hA1 q) (fun e => by rw [e]; exact hA3)) hl.1 rfl (Nat.le_of_ble_eq_true rfl) dL_law_1456 (fun H locs hBO hS hk => ?_)
  obtain ⟨hB, hO⟩ := hBO
  have hN := hN.kept (fun k hk1 => hk _ (hN.lt k hk1) (ap_BO hab hbo hk1))
  refine lv_istore (lv' := [(5, .int (k9)), (4, .int (nI (4 * n))), (0, .ref (bs)), (1, .ref (a 13)), (2, .ref (b 5)), (3, .ref (o))]) hx hb dL_law_1459 hl (by decide) rfl (fun ls hl => ?_)
  refine lv_aload_n hx hb dL_law_1461 rfl (lv_at hl 4 rfl) ?_
  refine lv_aload_n hx hb dL_law_1462 rfl (lv_at hl 2 rfl) ?_
  refine lv_iload hx hb dL_law_1463 (lv_at hl 1 rfl) ?_
  refine lv_iconst (v := 1) hx hb dL_law_1465 (by decide) ?_
  refine xadd (v := nI ((4 * n) + 1)) hC dL_law_1466 (nadd (i := 4 * n) (j := 1) rfl rfl) ?_
  refine ldS hC hbx hbl hL hS (i := (4 * n) + 1) rfl (by omega) dL_law_1467 ?_
  refine kVw (A := inM b) hC hMd mov_M mov_M hN (rec_M hN) (good_V mv_518 mv_519 mv_520 mw_5 mv_521) hrm.1 hrm.2 ⟨rfl, by decide +kernel, by decide +kernel, show (parseMethodDescriptor yX1_secondsUntilDebt.desc).map (fun d => d.parameters.length) = some 1 by decide +kernel⟩ hrR ⟨by show _ ≤ 601024; omega, by show _ ≤ 7293034; omega⟩ hS hA2 hl.1 rfl (Nat.le_of_ble_eq_true rfl) dL_law_1468 (fun H locs hN hS hz hk => ?_)
  have hO := hO.kept (hk o hO.lt (ap_Mo hbo))
  have hB := hB.kept (fun k hk1 => hk _ (hB.lt k hk1) (ap_M hab hk1))
  refine lv_istore (lv' := [(6, .int (r)), (5, .int (k9)), (4, .int (nI (4 * n))), (0, .ref (bs)), (1, .ref (a 13)), (2, .ref (b 5)), (3, .ref (o))]) hx hb dL_law_1471 hl (by decide) rfl (fun ls hl => ?_)
  refine lv_aload_n hx hb dL_law_1473 rfl (lv_at hl 5 rfl) ?_
  refine kV hC hTh mov_M hN (rec_M hN) (good_V mv_64 mv_65 mv_66 mw_5 mv_67) rfl rfl ⟨rfl, by decide +kernel, by decide +kernel, show (parseMethodDescriptor yX1_thrown.desc).map (fun d => d.parameters.length) = some 0 by decide +kernel⟩ ⟨Nat.le_of_ble_eq_true rfl, Nat.le_of_ble_eq_true rfl⟩ ⟨by show _ ≤ 601024; omega, by show _ ≤ 7293034; omega⟩ hl.1 rfl (Nat.le_of_ble_eq_true rfl) dL_law_1474 ?_
  refine lv_iload hx hb dL_law_1477 (lv_at hl 1 rfl) ?_
  refine lv_icmp_eq (tgt := 1484) hx hb dL_law_1479 (by decide) (fun c1 => ?_) (fun c1 => ?_)
  · refine lv_iload hx hb dL_law_1484 (lv_at hl 1 rfl) ?_
    refine lv_if_ne (tgt := 1501) hx hb dL_law_1486 (by decide) (fun c2 => ?_) (fun c2 => ?_)
    · refine lv_goto (tgt := 1559) hx hb dL_law_1501 (by decide) ?_
      exact W.widen (k := cells + 9) (n := slots + 64) (by omega) (by omega) (kx _ _ _ hB hN hO hS (lv_sub hl [2, 3, 4, 5, 6] rfl))
    · refine lv_aload_n hx hb dL_law_1489 rfl (lv_at hl 6 rfl) ?_
      refine lv_iconst (v := 0) hx hb dL_law_1490 (by decide) ?_
      refine ldO hC hO dL_law_1491 ?_
      refine lv_iload hx hb dL_law_1492 (lv_at hl 0 rfl) ?_
      refine lv_i2l (v := r.toInt64) hx hb dL_law_1494 rfl ?_
      have hw := he c2
      refine W.lcmp hx hb dL_law_1495 ?_
      rw [hw, lg_self]
      refine lv_if_eq (tgt := 1501) hx hb dL_law_1496 (by decide) (fun c3 => ?_) (fun c3 => ?_)
      · refine lv_goto (tgt := 1559) hx hb dL_law_1501 (by decide) ?_
        exact W.widen (k := cells + 9) (n := slots + 64) (by omega) (by omega) (kx _ _ _ hB hN hO hS (lv_sub hl [2, 3, 4, 5, 6] rfl))
      · exfalso; exact c3 rfl
  · exfalso; exact c1 rfl
set_option maxHeartbeats 4000000 in
set_option maxRecDepth 100000 in
theorem lc_meanPrice {p : Program} {l : Launch} {e : Env} {s : State} {m : MethodId} {args : Array Value} {below : List Frame} {meth : Method} {c : Code} {H : Heap} {locs : List Loc} {cells slots : Nat} {Q : State → Prop} {ls : Array Slot} {bs L : Nat} {xs : Nat → Int32} {D : va_G} {cI cQ cL : ClassId} {a b : Nat → Nat} {o : Nat} {S N N' : bS} {w : Int64} {rm : Room} {n : Nat} (hX : LX l p m c s args bs L xs a b o) (hn : 4 * n + 4 ≤ L) (hB : BW D cI cQ a S s H) (hN : MW D cI b N s H) (hO : OW D cL o w s H) (hS : va_S (A0 s) s.heap H locs) (hf : cells + 9 ≤ 601024 ∧ slots + 64 ≤ 7293034) (hl : lv_has ls 9 [(4, .int (nI (4 * n))), (0, .ref (bs)), (1, .ref (a 13)), (2, .ref (b 5)), (3, .ref (o))]) {r : UInt64} (hBd : Rd l yX0_meanPrice cX0_meanPrice 3 (some .double) ({ frames := 4, cells := 0, slots := 0, locals := 88 } : Room) (BW D cI cQ a S) [.ref (a 13)] (.double r)) (hMd : Wr l yX1_meanPrice cX1_meanPrice 3 (some .double) rm (MW D cI b N) (MW D cI b N') (inM b) [.ref (b 5)] (some (.double r)) 0 0) (hrm : rm.cells = 0 ∧ rm.slots = 0) (hrR : rm.frames + 1 ≤ 11 ∧ 8 + (3 + 11) + rm.locals ≤ 390) (kx : ∀ (H1 : Heap) (locs1 : List Loc) (ls1 : Array Slot), BW D cI cQ a S s H1 → MW D cI b N' s H1 → OW D cL o w s H1 → va_S (A0 s) s.heap H1 locs1 → lv_has ls1 9 [(4, .int (nI (4 * n))), (0, .ref (bs)), (1, .ref (a 13)), (2, .ref (b 5)), (3, .ref (o))] → W p l e room_1 s m args below meth c H1 locs1 (cells + 9) (slots + 64) Q (F0 m 1559 ls1 [])) : W p l e room_1 s m args below meth c H locs cells slots Q (F0 m 1504 ls []) := by
  obtain ⟨hC, hl9, hbx, hbl, hL, hZ, hZH, hA1, hA2, hA3, hab, hao, hbo⟩ := hX
  have hx := hC.1
  have hb := hC.2.1
  have hf1 := hf.1
  have hf2 := hf.2
  refine lv_aload_n hx hb dL_law_1504 rfl (lv_at hl 2 rfl) ?_
  refine kV hC hBd mov_B hB (rec_B hB) (good_V mv_522 mv_523 mv_524 mw_2 mv_525) rfl rfl ⟨rfl, by decide +kernel, by decide +kernel, show (parseMethodDescriptor yX0_meanPrice.desc).map (fun d => d.parameters.length) = some 0 by decide +kernel⟩ ⟨Nat.le_of_ble_eq_true rfl, Nat.le_of_ble_eq_true rfl⟩ ⟨by show _ ≤ 601024; omega, by show _ ≤ 7293034; omega⟩ hl.1 rfl (Nat.le_of_ble_eq_true rfl) dL_law_1505 ?_
  refine lv_dstore (lv' := [(5, .double (r)), (4, .int (nI (4 * n))), (0, .ref (bs)), (1, .ref (a 13)), (2, .ref (b 5)), (3, .ref (o))]) hx hb dL_law_1508 hl (by decide) rfl (fun ls hl => ?_)
  refine lv_aload_n hx hb dL_law_1510 rfl (lv_at hl 4 rfl) ?_
  refine kVw (A := inM b) hC hMd mov_M mov_M hN (rec_M hN) (good_V mv_526 mv_527 mv_528 mw_5 mv_529) hrm.1 hrm.2 ⟨rfl, by decide +kernel, by decide +kernel, show (parseMethodDescriptor yX1_meanPrice.desc).map (fun d => d.parameters.length) = some 0 by decide +kernel⟩ hrR ⟨by show _ ≤ 601024; omega, by show _ ≤ 7293034; omega⟩ hS hA2 hl.1 rfl (Nat.le_of_ble_eq_true rfl) dL_law_1511 (fun H locs hN hS hz hk => ?_)
  have hO := hO.kept (hk o hO.lt (ap_Mo hbo))
  have hB := hB.kept (fun k hk1 => hk _ (hB.lt k hk1) (ap_M hab hk1))
  refine lv_dstore (lv' := [(7, .double (r)), (5, .double (r)), (4, .int (nI (4 * n))), (0, .ref (bs)), (1, .ref (a 13)), (2, .ref (b 5)), (3, .ref (o))]) hx hb dL_law_1514 hl (by decide) rfl (fun ls hl => ?_)
  refine lv_dload hx hb dL_law_1516 (lv_at hl 1 rfl) ?_
  refine lv_dload hx hb dL_law_1518 (lv_at hl 0 rfl) ?_
  refine lv_dcmp hx hb dL_law_1520 ?_
  refine lv_if_eq (tgt := 1542) hx hb dL_law_1521 (by decide) (fun c1 => ?_) (fun c1 => ?_)
  · refine lv_goto (tgt := 1559) hx hb dL_law_1542 (by decide) ?_
    exact W.widen (k := cells + 9) (n := slots + 64) (by omega) (by omega) (kx _ _ _ hB hN hO hS (lv_sub hl [2, 3, 4, 5, 6] rfl))
  · refine lv_dload hx hb dL_law_1524 (lv_at hl 1 rfl) ?_
    refine lv_dload hx hb dL_law_1526 (lv_at hl 1 rfl) ?_
    refine lv_dcmp hx hb dL_law_1528 ?_
    refine lv_if_eq (tgt := 1540) hx hb dL_law_1529 (by decide) (fun c2 => ?_) (fun c2 => ?_)
    · exfalso; exact c1 c2
    · refine lv_dload hx hb dL_law_1532 (lv_at hl 0 rfl) ?_
      refine lv_dload hx hb dL_law_1534 (lv_at hl 0 rfl) ?_
      refine lv_dcmp hx hb dL_law_1536 ?_
      refine lv_if_ne (tgt := 1542) hx hb dL_law_1537 (by decide) (fun c3 => ?_) (fun c3 => ?_)
      · refine lv_goto (tgt := 1559) hx hb dL_law_1542 (by decide) ?_
        exact W.widen (k := cells + 9) (n := slots + 64) (by omega) (by omega) (kx _ _ _ hB hN hO hS (lv_sub hl [2, 3, 4, 5, 6] rfl))
      · exfalso; exact c1 c3
set_option maxHeartbeats 4000000 in
set_option maxRecDepth 100000 in
theorem lc_digest {p : Program} {l : Launch} {e : Env} {s : State} {m : MethodId} {args : Array Value} {below : List Frame} {meth : Method} {c : Code} {H : Heap} {locs : List Loc} {cells slots : Nat} {Q : State → Prop} {ls : Array Slot} {bs L : Nat} {xs : Nat → Int32} {D : va_G} {cI cQ cL : ClassId} {a b : Nat → Nat} {o : Nat} {S N N' : bS} {w : Int64} {rm : Room} {n : Nat} (hX : LX l p m c s args bs L xs a b o) (hn : 4 * n + 4 ≤ L) (hB : BW D cI cQ a S s H) (hN : MW D cI b N s H) (hO : OW D cL o w s H) (hS : va_S (A0 s) s.heap H locs) (hf : cells + 9 ≤ 601024 ∧ slots + 64 ≤ 7293034) (hl : lv_has ls 9 [(4, .int (nI (4 * n))), (0, .ref (bs)), (1, .ref (a 13)), (2, .ref (b 5)), (3, .ref (o))]) {r : Int64} (hBd : Rd l yX0_digest cX0_digest 4 (some .long) ({ frames := 6, cells := 0, slots := 0, locals := 144 } : Room) (BW D cI cQ a S) [.ref (a 13)] (.long r)) (hMd : Wr l yX1_digest cX1_digest 10 (some .long) rm (fun U H1 => H1.size = H.size ∧ MW D cI b N U H1) (MW D cI b N') (fun q => inM b q ∨ H.size ≤ q) [.ref (b 5)] (some (.long r)) 9 64) (hrm : rm.cells = 9 ∧ rm.slots = 64) (hrR : rm.frames + 1 ≤ 11 ∧ 8 + (10 + 11) + rm.locals ≤ 390) (kx : ∀ (H1 : Heap) (locs1 : List Loc) (ls1 : Array Slot), BW D cI cQ a S s H1 → MW D cI b N' s H1 → OW D cL o w s H1 → va_S (A0 s) s.heap H1 locs1 → lv_has ls1 9 [(4, .int (nI (4 * n))), (0, .ref (bs)), (1, .ref (a 13)), (2, .ref (b 5)), (3, .ref (o))] → W p l e room_1 s m args below meth c H1 locs1 (cells + 9) (slots + 64) Q (F0 m 1559 ls1 [])) : W p l e room_1 s m args below meth c H locs cells slots Q (F0 m 1545 ls []) := by
  obtain ⟨hC, hl9, hbx, hbl, hL, hZ, hZH, hA1, hA2, hA3, hab, hao, hbo⟩ := hX
  have hx := hC.1
  have hb := hC.2.1
  have hf1 := hf.1
  have hf2 := hf.2
  refine lv_aload_n hx hb dL_law_1545 rfl (lv_at hl 2 rfl) ?_
  refine kV hC hBd mov_B hB (rec_B hB) (good_V mv_530 mv_531 mv_532 mw_2 mv_533) rfl rfl ⟨rfl, by decide +kernel, by decide +kernel, show (parseMethodDescriptor yX0_digest.desc).map (fun d => d.parameters.length) = some 0 by decide +kernel⟩ ⟨Nat.le_of_ble_eq_true rfl, Nat.le_of_ble_eq_true rfl⟩ ⟨by show _ ≤ 601024; omega, by show _ ≤ 7293034; omega⟩ hl.1 rfl (Nat.le_of_ble_eq_true rfl) dL_law_1546 ?_
  refine lv_aload_n hx hb dL_law_1549 rfl (lv_at hl 3 rfl) ?_
  refine kVw (A := fun q => inM b q ∨ H.size ≤ q) hC hMd (fun u U G hvm h => ⟨h.1, h.2.moved hvm⟩) mov_M ⟨rfl, hN⟩ (rec_M hN) (good_V mv_552 mv_553 mv_554 mw_5 mv_555) hrm.1 hrm.2 ⟨rfl, by decide +kernel, by decide +kernel, show (parseMethodDescriptor yX1_digest.desc).map (fun d => d.parameters.length) = some 0 by decide +kernel⟩ hrR ⟨by show _ ≤ 601024; omega, by show _ ≤ 7293034; omega⟩ hS (fun q z => z.elim (hA2 q) (fun z => Nat.le_trans hS.1 z)) hl.1 rfl (Nat.le_of_ble_eq_true rfl) dL_law_1550 (fun H1 locs hN hS hz hk => ?_)
  have hO := hO.kept (hk o hO.lt (fun z => z.elim (ap_Mo hbo) (fun z => by have := hO.lt; omega)))
  have hB := hB.kept (fun k hk1 => hk _ (hB.lt k hk1) (fun z => z.elim (ap_M hab hk1) (fun z => by have := hB.lt k hk1; omega)))
  refine W.lcmp hx hb dL_law_1553 ?_
  rw [lg_self]
  refine lv_if_eq (tgt := 1559) hx hb dL_law_1554 (by decide) (fun c1 => ?_) (fun c1 => ?_)
  · exact W.widen (k := cells + 9) (n := slots + 64) (by omega) (by omega) (kx _ _ _ hB hN hO hS (lv_sub hl [0, 1, 2, 3, 4] rfl))
  · exfalso; exact c1 rfl
