/-! the law's walk -/
def SX (b L : Nat) (xs : Nat → Int32) (A : Nat → Prop) (s : State) : Prop := va_X b L xs s s.heap ∧ b < s.heap.size ∧ ∀ q, A q → s.heap.size ≤ q
def lwZ (below : List Frame) (s : State) : State → Prop := fun t => ∃ o, t.status = .running ∧ Ended t below o ∧ o = .returned (some (.int 1)) ∧ Framed s o t [] 600000 7302250
theorem lwr {p : Program} {l : Launch} {e : Env} {s : State} {m : MethodId} {args : Array Value} {below : List Frame} {meth : Method} {c : Code} (hx : p.tables.exec = Jvm.exec) (hb : c.code = code) (hr : meth.sig.returnType = ret) (hlocks : meth.locks = false) {pc : Nat} {H : Heap} {ls : Array Slot} (hdg : decode code pc = .ok (.ireturn, 1)) : W p l e room_1 s m args below meth c H [] 600000 7302250 (lwZ below s) (F0 m pc ls [.int 1]) := by
  intro T hT X
  obtain ⟨fs, hret, hrun, hended, hW, hframe⟩ := X.leave (v := some (.int 1)) (hlocks := hlocks) (fun h => by rw [hr] at h; cases h)
  have hmeth' : T.vm.method? m = some meth := X.method'
  refine ⟨T.setFrames fs, ?_, .returned (some (.int 1)), hrun, hended, rfl, ⟨_, rfl⟩, hW, hframe⟩
  jvm_step X.here [X.here.top, hx, hb, hdg, hmeth', hr, ret, narrow_b1]
  (try refine ⟨rfl, ?_⟩); (try refine ⟨rfl, ?_⟩)
  first | (intro acts; rw [hret _ acts rfl rfl rfl]) | rw [hret _ _ rfl rfl rfl]
  exact Steps.refl _
abbrev bdL (G : Gd) (b L : Nat) (xs : Nat → Int32) (mc ms : Nat) : Bd := (room_1, mc, ms, ret, (fun A s => gEX G A s ∧ SX b L xs A s), fun _ _ s below => lwZ below s)
abbrev bdF (G : Gd) (b L : Nat) (xs : Nat → Int32) : Bd := bdL G b L xs 71 1618
theorem J_lwret {l : Launch} {G : Gd} {b L mc ms : Nat} {xs : Nat → Int32} {nL : Nat} {own : String} {lv : List (Option Value)} {ws : va_W} (hmc : mc ≤ 600000) (hms : ms ≤ 7302250) (pc : Nat) (hdg : decode code pc = .ok (.ireturn, 1)) : J l G (bdL G b L xs mc ms) code nL own pc lv [.int 1] ws := by
  intro p e s m args below meth c A H locs ls C hP hD hS hl
  refine va_forget (fun q hq => C.2.2.2.2.2.2.2.2.2.2.2.2.2 _ (hS.2.2 q hq)) ?_
  exact W.widen (k := 600000) (n := 7302250) hmc hms (lwr C.1 C.2.1 C.2.2.2.2.2.1 C.2.2.2.2.2.2.1 hdg)
section LWR
variable {l : Launch} {G : Gd} {B : Bd} {cc : ByteArray} {nL : Nat} {own : String} {lv : List (Option Value)} {st st' rest : List Value} {ws : va_W} {b L : Nat} {xs : Nat → Int32} {o q : Nat} {D E : Nat → Nat} {wc wm : va_W}
theorem J_sld (pc k : Nat) {i : Int32} (hE : ∀ A s, B.2.2.2.2.1 A s → SX b L xs A s) (hi : i = nI k) (hk : k < L) (hL : L < 2147483648) (hdg : decode cc pc = .ok (.iaload, 1)) (kk : J l G B cc nL own (pc + 1) lv (.int (xs k) :: st) ws) : J l G B cc nL own pc lv (.int i :: .ref b :: st) ws := by
  intro p e s m args below meth c A H locs ls C hP hD hS hl
  subst hi
  obtain ⟨h1, h2, h3⟩ := hE _ _ C.2.2.2.2.2.2.2.2.2.2
  refine va_sld C.1 C.2.1 h1 h2 (fun z => absurd (h3 b z) (by omega)) hS (vp_in_nI hk (by omega)) hdg ?_
  rw [nI_clamp (by omega)]
  exact kk p e s m args below meth c A H locs ls C hP hD hS hl
theorem J_sxlen (pc : Nat) (hE : ∀ A s, B.2.2.2.2.1 A s → SX b L xs A s) (hdg : decode cc pc = .ok (.arraylength, 1)) (kk : J l G B cc nL own (pc + 1) lv (.int (nI L) :: st) ws) : J l G B cc nL own pc lv (.ref b :: st) ws := by
  intro p e s m args below meth c A H locs ls C hP hD hS hl
  obtain ⟨h1, h2, h3⟩ := hE _ _ C.2.2.2.2.2.2.2.2.2.2
  exact va_slen C.1 C.2.1 h1 h2 (fun z => absurd (h3 b z) (by omega)) hS hdg (kk p e s m args below meth c A H locs ls C hP hD hS hl)
theorem Inv.hd (h : Inv G o D q E wc wm) : ((∃ fs, wc[0]? = some (o, .inr (5, fs))) ∧ (∃ fs, wm[0]? = some (q, .inr (6, fs)))) ∧ wc.map Prod.fst = CAd G o D ∧ wm.map Prod.fst = MAd G q E :=
  Inv.elim (M := fun wc wm => ((∃ fs, wc[0]? = some (o, .inr (5, fs))) ∧ (∃ fs, wm[0]? = some (q, .inr (6, fs)))) ∧ wc.map Prod.fst = CAd G o D ∧ wm.map Prod.fst = MAd G q E) h (by intros; exact ⟨⟨⟨_, rfl⟩, ⟨_, rfl⟩⟩, cwF, mwF⟩)
theorem lc5 (pc : Nat) {y : MethodName} {bytes : ByteArray} {maxL : Nat} {ret' : Option FieldType} {k n index : Nat} {As : List Value} {r : Value} {P : va_W → Prop} (hC : CtP l G y bytes maxL ret' k (.ref o :: As) wc (some r) P) (hc : y.cls = "GooseArms") (hlink : Cond.methodLink own index y ∈ TB) (hin : Cond.instanceMethod y ∈ TB) (hsel : Cond.selects y.cls y y ∈ TB) (hini : Cond.initialized y.cls ∈ TB) (hcode : Cond.code y bytes maxL ret' ∈ TB) (hy : okY y n)
    (h0 : ∃ fs, wc[0]? = some (o, .inr (5, fs))) (hf : wc.map Prod.fst = CAd G o D) (hf5 : ∀ w5, P w5 → w5.map Prod.fst = CAd G o D) (hn : As.length = n) (hst : st = As.reverse ++ .ref o :: rest) (hrm : (rest.map fun v => v.category).sum ≤ 8) (hfit : fitR B k maxL = true) (hdg : decode cc pc = .ok (.invokevirtual index, 3))
    (kk : ∀ w5, P w5 → J l G B cc nL own (pc + 3) lv (r :: rest) (wF [w5, wm])) : J l G B cc nL own pc lv st (wF [wc, wm]) := by
  obtain ⟨fs, h0⟩ := h0
  have hC' : CtP l G y bytes maxL ret' k (.ref o :: As) (wF [wc]) (some r) P := by rw [show wF [wc] = wc from List.flatten_singleton]; exact hC
  refine J_bVP pc (bs := [wc, wm]) (w0s := [wc]) hC' hlink hin hsel hini hcode hy [0] 0 5 (by rw [hc]; rfl) (fs := fs) ?_ rfl rfl [CAd G o D] (congrArg (fun x => [x]) hf) (fun w1s => ∃ w5, w1s = [w5] ∧ P w5) (fun w1 h => ⟨[w1], List.flatten_singleton.symm, ⟨w1, rfl, h⟩, congrArg (fun x => [x]) (hf5 w1 h)⟩) hn hst rfl hrm hfit hdg ?_
  · show (wc ++ (wm ++ []))[0]? = _
    rw [List.getElem?_append_left (List.getElem?_eq_some_iff.mp h0).1]
    exact h0
  · rintro w1s ⟨w5, rfl, h⟩
    exact kk w5 h
theorem lc6 (pc : Nat) {w5 : va_W} {y : MethodName} {bytes : ByteArray} {maxL : Nat} {ret' : Option FieldType} {k n index : Nat} {As : List Value} {r : Value} {P : va_W → Prop} (hC : CtP l G y bytes maxL ret' k (.ref q :: As) wm (some r) P) (hc : y.cls = "GooseArmsModel") (hlink : Cond.methodLink own index y ∈ TB) (hin : Cond.instanceMethod y ∈ TB) (hsel : Cond.selects y.cls y y ∈ TB) (hini : Cond.initialized y.cls ∈ TB) (hcode : Cond.code y bytes maxL ret' ∈ TB) (hy : okY y n)
    (h0 : ∃ fs, wm[0]? = some (q, .inr (6, fs))) (hf : wm.map Prod.fst = MAd G q E) (hf5 : ∀ w6, P w6 → w6.map Prod.fst = MAd G q E) (hn : As.length = n) (hst : st = As.reverse ++ .ref q :: rest) (hrm : (rest.map fun v => v.category).sum ≤ 8) (hfit : fitR B k maxL = true) (hdg : decode cc pc = .ok (.invokevirtual index, 3))
    (kk : ∀ w6, P w6 → J l G B cc nL own (pc + 3) lv (r :: rest) (wF [w5, w6])) : J l G B cc nL own pc lv st (wF [w5, wm]) := by
  obtain ⟨fs, h0⟩ := h0
  have hC' : CtP l G y bytes maxL ret' k (.ref q :: As) (wF [wm]) (some r) P := by rw [show wF [wm] = wm from List.flatten_singleton]; exact hC
  refine J_bVP pc (bs := [w5, wm]) (w0s := [wm]) hC' hlink hin hsel hini hcode hy [1] w5.length 6 (by rw [hc]; rfl) (fs := fs) ?_ rfl rfl [MAd G q E] (congrArg (fun x => [x]) hf) (fun w1s => ∃ w6, w1s = [w6] ∧ P w6) (fun w1 h => ⟨[w1], List.flatten_singleton.symm, ⟨w1, rfl, h⟩, congrArg (fun x => [x]) (hf5 w1 h)⟩) hn hst rfl hrm hfit hdg ?_
  · show (w5 ++ (wm ++ []))[w5.length]? = _
    rw [List.getElem?_append_right (Nat.le_refl _), Nat.sub_self, List.append_nil]
    exact h0
  · rintro w1s ⟨w6, rfl, h⟩
    exact kk w6 h
end LWR
abbrev lvL (b o q i : Nat) : List (Option Value) := [some (.ref b), some (.ref o), some (.ref q), some (.int (nI i))]
theorem lcmp_s (x : Int64) : lg_cmp x x = 0 := by
  unfold lg_cmp
  simp
section LWC
variable {l : Launch} {G : Gd} {b L : Nat} {xs : Nat → Int32} {o q : Nat} {D E : Nat → Nat} {wc wm : va_W} {i : Nat}
theorem lw_tail (hI : Inv G o D q E wc wm) (kk : ∀ wc' wm', Inv G o D q E wc' wm' → J l G (bdF G b L xs) code 4 "GooseArmsLaw" 18 (lvL b o q (i + 5)) [] (wF [wc', wm'])) : J l G (bdF G b L xs) code 4 "GooseArmsLaw" 1625 (lvL b o q i) [] (wF [wc, wm]) := by
  refine J_iinc (v := nI (i + 5)) (lv' := lvL b o q (i + 5)) 1625 dL_law_1625 rfl (nI_add i 5) (by decide) rfl ?_
  exact J_goto (tgt := 18) 1628 dL_law_1628 (by decide) (kk wc wm hI)
set_option maxRecDepth 100000 in
set_option maxHeartbeats 4000000 in
theorem lw_c0 (hI : Inv G o D q E wc wm) (hi : i + 5 ≤ L) (hL : L ≤ 2560) (kk : ∀ wc' wm', Inv G o D q E wc' wm' → J l G (bdF G b L xs) code 4 "GooseArmsLaw" 18 (lvL b o q (i + 5)) [] (wF [wc', wm'])) : J l G (bdF G b L xs) code 4 "GooseArmsLaw" 228 (lvL b o q i) [] (wF [wc, wm]) := by
  obtain ⟨r, P5, P6, h5, h6, f5, f6, j, rv⟩ := st_feed l G o D q E (((((xs (i + 1))).toInt64 <<< ((32 : Int32).toInt64 &&& 63)) ||| (((xs (i + 2))).toInt64 &&& 4294967295))) ((xs (i + 3))) wc wm hI
  obtain ⟨v, rfl⟩ := rv
  obtain ⟨⟨d5, d6⟩, e5, e6⟩ := hI.hd
  refine J_aload_n 228 1 dL_law_228 rfl rfl ?_
  refine J_aload_n 229 0 dL_law_229 rfl rfl ?_
  refine J_iload_n 230 3 dL_law_230 rfl rfl ?_
  refine J_iconst (v := 1) 231 dL_law_231 rfl ?_
  refine J_iadd 232 dL_law_232 ?_
  refine J_topi (y := nI (i + 1)) 233 (nI_add i 1) ?_
  refine J_sld 233 (i + 1) (fun _ _ h_ => h_.2) rfl (by omega) (by omega) dL_law_233 ?_
  refine J_i2l 234 dL_law_234 ?_
  refine J_bipush (v := 32) 235 dL_law_235 rfl ?_
  refine J_lshl 237 dL_law_237 ?_
  refine J_aload_n 238 0 dL_law_238 rfl rfl ?_
  refine J_iload_n 239 3 dL_law_239 rfl rfl ?_
  refine J_iconst (v := 2) 240 dL_law_240 rfl ?_
  refine J_iadd 241 dL_law_241 ?_
  refine J_topi (y := nI (i + 2)) 242 (nI_add i 2) ?_
  refine J_sld 242 (i + 2) (fun _ _ h_ => h_.2) rfl (by omega) (by omega) dL_law_242 ?_
  refine J_i2l 243 dL_law_243 ?_
  refine J_ldc2 (v := 4294967295) 244 w_1314 dL_law_244 ?_
  refine J_land 247 dL_law_247 ?_
  refine J_lor 248 dL_law_248 ?_
  refine J_aload_n 249 0 dL_law_249 rfl rfl ?_
  refine J_iload_n 250 3 dL_law_250 rfl rfl ?_
  refine J_iconst (v := 3) 251 dL_law_251 rfl ?_
  refine J_iadd 252 dL_law_252 ?_
  refine J_topi (y := nI (i + 3)) 253 (nI_add i 3) ?_
  refine J_sld 253 (i + 3) (fun _ _ h_ => h_.2) rfl (by omega) (by omega) dL_law_253 ?_
  refine lc5 (rest := []) 254 h5 rfl w_230 w_231 w_232 w_1 w_233 ok_X5_feed d5 e5 f5 rfl rfl (leb rfl) rfl dL_law_254 (fun w5 hw5 => ?_)
  refine J_aload_n 257 2 dL_law_257 rfl rfl ?_
  refine J_aload_n 258 0 dL_law_258 rfl rfl ?_
  refine J_iload_n 259 3 dL_law_259 rfl rfl ?_
  refine J_iconst (v := 1) 260 dL_law_260 rfl ?_
  refine J_iadd 261 dL_law_261 ?_
  refine J_topi (y := nI (i + 1)) 262 (nI_add i 1) ?_
  refine J_sld 262 (i + 1) (fun _ _ h_ => h_.2) rfl (by omega) (by omega) dL_law_262 ?_
  refine J_i2l 263 dL_law_263 ?_
  refine J_bipush (v := 32) 264 dL_law_264 rfl ?_
  refine J_lshl 266 dL_law_266 ?_
  refine J_aload_n 267 0 dL_law_267 rfl rfl ?_
  refine J_iload_n 268 3 dL_law_268 rfl rfl ?_
  refine J_iconst (v := 2) 269 dL_law_269 rfl ?_
  refine J_iadd 270 dL_law_270 ?_
  refine J_topi (y := nI (i + 2)) 271 (nI_add i 2) ?_
  refine J_sld 271 (i + 2) (fun _ _ h_ => h_.2) rfl (by omega) (by omega) dL_law_271 ?_
  refine J_i2l 272 dL_law_272 ?_
  refine J_ldc2 (v := 4294967295) 273 w_1314 dL_law_273 ?_
  refine J_land 276 dL_law_276 ?_
  refine J_lor 277 dL_law_277 ?_
  refine J_aload_n 278 0 dL_law_278 rfl rfl ?_
  refine J_iload_n 279 3 dL_law_279 rfl rfl ?_
  refine J_iconst (v := 3) 280 dL_law_280 rfl ?_
  refine J_iadd 281 dL_law_281 ?_
  refine J_topi (y := nI (i + 3)) 282 (nI_add i 3) ?_
  refine J_sld 282 (i + 3) (fun _ _ h_ => h_.2) rfl (by omega) (by omega) dL_law_282 ?_
  refine lc6 (rest := [.int v]) 283 h6 rfl w_874 w_875 w_876 w_7 w_877 ok_X6_feed d6 e6 f6 rfl rfl (leb rfl) rfl dL_law_283 (fun w6 hw6 => ?_)
  refine J_icmp_eq (tgt := 1625) 286 dL_law_286 (by decide) (fun _ => ?_) (fun z_ => absurd rfl z_)
  exact lw_tail (j w5 w6 hw5 hw6) kk
set_option maxRecDepth 100000 in
set_option maxHeartbeats 4000000 in
theorem lw_c1 (hI : Inv G o D q E wc wm) (hi : i + 5 ≤ L) (hL : L ≤ 2560) (kk : ∀ wc' wm', Inv G o D q E wc' wm' → J l G (bdF G b L xs) code 4 "GooseArmsLaw" 18 (lvL b o q (i + 5)) [] (wF [wc', wm'])) : J l G (bdF G b L xs) code 4 "GooseArmsLaw" 291 (lvL b o q i) [] (wF [wc, wm]) := by
  obtain ⟨r, P5, P6, h5, h6, f5, f6, j, rv⟩ := st_court l G o D q E wc wm hI
  obtain ⟨v, rfl⟩ := rv
  obtain ⟨⟨d5, d6⟩, e5, e6⟩ := hI.hd
  refine J_aload_n 291 1 dL_law_291 rfl rfl ?_
  refine lc5 (rest := []) 292 h5 rfl w_241 w_242 w_243 w_1 w_244 ok_X5_court d5 e5 f5 rfl rfl (leb rfl) rfl dL_law_292 (fun w5 hw5 => ?_)
  refine J_aload_n 295 2 dL_law_295 rfl rfl ?_
  refine lc6 (rest := [.int v]) 296 h6 rfl w_882 w_883 w_884 w_7 w_885 ok_X6_court d6 e6 f6 rfl rfl (leb rfl) rfl dL_law_296 (fun w6 hw6 => ?_)
  refine J_icmp_eq (tgt := 1625) 299 dL_law_299 (by decide) (fun _ => ?_) (fun z_ => absurd rfl z_)
  exact lw_tail (j w5 w6 hw5 hw6) kk
set_option maxRecDepth 100000 in
set_option maxHeartbeats 4000000 in
theorem lw_c2 (hI : Inv G o D q E wc wm) (hi : i + 5 ≤ L) (hL : L ≤ 2560) (kk : ∀ wc' wm', Inv G o D q E wc' wm' → J l G (bdF G b L xs) code 4 "GooseArmsLaw" 18 (lvL b o q (i + 5)) [] (wF [wc', wm'])) : J l G (bdF G b L xs) code 4 "GooseArmsLaw" 304 (lvL b o q i) [] (wF [wc, wm]) := by
  obtain ⟨r, P5, P6, h5, h6, f5, f6, j, rv⟩ := st_set l G o D q E ((xs (i + 1))) ((xs (i + 2))) wc wm hI
  obtain ⟨v, rfl⟩ := rv
  obtain ⟨⟨d5, d6⟩, e5, e6⟩ := hI.hd
  refine J_aload_n 304 1 dL_law_304 rfl rfl ?_
  refine J_aload_n 305 0 dL_law_305 rfl rfl ?_
  refine J_iload_n 306 3 dL_law_306 rfl rfl ?_
  refine J_iconst (v := 1) 307 dL_law_307 rfl ?_
  refine J_iadd 308 dL_law_308 ?_
  refine J_topi (y := nI (i + 1)) 309 (nI_add i 1) ?_
  refine J_sld 309 (i + 1) (fun _ _ h_ => h_.2) rfl (by omega) (by omega) dL_law_309 ?_
  refine J_aload_n 310 0 dL_law_310 rfl rfl ?_
  refine J_iload_n 311 3 dL_law_311 rfl rfl ?_
  refine J_iconst (v := 2) 312 dL_law_312 rfl ?_
  refine J_iadd 313 dL_law_313 ?_
  refine J_topi (y := nI (i + 2)) 314 (nI_add i 2) ?_
  refine J_sld 314 (i + 2) (fun _ _ h_ => h_.2) rfl (by omega) (by omega) dL_law_314 ?_
  refine lc5 (rest := []) 315 h5 rfl w_383 w_384 w_385 w_1 w_386 ok_X5_set d5 e5 f5 rfl rfl (leb rfl) rfl dL_law_315 (fun w5 hw5 => ?_)
  refine J_aload_n 318 2 dL_law_318 rfl rfl ?_
  refine J_aload_n 319 0 dL_law_319 rfl rfl ?_
  refine J_iload_n 320 3 dL_law_320 rfl rfl ?_
  refine J_iconst (v := 1) 321 dL_law_321 rfl ?_
  refine J_iadd 322 dL_law_322 ?_
  refine J_topi (y := nI (i + 1)) 323 (nI_add i 1) ?_
  refine J_sld 323 (i + 1) (fun _ _ h_ => h_.2) rfl (by omega) (by omega) dL_law_323 ?_
  refine J_aload_n 324 0 dL_law_324 rfl rfl ?_
  refine J_iload_n 325 3 dL_law_325 rfl rfl ?_
  refine J_iconst (v := 2) 326 dL_law_326 rfl ?_
  refine J_iadd 327 dL_law_327 ?_
  refine J_topi (y := nI (i + 2)) 328 (nI_add i 2) ?_
  refine J_sld 328 (i + 2) (fun _ _ h_ => h_.2) rfl (by omega) (by omega) dL_law_328 ?_
  refine lc6 (rest := [.int v]) 329 h6 rfl w_964 w_965 w_966 w_7 w_967 ok_X6_set d6 e6 f6 rfl rfl (leb rfl) rfl dL_law_329 (fun w6 hw6 => ?_)
  refine J_icmp_eq (tgt := 1625) 332 dL_law_332 (by decide) (fun _ => ?_) (fun z_ => absurd rfl z_)
  exact lw_tail (j w5 w6 hw5 hw6) kk
set_option maxRecDepth 100000 in
set_option maxHeartbeats 4000000 in
theorem lw_c3 (hI : Inv G o D q E wc wm) (hi : i + 5 ≤ L) (hL : L ≤ 2560) (kk : ∀ wc' wm', Inv G o D q E wc' wm' → J l G (bdF G b L xs) code 4 "GooseArmsLaw" 18 (lvL b o q (i + 5)) [] (wF [wc', wm'])) : J l G (bdF G b L xs) code 4 "GooseArmsLaw" 337 (lvL b o q i) [] (wF [wc, wm]) := by
  obtain ⟨r, P5, P6, h5, h6, f5, f6, j, rv⟩ := st_lawOf l G o D q E ((xs (i + 1))) wc wm hI
  obtain ⟨v, rfl⟩ := rv
  obtain ⟨⟨d5, d6⟩, e5, e6⟩ := hI.hd
  refine J_aload_n 337 1 dL_law_337 rfl rfl ?_
  refine J_aload_n 338 0 dL_law_338 rfl rfl ?_
  refine J_iload_n 339 3 dL_law_339 rfl rfl ?_
  refine J_iconst (v := 1) 340 dL_law_340 rfl ?_
  refine J_iadd 341 dL_law_341 ?_
  refine J_topi (y := nI (i + 1)) 342 (nI_add i 1) ?_
  refine J_sld 342 (i + 1) (fun _ _ h_ => h_.2) rfl (by omega) (by omega) dL_law_342 ?_
  refine lc5 (rest := []) 343 h5 rfl w_391 w_392 w_393 w_1 w_394 ok_X5_lawOf d5 e5 f5 rfl rfl (leb rfl) rfl dL_law_343 (fun w5 hw5 => ?_)
  refine J_aload_n 346 2 dL_law_346 rfl rfl ?_
  refine J_aload_n 347 0 dL_law_347 rfl rfl ?_
  refine J_iload_n 348 3 dL_law_348 rfl rfl ?_
  refine J_iconst (v := 1) 349 dL_law_349 rfl ?_
  refine J_iadd 350 dL_law_350 ?_
  refine J_topi (y := nI (i + 1)) 351 (nI_add i 1) ?_
  refine J_sld 351 (i + 1) (fun _ _ h_ => h_.2) rfl (by omega) (by omega) dL_law_351 ?_
  refine lc6 (rest := [.int v]) 352 h6 rfl w_972 w_973 w_974 w_7 w_975 ok_X6_lawOf d6 e6 f6 rfl rfl (leb rfl) rfl dL_law_352 (fun w6 hw6 => ?_)
  refine J_icmp_eq (tgt := 1625) 355 dL_law_355 (by decide) (fun _ => ?_) (fun z_ => absurd rfl z_)
  exact lw_tail (j w5 w6 hw5 hw6) kk
set_option maxRecDepth 100000 in
set_option maxHeartbeats 4000000 in
theorem lw_c4 (hI : Inv G o D q E wc wm) (hi : i + 5 ≤ L) (hL : L ≤ 2560) (kk : ∀ wc' wm', Inv G o D q E wc' wm' → J l G (bdF G b L xs) code 4 "GooseArmsLaw" 18 (lvL b o q (i + 5)) [] (wF [wc', wm'])) : J l G (bdF G b L xs) code 4 "GooseArmsLaw" 360 (lvL b o q i) [] (wF [wc, wm]) := by
  obtain ⟨r, P5, P6, h5, h6, f5, f6, j, rv⟩ := st_saying l G o D q E ((xs (i + 1))) ((xs (i + 2))) ((xs (i + 3))) wc wm hI
  obtain ⟨v, rfl⟩ := rv
  obtain ⟨⟨d5, d6⟩, e5, e6⟩ := hI.hd
  refine J_aload_n 360 1 dL_law_360 rfl rfl ?_
  refine J_aload_n 361 0 dL_law_361 rfl rfl ?_
  refine J_iload_n 362 3 dL_law_362 rfl rfl ?_
  refine J_iconst (v := 1) 363 dL_law_363 rfl ?_
  refine J_iadd 364 dL_law_364 ?_
  refine J_topi (y := nI (i + 1)) 365 (nI_add i 1) ?_
  refine J_sld 365 (i + 1) (fun _ _ h_ => h_.2) rfl (by omega) (by omega) dL_law_365 ?_
  refine J_aload_n 366 0 dL_law_366 rfl rfl ?_
  refine J_iload_n 367 3 dL_law_367 rfl rfl ?_
  refine J_iconst (v := 2) 368 dL_law_368 rfl ?_
  refine J_iadd 369 dL_law_369 ?_
  refine J_topi (y := nI (i + 2)) 370 (nI_add i 2) ?_
  refine J_sld 370 (i + 2) (fun _ _ h_ => h_.2) rfl (by omega) (by omega) dL_law_370 ?_
  refine J_aload_n 371 0 dL_law_371 rfl rfl ?_
  refine J_iload_n 372 3 dL_law_372 rfl rfl ?_
  refine J_iconst (v := 3) 373 dL_law_373 rfl ?_
  refine J_iadd 374 dL_law_374 ?_
  refine J_topi (y := nI (i + 3)) 375 (nI_add i 3) ?_
  refine J_sld 375 (i + 3) (fun _ _ h_ => h_.2) rfl (by omega) (by omega) dL_law_375 ?_
  refine lc5 (rest := []) 376 h5 rfl w_395 w_396 w_397 w_1 w_398 ok_X5_saying d5 e5 f5 rfl rfl (leb rfl) rfl dL_law_376 (fun w5 hw5 => ?_)
  refine J_aload_n 379 2 dL_law_379 rfl rfl ?_
  refine J_aload_n 380 0 dL_law_380 rfl rfl ?_
  refine J_iload_n 381 3 dL_law_381 rfl rfl ?_
  refine J_iconst (v := 1) 382 dL_law_382 rfl ?_
  refine J_iadd 383 dL_law_383 ?_
  refine J_topi (y := nI (i + 1)) 384 (nI_add i 1) ?_
  refine J_sld 384 (i + 1) (fun _ _ h_ => h_.2) rfl (by omega) (by omega) dL_law_384 ?_
  refine J_aload_n 385 0 dL_law_385 rfl rfl ?_
  refine J_iload_n 386 3 dL_law_386 rfl rfl ?_
  refine J_iconst (v := 2) 387 dL_law_387 rfl ?_
  refine J_iadd 388 dL_law_388 ?_
  refine J_topi (y := nI (i + 2)) 389 (nI_add i 2) ?_
  refine J_sld 389 (i + 2) (fun _ _ h_ => h_.2) rfl (by omega) (by omega) dL_law_389 ?_
  refine J_aload_n 390 0 dL_law_390 rfl rfl ?_
  refine J_iload_n 391 3 dL_law_391 rfl rfl ?_
  refine J_iconst (v := 3) 392 dL_law_392 rfl ?_
  refine J_iadd 393 dL_law_393 ?_
  refine J_topi (y := nI (i + 3)) 394 (nI_add i 3) ?_
  refine J_sld 394 (i + 3) (fun _ _ h_ => h_.2) rfl (by omega) (by omega) dL_law_394 ?_
  refine lc6 (rest := [.int v]) 395 h6 rfl w_976 w_977 w_978 w_7 w_979 ok_X6_saying d6 e6 f6 rfl rfl (leb rfl) rfl dL_law_395 (fun w6 hw6 => ?_)
  refine J_icmp_eq (tgt := 1625) 398 dL_law_398 (by decide) (fun _ => ?_) (fun z_ => absurd rfl z_)
  exact lw_tail (j w5 w6 hw5 hw6) kk
set_option maxRecDepth 100000 in
set_option maxHeartbeats 4000000 in
theorem lw_c5 (hI : Inv G o D q E wc wm) (hi : i + 5 ≤ L) (hL : L ≤ 2560) (kk : ∀ wc' wm', Inv G o D q E wc' wm' → J l G (bdF G b L xs) code 4 "GooseArmsLaw" 18 (lvL b o q (i + 5)) [] (wF [wc', wm'])) : J l G (bdF G b L xs) code 4 "GooseArmsLaw" 403 (lvL b o q i) [] (wF [wc, wm]) := by
  obtain ⟨r, P5, P6, h5, h6, f5, f6, j, rv⟩ := st_sayingOf l G o D q E ((xs (i + 1))) ((xs (i + 2))) wc wm hI
  obtain ⟨v, rfl⟩ := rv
  obtain ⟨⟨d5, d6⟩, e5, e6⟩ := hI.hd
  refine J_aload_n 403 1 dL_law_403 rfl rfl ?_
  refine J_aload_n 404 0 dL_law_404 rfl rfl ?_
  refine J_iload_n 405 3 dL_law_405 rfl rfl ?_
  refine J_iconst (v := 1) 406 dL_law_406 rfl ?_
  refine J_iadd 407 dL_law_407 ?_
  refine J_topi (y := nI (i + 1)) 408 (nI_add i 1) ?_
  refine J_sld 408 (i + 1) (fun _ _ h_ => h_.2) rfl (by omega) (by omega) dL_law_408 ?_
  refine J_aload_n 409 0 dL_law_409 rfl rfl ?_
  refine J_iload_n 410 3 dL_law_410 rfl rfl ?_
  refine J_iconst (v := 2) 411 dL_law_411 rfl ?_
  refine J_iadd 412 dL_law_412 ?_
  refine J_topi (y := nI (i + 2)) 413 (nI_add i 2) ?_
  refine J_sld 413 (i + 2) (fun _ _ h_ => h_.2) rfl (by omega) (by omega) dL_law_413 ?_
  refine lc5 (rest := []) 414 h5 rfl w_400 w_401 w_402 w_1 w_403 ok_X5_sayingOf d5 e5 f5 rfl rfl (leb rfl) rfl dL_law_414 (fun w5 hw5 => ?_)
  refine J_aload_n 417 2 dL_law_417 rfl rfl ?_
  refine J_aload_n 418 0 dL_law_418 rfl rfl ?_
  refine J_iload_n 419 3 dL_law_419 rfl rfl ?_
  refine J_iconst (v := 1) 420 dL_law_420 rfl ?_
  refine J_iadd 421 dL_law_421 ?_
  refine J_topi (y := nI (i + 1)) 422 (nI_add i 1) ?_
  refine J_sld 422 (i + 1) (fun _ _ h_ => h_.2) rfl (by omega) (by omega) dL_law_422 ?_
  refine J_aload_n 423 0 dL_law_423 rfl rfl ?_
  refine J_iload_n 424 3 dL_law_424 rfl rfl ?_
  refine J_iconst (v := 2) 425 dL_law_425 rfl ?_
  refine J_iadd 426 dL_law_426 ?_
  refine J_topi (y := nI (i + 2)) 427 (nI_add i 2) ?_
  refine J_sld 427 (i + 2) (fun _ _ h_ => h_.2) rfl (by omega) (by omega) dL_law_427 ?_
  refine lc6 (rest := [.int v]) 428 h6 rfl w_983 w_984 w_985 w_7 w_986 ok_X6_sayingOf d6 e6 f6 rfl rfl (leb rfl) rfl dL_law_428 (fun w6 hw6 => ?_)
  refine J_icmp_eq (tgt := 1625) 431 dL_law_431 (by decide) (fun _ => ?_) (fun z_ => absurd rfl z_)
  exact lw_tail (j w5 w6 hw5 hw6) kk
set_option maxRecDepth 100000 in
set_option maxHeartbeats 4000000 in
theorem lw_c6 (hI : Inv G o D q E wc wm) (hi : i + 5 ≤ L) (hL : L ≤ 2560) (kk : ∀ wc' wm', Inv G o D q E wc' wm' → J l G (bdF G b L xs) code 4 "GooseArmsLaw" 18 (lvL b o q (i + 5)) [] (wF [wc', wm'])) : J l G (bdF G b L xs) code 4 "GooseArmsLaw" 436 (lvL b o q i) [] (wF [wc, wm]) := by
  obtain ⟨r, P5, P6, h5, h6, f5, f6, j, rv⟩ := st_alter l G o D q E ((xs (i + 1))) ((xs (i + 2))) ((xs (i + 3))) wc wm hI
  obtain ⟨v, rfl⟩ := rv
  obtain ⟨⟨d5, d6⟩, e5, e6⟩ := hI.hd
  refine J_aload_n 436 1 dL_law_436 rfl rfl ?_
  refine J_aload_n 437 0 dL_law_437 rfl rfl ?_
  refine J_iload_n 438 3 dL_law_438 rfl rfl ?_
  refine J_iconst (v := 1) 439 dL_law_439 rfl ?_
  refine J_iadd 440 dL_law_440 ?_
  refine J_topi (y := nI (i + 1)) 441 (nI_add i 1) ?_
  refine J_sld 441 (i + 1) (fun _ _ h_ => h_.2) rfl (by omega) (by omega) dL_law_441 ?_
  refine J_aload_n 442 0 dL_law_442 rfl rfl ?_
  refine J_iload_n 443 3 dL_law_443 rfl rfl ?_
  refine J_iconst (v := 2) 444 dL_law_444 rfl ?_
  refine J_iadd 445 dL_law_445 ?_
  refine J_topi (y := nI (i + 2)) 446 (nI_add i 2) ?_
  refine J_sld 446 (i + 2) (fun _ _ h_ => h_.2) rfl (by omega) (by omega) dL_law_446 ?_
  refine J_aload_n 447 0 dL_law_447 rfl rfl ?_
  refine J_iload_n 448 3 dL_law_448 rfl rfl ?_
  refine J_iconst (v := 3) 449 dL_law_449 rfl ?_
  refine J_iadd 450 dL_law_450 ?_
  refine J_topi (y := nI (i + 3)) 451 (nI_add i 3) ?_
  refine J_sld 451 (i + 3) (fun _ _ h_ => h_.2) rfl (by omega) (by omega) dL_law_451 ?_
  refine lc5 (rest := []) 452 h5 rfl w_418 w_419 w_420 w_1 w_421 ok_X5_alter d5 e5 f5 rfl rfl (leb rfl) rfl dL_law_452 (fun w5 hw5 => ?_)
  refine J_aload_n 455 2 dL_law_455 rfl rfl ?_
  refine J_aload_n 456 0 dL_law_456 rfl rfl ?_
  refine J_iload_n 457 3 dL_law_457 rfl rfl ?_
  refine J_iconst (v := 1) 458 dL_law_458 rfl ?_
  refine J_iadd 459 dL_law_459 ?_
  refine J_topi (y := nI (i + 1)) 460 (nI_add i 1) ?_
  refine J_sld 460 (i + 1) (fun _ _ h_ => h_.2) rfl (by omega) (by omega) dL_law_460 ?_
  refine J_aload_n 461 0 dL_law_461 rfl rfl ?_
  refine J_iload_n 462 3 dL_law_462 rfl rfl ?_
  refine J_iconst (v := 2) 463 dL_law_463 rfl ?_
  refine J_iadd 464 dL_law_464 ?_
  refine J_topi (y := nI (i + 2)) 465 (nI_add i 2) ?_
  refine J_sld 465 (i + 2) (fun _ _ h_ => h_.2) rfl (by omega) (by omega) dL_law_465 ?_
  refine J_aload_n 466 0 dL_law_466 rfl rfl ?_
  refine J_iload_n 467 3 dL_law_467 rfl rfl ?_
  refine J_iconst (v := 3) 468 dL_law_468 rfl ?_
  refine J_iadd 469 dL_law_469 ?_
  refine J_topi (y := nI (i + 3)) 470 (nI_add i 3) ?_
  refine J_sld 470 (i + 3) (fun _ _ h_ => h_.2) rfl (by omega) (by omega) dL_law_470 ?_
  refine lc6 (rest := [.int v]) 471 h6 rfl w_1003 w_1004 w_1005 w_7 w_1006 ok_X6_alter d6 e6 f6 rfl rfl (leb rfl) rfl dL_law_471 (fun w6 hw6 => ?_)
  refine J_icmp_eq (tgt := 1625) 474 dL_law_474 (by decide) (fun _ => ?_) (fun z_ => absurd rfl z_)
  exact lw_tail (j w5 w6 hw5 hw6) kk
set_option maxRecDepth 100000 in
set_option maxHeartbeats 4000000 in
theorem lw_c7 (hI : Inv G o D q E wc wm) (hi : i + 5 ≤ L) (hL : L ≤ 2560) (kk : ∀ wc' wm', Inv G o D q E wc' wm' → J l G (bdF G b L xs) code 4 "GooseArmsLaw" 18 (lvL b o q (i + 5)) [] (wF [wc', wm'])) : J l G (bdF G b L xs) code 4 "GooseArmsLaw" 479 (lvL b o q i) [] (wF [wc, wm]) := by
  obtain ⟨r, P5, P6, h5, h6, f5, f6, j, rv⟩ := st_hearer l G o D q E ((xs (i + 1))) ((xs (i + 2))) ((xs (i + 3))) wc wm hI
  obtain ⟨v, rfl⟩ := rv
  obtain ⟨⟨d5, d6⟩, e5, e6⟩ := hI.hd
  refine J_aload_n 479 1 dL_law_479 rfl rfl ?_
  refine J_aload_n 480 0 dL_law_480 rfl rfl ?_
  refine J_iload_n 481 3 dL_law_481 rfl rfl ?_
  refine J_iconst (v := 1) 482 dL_law_482 rfl ?_
  refine J_iadd 483 dL_law_483 ?_
  refine J_topi (y := nI (i + 1)) 484 (nI_add i 1) ?_
  refine J_sld 484 (i + 1) (fun _ _ h_ => h_.2) rfl (by omega) (by omega) dL_law_484 ?_
  refine J_aload_n 485 0 dL_law_485 rfl rfl ?_
  refine J_iload_n 486 3 dL_law_486 rfl rfl ?_
  refine J_iconst (v := 2) 487 dL_law_487 rfl ?_
  refine J_iadd 488 dL_law_488 ?_
  refine J_topi (y := nI (i + 2)) 489 (nI_add i 2) ?_
  refine J_sld 489 (i + 2) (fun _ _ h_ => h_.2) rfl (by omega) (by omega) dL_law_489 ?_
  refine J_aload_n 490 0 dL_law_490 rfl rfl ?_
  refine J_iload_n 491 3 dL_law_491 rfl rfl ?_
  refine J_iconst (v := 3) 492 dL_law_492 rfl ?_
  refine J_iadd 493 dL_law_493 ?_
  refine J_topi (y := nI (i + 3)) 494 (nI_add i 3) ?_
  refine J_sld 494 (i + 3) (fun _ _ h_ => h_.2) rfl (by omega) (by omega) dL_law_494 ?_
  refine lc5 (rest := []) 495 h5 rfl w_425 w_426 w_427 w_1 w_428 ok_X5_hearer d5 e5 f5 rfl rfl (leb rfl) rfl dL_law_495 (fun w5 hw5 => ?_)
  refine J_aload_n 498 2 dL_law_498 rfl rfl ?_
  refine J_aload_n 499 0 dL_law_499 rfl rfl ?_
  refine J_iload_n 500 3 dL_law_500 rfl rfl ?_
  refine J_iconst (v := 1) 501 dL_law_501 rfl ?_
  refine J_iadd 502 dL_law_502 ?_
  refine J_topi (y := nI (i + 1)) 503 (nI_add i 1) ?_
  refine J_sld 503 (i + 1) (fun _ _ h_ => h_.2) rfl (by omega) (by omega) dL_law_503 ?_
  refine J_aload_n 504 0 dL_law_504 rfl rfl ?_
  refine J_iload_n 505 3 dL_law_505 rfl rfl ?_
  refine J_iconst (v := 2) 506 dL_law_506 rfl ?_
  refine J_iadd 507 dL_law_507 ?_
  refine J_topi (y := nI (i + 2)) 508 (nI_add i 2) ?_
  refine J_sld 508 (i + 2) (fun _ _ h_ => h_.2) rfl (by omega) (by omega) dL_law_508 ?_
  refine J_aload_n 509 0 dL_law_509 rfl rfl ?_
  refine J_iload_n 510 3 dL_law_510 rfl rfl ?_
  refine J_iconst (v := 3) 511 dL_law_511 rfl ?_
  refine J_iadd 512 dL_law_512 ?_
  refine J_topi (y := nI (i + 3)) 513 (nI_add i 3) ?_
  refine J_sld 513 (i + 3) (fun _ _ h_ => h_.2) rfl (by omega) (by omega) dL_law_513 ?_
  refine lc6 (rest := [.int v]) 514 h6 rfl w_1007 w_1008 w_1009 w_7 w_1010 ok_X6_hearer d6 e6 f6 rfl rfl (leb rfl) rfl dL_law_514 (fun w6 hw6 => ?_)
  refine J_icmp_eq (tgt := 1625) 517 dL_law_517 (by decide) (fun _ => ?_) (fun z_ => absurd rfl z_)
  exact lw_tail (j w5 w6 hw5 hw6) kk
set_option maxRecDepth 100000 in
set_option maxHeartbeats 4000000 in
theorem lw_c8 (hI : Inv G o D q E wc wm) (hi : i + 5 ≤ L) (hL : L ≤ 2560) (kk : ∀ wc' wm', Inv G o D q E wc' wm' → J l G (bdF G b L xs) code 4 "GooseArmsLaw" 18 (lvL b o q (i + 5)) [] (wF [wc', wm'])) : J l G (bdF G b L xs) code 4 "GooseArmsLaw" 522 (lvL b o q i) [] (wF [wc, wm]) := by
  obtain ⟨r, P5, P6, h5, h6, f5, f6, j, rv⟩ := st_of l G o D q E ((xs (i + 1))) ((xs (i + 2))) wc wm hI
  obtain ⟨v, rfl⟩ := rv
  obtain ⟨⟨d5, d6⟩, e5, e6⟩ := hI.hd
  refine J_aload_n 522 1 dL_law_522 rfl rfl ?_
  refine J_aload_n 523 0 dL_law_523 rfl rfl ?_
  refine J_iload_n 524 3 dL_law_524 rfl rfl ?_
  refine J_iconst (v := 1) 525 dL_law_525 rfl ?_
  refine J_iadd 526 dL_law_526 ?_
  refine J_topi (y := nI (i + 1)) 527 (nI_add i 1) ?_
  refine J_sld 527 (i + 1) (fun _ _ h_ => h_.2) rfl (by omega) (by omega) dL_law_527 ?_
  refine J_aload_n 528 0 dL_law_528 rfl rfl ?_
  refine J_iload_n 529 3 dL_law_529 rfl rfl ?_
  refine J_iconst (v := 2) 530 dL_law_530 rfl ?_
  refine J_iadd 531 dL_law_531 ?_
  refine J_topi (y := nI (i + 2)) 532 (nI_add i 2) ?_
  refine J_sld 532 (i + 2) (fun _ _ h_ => h_.2) rfl (by omega) (by omega) dL_law_532 ?_
  refine lc5 (rest := []) 533 h5 rfl w_433 w_434 w_435 w_1 w_436 ok_X5_of d5 e5 f5 rfl rfl (leb rfl) rfl dL_law_533 (fun w5 hw5 => ?_)
  refine J_aload_n 536 2 dL_law_536 rfl rfl ?_
  refine J_aload_n 537 0 dL_law_537 rfl rfl ?_
  refine J_iload_n 538 3 dL_law_538 rfl rfl ?_
  refine J_iconst (v := 1) 539 dL_law_539 rfl ?_
  refine J_iadd 540 dL_law_540 ?_
  refine J_topi (y := nI (i + 1)) 541 (nI_add i 1) ?_
  refine J_sld 541 (i + 1) (fun _ _ h_ => h_.2) rfl (by omega) (by omega) dL_law_541 ?_
  refine J_aload_n 542 0 dL_law_542 rfl rfl ?_
  refine J_iload_n 543 3 dL_law_543 rfl rfl ?_
  refine J_iconst (v := 2) 544 dL_law_544 rfl ?_
  refine J_iadd 545 dL_law_545 ?_
  refine J_topi (y := nI (i + 2)) 546 (nI_add i 2) ?_
  refine J_sld 546 (i + 2) (fun _ _ h_ => h_.2) rfl (by omega) (by omega) dL_law_546 ?_
  refine lc6 (rest := [.int v]) 547 h6 rfl w_1018 w_1019 w_1020 w_7 w_1021 ok_X6_of d6 e6 f6 rfl rfl (leb rfl) rfl dL_law_547 (fun w6 hw6 => ?_)
  refine J_icmp_eq (tgt := 1625) 550 dL_law_550 (by decide) (fun _ => ?_) (fun z_ => absurd rfl z_)
  exact lw_tail (j w5 w6 hw5 hw6) kk
set_option maxRecDepth 100000 in
set_option maxHeartbeats 4000000 in
theorem lw_c9 (hI : Inv G o D q E wc wm) (hi : i + 5 ≤ L) (hL : L ≤ 2560) (kk : ∀ wc' wm', Inv G o D q E wc' wm' → J l G (bdF G b L xs) code 4 "GooseArmsLaw" 18 (lvL b o q (i + 5)) [] (wF [wc', wm'])) : J l G (bdF G b L xs) code 4 "GooseArmsLaw" 555 (lvL b o q i) [] (wF [wc, wm]) := by
  obtain ⟨r, P5, P6, h5, h6, f5, f6, j, rv⟩ := st_does l G o D q E ((xs (i + 1))) ((xs (i + 2))) wc wm hI
  obtain ⟨v, rfl⟩ := rv
  obtain ⟨⟨d5, d6⟩, e5, e6⟩ := hI.hd
  refine J_aload_n 555 1 dL_law_555 rfl rfl ?_
  refine J_aload_n 556 0 dL_law_556 rfl rfl ?_
  refine J_iload_n 557 3 dL_law_557 rfl rfl ?_
  refine J_iconst (v := 1) 558 dL_law_558 rfl ?_
  refine J_iadd 559 dL_law_559 ?_
  refine J_topi (y := nI (i + 1)) 560 (nI_add i 1) ?_
  refine J_sld 560 (i + 1) (fun _ _ h_ => h_.2) rfl (by omega) (by omega) dL_law_560 ?_
  refine J_aload_n 561 0 dL_law_561 rfl rfl ?_
  refine J_iload_n 562 3 dL_law_562 rfl rfl ?_
  refine J_iconst (v := 2) 563 dL_law_563 rfl ?_
  refine J_iadd 564 dL_law_564 ?_
  refine J_topi (y := nI (i + 2)) 565 (nI_add i 2) ?_
  refine J_sld 565 (i + 2) (fun _ _ h_ => h_.2) rfl (by omega) (by omega) dL_law_565 ?_
  refine lc5 (rest := []) 566 h5 rfl w_441 w_442 w_443 w_1 w_444 ok_X5_does d5 e5 f5 rfl rfl (leb rfl) rfl dL_law_566 (fun w5 hw5 => ?_)
  refine J_aload_n 569 2 dL_law_569 rfl rfl ?_
  refine J_aload_n 570 0 dL_law_570 rfl rfl ?_
  refine J_iload_n 571 3 dL_law_571 rfl rfl ?_
  refine J_iconst (v := 1) 572 dL_law_572 rfl ?_
  refine J_iadd 573 dL_law_573 ?_
  refine J_topi (y := nI (i + 1)) 574 (nI_add i 1) ?_
  refine J_sld 574 (i + 1) (fun _ _ h_ => h_.2) rfl (by omega) (by omega) dL_law_574 ?_
  refine J_aload_n 575 0 dL_law_575 rfl rfl ?_
  refine J_iload_n 576 3 dL_law_576 rfl rfl ?_
  refine J_iconst (v := 2) 577 dL_law_577 rfl ?_
  refine J_iadd 578 dL_law_578 ?_
  refine J_topi (y := nI (i + 2)) 579 (nI_add i 2) ?_
  refine J_sld 579 (i + 2) (fun _ _ h_ => h_.2) rfl (by omega) (by omega) dL_law_579 ?_
  refine lc6 (rest := [.int v]) 580 h6 rfl w_1026 w_1027 w_1028 w_7 w_1029 ok_X6_does d6 e6 f6 rfl rfl (leb rfl) rfl dL_law_580 (fun w6 hw6 => ?_)
  refine J_icmp_eq (tgt := 1625) 583 dL_law_583 (by decide) (fun _ => ?_) (fun z_ => absurd rfl z_)
  exact lw_tail (j w5 w6 hw5 hw6) kk
set_option maxRecDepth 100000 in
set_option maxHeartbeats 4000000 in
theorem lw_c10 (hI : Inv G o D q E wc wm) (hi : i + 5 ≤ L) (hL : L ≤ 2560) (kk : ∀ wc' wm', Inv G o D q E wc' wm' → J l G (bdF G b L xs) code 4 "GooseArmsLaw" 18 (lvL b o q (i + 5)) [] (wF [wc', wm'])) : J l G (bdF G b L xs) code 4 "GooseArmsLaw" 588 (lvL b o q i) [] (wF [wc, wm]) := by
  obtain ⟨r, P5, P6, h5, h6, f5, f6, j, rv⟩ := st_mind l G o D q E ((xs (i + 1))) ((xs (i + 2))) ((xs (i + 3))) wc wm hI
  obtain ⟨v, rfl⟩ := rv
  obtain ⟨⟨d5, d6⟩, e5, e6⟩ := hI.hd
  refine J_aload_n 588 1 dL_law_588 rfl rfl ?_
  refine J_aload_n 589 0 dL_law_589 rfl rfl ?_
  refine J_iload_n 590 3 dL_law_590 rfl rfl ?_
  refine J_iconst (v := 1) 591 dL_law_591 rfl ?_
  refine J_iadd 592 dL_law_592 ?_
  refine J_topi (y := nI (i + 1)) 593 (nI_add i 1) ?_
  refine J_sld 593 (i + 1) (fun _ _ h_ => h_.2) rfl (by omega) (by omega) dL_law_593 ?_
  refine J_aload_n 594 0 dL_law_594 rfl rfl ?_
  refine J_iload_n 595 3 dL_law_595 rfl rfl ?_
  refine J_iconst (v := 2) 596 dL_law_596 rfl ?_
  refine J_iadd 597 dL_law_597 ?_
  refine J_topi (y := nI (i + 2)) 598 (nI_add i 2) ?_
  refine J_sld 598 (i + 2) (fun _ _ h_ => h_.2) rfl (by omega) (by omega) dL_law_598 ?_
  refine J_aload_n 599 0 dL_law_599 rfl rfl ?_
  refine J_iload_n 600 3 dL_law_600 rfl rfl ?_
  refine J_iconst (v := 3) 601 dL_law_601 rfl ?_
  refine J_iadd 602 dL_law_602 ?_
  refine J_topi (y := nI (i + 3)) 603 (nI_add i 3) ?_
  refine J_sld 603 (i + 3) (fun _ _ h_ => h_.2) rfl (by omega) (by omega) dL_law_603 ?_
  refine lc5 (rest := []) 604 h5 rfl w_461 w_462 w_463 w_1 w_464 ok_X5_mind d5 e5 f5 rfl rfl (leb rfl) rfl dL_law_604 (fun w5 hw5 => ?_)
  refine J_aload_n 607 2 dL_law_607 rfl rfl ?_
  refine J_aload_n 608 0 dL_law_608 rfl rfl ?_
  refine J_iload_n 609 3 dL_law_609 rfl rfl ?_
  refine J_iconst (v := 1) 610 dL_law_610 rfl ?_
  refine J_iadd 611 dL_law_611 ?_
  refine J_topi (y := nI (i + 1)) 612 (nI_add i 1) ?_
  refine J_sld 612 (i + 1) (fun _ _ h_ => h_.2) rfl (by omega) (by omega) dL_law_612 ?_
  refine J_aload_n 613 0 dL_law_613 rfl rfl ?_
  refine J_iload_n 614 3 dL_law_614 rfl rfl ?_
  refine J_iconst (v := 2) 615 dL_law_615 rfl ?_
  refine J_iadd 616 dL_law_616 ?_
  refine J_topi (y := nI (i + 2)) 617 (nI_add i 2) ?_
  refine J_sld 617 (i + 2) (fun _ _ h_ => h_.2) rfl (by omega) (by omega) dL_law_617 ?_
  refine J_aload_n 618 0 dL_law_618 rfl rfl ?_
  refine J_iload_n 619 3 dL_law_619 rfl rfl ?_
  refine J_iconst (v := 3) 620 dL_law_620 rfl ?_
  refine J_iadd 621 dL_law_621 ?_
  refine J_topi (y := nI (i + 3)) 622 (nI_add i 3) ?_
  refine J_sld 622 (i + 3) (fun _ _ h_ => h_.2) rfl (by omega) (by omega) dL_law_622 ?_
  refine lc6 (rest := [.int v]) 623 h6 rfl w_1046 w_1047 w_1048 w_7 w_1049 ok_X6_mind d6 e6 f6 rfl rfl (leb rfl) rfl dL_law_623 (fun w6 hw6 => ?_)
  refine J_icmp_eq (tgt := 1625) 626 dL_law_626 (by decide) (fun _ => ?_) (fun z_ => absurd rfl z_)
  exact lw_tail (j w5 w6 hw5 hw6) kk
set_option maxRecDepth 100000 in
set_option maxHeartbeats 4000000 in
theorem lw_c11 (hI : Inv G o D q E wc wm) (hi : i + 5 ≤ L) (hL : L ≤ 2560) (kk : ∀ wc' wm', Inv G o D q E wc' wm' → J l G (bdF G b L xs) code 4 "GooseArmsLaw" 18 (lvL b o q (i + 5)) [] (wF [wc', wm'])) : J l G (bdF G b L xs) code 4 "GooseArmsLaw" 631 (lvL b o q i) [] (wF [wc, wm]) := by
  obtain ⟨r, P5, P6, h5, h6, f5, f6, j, rv⟩ := st_tender l G o D q E ((xs (i + 1))) ((xs (i + 2))) wc wm hI
  obtain ⟨v, rfl⟩ := rv
  obtain ⟨⟨d5, d6⟩, e5, e6⟩ := hI.hd
  refine J_aload_n 631 1 dL_law_631 rfl rfl ?_
  refine J_aload_n 632 0 dL_law_632 rfl rfl ?_
  refine J_iload_n 633 3 dL_law_633 rfl rfl ?_
  refine J_iconst (v := 1) 634 dL_law_634 rfl ?_
  refine J_iadd 635 dL_law_635 ?_
  refine J_topi (y := nI (i + 1)) 636 (nI_add i 1) ?_
  refine J_sld 636 (i + 1) (fun _ _ h_ => h_.2) rfl (by omega) (by omega) dL_law_636 ?_
  refine J_aload_n 637 0 dL_law_637 rfl rfl ?_
  refine J_iload_n 638 3 dL_law_638 rfl rfl ?_
  refine J_iconst (v := 2) 639 dL_law_639 rfl ?_
  refine J_iadd 640 dL_law_640 ?_
  refine J_topi (y := nI (i + 2)) 641 (nI_add i 2) ?_
  refine J_sld 641 (i + 2) (fun _ _ h_ => h_.2) rfl (by omega) (by omega) dL_law_641 ?_
  refine lc5 (rest := []) 642 h5 rfl w_465 w_466 w_467 w_1 w_468 ok_X5_tender d5 e5 f5 rfl rfl (leb rfl) rfl dL_law_642 (fun w5 hw5 => ?_)
  refine J_aload_n 645 2 dL_law_645 rfl rfl ?_
  refine J_aload_n 646 0 dL_law_646 rfl rfl ?_
  refine J_iload_n 647 3 dL_law_647 rfl rfl ?_
  refine J_iconst (v := 1) 648 dL_law_648 rfl ?_
  refine J_iadd 649 dL_law_649 ?_
  refine J_topi (y := nI (i + 1)) 650 (nI_add i 1) ?_
  refine J_sld 650 (i + 1) (fun _ _ h_ => h_.2) rfl (by omega) (by omega) dL_law_650 ?_
  refine J_aload_n 651 0 dL_law_651 rfl rfl ?_
  refine J_iload_n 652 3 dL_law_652 rfl rfl ?_
  refine J_iconst (v := 2) 653 dL_law_653 rfl ?_
  refine J_iadd 654 dL_law_654 ?_
  refine J_topi (y := nI (i + 2)) 655 (nI_add i 2) ?_
  refine J_sld 655 (i + 2) (fun _ _ h_ => h_.2) rfl (by omega) (by omega) dL_law_655 ?_
  refine lc6 (rest := [.int v]) 656 h6 rfl w_1050 w_1051 w_1052 w_7 w_1053 ok_X6_tender d6 e6 f6 rfl rfl (leb rfl) rfl dL_law_656 (fun w6 hw6 => ?_)
  refine J_icmp_eq (tgt := 1625) 659 dL_law_659 (by decide) (fun _ => ?_) (fun z_ => absurd rfl z_)
  exact lw_tail (j w5 w6 hw5 hw6) kk
set_option maxRecDepth 100000 in
set_option maxHeartbeats 4000000 in
theorem lw_c12 (hI : Inv G o D q E wc wm) (hi : i + 5 ≤ L) (hL : L ≤ 2560) (kk : ∀ wc' wm', Inv G o D q E wc' wm' → J l G (bdF G b L xs) code 4 "GooseArmsLaw" 18 (lvL b o q (i + 5)) [] (wF [wc', wm'])) : J l G (bdF G b L xs) code 4 "GooseArmsLaw" 664 (lvL b o q i) [] (wF [wc, wm]) := by
  obtain ⟨r, P5, P6, h5, h6, f5, f6, j, rv⟩ := st_say l G o D q E ((xs (i + 1))) wc wm hI
  obtain ⟨v, rfl⟩ := rv
  obtain ⟨⟨d5, d6⟩, e5, e6⟩ := hI.hd
  refine J_aload_n 664 1 dL_law_664 rfl rfl ?_
  refine J_aload_n 665 0 dL_law_665 rfl rfl ?_
  refine J_iload_n 666 3 dL_law_666 rfl rfl ?_
  refine J_iconst (v := 1) 667 dL_law_667 rfl ?_
  refine J_iadd 668 dL_law_668 ?_
  refine J_topi (y := nI (i + 1)) 669 (nI_add i 1) ?_
  refine J_sld 669 (i + 1) (fun _ _ h_ => h_.2) rfl (by omega) (by omega) dL_law_669 ?_
  refine lc5 (rest := []) 670 h5 rfl w_469 w_470 w_471 w_1 w_472 ok_X5_say d5 e5 f5 rfl rfl (leb rfl) rfl dL_law_670 (fun w5 hw5 => ?_)
  refine J_aload_n 673 2 dL_law_673 rfl rfl ?_
  refine J_aload_n 674 0 dL_law_674 rfl rfl ?_
  refine J_iload_n 675 3 dL_law_675 rfl rfl ?_
  refine J_iconst (v := 1) 676 dL_law_676 rfl ?_
  refine J_iadd 677 dL_law_677 ?_
  refine J_topi (y := nI (i + 1)) 678 (nI_add i 1) ?_
  refine J_sld 678 (i + 1) (fun _ _ h_ => h_.2) rfl (by omega) (by omega) dL_law_678 ?_
  refine lc6 (rest := [.int v]) 679 h6 rfl w_1054 w_1055 w_1056 w_7 w_1057 ok_X6_say d6 e6 f6 rfl rfl (leb rfl) rfl dL_law_679 (fun w6 hw6 => ?_)
  refine J_icmp_eq (tgt := 1625) 682 dL_law_682 (by decide) (fun _ => ?_) (fun z_ => absurd rfl z_)
  exact lw_tail (j w5 w6 hw5 hw6) kk
set_option maxRecDepth 100000 in
set_option maxHeartbeats 4000000 in
theorem lw_c13 (hI : Inv G o D q E wc wm) (hi : i + 5 ≤ L) (hL : L ≤ 2560) (kk : ∀ wc' wm', Inv G o D q E wc' wm' → J l G (bdF G b L xs) code 4 "GooseArmsLaw" 18 (lvL b o q (i + 5)) [] (wF [wc', wm'])) : J l G (bdF G b L xs) code 4 "GooseArmsLaw" 687 (lvL b o q i) [] (wF [wc, wm]) := by
  obtain ⟨r, P5, P6, h5, h6, f5, f6, j, rv⟩ := st_anew l G o D q E wc wm hI
  obtain ⟨v, rfl⟩ := rv
  obtain ⟨⟨d5, d6⟩, e5, e6⟩ := hI.hd
  refine J_aload_n 687 1 dL_law_687 rfl rfl ?_
  refine lc5 (rest := []) 688 h5 rfl w_499 w_500 w_501 w_1 w_502 ok_X5_anew d5 e5 f5 rfl rfl (leb rfl) rfl dL_law_688 (fun w5 hw5 => ?_)
  refine J_aload_n 691 2 dL_law_691 rfl rfl ?_
  refine lc6 (rest := [.int v]) 692 h6 rfl w_1069 w_1070 w_1071 w_7 w_1072 ok_X6_anew d6 e6 f6 rfl rfl (leb rfl) rfl dL_law_692 (fun w6 hw6 => ?_)
  refine J_icmp_eq (tgt := 1625) 695 dL_law_695 (by decide) (fun _ => ?_) (fun z_ => absurd rfl z_)
  exact lw_tail (j w5 w6 hw5 hw6) kk
set_option maxRecDepth 100000 in
set_option maxHeartbeats 4000000 in
theorem lw_c14 (hI : Inv G o D q E wc wm) (hi : i + 5 ≤ L) (hL : L ≤ 2560) (kk : ∀ wc' wm', Inv G o D q E wc' wm' → J l G (bdF G b L xs) code 4 "GooseArmsLaw" 18 (lvL b o q (i + 5)) [] (wF [wc', wm'])) : J l G (bdF G b L xs) code 4 "GooseArmsLaw" 700 (lvL b o q i) [] (wF [wc, wm]) := by
  obtain ⟨r, P5, P6, h5, h6, f5, f6, j, rv⟩ := st_seed l G o D q E ((xs (i + 1))) wc wm hI
  obtain ⟨v, rfl⟩ := rv
  obtain ⟨⟨d5, d6⟩, e5, e6⟩ := hI.hd
  refine J_aload_n 700 1 dL_law_700 rfl rfl ?_
  refine J_aload_n 701 0 dL_law_701 rfl rfl ?_
  refine J_iload_n 702 3 dL_law_702 rfl rfl ?_
  refine J_iconst (v := 1) 703 dL_law_703 rfl ?_
  refine J_iadd 704 dL_law_704 ?_
  refine J_topi (y := nI (i + 1)) 705 (nI_add i 1) ?_
  refine J_sld 705 (i + 1) (fun _ _ h_ => h_.2) rfl (by omega) (by omega) dL_law_705 ?_
  refine lc5 (rest := []) 706 h5 rfl w_503 w_504 w_505 w_1 w_506 ok_X5_seed d5 e5 f5 rfl rfl (leb rfl) rfl dL_law_706 (fun w5 hw5 => ?_)
  refine J_aload_n 709 2 dL_law_709 rfl rfl ?_
  refine J_aload_n 710 0 dL_law_710 rfl rfl ?_
  refine J_iload_n 711 3 dL_law_711 rfl rfl ?_
  refine J_iconst (v := 1) 712 dL_law_712 rfl ?_
  refine J_iadd 713 dL_law_713 ?_
  refine J_topi (y := nI (i + 1)) 714 (nI_add i 1) ?_
  refine J_sld 714 (i + 1) (fun _ _ h_ => h_.2) rfl (by omega) (by omega) dL_law_714 ?_
  refine lc6 (rest := [.int v]) 715 h6 rfl w_1073 w_1074 w_1075 w_7 w_1076 ok_X6_seed d6 e6 f6 rfl rfl (leb rfl) rfl dL_law_715 (fun w6 hw6 => ?_)
  refine J_icmp_eq (tgt := 1625) 718 dL_law_718 (by decide) (fun _ => ?_) (fun z_ => absurd rfl z_)
  exact lw_tail (j w5 w6 hw5 hw6) kk
set_option maxRecDepth 100000 in
set_option maxHeartbeats 4000000 in
theorem lw_c15 (hI : Inv G o D q E wc wm) (hi : i + 5 ≤ L) (hL : L ≤ 2560) (kk : ∀ wc' wm', Inv G o D q E wc' wm' → J l G (bdF G b L xs) code 4 "GooseArmsLaw" 18 (lvL b o q (i + 5)) [] (wF [wc', wm'])) : J l G (bdF G b L xs) code 4 "GooseArmsLaw" 723 (lvL b o q i) [] (wF [wc, wm]) := by
  obtain ⟨r, P5, P6, h5, h6, f5, f6, j, rv⟩ := st_draught l G o D q E wc wm hI
  obtain ⟨v, rfl⟩ := rv
  obtain ⟨⟨d5, d6⟩, e5, e6⟩ := hI.hd
  refine J_aload_n 723 1 dL_law_723 rfl rfl ?_
  refine lc5 (rest := []) 724 h5 rfl w_507 w_508 w_509 w_1 w_510 ok_X5_draught d5 e5 f5 rfl rfl (leb rfl) rfl dL_law_724 (fun w5 hw5 => ?_)
  refine J_aload_n 727 2 dL_law_727 rfl rfl ?_
  refine lc6 (rest := [.int v]) 728 h6 rfl w_1077 w_1078 w_1079 w_7 w_1080 ok_X6_draught d6 e6 f6 rfl rfl (leb rfl) rfl dL_law_728 (fun w6 hw6 => ?_)
  refine J_icmp_eq (tgt := 1625) 731 dL_law_731 (by decide) (fun _ => ?_) (fun z_ => absurd rfl z_)
  exact lw_tail (j w5 w6 hw5 hw6) kk
set_option maxRecDepth 100000 in
set_option maxHeartbeats 4000000 in
theorem lw_c16 (hI : Inv G o D q E wc wm) (hi : i + 5 ≤ L) (hL : L ≤ 2560) (kk : ∀ wc' wm', Inv G o D q E wc' wm' → J l G (bdF G b L xs) code 4 "GooseArmsLaw" 18 (lvL b o q (i + 5)) [] (wF [wc', wm'])) : J l G (bdF G b L xs) code 4 "GooseArmsLaw" 736 (lvL b o q i) [] (wF [wc, wm]) := by
  obtain ⟨r, P5, P6, h5, h6, f5, f6, j, rv⟩ := st_chills l G o D q E ((xs (i + 1))) wc wm hI
  obtain ⟨v, rfl⟩ := rv
  obtain ⟨⟨d5, d6⟩, e5, e6⟩ := hI.hd
  refine J_aload_n 736 1 dL_law_736 rfl rfl ?_
  refine J_aload_n 737 0 dL_law_737 rfl rfl ?_
  refine J_iload_n 738 3 dL_law_738 rfl rfl ?_
  refine J_iconst (v := 1) 739 dL_law_739 rfl ?_
  refine J_iadd 740 dL_law_740 ?_
  refine J_topi (y := nI (i + 1)) 741 (nI_add i 1) ?_
  refine J_sld 741 (i + 1) (fun _ _ h_ => h_.2) rfl (by omega) (by omega) dL_law_741 ?_
  refine lc5 (rest := []) 742 h5 rfl w_522 w_523 w_524 w_1 w_525 ok_X5_chills d5 e5 f5 rfl rfl (leb rfl) rfl dL_law_742 (fun w5 hw5 => ?_)
  refine J_aload_n 745 2 dL_law_745 rfl rfl ?_
  refine J_aload_n 746 0 dL_law_746 rfl rfl ?_
  refine J_iload_n 747 3 dL_law_747 rfl rfl ?_
  refine J_iconst (v := 1) 748 dL_law_748 rfl ?_
  refine J_iadd 749 dL_law_749 ?_
  refine J_topi (y := nI (i + 1)) 750 (nI_add i 1) ?_
  refine J_sld 750 (i + 1) (fun _ _ h_ => h_.2) rfl (by omega) (by omega) dL_law_750 ?_
  refine lc6 (rest := [.int v]) 751 h6 rfl w_1090 w_1091 w_1092 w_7 w_1093 ok_X6_chills d6 e6 f6 rfl rfl (leb rfl) rfl dL_law_751 (fun w6 hw6 => ?_)
  refine J_icmp_eq (tgt := 1625) 754 dL_law_754 (by decide) (fun _ => ?_) (fun z_ => absurd rfl z_)
  exact lw_tail (j w5 w6 hw5 hw6) kk
set_option maxRecDepth 100000 in
set_option maxHeartbeats 4000000 in
theorem lw_c17 (hI : Inv G o D q E wc wm) (hi : i + 5 ≤ L) (hL : L ≤ 2560) (kk : ∀ wc' wm', Inv G o D q E wc' wm' → J l G (bdF G b L xs) code 4 "GooseArmsLaw" 18 (lvL b o q (i + 5)) [] (wF [wc', wm'])) : J l G (bdF G b L xs) code 4 "GooseArmsLaw" 759 (lvL b o q i) [] (wF [wc, wm]) := by
  obtain ⟨r, P5, P6, h5, h6, f5, f6, j, rv⟩ := st_state l G o D q E ((xs (i + 1))) wc wm hI
  obtain ⟨v, rfl⟩ := rv
  obtain ⟨⟨d5, d6⟩, e5, e6⟩ := hI.hd
  refine J_aload_n 759 1 dL_law_759 rfl rfl ?_
  refine J_aload_n 760 0 dL_law_760 rfl rfl ?_
  refine J_iload_n 761 3 dL_law_761 rfl rfl ?_
  refine J_iconst (v := 1) 762 dL_law_762 rfl ?_
  refine J_iadd 763 dL_law_763 ?_
  refine J_topi (y := nI (i + 1)) 764 (nI_add i 1) ?_
  refine J_sld 764 (i + 1) (fun _ _ h_ => h_.2) rfl (by omega) (by omega) dL_law_764 ?_
  refine lc5 (rest := []) 765 h5 rfl w_530 w_531 w_532 w_1 w_533 ok_X5_state d5 e5 f5 rfl rfl (leb rfl) rfl dL_law_765 (fun w5 hw5 => ?_)
  refine J_aload_n 768 2 dL_law_768 rfl rfl ?_
  refine J_aload_n 769 0 dL_law_769 rfl rfl ?_
  refine J_iload_n 770 3 dL_law_770 rfl rfl ?_
  refine J_iconst (v := 1) 771 dL_law_771 rfl ?_
  refine J_iadd 772 dL_law_772 ?_
  refine J_topi (y := nI (i + 1)) 773 (nI_add i 1) ?_
  refine J_sld 773 (i + 1) (fun _ _ h_ => h_.2) rfl (by omega) (by omega) dL_law_773 ?_
  refine lc6 (rest := [.int v]) 774 h6 rfl w_1097 w_1098 w_1099 w_7 w_1100 ok_X6_state d6 e6 f6 rfl rfl (leb rfl) rfl dL_law_774 (fun w6 hw6 => ?_)
  refine J_icmp_eq (tgt := 1625) 777 dL_law_777 (by decide) (fun _ => ?_) (fun z_ => absurd rfl z_)
  exact lw_tail (j w5 w6 hw5 hw6) kk
set_option maxRecDepth 100000 in
set_option maxHeartbeats 4000000 in
theorem lw_c18 (hI : Inv G o D q E wc wm) (hi : i + 5 ≤ L) (hL : L ≤ 2560) (kk : ∀ wc' wm', Inv G o D q E wc' wm' → J l G (bdF G b L xs) code 4 "GooseArmsLaw" 18 (lvL b o q (i + 5)) [] (wF [wc', wm'])) : J l G (bdF G b L xs) code 4 "GooseArmsLaw" 782 (lvL b o q i) [] (wF [wc, wm]) := by
  obtain ⟨r, P5, P6, h5, h6, f5, f6, j, rv⟩ := st_arm l G o D q E ((xs (i + 1))) ((xs (i + 2))) wc wm hI
  obtain ⟨v, rfl⟩ := rv
  obtain ⟨⟨d5, d6⟩, e5, e6⟩ := hI.hd
  refine J_aload_n 782 1 dL_law_782 rfl rfl ?_
  refine J_aload_n 783 0 dL_law_783 rfl rfl ?_
  refine J_iload_n 784 3 dL_law_784 rfl rfl ?_
  refine J_iconst (v := 1) 785 dL_law_785 rfl ?_
  refine J_iadd 786 dL_law_786 ?_
  refine J_topi (y := nI (i + 1)) 787 (nI_add i 1) ?_
  refine J_sld 787 (i + 1) (fun _ _ h_ => h_.2) rfl (by omega) (by omega) dL_law_787 ?_
  refine J_aload_n 788 0 dL_law_788 rfl rfl ?_
  refine J_iload_n 789 3 dL_law_789 rfl rfl ?_
  refine J_iconst (v := 2) 790 dL_law_790 rfl ?_
  refine J_iadd 791 dL_law_791 ?_
  refine J_topi (y := nI (i + 2)) 792 (nI_add i 2) ?_
  refine J_sld 792 (i + 2) (fun _ _ h_ => h_.2) rfl (by omega) (by omega) dL_law_792 ?_
  refine lc5 (rest := []) 793 h5 rfl w_554 w_555 w_556 w_1 w_557 ok_X5_arm d5 e5 f5 rfl rfl (leb rfl) rfl dL_law_793 (fun w5 hw5 => ?_)
  refine J_aload_n 796 2 dL_law_796 rfl rfl ?_
  refine J_aload_n 797 0 dL_law_797 rfl rfl ?_
  refine J_iload_n 798 3 dL_law_798 rfl rfl ?_
  refine J_iconst (v := 1) 799 dL_law_799 rfl ?_
  refine J_iadd 800 dL_law_800 ?_
  refine J_topi (y := nI (i + 1)) 801 (nI_add i 1) ?_
  refine J_sld 801 (i + 1) (fun _ _ h_ => h_.2) rfl (by omega) (by omega) dL_law_801 ?_
  refine J_aload_n 802 0 dL_law_802 rfl rfl ?_
  refine J_iload_n 803 3 dL_law_803 rfl rfl ?_
  refine J_iconst (v := 2) 804 dL_law_804 rfl ?_
  refine J_iadd 805 dL_law_805 ?_
  refine J_topi (y := nI (i + 2)) 806 (nI_add i 2) ?_
  refine J_sld 806 (i + 2) (fun _ _ h_ => h_.2) rfl (by omega) (by omega) dL_law_806 ?_
  refine lc6 (rest := [.int v]) 807 h6 rfl w_1117 w_1118 w_1119 w_7 w_1120 ok_X6_arm d6 e6 f6 rfl rfl (leb rfl) rfl dL_law_807 (fun w6 hw6 => ?_)
  refine J_icmp_eq (tgt := 1625) 810 dL_law_810 (by decide) (fun _ => ?_) (fun z_ => absurd rfl z_)
  exact lw_tail (j w5 w6 hw5 hw6) kk
set_option maxRecDepth 100000 in
set_option maxHeartbeats 4000000 in
theorem lw_c19 (hI : Inv G o D q E wc wm) (hi : i + 5 ≤ L) (hL : L ≤ 2560) (kk : ∀ wc' wm', Inv G o D q E wc' wm' → J l G (bdF G b L xs) code 4 "GooseArmsLaw" 18 (lvL b o q (i + 5)) [] (wF [wc', wm'])) : J l G (bdF G b L xs) code 4 "GooseArmsLaw" 815 (lvL b o q i) [] (wF [wc, wm]) := by
  obtain ⟨r, P5, P6, h5, h6, f5, f6, j, rv⟩ := st_raised l G o D q E ((xs (i + 1))) wc wm hI
  obtain ⟨v, rfl⟩ := rv
  obtain ⟨⟨d5, d6⟩, e5, e6⟩ := hI.hd
  refine J_aload_n 815 1 dL_law_815 rfl rfl ?_
  refine J_aload_n 816 0 dL_law_816 rfl rfl ?_
  refine J_iload_n 817 3 dL_law_817 rfl rfl ?_
  refine J_iconst (v := 1) 818 dL_law_818 rfl ?_
  refine J_iadd 819 dL_law_819 ?_
  refine J_topi (y := nI (i + 1)) 820 (nI_add i 1) ?_
  refine J_sld 820 (i + 1) (fun _ _ h_ => h_.2) rfl (by omega) (by omega) dL_law_820 ?_
  refine lc5 (rest := []) 821 h5 rfl w_559 w_560 w_561 w_1 w_562 ok_X5_raised d5 e5 f5 rfl rfl (leb rfl) rfl dL_law_821 (fun w5 hw5 => ?_)
  refine J_aload_n 824 2 dL_law_824 rfl rfl ?_
  refine J_aload_n 825 0 dL_law_825 rfl rfl ?_
  refine J_iload_n 826 3 dL_law_826 rfl rfl ?_
  refine J_iconst (v := 1) 827 dL_law_827 rfl ?_
  refine J_iadd 828 dL_law_828 ?_
  refine J_topi (y := nI (i + 1)) 829 (nI_add i 1) ?_
  refine J_sld 829 (i + 1) (fun _ _ h_ => h_.2) rfl (by omega) (by omega) dL_law_829 ?_
  refine lc6 (rest := [.int v]) 830 h6 rfl w_1121 w_1122 w_1123 w_7 w_1124 ok_X6_raised d6 e6 f6 rfl rfl (leb rfl) rfl dL_law_830 (fun w6 hw6 => ?_)
  refine J_icmp_eq (tgt := 1625) 833 dL_law_833 (by decide) (fun _ => ?_) (fun z_ => absurd rfl z_)
  exact lw_tail (j w5 w6 hw5 hw6) kk
set_option maxRecDepth 100000 in
set_option maxHeartbeats 4000000 in
theorem lw_c20 (hI : Inv G o D q E wc wm) (hi : i + 5 ≤ L) (hL : L ≤ 2560) (kk : ∀ wc' wm', Inv G o D q E wc' wm' → J l G (bdF G b L xs) code 4 "GooseArmsLaw" 18 (lvL b o q (i + 5)) [] (wF [wc', wm'])) : J l G (bdF G b L xs) code 4 "GooseArmsLaw" 838 (lvL b o q i) [] (wF [wc, wm]) := by
  obtain ⟨r, P5, P6, h5, h6, f5, f6, j, rv⟩ := st_right l G o D q E ((xs (i + 1))) wc wm hI
  obtain ⟨v, rfl⟩ := rv
  obtain ⟨⟨d5, d6⟩, e5, e6⟩ := hI.hd
  refine J_aload_n 838 1 dL_law_838 rfl rfl ?_
  refine J_aload_n 839 0 dL_law_839 rfl rfl ?_
  refine J_iload_n 840 3 dL_law_840 rfl rfl ?_
  refine J_iconst (v := 1) 841 dL_law_841 rfl ?_
  refine J_iadd 842 dL_law_842 ?_
  refine J_topi (y := nI (i + 1)) 843 (nI_add i 1) ?_
  refine J_sld 843 (i + 1) (fun _ _ h_ => h_.2) rfl (by omega) (by omega) dL_law_843 ?_
  refine lc5 (rest := []) 844 h5 rfl w_563 w_564 w_565 w_1 w_566 ok_X5_right d5 e5 f5 rfl rfl (leb rfl) rfl dL_law_844 (fun w5 hw5 => ?_)
  refine J_aload_n 847 2 dL_law_847 rfl rfl ?_
  refine J_aload_n 848 0 dL_law_848 rfl rfl ?_
  refine J_iload_n 849 3 dL_law_849 rfl rfl ?_
  refine J_iconst (v := 1) 850 dL_law_850 rfl ?_
  refine J_iadd 851 dL_law_851 ?_
  refine J_topi (y := nI (i + 1)) 852 (nI_add i 1) ?_
  refine J_sld 852 (i + 1) (fun _ _ h_ => h_.2) rfl (by omega) (by omega) dL_law_852 ?_
  refine lc6 (rest := [.int v]) 853 h6 rfl w_1125 w_1126 w_1127 w_7 w_1128 ok_X6_right d6 e6 f6 rfl rfl (leb rfl) rfl dL_law_853 (fun w6 hw6 => ?_)
  refine J_icmp_eq (tgt := 1625) 856 dL_law_856 (by decide) (fun _ => ?_) (fun z_ => absurd rfl z_)
  exact lw_tail (j w5 w6 hw5 hw6) kk
set_option maxRecDepth 100000 in
set_option maxHeartbeats 4000000 in
theorem lw_c21 (hI : Inv G o D q E wc wm) (hi : i + 5 ≤ L) (hL : L ≤ 2560) (kk : ∀ wc' wm', Inv G o D q E wc' wm' → J l G (bdF G b L xs) code 4 "GooseArmsLaw" 18 (lvL b o q (i + 5)) [] (wF [wc', wm'])) : J l G (bdF G b L xs) code 4 "GooseArmsLaw" 861 (lvL b o q i) [] (wF [wc, wm]) := by
  obtain ⟨r, P5, P6, h5, h6, f5, f6, j, rv⟩ := st_topicFor l G o D q E ((xs (i + 1))) wc wm hI
  obtain ⟨v, rfl⟩ := rv
  obtain ⟨⟨d5, d6⟩, e5, e6⟩ := hI.hd
  refine J_aload_n 861 1 dL_law_861 rfl rfl ?_
  refine J_aload_n 862 0 dL_law_862 rfl rfl ?_
  refine J_iload_n 863 3 dL_law_863 rfl rfl ?_
  refine J_iconst (v := 1) 864 dL_law_864 rfl ?_
  refine J_iadd 865 dL_law_865 ?_
  refine J_topi (y := nI (i + 1)) 866 (nI_add i 1) ?_
  refine J_sld 866 (i + 1) (fun _ _ h_ => h_.2) rfl (by omega) (by omega) dL_law_866 ?_
  refine lc5 (rest := []) 867 h5 rfl w_574 w_575 w_576 w_1 w_577 ok_X5_topicFor d5 e5 f5 rfl rfl (leb rfl) rfl dL_law_867 (fun w5 hw5 => ?_)
  refine J_aload_n 870 2 dL_law_870 rfl rfl ?_
  refine J_aload_n 871 0 dL_law_871 rfl rfl ?_
  refine J_iload_n 872 3 dL_law_872 rfl rfl ?_
  refine J_iconst (v := 1) 873 dL_law_873 rfl ?_
  refine J_iadd 874 dL_law_874 ?_
  refine J_topi (y := nI (i + 1)) 875 (nI_add i 1) ?_
  refine J_sld 875 (i + 1) (fun _ _ h_ => h_.2) rfl (by omega) (by omega) dL_law_875 ?_
  refine lc6 (rest := [.int v]) 876 h6 rfl w_1133 w_1134 w_1135 w_7 w_1136 ok_X6_topicFor d6 e6 f6 rfl rfl (leb rfl) rfl dL_law_876 (fun w6 hw6 => ?_)
  refine J_icmp_eq (tgt := 1625) 879 dL_law_879 (by decide) (fun _ => ?_) (fun z_ => absurd rfl z_)
  exact lw_tail (j w5 w6 hw5 hw6) kk
set_option maxRecDepth 100000 in
set_option maxHeartbeats 4000000 in
theorem lw_c22 (hI : Inv G o D q E wc wm) (hi : i + 5 ≤ L) (hL : L ≤ 2560) (kk : ∀ wc' wm', Inv G o D q E wc' wm' → J l G (bdF G b L xs) code 4 "GooseArmsLaw" 18 (lvL b o q (i + 5)) [] (wF [wc', wm'])) : J l G (bdF G b L xs) code 4 "GooseArmsLaw" 884 (lvL b o q i) [] (wF [wc, wm]) := by
  obtain ⟨r, P5, P6, h5, h6, f5, f6, j, rv⟩ := st_heatFor l G o D q E ((xs (i + 1))) ((xs (i + 2))) wc wm hI
  obtain ⟨v, rfl⟩ := rv
  obtain ⟨⟨d5, d6⟩, e5, e6⟩ := hI.hd
  refine J_aload_n 884 1 dL_law_884 rfl rfl ?_
  refine J_aload_n 885 0 dL_law_885 rfl rfl ?_
  refine J_iload_n 886 3 dL_law_886 rfl rfl ?_
  refine J_iconst (v := 1) 887 dL_law_887 rfl ?_
  refine J_iadd 888 dL_law_888 ?_
  refine J_topi (y := nI (i + 1)) 889 (nI_add i 1) ?_
  refine J_sld 889 (i + 1) (fun _ _ h_ => h_.2) rfl (by omega) (by omega) dL_law_889 ?_
  refine J_aload_n 890 0 dL_law_890 rfl rfl ?_
  refine J_iload_n 891 3 dL_law_891 rfl rfl ?_
  refine J_iconst (v := 2) 892 dL_law_892 rfl ?_
  refine J_iadd 893 dL_law_893 ?_
  refine J_topi (y := nI (i + 2)) 894 (nI_add i 2) ?_
  refine J_sld 894 (i + 2) (fun _ _ h_ => h_.2) rfl (by omega) (by omega) dL_law_894 ?_
  refine lc5 (rest := []) 895 h5 rfl w_584 w_585 w_586 w_1 w_587 ok_X5_heatFor d5 e5 f5 rfl rfl (leb rfl) rfl dL_law_895 (fun w5 hw5 => ?_)
  refine J_aload_n 898 2 dL_law_898 rfl rfl ?_
  refine J_aload_n 899 0 dL_law_899 rfl rfl ?_
  refine J_iload_n 900 3 dL_law_900 rfl rfl ?_
  refine J_iconst (v := 1) 901 dL_law_901 rfl ?_
  refine J_iadd 902 dL_law_902 ?_
  refine J_topi (y := nI (i + 1)) 903 (nI_add i 1) ?_
  refine J_sld 903 (i + 1) (fun _ _ h_ => h_.2) rfl (by omega) (by omega) dL_law_903 ?_
  refine J_aload_n 904 0 dL_law_904 rfl rfl ?_
  refine J_iload_n 905 3 dL_law_905 rfl rfl ?_
  refine J_iconst (v := 2) 906 dL_law_906 rfl ?_
  refine J_iadd 907 dL_law_907 ?_
  refine J_topi (y := nI (i + 2)) 908 (nI_add i 2) ?_
  refine J_sld 908 (i + 2) (fun _ _ h_ => h_.2) rfl (by omega) (by omega) dL_law_908 ?_
  refine lc6 (rest := [.int v]) 909 h6 rfl w_1137 w_1138 w_1139 w_7 w_1140 ok_X6_heatFor d6 e6 f6 rfl rfl (leb rfl) rfl dL_law_909 (fun w6 hw6 => ?_)
  refine J_icmp_eq (tgt := 1625) 912 dL_law_912 (by decide) (fun _ => ?_) (fun z_ => absurd rfl z_)
  exact lw_tail (j w5 w6 hw5 hw6) kk
set_option maxRecDepth 100000 in
set_option maxHeartbeats 4000000 in
theorem lw_c23 (hI : Inv G o D q E wc wm) (hi : i + 5 ≤ L) (hL : L ≤ 2560) (kk : ∀ wc' wm', Inv G o D q E wc' wm' → J l G (bdF G b L xs) code 4 "GooseArmsLaw" 18 (lvL b o q (i + 5)) [] (wF [wc', wm'])) : J l G (bdF G b L xs) code 4 "GooseArmsLaw" 917 (lvL b o q i) [] (wF [wc, wm]) := by
  obtain ⟨r, P5, P6, h5, h6, f5, f6, j, rv⟩ := st_kindFor l G o D q E ((xs (i + 1))) wc wm hI
  obtain ⟨v, rfl⟩ := rv
  obtain ⟨⟨d5, d6⟩, e5, e6⟩ := hI.hd
  refine J_aload_n 917 1 dL_law_917 rfl rfl ?_
  refine J_aload_n 918 0 dL_law_918 rfl rfl ?_
  refine J_iload_n 919 3 dL_law_919 rfl rfl ?_
  refine J_iconst (v := 1) 920 dL_law_920 rfl ?_
  refine J_iadd 921 dL_law_921 ?_
  refine J_topi (y := nI (i + 1)) 922 (nI_add i 1) ?_
  refine J_sld 922 (i + 1) (fun _ _ h_ => h_.2) rfl (by omega) (by omega) dL_law_922 ?_
  refine lc5 (rest := []) 923 h5 rfl w_589 w_590 w_591 w_1 w_592 ok_X5_kindFor d5 e5 f5 rfl rfl (leb rfl) rfl dL_law_923 (fun w5 hw5 => ?_)
  refine J_aload_n 926 2 dL_law_926 rfl rfl ?_
  refine J_aload_n 927 0 dL_law_927 rfl rfl ?_
  refine J_iload_n 928 3 dL_law_928 rfl rfl ?_
  refine J_iconst (v := 1) 929 dL_law_929 rfl ?_
  refine J_iadd 930 dL_law_930 ?_
  refine J_topi (y := nI (i + 1)) 931 (nI_add i 1) ?_
  refine J_sld 931 (i + 1) (fun _ _ h_ => h_.2) rfl (by omega) (by omega) dL_law_931 ?_
  refine lc6 (rest := [.int v]) 932 h6 rfl w_1141 w_1142 w_1143 w_7 w_1144 ok_X6_kindFor d6 e6 f6 rfl rfl (leb rfl) rfl dL_law_932 (fun w6 hw6 => ?_)
  refine J_icmp_eq (tgt := 1625) 935 dL_law_935 (by decide) (fun _ => ?_) (fun z_ => absurd rfl z_)
  exact lw_tail (j w5 w6 hw5 hw6) kk
set_option maxRecDepth 100000 in
set_option maxHeartbeats 4000000 in
theorem lw_c24 (hI : Inv G o D q E wc wm) (hi : i + 5 ≤ L) (hL : L ≤ 2560) (kk : ∀ wc' wm', Inv G o D q E wc' wm' → J l G (bdF G b L xs) code 4 "GooseArmsLaw" 18 (lvL b o q (i + 5)) [] (wF [wc', wm'])) : J l G (bdF G b L xs) code 4 "GooseArmsLaw" 940 (lvL b o q i) [] (wF [wc, wm]) := by
  obtain ⟨r, P5, P6, h5, h6, f5, f6, j, rv⟩ := st_tenderFor l G o D q E ((xs (i + 1))) wc wm hI
  obtain ⟨v, rfl⟩ := rv
  obtain ⟨⟨d5, d6⟩, e5, e6⟩ := hI.hd
  refine J_aload_n 940 1 dL_law_940 rfl rfl ?_
  refine J_aload_n 941 0 dL_law_941 rfl rfl ?_
  refine J_iload_n 942 3 dL_law_942 rfl rfl ?_
  refine J_iconst (v := 1) 943 dL_law_943 rfl ?_
  refine J_iadd 944 dL_law_944 ?_
  refine J_topi (y := nI (i + 1)) 945 (nI_add i 1) ?_
  refine J_sld 945 (i + 1) (fun _ _ h_ => h_.2) rfl (by omega) (by omega) dL_law_945 ?_
  refine lc5 (rest := []) 946 h5 rfl w_593 w_594 w_595 w_1 w_596 ok_X5_tenderFor d5 e5 f5 rfl rfl (leb rfl) rfl dL_law_946 (fun w5 hw5 => ?_)
  refine J_aload_n 949 2 dL_law_949 rfl rfl ?_
  refine J_aload_n 950 0 dL_law_950 rfl rfl ?_
  refine J_iload_n 951 3 dL_law_951 rfl rfl ?_
  refine J_iconst (v := 1) 952 dL_law_952 rfl ?_
  refine J_iadd 953 dL_law_953 ?_
  refine J_topi (y := nI (i + 1)) 954 (nI_add i 1) ?_
  refine J_sld 954 (i + 1) (fun _ _ h_ => h_.2) rfl (by omega) (by omega) dL_law_954 ?_
  refine lc6 (rest := [.int v]) 955 h6 rfl w_1149 w_1150 w_1151 w_7 w_1152 ok_X6_tenderFor d6 e6 f6 rfl rfl (leb rfl) rfl dL_law_955 (fun w6 hw6 => ?_)
  refine J_icmp_eq (tgt := 1625) 958 dL_law_958 (by decide) (fun _ => ?_) (fun z_ => absurd rfl z_)
  exact lw_tail (j w5 w6 hw5 hw6) kk
set_option maxRecDepth 100000 in
set_option maxHeartbeats 4000000 in
theorem lw_c25 (hI : Inv G o D q E wc wm) (hi : i + 5 ≤ L) (hL : L ≤ 2560) (kk : ∀ wc' wm', Inv G o D q E wc' wm' → J l G (bdF G b L xs) code 4 "GooseArmsLaw" 18 (lvL b o q (i + 5)) [] (wF [wc', wm'])) : J l G (bdF G b L xs) code 4 "GooseArmsLaw" 963 (lvL b o q i) [] (wF [wc, wm]) := by
  obtain ⟨r, P5, P6, h5, h6, f5, f6, j, rv⟩ := st_nextFor l G o D q E ((xs (i + 1))) wc wm hI
  obtain ⟨v, rfl⟩ := rv
  obtain ⟨⟨d5, d6⟩, e5, e6⟩ := hI.hd
  refine J_aload_n 963 1 dL_law_963 rfl rfl ?_
  refine J_aload_n 964 0 dL_law_964 rfl rfl ?_
  refine J_iload_n 965 3 dL_law_965 rfl rfl ?_
  refine J_iconst (v := 1) 966 dL_law_966 rfl ?_
  refine J_iadd 967 dL_law_967 ?_
  refine J_topi (y := nI (i + 1)) 968 (nI_add i 1) ?_
  refine J_sld 968 (i + 1) (fun _ _ h_ => h_.2) rfl (by omega) (by omega) dL_law_968 ?_
  refine lc5 (rest := []) 969 h5 rfl w_597 w_598 w_599 w_1 w_600 ok_X5_nextFor d5 e5 f5 rfl rfl (leb rfl) rfl dL_law_969 (fun w5 hw5 => ?_)
  refine J_aload_n 972 2 dL_law_972 rfl rfl ?_
  refine J_aload_n 973 0 dL_law_973 rfl rfl ?_
  refine J_iload_n 974 3 dL_law_974 rfl rfl ?_
  refine J_iconst (v := 1) 975 dL_law_975 rfl ?_
  refine J_iadd 976 dL_law_976 ?_
  refine J_topi (y := nI (i + 1)) 977 (nI_add i 1) ?_
  refine J_sld 977 (i + 1) (fun _ _ h_ => h_.2) rfl (by omega) (by omega) dL_law_977 ?_
  refine lc6 (rest := [.int v]) 978 h6 rfl w_1153 w_1154 w_1155 w_7 w_1156 ok_X6_nextFor d6 e6 f6 rfl rfl (leb rfl) rfl dL_law_978 (fun w6 hw6 => ?_)
  refine J_icmp_eq (tgt := 1625) 981 dL_law_981 (by decide) (fun _ => ?_) (fun z_ => absurd rfl z_)
  exact lw_tail (j w5 w6 hw5 hw6) kk
set_option maxRecDepth 100000 in
set_option maxHeartbeats 4000000 in
theorem lw_c26 (hI : Inv G o D q E wc wm) (hi : i + 5 ≤ L) (hL : L ≤ 2560) (kk : ∀ wc' wm', Inv G o D q E wc' wm' → J l G (bdF G b L xs) code 4 "GooseArmsLaw" 18 (lvL b o q (i + 5)) [] (wF [wc', wm'])) : J l G (bdF G b L xs) code 4 "GooseArmsLaw" 986 (lvL b o q i) [] (wF [wc, wm]) := by
  obtain ⟨r, P5, P6, h5, h6, f5, f6, j, rv⟩ := st_enough l G o D q E wc wm hI
  obtain ⟨v, rfl⟩ := rv
  obtain ⟨⟨d5, d6⟩, e5, e6⟩ := hI.hd
  refine J_aload_n 986 1 dL_law_986 rfl rfl ?_
  refine lc5 (rest := []) 987 h5 rfl w_608 w_609 w_610 w_1 w_611 ok_X5_enough d5 e5 f5 rfl rfl (leb rfl) rfl dL_law_987 (fun w5 hw5 => ?_)
  refine J_aload_n 990 2 dL_law_990 rfl rfl ?_
  refine lc6 (rest := [.int v]) 991 h6 rfl w_1157 w_1158 w_1159 w_7 w_1160 ok_X6_enough d6 e6 f6 rfl rfl (leb rfl) rfl dL_law_991 (fun w6 hw6 => ?_)
  refine J_icmp_eq (tgt := 1625) 994 dL_law_994 (by decide) (fun _ => ?_) (fun z_ => absurd rfl z_)
  exact lw_tail (j w5 w6 hw5 hw6) kk
set_option maxRecDepth 100000 in
set_option maxHeartbeats 4000000 in
theorem lw_c27 (hI : Inv G o D q E wc wm) (hi : i + 5 ≤ L) (hL : L ≤ 2560) (kk : ∀ wc' wm', Inv G o D q E wc' wm' → J l G (bdF G b L xs) code 4 "GooseArmsLaw" 18 (lvL b o q (i + 5)) [] (wF [wc', wm'])) : J l G (bdF G b L xs) code 4 "GooseArmsLaw" 999 (lvL b o q i) [] (wF [wc, wm]) := by
  obtain ⟨r, P5, P6, h5, h6, f5, f6, j, rv⟩ := st_fits l G o D q E ((xs (i + 1))) ((xs (i + 2))) ((xs (i + 3))) wc wm hI
  obtain ⟨v, rfl⟩ := rv
  obtain ⟨⟨d5, d6⟩, e5, e6⟩ := hI.hd
  refine J_aload_n 999 1 dL_law_999 rfl rfl ?_
  refine J_aload_n 1000 0 dL_law_1000 rfl rfl ?_
  refine J_iload_n 1001 3 dL_law_1001 rfl rfl ?_
  refine J_iconst (v := 1) 1002 dL_law_1002 rfl ?_
  refine J_iadd 1003 dL_law_1003 ?_
  refine J_topi (y := nI (i + 1)) 1004 (nI_add i 1) ?_
  refine J_sld 1004 (i + 1) (fun _ _ h_ => h_.2) rfl (by omega) (by omega) dL_law_1004 ?_
  refine J_aload_n 1005 0 dL_law_1005 rfl rfl ?_
  refine J_iload_n 1006 3 dL_law_1006 rfl rfl ?_
  refine J_iconst (v := 2) 1007 dL_law_1007 rfl ?_
  refine J_iadd 1008 dL_law_1008 ?_
  refine J_topi (y := nI (i + 2)) 1009 (nI_add i 2) ?_
  refine J_sld 1009 (i + 2) (fun _ _ h_ => h_.2) rfl (by omega) (by omega) dL_law_1009 ?_
  refine J_aload_n 1010 0 dL_law_1010 rfl rfl ?_
  refine J_iload_n 1011 3 dL_law_1011 rfl rfl ?_
  refine J_iconst (v := 3) 1012 dL_law_1012 rfl ?_
  refine J_iadd 1013 dL_law_1013 ?_
  refine J_topi (y := nI (i + 3)) 1014 (nI_add i 3) ?_
  refine J_sld 1014 (i + 3) (fun _ _ h_ => h_.2) rfl (by omega) (by omega) dL_law_1014 ?_
  refine lc5 (rest := []) 1015 h5 rfl w_616 w_617 w_618 w_1 w_619 ok_X5_fits d5 e5 f5 rfl rfl (leb rfl) rfl dL_law_1015 (fun w5 hw5 => ?_)
  refine J_aload_n 1018 2 dL_law_1018 rfl rfl ?_
  refine J_aload_n 1019 0 dL_law_1019 rfl rfl ?_
  refine J_iload_n 1020 3 dL_law_1020 rfl rfl ?_
  refine J_iconst (v := 1) 1021 dL_law_1021 rfl ?_
  refine J_iadd 1022 dL_law_1022 ?_
  refine J_topi (y := nI (i + 1)) 1023 (nI_add i 1) ?_
  refine J_sld 1023 (i + 1) (fun _ _ h_ => h_.2) rfl (by omega) (by omega) dL_law_1023 ?_
  refine J_aload_n 1024 0 dL_law_1024 rfl rfl ?_
  refine J_iload_n 1025 3 dL_law_1025 rfl rfl ?_
  refine J_iconst (v := 2) 1026 dL_law_1026 rfl ?_
  refine J_iadd 1027 dL_law_1027 ?_
  refine J_topi (y := nI (i + 2)) 1028 (nI_add i 2) ?_
  refine J_sld 1028 (i + 2) (fun _ _ h_ => h_.2) rfl (by omega) (by omega) dL_law_1028 ?_
  refine J_aload_n 1029 0 dL_law_1029 rfl rfl ?_
  refine J_iload_n 1030 3 dL_law_1030 rfl rfl ?_
  refine J_iconst (v := 3) 1031 dL_law_1031 rfl ?_
  refine J_iadd 1032 dL_law_1032 ?_
  refine J_topi (y := nI (i + 3)) 1033 (nI_add i 3) ?_
  refine J_sld 1033 (i + 3) (fun _ _ h_ => h_.2) rfl (by omega) (by omega) dL_law_1033 ?_
  refine lc6 (rest := [.int v]) 1034 h6 rfl w_1165 w_1166 w_1167 w_7 w_1168 ok_X6_fits d6 e6 f6 rfl rfl (leb rfl) rfl dL_law_1034 (fun w6 hw6 => ?_)
  refine J_icmp_eq (tgt := 1625) 1037 dL_law_1037 (by decide) (fun _ => ?_) (fun z_ => absurd rfl z_)
  exact lw_tail (j w5 w6 hw5 hw6) kk
set_option maxRecDepth 100000 in
set_option maxHeartbeats 4000000 in
theorem lw_c28 (hI : Inv G o D q E wc wm) (hi : i + 5 ≤ L) (hL : L ≤ 2560) (kk : ∀ wc' wm', Inv G o D q E wc' wm' → J l G (bdF G b L xs) code 4 "GooseArmsLaw" 18 (lvL b o q (i + 5)) [] (wF [wc', wm'])) : J l G (bdF G b L xs) code 4 "GooseArmsLaw" 1042 (lvL b o q i) [] (wF [wc, wm]) := by
  obtain ⟨r, P5, P6, h5, h6, f5, f6, j, rv⟩ := st_odds l G o D q E ((xs (i + 1))) ((xs (i + 2))) ((xs (i + 3))) wc wm hI
  obtain ⟨v, rfl⟩ := rv
  obtain ⟨⟨d5, d6⟩, e5, e6⟩ := hI.hd
  refine J_aload_n 1042 1 dL_law_1042 rfl rfl ?_
  refine J_aload_n 1043 0 dL_law_1043 rfl rfl ?_
  refine J_iload_n 1044 3 dL_law_1044 rfl rfl ?_
  refine J_iconst (v := 1) 1045 dL_law_1045 rfl ?_
  refine J_iadd 1046 dL_law_1046 ?_
  refine J_topi (y := nI (i + 1)) 1047 (nI_add i 1) ?_
  refine J_sld 1047 (i + 1) (fun _ _ h_ => h_.2) rfl (by omega) (by omega) dL_law_1047 ?_
  refine J_aload_n 1048 0 dL_law_1048 rfl rfl ?_
  refine J_iload_n 1049 3 dL_law_1049 rfl rfl ?_
  refine J_iconst (v := 2) 1050 dL_law_1050 rfl ?_
  refine J_iadd 1051 dL_law_1051 ?_
  refine J_topi (y := nI (i + 2)) 1052 (nI_add i 2) ?_
  refine J_sld 1052 (i + 2) (fun _ _ h_ => h_.2) rfl (by omega) (by omega) dL_law_1052 ?_
  refine J_aload_n 1053 0 dL_law_1053 rfl rfl ?_
  refine J_iload_n 1054 3 dL_law_1054 rfl rfl ?_
  refine J_iconst (v := 3) 1055 dL_law_1055 rfl ?_
  refine J_iadd 1056 dL_law_1056 ?_
  refine J_topi (y := nI (i + 3)) 1057 (nI_add i 3) ?_
  refine J_sld 1057 (i + 3) (fun _ _ h_ => h_.2) rfl (by omega) (by omega) dL_law_1057 ?_
  refine lc5 (rest := []) 1058 h5 rfl w_632 w_633 w_634 w_1 w_635 ok_X5_odds d5 e5 f5 rfl rfl (leb rfl) rfl dL_law_1058 (fun w5 hw5 => ?_)
  refine J_aload_n 1061 2 dL_law_1061 rfl rfl ?_
  refine J_aload_n 1062 0 dL_law_1062 rfl rfl ?_
  refine J_iload_n 1063 3 dL_law_1063 rfl rfl ?_
  refine J_iconst (v := 1) 1064 dL_law_1064 rfl ?_
  refine J_iadd 1065 dL_law_1065 ?_
  refine J_topi (y := nI (i + 1)) 1066 (nI_add i 1) ?_
  refine J_sld 1066 (i + 1) (fun _ _ h_ => h_.2) rfl (by omega) (by omega) dL_law_1066 ?_
  refine J_aload_n 1067 0 dL_law_1067 rfl rfl ?_
  refine J_iload_n 1068 3 dL_law_1068 rfl rfl ?_
  refine J_iconst (v := 2) 1069 dL_law_1069 rfl ?_
  refine J_iadd 1070 dL_law_1070 ?_
  refine J_topi (y := nI (i + 2)) 1071 (nI_add i 2) ?_
  refine J_sld 1071 (i + 2) (fun _ _ h_ => h_.2) rfl (by omega) (by omega) dL_law_1071 ?_
  refine J_aload_n 1072 0 dL_law_1072 rfl rfl ?_
  refine J_iload_n 1073 3 dL_law_1073 rfl rfl ?_
  refine J_iconst (v := 3) 1074 dL_law_1074 rfl ?_
  refine J_iadd 1075 dL_law_1075 ?_
  refine J_topi (y := nI (i + 3)) 1076 (nI_add i 3) ?_
  refine J_sld 1076 (i + 3) (fun _ _ h_ => h_.2) rfl (by omega) (by omega) dL_law_1076 ?_
  refine lc6 (rest := [.long v]) 1077 h6 rfl w_1176 w_1177 w_1178 w_7 w_1179 ok_X6_odds d6 e6 f6 rfl rfl (leb rfl) rfl dL_law_1077 (fun w6 hw6 => ?_)
  refine J_lcmp 1080 dL_law_1080 ?_
  refine J_if_eq (tgt := 1625) 1081 dL_law_1081 (by decide) (fun _ => ?_) (fun z_ => absurd (lcmp_s v) z_)
  exact lw_tail (j w5 w6 hw5 hw6) kk
set_option maxRecDepth 100000 in
set_option maxHeartbeats 4000000 in
theorem lw_c29 (hI : Inv G o D q E wc wm) (hi : i + 5 ≤ L) (hL : L ≤ 2560) (kk : ∀ wc' wm', Inv G o D q E wc' wm' → J l G (bdF G b L xs) code 4 "GooseArmsLaw" 18 (lvL b o q (i + 5)) [] (wF [wc', wm'])) : J l G (bdF G b L xs) code 4 "GooseArmsLaw" 1086 (lvL b o q i) [] (wF [wc, wm]) := by
  obtain ⟨r, P5, P6, h5, h6, f5, f6, j, rv⟩ := st_hope l G o D q E ((xs (i + 1))) ((xs (i + 2))) wc wm hI
  obtain ⟨v, rfl⟩ := rv
  obtain ⟨⟨d5, d6⟩, e5, e6⟩ := hI.hd
  refine J_aload_n 1086 1 dL_law_1086 rfl rfl ?_
  refine J_aload_n 1087 0 dL_law_1087 rfl rfl ?_
  refine J_iload_n 1088 3 dL_law_1088 rfl rfl ?_
  refine J_iconst (v := 1) 1089 dL_law_1089 rfl ?_
  refine J_iadd 1090 dL_law_1090 ?_
  refine J_topi (y := nI (i + 1)) 1091 (nI_add i 1) ?_
  refine J_sld 1091 (i + 1) (fun _ _ h_ => h_.2) rfl (by omega) (by omega) dL_law_1091 ?_
  refine J_aload_n 1092 0 dL_law_1092 rfl rfl ?_
  refine J_iload_n 1093 3 dL_law_1093 rfl rfl ?_
  refine J_iconst (v := 2) 1094 dL_law_1094 rfl ?_
  refine J_iadd 1095 dL_law_1095 ?_
  refine J_topi (y := nI (i + 2)) 1096 (nI_add i 2) ?_
  refine J_sld 1096 (i + 2) (fun _ _ h_ => h_.2) rfl (by omega) (by omega) dL_law_1096 ?_
  refine lc5 (rest := []) 1097 h5 rfl w_652 w_653 w_654 w_1 w_655 ok_X5_hope d5 e5 f5 rfl rfl (leb rfl) rfl dL_law_1097 (fun w5 hw5 => ?_)
  refine J_aload_n 1100 2 dL_law_1100 rfl rfl ?_
  refine J_aload_n 1101 0 dL_law_1101 rfl rfl ?_
  refine J_iload_n 1102 3 dL_law_1102 rfl rfl ?_
  refine J_iconst (v := 1) 1103 dL_law_1103 rfl ?_
  refine J_iadd 1104 dL_law_1104 ?_
  refine J_topi (y := nI (i + 1)) 1105 (nI_add i 1) ?_
  refine J_sld 1105 (i + 1) (fun _ _ h_ => h_.2) rfl (by omega) (by omega) dL_law_1105 ?_
  refine J_aload_n 1106 0 dL_law_1106 rfl rfl ?_
  refine J_iload_n 1107 3 dL_law_1107 rfl rfl ?_
  refine J_iconst (v := 2) 1108 dL_law_1108 rfl ?_
  refine J_iadd 1109 dL_law_1109 ?_
  refine J_topi (y := nI (i + 2)) 1110 (nI_add i 2) ?_
  refine J_sld 1110 (i + 2) (fun _ _ h_ => h_.2) rfl (by omega) (by omega) dL_law_1110 ?_
  refine lc6 (rest := [.long v]) 1111 h6 rfl w_1186 w_1187 w_1188 w_7 w_1189 ok_X6_hope d6 e6 f6 rfl rfl (leb rfl) rfl dL_law_1111 (fun w6 hw6 => ?_)
  refine J_lcmp 1114 dL_law_1114 ?_
  refine J_if_eq (tgt := 1625) 1115 dL_law_1115 (by decide) (fun _ => ?_) (fun z_ => absurd (lcmp_s v) z_)
  exact lw_tail (j w5 w6 hw5 hw6) kk
set_option maxRecDepth 100000 in
set_option maxHeartbeats 4000000 in
theorem lw_c30 (hI : Inv G o D q E wc wm) (hi : i + 5 ≤ L) (hL : L ≤ 2560) (kk : ∀ wc' wm', Inv G o D q E wc' wm' → J l G (bdF G b L xs) code 4 "GooseArmsLaw" 18 (lvL b o q (i + 5)) [] (wF [wc', wm'])) : J l G (bdF G b L xs) code 4 "GooseArmsLaw" 1120 (lvL b o q i) [] (wF [wc, wm]) := by
  obtain ⟨r, P5, P6, h5, h6, f5, f6, j, rv⟩ := st_prove l G o D q E ((xs (i + 1))) ((xs (i + 2))) wc wm hI
  obtain ⟨v, rfl⟩ := rv
  obtain ⟨⟨d5, d6⟩, e5, e6⟩ := hI.hd
  refine J_aload_n 1120 1 dL_law_1120 rfl rfl ?_
  refine J_aload_n 1121 0 dL_law_1121 rfl rfl ?_
  refine J_iload_n 1122 3 dL_law_1122 rfl rfl ?_
  refine J_iconst (v := 1) 1123 dL_law_1123 rfl ?_
  refine J_iadd 1124 dL_law_1124 ?_
  refine J_topi (y := nI (i + 1)) 1125 (nI_add i 1) ?_
  refine J_sld 1125 (i + 1) (fun _ _ h_ => h_.2) rfl (by omega) (by omega) dL_law_1125 ?_
  refine J_aload_n 1126 0 dL_law_1126 rfl rfl ?_
  refine J_iload_n 1127 3 dL_law_1127 rfl rfl ?_
  refine J_iconst (v := 2) 1128 dL_law_1128 rfl ?_
  refine J_iadd 1129 dL_law_1129 ?_
  refine J_topi (y := nI (i + 2)) 1130 (nI_add i 2) ?_
  refine J_sld 1130 (i + 2) (fun _ _ h_ => h_.2) rfl (by omega) (by omega) dL_law_1130 ?_
  refine lc5 (rest := []) 1131 h5 rfl w_656 w_657 w_658 w_1 w_659 ok_X5_prove d5 e5 f5 rfl rfl (leb rfl) rfl dL_law_1131 (fun w5 hw5 => ?_)
  refine J_aload_n 1134 2 dL_law_1134 rfl rfl ?_
  refine J_aload_n 1135 0 dL_law_1135 rfl rfl ?_
  refine J_iload_n 1136 3 dL_law_1136 rfl rfl ?_
  refine J_iconst (v := 1) 1137 dL_law_1137 rfl ?_
  refine J_iadd 1138 dL_law_1138 ?_
  refine J_topi (y := nI (i + 1)) 1139 (nI_add i 1) ?_
  refine J_sld 1139 (i + 1) (fun _ _ h_ => h_.2) rfl (by omega) (by omega) dL_law_1139 ?_
  refine J_aload_n 1140 0 dL_law_1140 rfl rfl ?_
  refine J_iload_n 1141 3 dL_law_1141 rfl rfl ?_
  refine J_iconst (v := 2) 1142 dL_law_1142 rfl ?_
  refine J_iadd 1143 dL_law_1143 ?_
  refine J_topi (y := nI (i + 2)) 1144 (nI_add i 2) ?_
  refine J_sld 1144 (i + 2) (fun _ _ h_ => h_.2) rfl (by omega) (by omega) dL_law_1144 ?_
  refine lc6 (rest := [.int v]) 1145 h6 rfl w_1191 w_1192 w_1193 w_7 w_1194 ok_X6_prove d6 e6 f6 rfl rfl (leb rfl) rfl dL_law_1145 (fun w6 hw6 => ?_)
  refine J_icmp_eq (tgt := 1625) 1148 dL_law_1148 (by decide) (fun _ => ?_) (fun z_ => absurd rfl z_)
  exact lw_tail (j w5 w6 hw5 hw6) kk
set_option maxRecDepth 100000 in
set_option maxHeartbeats 4000000 in
theorem lw_c31 (hI : Inv G o D q E wc wm) (hi : i + 5 ≤ L) (hL : L ≤ 2560) (kk : ∀ wc' wm', Inv G o D q E wc' wm' → J l G (bdF G b L xs) code 4 "GooseArmsLaw" 18 (lvL b o q (i + 5)) [] (wF [wc', wm'])) : J l G (bdF G b L xs) code 4 "GooseArmsLaw" 1153 (lvL b o q i) [] (wF [wc, wm]) := by
  obtain ⟨r, P5, P6, h5, h6, f5, f6, j, rv⟩ := st_row l G o D q E ((xs (i + 1))) ((xs (i + 2))) wc wm hI
  obtain ⟨v, rfl⟩ := rv
  obtain ⟨⟨d5, d6⟩, e5, e6⟩ := hI.hd
  refine J_aload_n 1153 1 dL_law_1153 rfl rfl ?_
  refine J_aload_n 1154 0 dL_law_1154 rfl rfl ?_
  refine J_iload_n 1155 3 dL_law_1155 rfl rfl ?_
  refine J_iconst (v := 1) 1156 dL_law_1156 rfl ?_
  refine J_iadd 1157 dL_law_1157 ?_
  refine J_topi (y := nI (i + 1)) 1158 (nI_add i 1) ?_
  refine J_sld 1158 (i + 1) (fun _ _ h_ => h_.2) rfl (by omega) (by omega) dL_law_1158 ?_
  refine J_aload_n 1159 0 dL_law_1159 rfl rfl ?_
  refine J_iload_n 1160 3 dL_law_1160 rfl rfl ?_
  refine J_iconst (v := 2) 1161 dL_law_1161 rfl ?_
  refine J_iadd 1162 dL_law_1162 ?_
  refine J_topi (y := nI (i + 2)) 1163 (nI_add i 2) ?_
  refine J_sld 1163 (i + 2) (fun _ _ h_ => h_.2) rfl (by omega) (by omega) dL_law_1163 ?_
  refine lc5 (rest := []) 1164 h5 rfl w_663 w_664 w_665 w_1 w_666 ok_X5_row d5 e5 f5 rfl rfl (leb rfl) rfl dL_law_1164 (fun w5 hw5 => ?_)
  refine J_aload_n 1167 2 dL_law_1167 rfl rfl ?_
  refine J_aload_n 1168 0 dL_law_1168 rfl rfl ?_
  refine J_iload_n 1169 3 dL_law_1169 rfl rfl ?_
  refine J_iconst (v := 1) 1170 dL_law_1170 rfl ?_
  refine J_iadd 1171 dL_law_1171 ?_
  refine J_topi (y := nI (i + 1)) 1172 (nI_add i 1) ?_
  refine J_sld 1172 (i + 1) (fun _ _ h_ => h_.2) rfl (by omega) (by omega) dL_law_1172 ?_
  refine J_aload_n 1173 0 dL_law_1173 rfl rfl ?_
  refine J_iload_n 1174 3 dL_law_1174 rfl rfl ?_
  refine J_iconst (v := 2) 1175 dL_law_1175 rfl ?_
  refine J_iadd 1176 dL_law_1176 ?_
  refine J_topi (y := nI (i + 2)) 1177 (nI_add i 2) ?_
  refine J_sld 1177 (i + 2) (fun _ _ h_ => h_.2) rfl (by omega) (by omega) dL_law_1177 ?_
  refine lc6 (rest := [.int v]) 1178 h6 rfl w_1199 w_1200 w_1201 w_7 w_1202 ok_X6_row d6 e6 f6 rfl rfl (leb rfl) rfl dL_law_1178 (fun w6 hw6 => ?_)
  refine J_icmp_eq (tgt := 1625) 1181 dL_law_1181 (by decide) (fun _ => ?_) (fun z_ => absurd rfl z_)
  exact lw_tail (j w5 w6 hw5 hw6) kk
set_option maxRecDepth 100000 in
set_option maxHeartbeats 4000000 in
theorem lw_c32 (hI : Inv G o D q E wc wm) (hi : i + 5 ≤ L) (hL : L ≤ 2560) (kk : ∀ wc' wm', Inv G o D q E wc' wm' → J l G (bdF G b L xs) code 4 "GooseArmsLaw" 18 (lvL b o q (i + 5)) [] (wF [wc', wm'])) : J l G (bdF G b L xs) code 4 "GooseArmsLaw" 1186 (lvL b o q i) [] (wF [wc, wm]) := by
  obtain ⟨r, P5, P6, h5, h6, f5, f6, j, rv⟩ := st_alterRow l G o D q E ((xs (i + 1))) ((xs (i + 2))) ((xs (i + 3))) wc wm hI
  obtain ⟨v, rfl⟩ := rv
  obtain ⟨⟨d5, d6⟩, e5, e6⟩ := hI.hd
  refine J_aload_n 1186 1 dL_law_1186 rfl rfl ?_
  refine J_aload_n 1187 0 dL_law_1187 rfl rfl ?_
  refine J_iload_n 1188 3 dL_law_1188 rfl rfl ?_
  refine J_iconst (v := 1) 1189 dL_law_1189 rfl ?_
  refine J_iadd 1190 dL_law_1190 ?_
  refine J_topi (y := nI (i + 1)) 1191 (nI_add i 1) ?_
  refine J_sld 1191 (i + 1) (fun _ _ h_ => h_.2) rfl (by omega) (by omega) dL_law_1191 ?_
  refine J_aload_n 1192 0 dL_law_1192 rfl rfl ?_
  refine J_iload_n 1193 3 dL_law_1193 rfl rfl ?_
  refine J_iconst (v := 2) 1194 dL_law_1194 rfl ?_
  refine J_iadd 1195 dL_law_1195 ?_
  refine J_topi (y := nI (i + 2)) 1196 (nI_add i 2) ?_
  refine J_sld 1196 (i + 2) (fun _ _ h_ => h_.2) rfl (by omega) (by omega) dL_law_1196 ?_
  refine J_aload_n 1197 0 dL_law_1197 rfl rfl ?_
  refine J_iload_n 1198 3 dL_law_1198 rfl rfl ?_
  refine J_iconst (v := 3) 1199 dL_law_1199 rfl ?_
  refine J_iadd 1200 dL_law_1200 ?_
  refine J_topi (y := nI (i + 3)) 1201 (nI_add i 3) ?_
  refine J_sld 1201 (i + 3) (fun _ _ h_ => h_.2) rfl (by omega) (by omega) dL_law_1201 ?_
  refine lc5 (rest := []) 1202 h5 rfl w_671 w_672 w_673 w_1 w_674 ok_X5_alterRow d5 e5 f5 rfl rfl (leb rfl) rfl dL_law_1202 (fun w5 hw5 => ?_)
  refine J_aload_n 1205 2 dL_law_1205 rfl rfl ?_
  refine J_aload_n 1206 0 dL_law_1206 rfl rfl ?_
  refine J_iload_n 1207 3 dL_law_1207 rfl rfl ?_
  refine J_iconst (v := 1) 1208 dL_law_1208 rfl ?_
  refine J_iadd 1209 dL_law_1209 ?_
  refine J_topi (y := nI (i + 1)) 1210 (nI_add i 1) ?_
  refine J_sld 1210 (i + 1) (fun _ _ h_ => h_.2) rfl (by omega) (by omega) dL_law_1210 ?_
  refine J_aload_n 1211 0 dL_law_1211 rfl rfl ?_
  refine J_iload_n 1212 3 dL_law_1212 rfl rfl ?_
  refine J_iconst (v := 2) 1213 dL_law_1213 rfl ?_
  refine J_iadd 1214 dL_law_1214 ?_
  refine J_topi (y := nI (i + 2)) 1215 (nI_add i 2) ?_
  refine J_sld 1215 (i + 2) (fun _ _ h_ => h_.2) rfl (by omega) (by omega) dL_law_1215 ?_
  refine J_aload_n 1216 0 dL_law_1216 rfl rfl ?_
  refine J_iload_n 1217 3 dL_law_1217 rfl rfl ?_
  refine J_iconst (v := 3) 1218 dL_law_1218 rfl ?_
  refine J_iadd 1219 dL_law_1219 ?_
  refine J_topi (y := nI (i + 3)) 1220 (nI_add i 3) ?_
  refine J_sld 1220 (i + 3) (fun _ _ h_ => h_.2) rfl (by omega) (by omega) dL_law_1220 ?_
  refine lc6 (rest := [.int v]) 1221 h6 rfl w_1207 w_1208 w_1209 w_7 w_1210 ok_X6_alterRow d6 e6 f6 rfl rfl (leb rfl) rfl dL_law_1221 (fun w6 hw6 => ?_)
  refine J_icmp_eq (tgt := 1625) 1224 dL_law_1224 (by decide) (fun _ => ?_) (fun z_ => absurd rfl z_)
  exact lw_tail (j w5 w6 hw5 hw6) kk
set_option maxRecDepth 100000 in
set_option maxHeartbeats 4000000 in
theorem lw_c33 (hI : Inv G o D q E wc wm) (hi : i + 5 ≤ L) (hL : L ≤ 2560) (kk : ∀ wc' wm', Inv G o D q E wc' wm' → J l G (bdF G b L xs) code 4 "GooseArmsLaw" 18 (lvL b o q (i + 5)) [] (wF [wc', wm'])) : J l G (bdF G b L xs) code 4 "GooseArmsLaw" 1229 (lvL b o q i) [] (wF [wc, wm]) := by
  obtain ⟨r, P5, P6, h5, h6, f5, f6, j, rv⟩ := st_judge l G o D q E ((xs (i + 1))) wc wm hI
  obtain ⟨v, rfl⟩ := rv
  obtain ⟨⟨d5, d6⟩, e5, e6⟩ := hI.hd
  refine J_aload_n 1229 1 dL_law_1229 rfl rfl ?_
  refine J_aload_n 1230 0 dL_law_1230 rfl rfl ?_
  refine J_iload_n 1231 3 dL_law_1231 rfl rfl ?_
  refine J_iconst (v := 1) 1232 dL_law_1232 rfl ?_
  refine J_iadd 1233 dL_law_1233 ?_
  refine J_topi (y := nI (i + 1)) 1234 (nI_add i 1) ?_
  refine J_sld 1234 (i + 1) (fun _ _ h_ => h_.2) rfl (by omega) (by omega) dL_law_1234 ?_
  refine lc5 (rest := []) 1235 h5 rfl w_675 w_676 w_677 w_1 w_678 ok_X5_judge d5 e5 f5 rfl rfl (leb rfl) rfl dL_law_1235 (fun w5 hw5 => ?_)
  refine J_aload_n 1238 2 dL_law_1238 rfl rfl ?_
  refine J_aload_n 1239 0 dL_law_1239 rfl rfl ?_
  refine J_iload_n 1240 3 dL_law_1240 rfl rfl ?_
  refine J_iconst (v := 1) 1241 dL_law_1241 rfl ?_
  refine J_iadd 1242 dL_law_1242 ?_
  refine J_topi (y := nI (i + 1)) 1243 (nI_add i 1) ?_
  refine J_sld 1243 (i + 1) (fun _ _ h_ => h_.2) rfl (by omega) (by omega) dL_law_1243 ?_
  refine lc6 (rest := [.int v]) 1244 h6 rfl w_1211 w_1212 w_1213 w_7 w_1214 ok_X6_judge d6 e6 f6 rfl rfl (leb rfl) rfl dL_law_1244 (fun w6 hw6 => ?_)
  refine J_icmp_eq (tgt := 1625) 1247 dL_law_1247 (by decide) (fun _ => ?_) (fun z_ => absurd rfl z_)
  exact lw_tail (j w5 w6 hw5 hw6) kk
set_option maxRecDepth 100000 in
set_option maxHeartbeats 4000000 in
theorem lw_c34 (hI : Inv G o D q E wc wm) (hi : i + 5 ≤ L) (hL : L ≤ 2560) (kk : ∀ wc' wm', Inv G o D q E wc' wm' → J l G (bdF G b L xs) code 4 "GooseArmsLaw" 18 (lvL b o q (i + 5)) [] (wF [wc', wm'])) : J l G (bdF G b L xs) code 4 "GooseArmsLaw" 1252 (lvL b o q i) [] (wF [wc, wm]) := by
  obtain ⟨r, P5, P6, h5, h6, f5, f6, j, rv⟩ := st_minds l G o D q E ((xs (i + 1))) ((xs (i + 2))) ((xs (i + 3))) ((xs (i + 4))) wc wm hI
  obtain ⟨v, rfl⟩ := rv
  obtain ⟨⟨d5, d6⟩, e5, e6⟩ := hI.hd
  refine J_aload_n 1252 1 dL_law_1252 rfl rfl ?_
  refine J_aload_n 1253 0 dL_law_1253 rfl rfl ?_
  refine J_iload_n 1254 3 dL_law_1254 rfl rfl ?_
  refine J_iconst (v := 1) 1255 dL_law_1255 rfl ?_
  refine J_iadd 1256 dL_law_1256 ?_
  refine J_topi (y := nI (i + 1)) 1257 (nI_add i 1) ?_
  refine J_sld 1257 (i + 1) (fun _ _ h_ => h_.2) rfl (by omega) (by omega) dL_law_1257 ?_
  refine J_aload_n 1258 0 dL_law_1258 rfl rfl ?_
  refine J_iload_n 1259 3 dL_law_1259 rfl rfl ?_
  refine J_iconst (v := 2) 1260 dL_law_1260 rfl ?_
  refine J_iadd 1261 dL_law_1261 ?_
  refine J_topi (y := nI (i + 2)) 1262 (nI_add i 2) ?_
  refine J_sld 1262 (i + 2) (fun _ _ h_ => h_.2) rfl (by omega) (by omega) dL_law_1262 ?_
  refine J_aload_n 1263 0 dL_law_1263 rfl rfl ?_
  refine J_iload_n 1264 3 dL_law_1264 rfl rfl ?_
  refine J_iconst (v := 3) 1265 dL_law_1265 rfl ?_
  refine J_iadd 1266 dL_law_1266 ?_
  refine J_topi (y := nI (i + 3)) 1267 (nI_add i 3) ?_
  refine J_sld 1267 (i + 3) (fun _ _ h_ => h_.2) rfl (by omega) (by omega) dL_law_1267 ?_
  refine J_aload_n 1268 0 dL_law_1268 rfl rfl ?_
  refine J_iload_n 1269 3 dL_law_1269 rfl rfl ?_
  refine J_iconst (v := 4) 1270 dL_law_1270 rfl ?_
  refine J_iadd 1271 dL_law_1271 ?_
  refine J_topi (y := nI (i + 4)) 1272 (nI_add i 4) ?_
  refine J_sld 1272 (i + 4) (fun _ _ h_ => h_.2) rfl (by omega) (by omega) dL_law_1272 ?_
  refine lc5 (rest := []) 1273 h5 rfl w_679 w_680 w_681 w_1 w_682 ok_X5_minds d5 e5 f5 rfl rfl (leb rfl) rfl dL_law_1273 (fun w5 hw5 => ?_)
  refine J_aload_n 1276 2 dL_law_1276 rfl rfl ?_
  refine J_aload_n 1277 0 dL_law_1277 rfl rfl ?_
  refine J_iload_n 1278 3 dL_law_1278 rfl rfl ?_
  refine J_iconst (v := 1) 1279 dL_law_1279 rfl ?_
  refine J_iadd 1280 dL_law_1280 ?_
  refine J_topi (y := nI (i + 1)) 1281 (nI_add i 1) ?_
  refine J_sld 1281 (i + 1) (fun _ _ h_ => h_.2) rfl (by omega) (by omega) dL_law_1281 ?_
  refine J_aload_n 1282 0 dL_law_1282 rfl rfl ?_
  refine J_iload_n 1283 3 dL_law_1283 rfl rfl ?_
  refine J_iconst (v := 2) 1284 dL_law_1284 rfl ?_
  refine J_iadd 1285 dL_law_1285 ?_
  refine J_topi (y := nI (i + 2)) 1286 (nI_add i 2) ?_
  refine J_sld 1286 (i + 2) (fun _ _ h_ => h_.2) rfl (by omega) (by omega) dL_law_1286 ?_
  refine J_aload_n 1287 0 dL_law_1287 rfl rfl ?_
  refine J_iload_n 1288 3 dL_law_1288 rfl rfl ?_
  refine J_iconst (v := 3) 1289 dL_law_1289 rfl ?_
  refine J_iadd 1290 dL_law_1290 ?_
  refine J_topi (y := nI (i + 3)) 1291 (nI_add i 3) ?_
  refine J_sld 1291 (i + 3) (fun _ _ h_ => h_.2) rfl (by omega) (by omega) dL_law_1291 ?_
  refine J_aload_n 1292 0 dL_law_1292 rfl rfl ?_
  refine J_iload_n 1293 3 dL_law_1293 rfl rfl ?_
  refine J_iconst (v := 4) 1294 dL_law_1294 rfl ?_
  refine J_iadd 1295 dL_law_1295 ?_
  refine J_topi (y := nI (i + 4)) 1296 (nI_add i 4) ?_
  refine J_sld 1296 (i + 4) (fun _ _ h_ => h_.2) rfl (by omega) (by omega) dL_law_1296 ?_
  refine lc6 (rest := [.int v]) 1297 h6 rfl w_1215 w_1216 w_1217 w_7 w_1218 ok_X6_minds d6 e6 f6 rfl rfl (leb rfl) rfl dL_law_1297 (fun w6 hw6 => ?_)
  refine J_icmp_eq (tgt := 1625) 1300 dL_law_1300 (by decide) (fun _ => ?_) (fun z_ => absurd rfl z_)
  exact lw_tail (j w5 w6 hw5 hw6) kk
set_option maxRecDepth 100000 in
set_option maxHeartbeats 4000000 in
theorem lw_c35 (hI : Inv G o D q E wc wm) (hi : i + 5 ≤ L) (hL : L ≤ 2560) (kk : ∀ wc' wm', Inv G o D q E wc' wm' → J l G (bdF G b L xs) code 4 "GooseArmsLaw" 18 (lvL b o q (i + 5)) [] (wF [wc', wm'])) : J l G (bdF G b L xs) code 4 "GooseArmsLaw" 1305 (lvL b o q i) [] (wF [wc, wm]) := by
  obtain ⟨r, P5, P6, h5, h6, f5, f6, j, rv⟩ := st_sheet l G o D q E ((xs (i + 1))) ((xs (i + 2))) ((xs (i + 3))) wc wm hI
  obtain ⟨v, rfl⟩ := rv
  obtain ⟨⟨d5, d6⟩, e5, e6⟩ := hI.hd
  refine J_aload_n 1305 1 dL_law_1305 rfl rfl ?_
  refine J_aload_n 1306 0 dL_law_1306 rfl rfl ?_
  refine J_iload_n 1307 3 dL_law_1307 rfl rfl ?_
  refine J_iconst (v := 1) 1308 dL_law_1308 rfl ?_
  refine J_iadd 1309 dL_law_1309 ?_
  refine J_topi (y := nI (i + 1)) 1310 (nI_add i 1) ?_
  refine J_sld 1310 (i + 1) (fun _ _ h_ => h_.2) rfl (by omega) (by omega) dL_law_1310 ?_
  refine J_aload_n 1311 0 dL_law_1311 rfl rfl ?_
  refine J_iload_n 1312 3 dL_law_1312 rfl rfl ?_
  refine J_iconst (v := 2) 1313 dL_law_1313 rfl ?_
  refine J_iadd 1314 dL_law_1314 ?_
  refine J_topi (y := nI (i + 2)) 1315 (nI_add i 2) ?_
  refine J_sld 1315 (i + 2) (fun _ _ h_ => h_.2) rfl (by omega) (by omega) dL_law_1315 ?_
  refine J_aload_n 1316 0 dL_law_1316 rfl rfl ?_
  refine J_iload_n 1317 3 dL_law_1317 rfl rfl ?_
  refine J_iconst (v := 3) 1318 dL_law_1318 rfl ?_
  refine J_iadd 1319 dL_law_1319 ?_
  refine J_topi (y := nI (i + 3)) 1320 (nI_add i 3) ?_
  refine J_sld 1320 (i + 3) (fun _ _ h_ => h_.2) rfl (by omega) (by omega) dL_law_1320 ?_
  refine lc5 (rest := []) 1321 h5 rfl w_684 w_685 w_686 w_1 w_687 ok_X5_sheet d5 e5 f5 rfl rfl (leb rfl) rfl dL_law_1321 (fun w5 hw5 => ?_)
  refine J_aload_n 1324 2 dL_law_1324 rfl rfl ?_
  refine J_aload_n 1325 0 dL_law_1325 rfl rfl ?_
  refine J_iload_n 1326 3 dL_law_1326 rfl rfl ?_
  refine J_iconst (v := 1) 1327 dL_law_1327 rfl ?_
  refine J_iadd 1328 dL_law_1328 ?_
  refine J_topi (y := nI (i + 1)) 1329 (nI_add i 1) ?_
  refine J_sld 1329 (i + 1) (fun _ _ h_ => h_.2) rfl (by omega) (by omega) dL_law_1329 ?_
  refine J_aload_n 1330 0 dL_law_1330 rfl rfl ?_
  refine J_iload_n 1331 3 dL_law_1331 rfl rfl ?_
  refine J_iconst (v := 2) 1332 dL_law_1332 rfl ?_
  refine J_iadd 1333 dL_law_1333 ?_
  refine J_topi (y := nI (i + 2)) 1334 (nI_add i 2) ?_
  refine J_sld 1334 (i + 2) (fun _ _ h_ => h_.2) rfl (by omega) (by omega) dL_law_1334 ?_
  refine J_aload_n 1335 0 dL_law_1335 rfl rfl ?_
  refine J_iload_n 1336 3 dL_law_1336 rfl rfl ?_
  refine J_iconst (v := 3) 1337 dL_law_1337 rfl ?_
  refine J_iadd 1338 dL_law_1338 ?_
  refine J_topi (y := nI (i + 3)) 1339 (nI_add i 3) ?_
  refine J_sld 1339 (i + 3) (fun _ _ h_ => h_.2) rfl (by omega) (by omega) dL_law_1339 ?_
  refine lc6 (rest := [.int v]) 1340 h6 rfl w_1223 w_1224 w_1225 w_7 w_1226 ok_X6_sheet d6 e6 f6 rfl rfl (leb rfl) rfl dL_law_1340 (fun w6 hw6 => ?_)
  refine J_icmp_eq (tgt := 1625) 1343 dL_law_1343 (by decide) (fun _ => ?_) (fun z_ => absurd rfl z_)
  exact lw_tail (j w5 w6 hw5 hw6) kk
set_option maxRecDepth 100000 in
set_option maxHeartbeats 4000000 in
theorem lw_c36 (hI : Inv G o D q E wc wm) (hi : i + 5 ≤ L) (hL : L ≤ 2560) (kk : ∀ wc' wm', Inv G o D q E wc' wm' → J l G (bdF G b L xs) code 4 "GooseArmsLaw" 18 (lvL b o q (i + 5)) [] (wF [wc', wm'])) : J l G (bdF G b L xs) code 4 "GooseArmsLaw" 1348 (lvL b o q i) [] (wF [wc, wm]) := by
  obtain ⟨r, P5, P6, h5, h6, f5, f6, j, rv⟩ := st_put l G o D q E ((xs (i + 1))) ((xs (i + 2))) ((xs (i + 3))) wc wm hI
  obtain ⟨v, rfl⟩ := rv
  obtain ⟨⟨d5, d6⟩, e5, e6⟩ := hI.hd
  refine J_aload_n 1348 1 dL_law_1348 rfl rfl ?_
  refine J_aload_n 1349 0 dL_law_1349 rfl rfl ?_
  refine J_iload_n 1350 3 dL_law_1350 rfl rfl ?_
  refine J_iconst (v := 1) 1351 dL_law_1351 rfl ?_
  refine J_iadd 1352 dL_law_1352 ?_
  refine J_topi (y := nI (i + 1)) 1353 (nI_add i 1) ?_
  refine J_sld 1353 (i + 1) (fun _ _ h_ => h_.2) rfl (by omega) (by omega) dL_law_1353 ?_
  refine J_aload_n 1354 0 dL_law_1354 rfl rfl ?_
  refine J_iload_n 1355 3 dL_law_1355 rfl rfl ?_
  refine J_iconst (v := 2) 1356 dL_law_1356 rfl ?_
  refine J_iadd 1357 dL_law_1357 ?_
  refine J_topi (y := nI (i + 2)) 1358 (nI_add i 2) ?_
  refine J_sld 1358 (i + 2) (fun _ _ h_ => h_.2) rfl (by omega) (by omega) dL_law_1358 ?_
  refine J_aload_n 1359 0 dL_law_1359 rfl rfl ?_
  refine J_iload_n 1360 3 dL_law_1360 rfl rfl ?_
  refine J_iconst (v := 3) 1361 dL_law_1361 rfl ?_
  refine J_iadd 1362 dL_law_1362 ?_
  refine J_topi (y := nI (i + 3)) 1363 (nI_add i 3) ?_
  refine J_sld 1363 (i + 3) (fun _ _ h_ => h_.2) rfl (by omega) (by omega) dL_law_1363 ?_
  refine lc5 (rest := []) 1364 h5 rfl w_692 w_693 w_694 w_1 w_695 ok_X5_put d5 e5 f5 rfl rfl (leb rfl) rfl dL_law_1364 (fun w5 hw5 => ?_)
  refine J_aload_n 1367 2 dL_law_1367 rfl rfl ?_
  refine J_aload_n 1368 0 dL_law_1368 rfl rfl ?_
  refine J_iload_n 1369 3 dL_law_1369 rfl rfl ?_
  refine J_iconst (v := 1) 1370 dL_law_1370 rfl ?_
  refine J_iadd 1371 dL_law_1371 ?_
  refine J_topi (y := nI (i + 1)) 1372 (nI_add i 1) ?_
  refine J_sld 1372 (i + 1) (fun _ _ h_ => h_.2) rfl (by omega) (by omega) dL_law_1372 ?_
  refine J_aload_n 1373 0 dL_law_1373 rfl rfl ?_
  refine J_iload_n 1374 3 dL_law_1374 rfl rfl ?_
  refine J_iconst (v := 2) 1375 dL_law_1375 rfl ?_
  refine J_iadd 1376 dL_law_1376 ?_
  refine J_topi (y := nI (i + 2)) 1377 (nI_add i 2) ?_
  refine J_sld 1377 (i + 2) (fun _ _ h_ => h_.2) rfl (by omega) (by omega) dL_law_1377 ?_
  refine J_aload_n 1378 0 dL_law_1378 rfl rfl ?_
  refine J_iload_n 1379 3 dL_law_1379 rfl rfl ?_
  refine J_iconst (v := 3) 1380 dL_law_1380 rfl ?_
  refine J_iadd 1381 dL_law_1381 ?_
  refine J_topi (y := nI (i + 3)) 1382 (nI_add i 3) ?_
  refine J_sld 1382 (i + 3) (fun _ _ h_ => h_.2) rfl (by omega) (by omega) dL_law_1382 ?_
  refine lc6 (rest := [.int v]) 1383 h6 rfl w_1227 w_1228 w_1229 w_7 w_1230 ok_X6_put d6 e6 f6 rfl rfl (leb rfl) rfl dL_law_1383 (fun w6 hw6 => ?_)
  refine J_icmp_eq (tgt := 1625) 1386 dL_law_1386 (by decide) (fun _ => ?_) (fun z_ => absurd rfl z_)
  exact lw_tail (j w5 w6 hw5 hw6) kk
set_option maxRecDepth 100000 in
set_option maxHeartbeats 4000000 in
theorem lw_c37 (hI : Inv G o D q E wc wm) (hi : i + 5 ≤ L) (hL : L ≤ 2560) (kk : ∀ wc' wm', Inv G o D q E wc' wm' → J l G (bdF G b L xs) code 4 "GooseArmsLaw" 18 (lvL b o q (i + 5)) [] (wF [wc', wm'])) : J l G (bdF G b L xs) code 4 "GooseArmsLaw" 1391 (lvL b o q i) [] (wF [wc, wm]) := by
  obtain ⟨r, P5, P6, h5, h6, f5, f6, j, rv⟩ := st_item l G o D q E ((xs (i + 1))) ((xs (i + 2))) ((xs (i + 3))) wc wm hI
  obtain ⟨v, rfl⟩ := rv
  obtain ⟨⟨d5, d6⟩, e5, e6⟩ := hI.hd
  refine J_aload_n 1391 1 dL_law_1391 rfl rfl ?_
  refine J_aload_n 1392 0 dL_law_1392 rfl rfl ?_
  refine J_iload_n 1393 3 dL_law_1393 rfl rfl ?_
  refine J_iconst (v := 1) 1394 dL_law_1394 rfl ?_
  refine J_iadd 1395 dL_law_1395 ?_
  refine J_topi (y := nI (i + 1)) 1396 (nI_add i 1) ?_
  refine J_sld 1396 (i + 1) (fun _ _ h_ => h_.2) rfl (by omega) (by omega) dL_law_1396 ?_
  refine J_aload_n 1397 0 dL_law_1397 rfl rfl ?_
  refine J_iload_n 1398 3 dL_law_1398 rfl rfl ?_
  refine J_iconst (v := 2) 1399 dL_law_1399 rfl ?_
  refine J_iadd 1400 dL_law_1400 ?_
  refine J_topi (y := nI (i + 2)) 1401 (nI_add i 2) ?_
  refine J_sld 1401 (i + 2) (fun _ _ h_ => h_.2) rfl (by omega) (by omega) dL_law_1401 ?_
  refine J_aload_n 1402 0 dL_law_1402 rfl rfl ?_
  refine J_iload_n 1403 3 dL_law_1403 rfl rfl ?_
  refine J_iconst (v := 3) 1404 dL_law_1404 rfl ?_
  refine J_iadd 1405 dL_law_1405 ?_
  refine J_topi (y := nI (i + 3)) 1406 (nI_add i 3) ?_
  refine J_sld 1406 (i + 3) (fun _ _ h_ => h_.2) rfl (by omega) (by omega) dL_law_1406 ?_
  refine lc5 (rest := []) 1407 h5 rfl w_700 w_701 w_702 w_1 w_703 ok_X5_item d5 e5 f5 rfl rfl (leb rfl) rfl dL_law_1407 (fun w5 hw5 => ?_)
  refine J_aload_n 1410 2 dL_law_1410 rfl rfl ?_
  refine J_aload_n 1411 0 dL_law_1411 rfl rfl ?_
  refine J_iload_n 1412 3 dL_law_1412 rfl rfl ?_
  refine J_iconst (v := 1) 1413 dL_law_1413 rfl ?_
  refine J_iadd 1414 dL_law_1414 ?_
  refine J_topi (y := nI (i + 1)) 1415 (nI_add i 1) ?_
  refine J_sld 1415 (i + 1) (fun _ _ h_ => h_.2) rfl (by omega) (by omega) dL_law_1415 ?_
  refine J_aload_n 1416 0 dL_law_1416 rfl rfl ?_
  refine J_iload_n 1417 3 dL_law_1417 rfl rfl ?_
  refine J_iconst (v := 2) 1418 dL_law_1418 rfl ?_
  refine J_iadd 1419 dL_law_1419 ?_
  refine J_topi (y := nI (i + 2)) 1420 (nI_add i 2) ?_
  refine J_sld 1420 (i + 2) (fun _ _ h_ => h_.2) rfl (by omega) (by omega) dL_law_1420 ?_
  refine J_aload_n 1421 0 dL_law_1421 rfl rfl ?_
  refine J_iload_n 1422 3 dL_law_1422 rfl rfl ?_
  refine J_iconst (v := 3) 1423 dL_law_1423 rfl ?_
  refine J_iadd 1424 dL_law_1424 ?_
  refine J_topi (y := nI (i + 3)) 1425 (nI_add i 3) ?_
  refine J_sld 1425 (i + 3) (fun _ _ h_ => h_.2) rfl (by omega) (by omega) dL_law_1425 ?_
  refine lc6 (rest := [.int v]) 1426 h6 rfl w_1231 w_1232 w_1233 w_7 w_1234 ok_X6_item d6 e6 f6 rfl rfl (leb rfl) rfl dL_law_1426 (fun w6 hw6 => ?_)
  refine J_icmp_eq (tgt := 1625) 1429 dL_law_1429 (by decide) (fun _ => ?_) (fun z_ => absurd rfl z_)
  exact lw_tail (j w5 w6 hw5 hw6) kk
set_option maxRecDepth 100000 in
set_option maxHeartbeats 4000000 in
theorem lw_c38 (hI : Inv G o D q E wc wm) (hi : i + 5 ≤ L) (hL : L ≤ 2560) (kk : ∀ wc' wm', Inv G o D q E wc' wm' → J l G (bdF G b L xs) code 4 "GooseArmsLaw" 18 (lvL b o q (i + 5)) [] (wF [wc', wm'])) : J l G (bdF G b L xs) code 4 "GooseArmsLaw" 1434 (lvL b o q i) [] (wF [wc, wm]) := by
  obtain ⟨r, P5, P6, h5, h6, f5, f6, j, rv⟩ := st_shelf l G o D q E ((xs (i + 1))) ((xs (i + 2))) ((xs (i + 3))) wc wm hI
  obtain ⟨v, rfl⟩ := rv
  obtain ⟨⟨d5, d6⟩, e5, e6⟩ := hI.hd
  refine J_aload_n 1434 1 dL_law_1434 rfl rfl ?_
  refine J_aload_n 1435 0 dL_law_1435 rfl rfl ?_
  refine J_iload_n 1436 3 dL_law_1436 rfl rfl ?_
  refine J_iconst (v := 1) 1437 dL_law_1437 rfl ?_
  refine J_iadd 1438 dL_law_1438 ?_
  refine J_topi (y := nI (i + 1)) 1439 (nI_add i 1) ?_
  refine J_sld 1439 (i + 1) (fun _ _ h_ => h_.2) rfl (by omega) (by omega) dL_law_1439 ?_
  refine J_aload_n 1440 0 dL_law_1440 rfl rfl ?_
  refine J_iload_n 1441 3 dL_law_1441 rfl rfl ?_
  refine J_iconst (v := 2) 1442 dL_law_1442 rfl ?_
  refine J_iadd 1443 dL_law_1443 ?_
  refine J_topi (y := nI (i + 2)) 1444 (nI_add i 2) ?_
  refine J_sld 1444 (i + 2) (fun _ _ h_ => h_.2) rfl (by omega) (by omega) dL_law_1444 ?_
  refine J_aload_n 1445 0 dL_law_1445 rfl rfl ?_
  refine J_iload_n 1446 3 dL_law_1446 rfl rfl ?_
  refine J_iconst (v := 3) 1447 dL_law_1447 rfl ?_
  refine J_iadd 1448 dL_law_1448 ?_
  refine J_topi (y := nI (i + 3)) 1449 (nI_add i 3) ?_
  refine J_sld 1449 (i + 3) (fun _ _ h_ => h_.2) rfl (by omega) (by omega) dL_law_1449 ?_
  refine lc5 (rest := []) 1450 h5 rfl w_704 w_705 w_706 w_1 w_707 ok_X5_shelf d5 e5 f5 rfl rfl (leb rfl) rfl dL_law_1450 (fun w5 hw5 => ?_)
  refine J_aload_n 1453 2 dL_law_1453 rfl rfl ?_
  refine J_aload_n 1454 0 dL_law_1454 rfl rfl ?_
  refine J_iload_n 1455 3 dL_law_1455 rfl rfl ?_
  refine J_iconst (v := 1) 1456 dL_law_1456 rfl ?_
  refine J_iadd 1457 dL_law_1457 ?_
  refine J_topi (y := nI (i + 1)) 1458 (nI_add i 1) ?_
  refine J_sld 1458 (i + 1) (fun _ _ h_ => h_.2) rfl (by omega) (by omega) dL_law_1458 ?_
  refine J_aload_n 1459 0 dL_law_1459 rfl rfl ?_
  refine J_iload_n 1460 3 dL_law_1460 rfl rfl ?_
  refine J_iconst (v := 2) 1461 dL_law_1461 rfl ?_
  refine J_iadd 1462 dL_law_1462 ?_
  refine J_topi (y := nI (i + 2)) 1463 (nI_add i 2) ?_
  refine J_sld 1463 (i + 2) (fun _ _ h_ => h_.2) rfl (by omega) (by omega) dL_law_1463 ?_
  refine J_aload_n 1464 0 dL_law_1464 rfl rfl ?_
  refine J_iload_n 1465 3 dL_law_1465 rfl rfl ?_
  refine J_iconst (v := 3) 1466 dL_law_1466 rfl ?_
  refine J_iadd 1467 dL_law_1467 ?_
  refine J_topi (y := nI (i + 3)) 1468 (nI_add i 3) ?_
  refine J_sld 1468 (i + 3) (fun _ _ h_ => h_.2) rfl (by omega) (by omega) dL_law_1468 ?_
  refine lc6 (rest := [.int v]) 1469 h6 rfl w_1235 w_1236 w_1237 w_7 w_1238 ok_X6_shelf d6 e6 f6 rfl rfl (leb rfl) rfl dL_law_1469 (fun w6 hw6 => ?_)
  refine J_icmp_eq (tgt := 1625) 1472 dL_law_1472 (by decide) (fun _ => ?_) (fun z_ => absurd rfl z_)
  exact lw_tail (j w5 w6 hw5 hw6) kk
set_option maxRecDepth 100000 in
set_option maxHeartbeats 4000000 in
theorem lw_c39 (hI : Inv G o D q E wc wm) (hi : i + 5 ≤ L) (hL : L ≤ 2560) (kk : ∀ wc' wm', Inv G o D q E wc' wm' → J l G (bdF G b L xs) code 4 "GooseArmsLaw" 18 (lvL b o q (i + 5)) [] (wF [wc', wm'])) : J l G (bdF G b L xs) code 4 "GooseArmsLaw" 1477 (lvL b o q i) [] (wF [wc, wm]) := by
  obtain ⟨r, P5, P6, h5, h6, f5, f6, j, rv⟩ := st_taken l G o D q E ((xs (i + 1))) ((xs (i + 2))) wc wm hI
  obtain ⟨v, rfl⟩ := rv
  obtain ⟨⟨d5, d6⟩, e5, e6⟩ := hI.hd
  refine J_aload_n 1477 1 dL_law_1477 rfl rfl ?_
  refine J_aload_n 1478 0 dL_law_1478 rfl rfl ?_
  refine J_iload_n 1479 3 dL_law_1479 rfl rfl ?_
  refine J_iconst (v := 1) 1480 dL_law_1480 rfl ?_
  refine J_iadd 1481 dL_law_1481 ?_
  refine J_topi (y := nI (i + 1)) 1482 (nI_add i 1) ?_
  refine J_sld 1482 (i + 1) (fun _ _ h_ => h_.2) rfl (by omega) (by omega) dL_law_1482 ?_
  refine J_aload_n 1483 0 dL_law_1483 rfl rfl ?_
  refine J_iload_n 1484 3 dL_law_1484 rfl rfl ?_
  refine J_iconst (v := 2) 1485 dL_law_1485 rfl ?_
  refine J_iadd 1486 dL_law_1486 ?_
  refine J_topi (y := nI (i + 2)) 1487 (nI_add i 2) ?_
  refine J_sld 1487 (i + 2) (fun _ _ h_ => h_.2) rfl (by omega) (by omega) dL_law_1487 ?_
  refine lc5 (rest := []) 1488 h5 rfl w_721 w_722 w_723 w_1 w_724 ok_X5_taken d5 e5 f5 rfl rfl (leb rfl) rfl dL_law_1488 (fun w5 hw5 => ?_)
  refine J_aload_n 1491 2 dL_law_1491 rfl rfl ?_
  refine J_aload_n 1492 0 dL_law_1492 rfl rfl ?_
  refine J_iload_n 1493 3 dL_law_1493 rfl rfl ?_
  refine J_iconst (v := 1) 1494 dL_law_1494 rfl ?_
  refine J_iadd 1495 dL_law_1495 ?_
  refine J_topi (y := nI (i + 1)) 1496 (nI_add i 1) ?_
  refine J_sld 1496 (i + 1) (fun _ _ h_ => h_.2) rfl (by omega) (by omega) dL_law_1496 ?_
  refine J_aload_n 1497 0 dL_law_1497 rfl rfl ?_
  refine J_iload_n 1498 3 dL_law_1498 rfl rfl ?_
  refine J_iconst (v := 2) 1499 dL_law_1499 rfl ?_
  refine J_iadd 1500 dL_law_1500 ?_
  refine J_topi (y := nI (i + 2)) 1501 (nI_add i 2) ?_
  refine J_sld 1501 (i + 2) (fun _ _ h_ => h_.2) rfl (by omega) (by omega) dL_law_1501 ?_
  refine lc6 (rest := [.int v]) 1502 h6 rfl w_1243 w_1244 w_1245 w_7 w_1246 ok_X6_taken d6 e6 f6 rfl rfl (leb rfl) rfl dL_law_1502 (fun w6 hw6 => ?_)
  refine J_icmp_eq (tgt := 1625) 1505 dL_law_1505 (by decide) (fun _ => ?_) (fun z_ => absurd rfl z_)
  exact lw_tail (j w5 w6 hw5 hw6) kk
set_option maxRecDepth 100000 in
set_option maxHeartbeats 4000000 in
theorem lw_c40 (hI : Inv G o D q E wc wm) (hi : i + 5 ≤ L) (hL : L ≤ 2560) (kk : ∀ wc' wm', Inv G o D q E wc' wm' → J l G (bdF G b L xs) code 4 "GooseArmsLaw" 18 (lvL b o q (i + 5)) [] (wF [wc', wm'])) : J l G (bdF G b L xs) code 4 "GooseArmsLaw" 1510 (lvL b o q i) [] (wF [wc, wm]) := by
  obtain ⟨r, P5, P6, h5, h6, f5, f6, j, rv⟩ := st_act l G o D q E ((xs (i + 1))) ((xs (i + 2))) ((xs (i + 3))) wc wm hI
  obtain ⟨v, rfl⟩ := rv
  obtain ⟨⟨d5, d6⟩, e5, e6⟩ := hI.hd
  refine J_aload_n 1510 1 dL_law_1510 rfl rfl ?_
  refine J_aload_n 1511 0 dL_law_1511 rfl rfl ?_
  refine J_iload_n 1512 3 dL_law_1512 rfl rfl ?_
  refine J_iconst (v := 1) 1513 dL_law_1513 rfl ?_
  refine J_iadd 1514 dL_law_1514 ?_
  refine J_topi (y := nI (i + 1)) 1515 (nI_add i 1) ?_
  refine J_sld 1515 (i + 1) (fun _ _ h_ => h_.2) rfl (by omega) (by omega) dL_law_1515 ?_
  refine J_aload_n 1516 0 dL_law_1516 rfl rfl ?_
  refine J_iload_n 1517 3 dL_law_1517 rfl rfl ?_
  refine J_iconst (v := 2) 1518 dL_law_1518 rfl ?_
  refine J_iadd 1519 dL_law_1519 ?_
  refine J_topi (y := nI (i + 2)) 1520 (nI_add i 2) ?_
  refine J_sld 1520 (i + 2) (fun _ _ h_ => h_.2) rfl (by omega) (by omega) dL_law_1520 ?_
  refine J_aload_n 1521 0 dL_law_1521 rfl rfl ?_
  refine J_iload_n 1522 3 dL_law_1522 rfl rfl ?_
  refine J_iconst (v := 3) 1523 dL_law_1523 rfl ?_
  refine J_iadd 1524 dL_law_1524 ?_
  refine J_topi (y := nI (i + 3)) 1525 (nI_add i 3) ?_
  refine J_sld 1525 (i + 3) (fun _ _ h_ => h_.2) rfl (by omega) (by omega) dL_law_1525 ?_
  refine lc5 (rest := []) 1526 h5 rfl w_732 w_733 w_734 w_1 w_735 ok_X5_act d5 e5 f5 rfl rfl (leb rfl) rfl dL_law_1526 (fun w5 hw5 => ?_)
  refine J_aload_n 1529 2 dL_law_1529 rfl rfl ?_
  refine J_aload_n 1530 0 dL_law_1530 rfl rfl ?_
  refine J_iload_n 1531 3 dL_law_1531 rfl rfl ?_
  refine J_iconst (v := 1) 1532 dL_law_1532 rfl ?_
  refine J_iadd 1533 dL_law_1533 ?_
  refine J_topi (y := nI (i + 1)) 1534 (nI_add i 1) ?_
  refine J_sld 1534 (i + 1) (fun _ _ h_ => h_.2) rfl (by omega) (by omega) dL_law_1534 ?_
  refine J_aload_n 1535 0 dL_law_1535 rfl rfl ?_
  refine J_iload_n 1536 3 dL_law_1536 rfl rfl ?_
  refine J_iconst (v := 2) 1537 dL_law_1537 rfl ?_
  refine J_iadd 1538 dL_law_1538 ?_
  refine J_topi (y := nI (i + 2)) 1539 (nI_add i 2) ?_
  refine J_sld 1539 (i + 2) (fun _ _ h_ => h_.2) rfl (by omega) (by omega) dL_law_1539 ?_
  refine J_aload_n 1540 0 dL_law_1540 rfl rfl ?_
  refine J_iload_n 1541 3 dL_law_1541 rfl rfl ?_
  refine J_iconst (v := 3) 1542 dL_law_1542 rfl ?_
  refine J_iadd 1543 dL_law_1543 ?_
  refine J_topi (y := nI (i + 3)) 1544 (nI_add i 3) ?_
  refine J_sld 1544 (i + 3) (fun _ _ h_ => h_.2) rfl (by omega) (by omega) dL_law_1544 ?_
  refine lc6 (rest := [.int v]) 1545 h6 rfl w_1254 w_1255 w_1256 w_7 w_1257 ok_X6_act d6 e6 f6 rfl rfl (leb rfl) rfl dL_law_1545 (fun w6 hw6 => ?_)
  refine J_icmp_eq (tgt := 1625) 1548 dL_law_1548 (by decide) (fun _ => ?_) (fun z_ => absurd rfl z_)
  exact lw_tail (j w5 w6 hw5 hw6) kk
set_option maxRecDepth 100000 in
set_option maxHeartbeats 4000000 in
theorem lw_c41 (hI : Inv G o D q E wc wm) (hi : i + 5 ≤ L) (hL : L ≤ 2560) (kk : ∀ wc' wm', Inv G o D q E wc' wm' → J l G (bdF G b L xs) code 4 "GooseArmsLaw" 18 (lvL b o q (i + 5)) [] (wF [wc', wm'])) : J l G (bdF G b L xs) code 4 "GooseArmsLaw" 1553 (lvL b o q i) [] (wF [wc, wm]) := by
  obtain ⟨r, P5, P6, h5, h6, f5, f6, j, rv⟩ := st_trace l G o D q E ((xs (i + 1))) wc wm hI
  obtain ⟨v, rfl⟩ := rv
  obtain ⟨⟨d5, d6⟩, e5, e6⟩ := hI.hd
  refine J_aload_n 1553 1 dL_law_1553 rfl rfl ?_
  refine J_aload_n 1554 0 dL_law_1554 rfl rfl ?_
  refine J_iload_n 1555 3 dL_law_1555 rfl rfl ?_
  refine J_iconst (v := 1) 1556 dL_law_1556 rfl ?_
  refine J_iadd 1557 dL_law_1557 ?_
  refine J_topi (y := nI (i + 1)) 1558 (nI_add i 1) ?_
  refine J_sld 1558 (i + 1) (fun _ _ h_ => h_.2) rfl (by omega) (by omega) dL_law_1558 ?_
  refine lc5 (rest := []) 1559 h5 rfl w_764 w_765 w_766 w_1 w_767 ok_X5_trace d5 e5 f5 rfl rfl (leb rfl) rfl dL_law_1559 (fun w5 hw5 => ?_)
  refine J_aload_n 1562 2 dL_law_1562 rfl rfl ?_
  refine J_aload_n 1563 0 dL_law_1563 rfl rfl ?_
  refine J_iload_n 1564 3 dL_law_1564 rfl rfl ?_
  refine J_iconst (v := 1) 1565 dL_law_1565 rfl ?_
  refine J_iadd 1566 dL_law_1566 ?_
  refine J_topi (y := nI (i + 1)) 1567 (nI_add i 1) ?_
  refine J_sld 1567 (i + 1) (fun _ _ h_ => h_.2) rfl (by omega) (by omega) dL_law_1567 ?_
  refine lc6 (rest := [.int v]) 1568 h6 rfl w_1298 w_1299 w_1300 w_7 w_1301 ok_X6_trace d6 e6 f6 rfl rfl (leb rfl) rfl dL_law_1568 (fun w6 hw6 => ?_)
  refine J_icmp_eq (tgt := 1625) 1571 dL_law_1571 (by decide) (fun _ => ?_) (fun z_ => absurd rfl z_)
  exact lw_tail (j w5 w6 hw5 hw6) kk
set_option maxRecDepth 100000 in
set_option maxHeartbeats 4000000 in
theorem lw_c42 (hI : Inv G o D q E wc wm) (hi : i + 5 ≤ L) (hL : L ≤ 2560) (kk : ∀ wc' wm', Inv G o D q E wc' wm' → J l G (bdF G b L xs) code 4 "GooseArmsLaw" 18 (lvL b o q (i + 5)) [] (wF [wc', wm'])) : J l G (bdF G b L xs) code 4 "GooseArmsLaw" 1576 (lvL b o q i) [] (wF [wc, wm]) := by
  obtain ⟨r, P5, P6, h5, h6, f5, f6, j, rv⟩ := st_many l G o D q E ((xs (i + 1))) wc wm hI
  obtain ⟨v, rfl⟩ := rv
  obtain ⟨⟨d5, d6⟩, e5, e6⟩ := hI.hd
  refine J_aload_n 1576 1 dL_law_1576 rfl rfl ?_
  refine J_aload_n 1577 0 dL_law_1577 rfl rfl ?_
  refine J_iload_n 1578 3 dL_law_1578 rfl rfl ?_
  refine J_iconst (v := 1) 1579 dL_law_1579 rfl ?_
  refine J_iadd 1580 dL_law_1580 ?_
  refine J_topi (y := nI (i + 1)) 1581 (nI_add i 1) ?_
  refine J_sld 1581 (i + 1) (fun _ _ h_ => h_.2) rfl (by omega) (by omega) dL_law_1581 ?_
  refine lc5 (rest := []) 1582 h5 rfl w_768 w_769 w_770 w_1 w_771 ok_X5_many d5 e5 f5 rfl rfl (leb rfl) rfl dL_law_1582 (fun w5 hw5 => ?_)
  refine J_aload_n 1585 2 dL_law_1585 rfl rfl ?_
  refine J_aload_n 1586 0 dL_law_1586 rfl rfl ?_
  refine J_iload_n 1587 3 dL_law_1587 rfl rfl ?_
  refine J_iconst (v := 1) 1588 dL_law_1588 rfl ?_
  refine J_iadd 1589 dL_law_1589 ?_
  refine J_topi (y := nI (i + 1)) 1590 (nI_add i 1) ?_
  refine J_sld 1590 (i + 1) (fun _ _ h_ => h_.2) rfl (by omega) (by omega) dL_law_1590 ?_
  refine lc6 (rest := [.int v]) 1591 h6 rfl w_1302 w_1303 w_1304 w_7 w_1305 ok_X6_many d6 e6 f6 rfl rfl (leb rfl) rfl dL_law_1591 (fun w6 hw6 => ?_)
  refine J_icmp_eq (tgt := 1625) 1594 dL_law_1594 (by decide) (fun _ => ?_) (fun z_ => absurd rfl z_)
  exact lw_tail (j w5 w6 hw5 hw6) kk
set_option maxRecDepth 100000 in
set_option maxHeartbeats 4000000 in
theorem lw_c43 (hI : Inv G o D q E wc wm) (hi : i + 5 ≤ L) (hL : L ≤ 2560) (kk : ∀ wc' wm', Inv G o D q E wc' wm' → J l G (bdF G b L xs) code 4 "GooseArmsLaw" 18 (lvL b o q (i + 5)) [] (wF [wc', wm'])) : J l G (bdF G b L xs) code 4 "GooseArmsLaw" 1599 (lvL b o q i) [] (wF [wc, wm]) := by
  obtain ⟨r, P5, P6, h5, h6, f5, f6, j, rv⟩ := st_keep l G o D q E wc wm hI
  obtain ⟨v, rfl⟩ := rv
  obtain ⟨⟨d5, d6⟩, e5, e6⟩ := hI.hd
  refine J_aload_n 1599 1 dL_law_1599 rfl rfl ?_
  refine lc5 (rest := []) 1600 h5 rfl w_772 w_773 w_774 w_1 w_775 ok_X5_keep d5 e5 f5 rfl rfl (leb rfl) rfl dL_law_1600 (fun w5 hw5 => ?_)
  refine J_aload_n 1603 2 dL_law_1603 rfl rfl ?_
  refine lc6 (rest := [.int v]) 1604 h6 rfl w_1306 w_1307 w_1308 w_7 w_1309 ok_X6_keep d6 e6 f6 rfl rfl (leb rfl) rfl dL_law_1604 (fun w6 hw6 => ?_)
  refine J_icmp_eq (tgt := 1625) 1607 dL_law_1607 (by decide) (fun _ => ?_) (fun z_ => absurd rfl z_)
  exact lw_tail (j w5 w6 hw5 hw6) kk
set_option maxRecDepth 100000 in
set_option maxHeartbeats 4000000 in
theorem lw_c44 (hI : Inv G o D q E wc wm) (hi : i + 5 ≤ L) (hL : L ≤ 2560) (kk : ∀ wc' wm', Inv G o D q E wc' wm' → J l G (bdF G b L xs) code 4 "GooseArmsLaw" 18 (lvL b o q (i + 5)) [] (wF [wc', wm'])) : J l G (bdF G b L xs) code 4 "GooseArmsLaw" 1612 (lvL b o q i) [] (wF [wc, wm]) := by
  obtain ⟨r, P5, P6, h5, h6, f5, f6, j, rv⟩ := st_again l G o D q E wc wm hI
  obtain ⟨v, rfl⟩ := rv
  obtain ⟨⟨d5, d6⟩, e5, e6⟩ := hI.hd
  refine J_aload_n 1612 1 dL_law_1612 rfl rfl ?_
  refine lc5 (rest := []) 1613 h5 rfl w_776 w_777 w_778 w_1 w_779 ok_X5_again d5 e5 f5 rfl rfl (leb rfl) rfl dL_law_1613 (fun w5 hw5 => ?_)
  refine J_aload_n 1616 2 dL_law_1616 rfl rfl ?_
  refine lc6 (rest := [.int v]) 1617 h6 rfl w_1310 w_1311 w_1312 w_7 w_1313 ok_X6_again d6 e6 f6 rfl rfl (leb rfl) rfl dL_law_1617 (fun w6 hw6 => ?_)
  refine J_icmp_eq (tgt := 1625) 1620 dL_law_1620 (by decide) (fun _ => ?_) (fun z_ => absurd rfl z_)
  exact lw_tail (j w5 w6 hw5 hw6) kk
theorem lw_le {i : Nat} (hi : i ≤ 2564) (hL : L ≤ 2560) (h : ¬ (nI L - 5 < nI i)) : i + 5 ≤ L := by
  by_cases q_ : 5 ≤ L
  · have e_ : nI L - 5 = nI (L - 5) := by
      have e2_ : nI (L - 5) + 5 = nI (L - 5 + 5) := nI_add (L - 5) 5
      rw [show L - 5 + 5 = L by omega] at e2_
      rw [← e2_]
      generalize nI (L - 5) = y
      grind
    rw [e_] at h
    have := (nI_leI (a := i) (b := L - 5) (by omega) (by omega)).mp (Int32.not_lt.mp h)
    omega
  · exfalso
    refine h (Int32.lt_of_lt_of_le (b := 0) ?_ ((nI_leI (a := 0) (b := i) (by omega) (by omega)).mpr (Nat.zero_le _)))
    rcases (show L = 0 ∨ L = 1 ∨ L = 2 ∨ L = 3 ∨ L = 4 by omega) with rfl | rfl | rfl | rfl | rfl <;> decide
theorem lw_sw {x : Int32} (h : ∀ n : Nat, n < 45 → ¬ x = nI n) : x.toInt < 0 ∨ 44 < x.toInt := by
  by_cases q_ : 0 ≤ x ∧ x ≤ 44
  · obtain ⟨n, hn, e_⟩ := inC (m := 44) 45 (by decide) (by decide) q_
    exact absurd e_ (h n hn)
  · by_cases q2_ : x.toInt < 0
    · exact Or.inl q2_
    · refine Or.inr (Int.not_le.mp fun z_ => q_ ⟨Int32.le_iff_toInt_le.mpr ?_, Int32.le_iff_toInt_le.mpr ?_⟩)
      · rw [show (0 : Int32).toInt = 0 by decide]; omega
      · rw [show (44 : Int32).toInt = 44 by decide]; omega
set_option maxRecDepth 100000 in
set_option maxHeartbeats 8000000 in
theorem lw_loop (hL : L ≤ 2560) : ∀ (d i : Nat) (wc wm : va_W), L ≤ i + d → i ≤ 2564 → Inv G o D q E wc wm → J l G (bdF G b L xs) code 4 "GooseArmsLaw" 18 (lvL b o q i) [] (wF [wc, wm]) := by
  intro d
  induction d with
  | zero =>
    intro i wc wm hd hi hI
    refine J_iload_n 18 3 dL_law_18 rfl rfl ?_
    refine J_aload_n 19 0 dL_law_19 rfl rfl ?_
    refine J_sxlen 20 (fun _ _ h_ => h_.2) dL_law_20 ?_
    refine J_iconst (v := 5) 21 dL_law_21 rfl ?_
    refine J_isub 22 dL_law_22 ?_
    refine J_icmp_gt (tgt := 1631) 23 dL_law_23 (by decide) (fun _ => ?_) (fun h_ => absurd (lw_le hi hL h_) (by omega))
    refine J_iconst (v := 1) 1631 dL_law_1631 rfl ?_
    exact J_lwret (by decide) (by decide) 1632 dL_law_1632
  | succ d ih =>
    intro i wc wm hd hi hI
    refine J_iload_n 18 3 dL_law_18 rfl rfl ?_
    refine J_aload_n 19 0 dL_law_19 rfl rfl ?_
    refine J_sxlen 20 (fun _ _ h_ => h_.2) dL_law_20 ?_
    refine J_iconst (v := 5) 21 dL_law_21 rfl ?_
    refine J_isub 22 dL_law_22 ?_
    refine J_icmp_gt (tgt := 1631) 23 dL_law_23 (by decide) (fun _ => ?_) (fun h_ => ?_)
    · refine J_iconst (v := 1) 1631 dL_law_1631 rfl ?_
      exact J_lwret (by decide) (by decide) 1632 dL_law_1632
    have hi5 := lw_le hi hL h_
    have kk : ∀ wc' wm', Inv G o D q E wc' wm' → J l G (bdF G b L xs) code 4 "GooseArmsLaw" 18 (lvL b o q (i + 5)) [] (wF [wc', wm']) := fun wc' wm' hI' => ih (i + 5) wc' wm' (by omega) (by omega) hI'
    refine J_aload_n 26 0 dL_law_26 rfl rfl ?_
    refine J_iload_n 27 3 dL_law_27 rfl rfl ?_
    refine J_sld 28 i (fun _ _ h_ => h_.2) rfl (by omega) (by omega) dL_law_28 ?_
    refine J_bipush (v := 63) 29 dL_law_29 rfl ?_
    refine J_iand 31 dL_law_31 ?_
    by_cases q0_ : xs i &&& 63 = 0
    · exact J_tableIn (off := 196) (tgt := 228) 32 0 dL_law_32 q0_ (by decide) (by decide) (lw_c0 hI hi5 hL kk)
    by_cases q1_ : xs i &&& 63 = 1
    · exact J_tableIn (off := 259) (tgt := 291) 32 1 dL_law_32 q1_ (by decide) (by decide) (lw_c1 hI hi5 hL kk)
    by_cases q2_ : xs i &&& 63 = 2
    · exact J_tableIn (off := 272) (tgt := 304) 32 2 dL_law_32 q2_ (by decide) (by decide) (lw_c2 hI hi5 hL kk)
    by_cases q3_ : xs i &&& 63 = 3
    · exact J_tableIn (off := 305) (tgt := 337) 32 3 dL_law_32 q3_ (by decide) (by decide) (lw_c3 hI hi5 hL kk)
    by_cases q4_ : xs i &&& 63 = 4
    · exact J_tableIn (off := 328) (tgt := 360) 32 4 dL_law_32 q4_ (by decide) (by decide) (lw_c4 hI hi5 hL kk)
    by_cases q5_ : xs i &&& 63 = 5
    · exact J_tableIn (off := 371) (tgt := 403) 32 5 dL_law_32 q5_ (by decide) (by decide) (lw_c5 hI hi5 hL kk)
    by_cases q6_ : xs i &&& 63 = 6
    · exact J_tableIn (off := 404) (tgt := 436) 32 6 dL_law_32 q6_ (by decide) (by decide) (lw_c6 hI hi5 hL kk)
    by_cases q7_ : xs i &&& 63 = 7
    · exact J_tableIn (off := 447) (tgt := 479) 32 7 dL_law_32 q7_ (by decide) (by decide) (lw_c7 hI hi5 hL kk)
    by_cases q8_ : xs i &&& 63 = 8
    · exact J_tableIn (off := 490) (tgt := 522) 32 8 dL_law_32 q8_ (by decide) (by decide) (lw_c8 hI hi5 hL kk)
    by_cases q9_ : xs i &&& 63 = 9
    · exact J_tableIn (off := 523) (tgt := 555) 32 9 dL_law_32 q9_ (by decide) (by decide) (lw_c9 hI hi5 hL kk)
    by_cases q10_ : xs i &&& 63 = 10
    · exact J_tableIn (off := 556) (tgt := 588) 32 10 dL_law_32 q10_ (by decide) (by decide) (lw_c10 hI hi5 hL kk)
    by_cases q11_ : xs i &&& 63 = 11
    · exact J_tableIn (off := 599) (tgt := 631) 32 11 dL_law_32 q11_ (by decide) (by decide) (lw_c11 hI hi5 hL kk)
    by_cases q12_ : xs i &&& 63 = 12
    · exact J_tableIn (off := 632) (tgt := 664) 32 12 dL_law_32 q12_ (by decide) (by decide) (lw_c12 hI hi5 hL kk)
    by_cases q13_ : xs i &&& 63 = 13
    · exact J_tableIn (off := 655) (tgt := 687) 32 13 dL_law_32 q13_ (by decide) (by decide) (lw_c13 hI hi5 hL kk)
    by_cases q14_ : xs i &&& 63 = 14
    · exact J_tableIn (off := 668) (tgt := 700) 32 14 dL_law_32 q14_ (by decide) (by decide) (lw_c14 hI hi5 hL kk)
    by_cases q15_ : xs i &&& 63 = 15
    · exact J_tableIn (off := 691) (tgt := 723) 32 15 dL_law_32 q15_ (by decide) (by decide) (lw_c15 hI hi5 hL kk)
    by_cases q16_ : xs i &&& 63 = 16
    · exact J_tableIn (off := 704) (tgt := 736) 32 16 dL_law_32 q16_ (by decide) (by decide) (lw_c16 hI hi5 hL kk)
    by_cases q17_ : xs i &&& 63 = 17
    · exact J_tableIn (off := 727) (tgt := 759) 32 17 dL_law_32 q17_ (by decide) (by decide) (lw_c17 hI hi5 hL kk)
    by_cases q18_ : xs i &&& 63 = 18
    · exact J_tableIn (off := 750) (tgt := 782) 32 18 dL_law_32 q18_ (by decide) (by decide) (lw_c18 hI hi5 hL kk)
    by_cases q19_ : xs i &&& 63 = 19
    · exact J_tableIn (off := 783) (tgt := 815) 32 19 dL_law_32 q19_ (by decide) (by decide) (lw_c19 hI hi5 hL kk)
    by_cases q20_ : xs i &&& 63 = 20
    · exact J_tableIn (off := 806) (tgt := 838) 32 20 dL_law_32 q20_ (by decide) (by decide) (lw_c20 hI hi5 hL kk)
    by_cases q21_ : xs i &&& 63 = 21
    · exact J_tableIn (off := 829) (tgt := 861) 32 21 dL_law_32 q21_ (by decide) (by decide) (lw_c21 hI hi5 hL kk)
    by_cases q22_ : xs i &&& 63 = 22
    · exact J_tableIn (off := 852) (tgt := 884) 32 22 dL_law_32 q22_ (by decide) (by decide) (lw_c22 hI hi5 hL kk)
    by_cases q23_ : xs i &&& 63 = 23
    · exact J_tableIn (off := 885) (tgt := 917) 32 23 dL_law_32 q23_ (by decide) (by decide) (lw_c23 hI hi5 hL kk)
    by_cases q24_ : xs i &&& 63 = 24
    · exact J_tableIn (off := 908) (tgt := 940) 32 24 dL_law_32 q24_ (by decide) (by decide) (lw_c24 hI hi5 hL kk)
    by_cases q25_ : xs i &&& 63 = 25
    · exact J_tableIn (off := 931) (tgt := 963) 32 25 dL_law_32 q25_ (by decide) (by decide) (lw_c25 hI hi5 hL kk)
    by_cases q26_ : xs i &&& 63 = 26
    · exact J_tableIn (off := 954) (tgt := 986) 32 26 dL_law_32 q26_ (by decide) (by decide) (lw_c26 hI hi5 hL kk)
    by_cases q27_ : xs i &&& 63 = 27
    · exact J_tableIn (off := 967) (tgt := 999) 32 27 dL_law_32 q27_ (by decide) (by decide) (lw_c27 hI hi5 hL kk)
    by_cases q28_ : xs i &&& 63 = 28
    · exact J_tableIn (off := 1010) (tgt := 1042) 32 28 dL_law_32 q28_ (by decide) (by decide) (lw_c28 hI hi5 hL kk)
    by_cases q29_ : xs i &&& 63 = 29
    · exact J_tableIn (off := 1054) (tgt := 1086) 32 29 dL_law_32 q29_ (by decide) (by decide) (lw_c29 hI hi5 hL kk)
    by_cases q30_ : xs i &&& 63 = 30
    · exact J_tableIn (off := 1088) (tgt := 1120) 32 30 dL_law_32 q30_ (by decide) (by decide) (lw_c30 hI hi5 hL kk)
    by_cases q31_ : xs i &&& 63 = 31
    · exact J_tableIn (off := 1121) (tgt := 1153) 32 31 dL_law_32 q31_ (by decide) (by decide) (lw_c31 hI hi5 hL kk)
    by_cases q32_ : xs i &&& 63 = 32
    · exact J_tableIn (off := 1154) (tgt := 1186) 32 32 dL_law_32 q32_ (by decide) (by decide) (lw_c32 hI hi5 hL kk)
    by_cases q33_ : xs i &&& 63 = 33
    · exact J_tableIn (off := 1197) (tgt := 1229) 32 33 dL_law_32 q33_ (by decide) (by decide) (lw_c33 hI hi5 hL kk)
    by_cases q34_ : xs i &&& 63 = 34
    · exact J_tableIn (off := 1220) (tgt := 1252) 32 34 dL_law_32 q34_ (by decide) (by decide) (lw_c34 hI hi5 hL kk)
    by_cases q35_ : xs i &&& 63 = 35
    · exact J_tableIn (off := 1273) (tgt := 1305) 32 35 dL_law_32 q35_ (by decide) (by decide) (lw_c35 hI hi5 hL kk)
    by_cases q36_ : xs i &&& 63 = 36
    · exact J_tableIn (off := 1316) (tgt := 1348) 32 36 dL_law_32 q36_ (by decide) (by decide) (lw_c36 hI hi5 hL kk)
    by_cases q37_ : xs i &&& 63 = 37
    · exact J_tableIn (off := 1359) (tgt := 1391) 32 37 dL_law_32 q37_ (by decide) (by decide) (lw_c37 hI hi5 hL kk)
    by_cases q38_ : xs i &&& 63 = 38
    · exact J_tableIn (off := 1402) (tgt := 1434) 32 38 dL_law_32 q38_ (by decide) (by decide) (lw_c38 hI hi5 hL kk)
    by_cases q39_ : xs i &&& 63 = 39
    · exact J_tableIn (off := 1445) (tgt := 1477) 32 39 dL_law_32 q39_ (by decide) (by decide) (lw_c39 hI hi5 hL kk)
    by_cases q40_ : xs i &&& 63 = 40
    · exact J_tableIn (off := 1478) (tgt := 1510) 32 40 dL_law_32 q40_ (by decide) (by decide) (lw_c40 hI hi5 hL kk)
    by_cases q41_ : xs i &&& 63 = 41
    · exact J_tableIn (off := 1521) (tgt := 1553) 32 41 dL_law_32 q41_ (by decide) (by decide) (lw_c41 hI hi5 hL kk)
    by_cases q42_ : xs i &&& 63 = 42
    · exact J_tableIn (off := 1544) (tgt := 1576) 32 42 dL_law_32 q42_ (by decide) (by decide) (lw_c42 hI hi5 hL kk)
    by_cases q43_ : xs i &&& 63 = 43
    · exact J_tableIn (off := 1567) (tgt := 1599) 32 43 dL_law_32 q43_ (by decide) (by decide) (lw_c43 hI hi5 hL kk)
    by_cases q44_ : xs i &&& 63 = 44
    · exact J_tableIn (off := 1580) (tgt := 1612) 32 44 dL_law_32 q44_ (by decide) (by decide) (lw_c44 hI hi5 hL kk)
    refine J_tableOut (tgt := 1625) 32 dL_law_32 (lw_sw (fun n hn e_ => ?_)) (by decide) (lw_tail hI kk)
    rcases (show n = 0 ∨ n = 1 ∨ n = 2 ∨ n = 3 ∨ n = 4 ∨ n = 5 ∨ n = 6 ∨ n = 7 ∨ n = 8 ∨ n = 9 ∨ n = 10 ∨ n = 11 ∨ n = 12 ∨ n = 13 ∨ n = 14 ∨ n = 15 ∨ n = 16 ∨ n = 17 ∨ n = 18 ∨ n = 19 ∨ n = 20 ∨ n = 21 ∨ n = 22 ∨ n = 23 ∨ n = 24 ∨ n = 25 ∨ n = 26 ∨ n = 27 ∨ n = 28 ∨ n = 29 ∨ n = 30 ∨ n = 31 ∨ n = 32 ∨ n = 33 ∨ n = 34 ∨ n = 35 ∨ n = 36 ∨ n = 37 ∨ n = 38 ∨ n = 39 ∨ n = 40 ∨ n = 41 ∨ n = 42 ∨ n = 43 ∨ n = 44 by omega) with rfl | rfl | rfl | rfl | rfl | rfl | rfl | rfl | rfl | rfl | rfl | rfl | rfl | rfl | rfl | rfl | rfl | rfl | rfl | rfl | rfl | rfl | rfl | rfl | rfl | rfl | rfl | rfl | rfl | rfl | rfl | rfl | rfl | rfl | rfl | rfl | rfl | rfl | rfl | rfl | rfl | rfl | rfl | rfl | rfl
    · exact q0_ e_
    · exact q1_ e_
    · exact q2_ e_
    · exact q3_ e_
    · exact q4_ e_
    · exact q5_ e_
    · exact q6_ e_
    · exact q7_ e_
    · exact q8_ e_
    · exact q9_ e_
    · exact q10_ e_
    · exact q11_ e_
    · exact q12_ e_
    · exact q13_ e_
    · exact q14_ e_
    · exact q15_ e_
    · exact q16_ e_
    · exact q17_ e_
    · exact q18_ e_
    · exact q19_ e_
    · exact q20_ e_
    · exact q21_ e_
    · exact q22_ e_
    · exact q23_ e_
    · exact q24_ e_
    · exact q25_ e_
    · exact q26_ e_
    · exact q27_ e_
    · exact q28_ e_
    · exact q29_ e_
    · exact q30_ e_
    · exact q31_ e_
    · exact q32_ e_
    · exact q33_ e_
    · exact q34_ e_
    · exact q35_ e_
    · exact q36_ e_
    · exact q37_ e_
    · exact q38_ e_
    · exact q39_ e_
    · exact q40_ e_
    · exact q41_ e_
    · exact q42_ e_
    · exact q43_ e_
    · exact q44_ e_
end LWC
