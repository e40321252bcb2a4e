/-! Ct: a method's contract: from these arguments and this world it returns this answer and leaves this world; nothing is made. Rows that return, rows that call. -/
def lvl (k : Nat) : Room := { frames := k, cells := 0, slots := 0, locals := 40 * k }
def CtPc (G : Gd) (av : List Value) (w0 : va_W) (sz : Nat) : Array Value → State → Prop :=
  va_Pc av (fun U => U.heap.size = sz ∧ va_P G.1 vwCl w0 U.heap ∧ va_K G.1 vwCl (gT G) U ∧ va_D (va_A w0 sz) w0 ∧ gG G (va_A w0 sz) U U.heap)
def CtQc (G : Gd) (w0 w1 : va_W) (r : Option Value) (sz : Nat) : Array Value → State → Outcome → State → Prop :=
  fun _ st oc t => oc = .returned r ∧ va_P G.1 vwCl w1 t.heap ∧ va_F (va_A w0 sz) st t
def Ct (l : Launch) (G : Gd) (y : MethodName) (cc : ByteArray) (nL : Nat) (ret : Option FieldType) (k : Nat) (av : List Value) (w0 : va_W) (r : Option Value) (w1 : va_W) : Prop :=
  ∀ sz : Nat, Met l y (.code y cc nL ret :: TB) (lvl k) (CtPc G av w0 sz) (CtQc G w0 w1 r sz) 0 0 (va_A w0 sz)
abbrev bd (G : Gd) (k : Nat) (ret : Option FieldType) (r : Option Value) (w1 : va_W) : Bd :=
  (lvl k, 0, 0, ret, (fun _ _ => True), fun A args s below => MQ below (fun _ st oc t => oc = .returned r ∧ va_P G.1 vwCl w1 t.heap ∧ va_F A st t) args s 0 0 A)
theorem Ct.of {l : Launch} {G : Gd} {y : MethodName} {cc : ByteArray} {nL : Nat} {ret : Option FieldType} {k : Nat} {av : List Value} {w0 : va_W} {r : Option Value} {w1 : va_W} (own : String) (lv : List (Option Value)) (hy : plainName y.cls = true) (ho : y.cls = own) (hn : (lg_sl av).length ≤ nL) (hlv : prs lv = lv_args 0 av)
    (h : J l G (bd G k ret r w1) cc nL own 0 lv [] w0) : Ct l G y cc nL ret k av w0 r w1 := by
  intro sz
  refine Met.ofW (cc := cc) (maxL := nL) (ret := ret) hy rfl ?_
  intro p e s m args below meth c s₁ B hml hv
  obtain ⟨rfl, hsz, hP, hK, hD, hG⟩ := hv
  subst hsz
  have hts := atoms_spec (ws := .code y cc nL ret :: TB) B.pre
  have hown : s.vm.findClass own = some m.cls := by rw [← ho]; exact findClass_of_methodNamed B.named
  have hl := lv_entry av (n := nL) hn
  rw [lg_entry_eq]
  refine h p e s m av.toArray below meth c (va_A w0 s.heap.size) s.heap [] _ ⟨B.exec, B.bytes, hml, fun w hw => hts w (List.mem_cons_of_mem _ hw), hown, B.returns, B.notSynchronized, hK, fun q hq => Or.inr hq, hG, trivial⟩ hP hD va_S.rf ?_
  show lv_has _ nL (prs lv)
  rw [hlv]
  exact hl
section JC1
variable {l : Launch} {G : Gd} {k : Nat} {ret : Option FieldType} {r1 : Option Value} {w1 : va_W} {cc : ByteArray} {nL : Nat} {own : String} {lv : List (Option Value)} {ws : va_W}
theorem J_iret (pc : Nat) {v : Int32} (hdg : decode cc pc = .ok (.ireturn, 1)) (hr : some (.int v) = r1) (hw : ws = w1) : J l G (bd G k (some .int) r1 w1) cc nL own pc lv [.int v] ws := by
  intro p e s m args below meth c A H locs ls C hP hD hS hl
  subst hr; subst hw
  exact W.iret (Qc := fun _ st oc t => oc = .returned (some (.int v)) ∧ va_P G.1 vwCl ws t.heap ∧ va_F A st t) (free := A) (cells := 0) (slots := 0) C.1 C.2.1 C.2.2.2.2.2.1 (fun t ht hW => ⟨rfl, by rw [ht]; exact hP, hS.F ht⟩) hS.2.2 hdg C.2.2.2.2.2.2.1
theorem J_zret (pc : Nat) {v : Int32} {ty : FieldType} (hn : narrow ty (.int v) = .int v) (hdg : decode cc pc = .ok (.ireturn, 1)) (hr : some (.int v) = r1) (hw : ws = w1) : J l G (bd G k (some ty) r1 w1) cc nL own pc lv [.int v] ws := by
  intro p e s m args below meth c A H locs ls C hP hD hS hl
  subst hr; subst hw
  exact W.zret (Qc := fun _ st oc t => oc = .returned (some (.int v)) ∧ va_P G.1 vwCl ws t.heap ∧ va_F A st t) (free := A) (cells := 0) (slots := 0) C.1 C.2.1 C.2.2.2.2.2.1 hn (fun t ht hW => ⟨rfl, by rw [ht]; exact hP, hS.F ht⟩) hS.2.2 hdg C.2.2.2.2.2.2.1
theorem J_lret (pc : Nat) {v : Int64} (hdg : decode cc pc = .ok (.lreturn, 1)) (hr : some (.long v) = r1) (hw : ws = w1) : J l G (bd G k (some .long) r1 w1) cc nL own pc lv [.long v] ws := by
  intro p e s m args below meth c A H locs ls C hP hD hS hl
  subst hr; subst hw
  exact W.lret (Qc := fun _ st oc t => oc = .returned (some (.long v)) ∧ va_P G.1 vwCl ws t.heap ∧ va_F A st t) (free := A) (cells := 0) (slots := 0) C.1 C.2.1 C.2.2.2.2.2.1 (fun t ht hW => ⟨rfl, by rw [ht]; exact hP, hS.F ht⟩) hS.2.2 hdg C.2.2.2.2.2.2.1
theorem J_aret (pc : Nat) {a : Nat} {n : String} (hdg : decode cc pc = .ok (.areturn, 1)) (hr : some (.ref a) = r1) (hw : ws = w1) : J l G (bd G k (some (.object n)) r1 w1) cc nL own pc lv [.ref a] ws := by
  intro p e s m args below meth c A H locs ls C hP hD hS hl
  subst hr; subst hw
  exact W.aret (Qc := fun _ st oc t => oc = .returned (some (.ref a)) ∧ va_P G.1 vwCl ws t.heap ∧ va_F A st t) (free := A) (cells := 0) (slots := 0) C.1 C.2.1 C.2.2.2.2.2.1 (Or.inl ⟨_, rfl⟩) (Or.inr ⟨_, rfl⟩) (fun t ht hW => ⟨rfl, by rw [ht]; exact hP, hS.F ht⟩) hS.2.2 hdg C.2.2.2.2.2.2.1
theorem J_vret (pc : Nat) (hdg : decode cc pc = .ok (.return_, 1)) (hr : none = r1) (hw : ws = w1) : J l G (bd G k none r1 w1) cc nL own pc lv [] ws := by
  intro p e s m args below meth c A H locs ls C hP hD hS hl
  subst hr; subst hw
  exact W.vret (Qc := fun _ st oc t => oc = .returned none ∧ va_P G.1 vwCl ws t.heap ∧ va_F A st t) (free := A) (cells := 0) (slots := 0) C.1 C.2.1 C.2.2.2.2.2.1 (fun t ht hW => ⟨rfl, by rw [ht]; exact hP, hS.F ht⟩) hS.2.2 hdg C.2.2.2.2.2.2.1
end JC1
/-- cells put in at places -/
def upds : va_W → List Nat → va_W → va_W
  | ws, i :: is, e :: es => upds (ws.set i e) is es
  | ws, _, _ => ws
theorem upds_at (k_ : Nat) (q_ : Nat × va_E) : ∀ (is_ : List Nat) (w_ : va_W) (ws_ : va_W), (upds ws_ is_ w_)[k_]? = some q_ → (∃ j : Nat, is_[j]? = some k_ ∧ w_[j]? = some q_) ∨ ((∀ j : Nat, j < w_.length → ¬ is_[j]? = some k_) ∧ ws_[k_]? = some q_) := by
  intro is_
  induction is_ with
  | nil => intro w_ ws_ h_; exact Or.inr ⟨fun j _ z_ => by simp at z_, by cases w_ <;> exact h_⟩
  | cons i_ is_ ih_ =>
    intro w_ ws_ h_
    cases w_ with
    | nil => exact Or.inr ⟨fun j hj_ => by simp at hj_, h_⟩
    | cons e_ es_ =>
      rcases ih_ es_ (ws_.set i_ e_) h_ with ⟨j, h1_, h2_⟩ | ⟨h1_, h2_⟩
      · exact Or.inl ⟨j + 1, by simpa using h1_, by simpa using h2_⟩
      · by_cases hk_ : i_ = k_
        · subst hk_
          by_cases hl_ : i_ < ws_.length
          · rw [List.getElem?_set_self hl_] at h2_
            cases h2_
            exact Or.inl ⟨0, by simp, by simp⟩
          · have h3_ := (List.getElem?_eq_some_iff.mp h2_).1
            simp at h3_
            exact absurd h3_ hl_
        · rw [List.getElem?_set_ne hk_] at h2_
          refine Or.inr ⟨fun j hj_ => ?_, h2_⟩
          cases j with
          | zero => simpa using hk_
          | succ j => simpa using h1_ j (by simpa using hj_)
theorem va_D.same {A : Nat → Prop} {ws ws' : va_W} (h : ws'.map Prod.fst = ws.map Prod.fst) (hD : va_D A ws) : va_D A ws' := by
  have key : ∀ (k : Nat) (q : Nat × va_E), ws'[k]? = some q → ∃ q0, ws[k]? = some q0 ∧ q0.1 = q.1 := by
    intro k q hk
    have e : (ws'.map Prod.fst)[k]? = some q.1 := by rw [List.getElem?_map, hk]; rfl
    rw [h, List.getElem?_map] at e
    cases hw : ws[k]? with
    | none => rw [hw] at e; cases e
    | some q0 => rw [hw] at e; exact ⟨q0, rfl, Option.some.inj e⟩
  refine ⟨fun i j x y hi hj hxy => ?_, fun k q hk => ?_⟩
  · obtain ⟨x0, h1, h2⟩ := key i x hi
    obtain ⟨y0, h3, h4⟩ := key j y hj
    exact hD.1 i j x0 y0 h1 h3 (h2.trans (hxy.trans h4.symm))
  · obtain ⟨q0, h1, h2⟩ := key k q hk
    rw [← h2]
    exact hD.2 k q0 h1
theorem fst_at {w0 w1 : va_W} (h : w1.map Prod.fst = w0.map Prod.fst) {j : Nat} {q : Nat × va_E} (hq : w1[j]? = some q) : ∃ q0, w0[j]? = some q0 ∧ q0.1 = q.1 := by
  have e : (w1.map Prod.fst)[j]? = some q.1 := by rw [List.getElem?_map, hq]; rfl
  rw [h, List.getElem?_map] at e
  cases hw : w0[j]? with
  | none => rw [hw] at e; cases e
  | some q0 => rw [hw] at e; exact ⟨q0, rfl, Option.some.inj e⟩
theorem pick_at {ws w0 : va_W} {is : List Nat} (h : is.map (fun i => ws[i]?) = w0.map some) {j : Nat} {q : Nat × va_E} (hq : w0[j]? = some q) : ∃ i, is[j]? = some i ∧ ws[i]? = some q := by
  have h1 : (is.map (fun i => ws[i]?))[j]? = some (some q) := by rw [h, List.getElem?_map, hq]; rfl
  rw [List.getElem?_map] at h1
  cases hi : is[j]? with
  | none => rw [hi] at h1; cases h1
  | some i => rw [hi] at h1; exact ⟨i, rfl, Option.some.inj h1⟩
/-- behind a call -/
theorem ct_after {G : Gd} {A : Nat → Prop} {ws w0 w1 ws' : va_W} {is : List Nat} {H0 H H1 : Heap} {locs : List Loc} (hP : va_P G.1 vwCl ws H) (hD : va_D A ws) (hS : va_S A H0 H locs) (hA : ∀ q, H0.size ≤ q → A q) (h0 : is.map (fun i => ws[i]?) = w0.map some) (hf : w1.map Prod.fst = w0.map Prod.fst) (hw : upds ws is w1 = ws')
    (hP1 : va_P G.1 vwCl w1 H1) (hz : H.size ≤ H1.size) (hk : ∀ q : Nat, q < H.size → ¬ va_A w0 H.size q → H1[q]? = H[q]?) : va_P G.1 vwCl ws' H1 ∧ va_S A H0 H1 locs := by
  have hfree := va_free (wc := w0) hD hS hA is h0
  have hlen : w0.length = w1.length := by have := congrArg List.length hf; simpa using this.symm
  refine ⟨fun k q hq => ?_, Nat.le_trans hS.1 hz, fun q h1 h2 => by rw [hk q (Nat.lt_of_lt_of_le h1 hS.1) (fun z => h2 (hfree q z))]; exact hS.2.1 q h1 h2, hS.2.2⟩
  rw [← hw] at hq
  rcases upds_at k q is w1 ws hq with ⟨j, -, h2⟩ | ⟨h1, h2⟩
  · exact hP1 j q h2
  · refine (hP k q h2).kept (hk q.1 (hP k q h2).lt (fun z => ?_))
    rcases z with ⟨j, e, z⟩ | z
    · obtain ⟨i, g1, g2⟩ := pick_at h0 z
      have hki := hD.1 k i q (q.1, e) h2 g2 rfl
      exact h1 j (by rw [← hlen]; exact (List.getElem?_eq_some_iff.mp z).1) (by rw [hki]; exact g1)
    · exact absurd (hP k q h2).lt (Nat.not_lt.mpr z)
theorem ct_blind {G : Gd} {av : List Value} {w0 : va_W} {sz : Nat} : FrameBlind (CtPc G av w0 sz) := by
  intro a U g mk h
  obtain ⟨h1, h2, h3, h4, h5, h6⟩ := h
  exact ⟨h1, h2, h3, va_K.moved (u := U) (U := U.calling g mk a) (Vm.Alike.refl U.vm) h4, h5, gG.same (u := U) (U := U.calling g mk a) rfl h6⟩
theorem ct_before {G : Gd} {A : Nat → Prop} {s : State} {av : List Value} {ws w0 : va_W} {is : List Nat} {H : Heap} {locs : List Loc} (hP : va_P G.1 vwCl ws H) (hD : va_D A ws) (hS : va_S A s.heap H locs) (hA : ∀ q, s.heap.size ≤ q → A q) (hK : va_K G.1 vwCl (gT G) s) (hG : gG G A s s.heap) (h0 : is.map (fun i => ws[i]?) = w0.map some) (hn : va_nd is = true) : ∀ U : State, U.heap = H → s.WarmedH U.vm → CtPc G av w0 H.size av.toArray U := by
  intro U hU hW
  have hfree := va_free (wc := w0) hD hS hA is h0
  have hP0_ : va_P G.1 vwCl w0 H := by
    intro j_ q_ hq_
    obtain ⟨i_, g1_, g2_⟩ := pick_at h0 hq_
    exact hP i_ q_ g2_
  refine ⟨rfl, by rw [hU], by rw [hU]; exact hP0_, va_K.moved hW.alike hK, (hD.sub is hn h0).self, ?_⟩
  · rw [hU]
    exact ((hG.kept (H1 := H) (fun a h1 h2 => hS.2.1 a h1 h2)).narrow hfree).warm hW
/-- the run of a call, and what comes behind it -/
theorem ct_go {p : Program} {l : Launch} {e : Env} {R : Room} {s : State} {m : MethodId} {args : Array Value} {below : List Frame} {meth : Method} {c : Code} {H : Heap} {locs : List Loc} {cells slots : Nat} {Q : State → Prop} {pc : Nat} {ls : Array Slot} {st0 rest : List Value} {a : Array Value}
    {G : Gd} {A : Nat → Prop} {ws w0 w1 ws' : va_W} {is : List Nat} {r : Option Value} (hr : va_Run p l e R s m args below meth c H locs cells slots 0 0 (F0 m pc ls st0) rest (CtQc G w0 w1 r H.size a) (va_A w0 H.size))
    (hP : va_P G.1 vwCl ws H) (hD : va_D A ws) (hS : va_S A s.heap H locs) (hA : ∀ q, s.heap.size ≤ q → A q) (h0 : is.map (fun i => ws[i]?) = w0.map some) (hf : w1.map Prod.fst = w0.map Prod.fst) (hf' : ws'.map Prod.fst = ws.map Prod.fst) (hw : upds ws is w1 = ws')
    (kk : ∀ (H1 : Heap) (locs1 : List Loc), va_P G.1 vwCl ws' H1 → va_D A ws' → va_S A s.heap H1 locs1 → W p l e R s m args below meth c H1 locs1 cells slots Q (F0 m (pc + 3) ls (r.toList ++ rest))) : W p l e R s m args below meth c H locs cells slots Q (F0 m pc ls st0) := by
  intro T hT X
  obtain ⟨v, st₀, t, T', L, g0, X', hL, e1, e2, ⟨hv, hp, hz, hk⟩, st⟩ := hr T hT X
  cases hv
  rw [g0] at hz hk
  obtain ⟨hP1, hS1⟩ := ct_after (H1 := T'.heap) hP hD hS hA h0 hf hw (by rw [e1]; exact hp) (by rw [e1]; exact hz) (fun q h1 h2 => by rw [e1]; exact hk q h1 h2)
  have hfree := va_free (wc := w0) hD hS hA is h0
  obtain ⟨t2, a1, b1⟩ := kk T'.heap (locs ++ L) hP1 (hD.same hf') ⟨hS1.1, hS1.2.1, fun q hq => by
    rcases List.mem_append.mp hq with h | h
    · exact hS.2.2 q h
    · exact hfree _ (hL q h)⟩ T' rfl X'
  exact ⟨t2, st t2 a1, b1⟩
theorem ct_pay {args : Array Value} {s : State} (ht : ∀ w ∈ TB, w.before args s = true) {y : MethodName} {cc : ByteArray} {nL : Nat} {ret : Option FieldType} (hc : Cond.code y cc nL ret ∈ TB) : GoodIn TB (.code y cc nL ret :: TB) := by
  intro w hw
  rcases List.mem_cons.mp hw with rfl | hw
  · exact ⟨hc, good_of_word (tb_in hc).2⟩
  · exact ⟨hw, good_of_word (tb_in hw).2⟩
/-- a callee's name is plain, and how many it takes -/
def okY (y : MethodName) (n : Nat) : Prop := y.cls ≠ "java/lang/invoke/MethodHandle" ∧ y.cls ≠ "java/lang/invoke/VarHandle" ∧ (parseMethodDescriptor y.desc).map (fun d => d.parameters.length) = some n
section JC2
variable {l : Launch} {G : Gd} {B : Bd} {cc : ByteArray} {nL : Nat} {own : String} {lv : List (Option Value)} {st rest : List Value} {ws w0 w1 ws' : va_W}
theorem fit_R {k maxL : Nat} (hf : fitR B k maxL = true) : ((lvl k).frames + 1 ≤ B.1.frames ∧ 8 + (maxL + 11) + (lvl k).locals ≤ B.1.locals) ∧ B.2.1 + 0 ≤ B.1.cells ∧ B.2.2.1 + 0 ≤ B.1.slots := by
  simp only [fitR, Bool.and_eq_true, Nat.ble_eq] at hf
  obtain ⟨⟨⟨h1, h2⟩, h3⟩, h4⟩ := hf
  exact ⟨⟨h1, by show 8 + (maxL + 11) + 40 * k ≤ _; omega⟩, h3, h4⟩
theorem J_callV (pc : Nat) {y : MethodName} {bytes : ByteArray} {maxL : Nat} {ret : Option FieldType} {k n index : Nat} {b : Nat} {As : List Value} {r : Option Value} (hC : Ct l G y bytes maxL ret k (.ref b :: As) w0 r w1) (hlink : Cond.methodLink own index y ∈ TB) (hin : Cond.instanceMethod y ∈ TB) (hsel : Cond.selects y.cls y y ∈ TB) (hini : Cond.initialized y.cls ∈ TB) (hcode : Cond.code y bytes maxL ret ∈ TB) (hy : okY y n)
    (is : List Nat) (qr ci : Nat) {T : u_T} {N : Nat} (hci : vwCl[ci]? = some (y.cls, T, N)) {fs : List Value} (hb : ws[qr]? = some (b, .inr (ci, fs))) (h0 : is.map (fun i => ws[i]?) = w0.map some) (hnd : va_nd is = true) (hf : w1.map Prod.fst = w0.map Prod.fst) (hw : upds ws is w1 = ws') (hf' : ws'.map Prod.fst = ws.map Prod.fst) (hn : As.length = n) (hst : st = As.reverse ++ .ref b :: rest) (hrm : (rest.map fun v => v.category).sum ≤ 8) (hfit : fitR B k maxL = true) (hdg : decode cc pc = .ok (.invokevirtual index, 3))
    (kk : J l G B cc nL own (pc + 3) lv (r.toList ++ rest) ws') : J l G B cc nL own pc lv st ws := by
  intro p e s m args below meth c A H locs ls C hP hD hS hl
  obtain ⟨hR, hcl, hsl⟩ := fit_R hfit
  have ht := C.2.2.2.1
  have hcb : CallB B.1 s args own index y bytes maxL ret (.code y bytes maxL ret :: TB) (lvl k) 0 0 n := callB_of n ht (ct_pay ht hcode) rfl rfl rfl (ht _ hini) (ht _ hlink) hy hR
  refine ct_go (va_runV (y := y) (C := y.cls) (As := As) (rest := rest) ⟨C.1, C.2.1, C.2.2.1, C.2.2.2.2.1, ht⟩ (hC H.size) ⟨hcb, ht _ hin, ht _ hsel⟩ ⟨ct_blind, va_recv C.2.2.2.2.2.2.2.1 hP hci hb, ct_before hP hD hS C.2.2.2.2.2.2.2.2.1 C.2.2.2.2.2.2.2.1 C.2.2.2.2.2.2.2.2.2.1 h0 hnd⟩ rfl hn hl.1 hst (lv_room hrm) hdg ⟨hcl, hsl⟩) hP hD hS C.2.2.2.2.2.2.2.2.1 h0 hf hf' hw (fun H1 locs1 hP1 hD1 hS1 => kk p e s m args below meth c A H1 locs1 ls C hP1 hD1 hS1 hl)
theorem J_callS (pc : Nat) {y : MethodName} {bytes : ByteArray} {maxL : Nat} {ret : Option FieldType} {k n index : Nat} {As : List Value} {r : Option Value} (hC : Ct l G y bytes maxL ret k As w0 r w1) (hlink : Cond.methodLink own index y ∈ TB) (hstat : Cond.static y ∈ TB) (hini : Cond.initialized y.cls ∈ TB) (hcode : Cond.code y bytes maxL ret ∈ TB) (hy : okY y n)
    (is : List Nat) (h0 : is.map (fun i => ws[i]?) = w0.map some) (hnd : va_nd is = true) (hf : w1.map Prod.fst = w0.map Prod.fst) (hw : upds ws is w1 = ws') (hf' : ws'.map Prod.fst = ws.map Prod.fst) (hn : As.length = n) (hst : st = As.reverse ++ rest) (hrm : (rest.map fun v => v.category).sum ≤ 8) (hfit : fitR B k maxL = true) (hdg : decode cc pc = .ok (.invokestatic index, 3))
    (kk : J l G B cc nL own (pc + 3) lv (r.toList ++ rest) ws') : J l G B cc nL own pc lv st ws := by
  intro p e s m args below meth c A H locs ls C hP hD hS hl
  obtain ⟨hR, hcl, hsl⟩ := fit_R hfit
  have ht := C.2.2.2.1
  have hcb : CallB B.1 s args own index y bytes maxL ret (.code y bytes maxL ret :: TB) (lvl k) 0 0 n := callB_of n ht (ct_pay ht hcode) rfl rfl rfl (ht _ hini) (ht _ hlink) hy hR
  refine ct_go (va_runS (y := y) (As := As) (rest := rest) ⟨C.1, C.2.1, C.2.2.1, C.2.2.2.2.1, ht⟩ (hC H.size) ⟨hcb, ht _ hstat⟩ ⟨ct_blind, ct_before hP hD hS C.2.2.2.2.2.2.2.2.1 C.2.2.2.2.2.2.2.1 C.2.2.2.2.2.2.2.2.2.1 h0 hnd⟩ rfl hn hl.1 hst (lv_room hrm) hdg ⟨hcl, hsl⟩) hP hD hS C.2.2.2.2.2.2.2.2.1 h0 hf hf' hw (fun H1 locs1 hP1 hD1 hS1 => kk p e s m args below meth c A H1 locs1 ls C hP1 hD1 hS1 hl)
theorem J_callSN (pc : Nat) {y : MethodName} {bytes : ByteArray} {maxL : Nat} {ret : Option FieldType} {k n index : Nat} {As : List Value} {r : Option Value} {host : String} (hC : Ct l G y bytes maxL ret k As w0 r w1) (hlink : ∀ (A : Nat → Prop) (U : State) (H : Heap), gG G A U H → va_Nw (.methodLinkNest own index y host) U) (hstat : Cond.static y ∈ TB) (hini : Cond.initialized y.cls ∈ TB) (hcode : Cond.code y bytes maxL ret ∈ TB) (hy : okY y n)
    (is : List Nat) (h0 : is.map (fun i => ws[i]?) = w0.map some) (hnd : va_nd is = true) (hf : w1.map Prod.fst = w0.map Prod.fst) (hw : upds ws is w1 = ws') (hf' : ws'.map Prod.fst = ws.map Prod.fst) (hn : As.length = n) (hst : st = As.reverse ++ rest) (hrm : (rest.map fun v => v.category).sum ≤ 8) (hfit : fitR B k maxL = true) (hdg : decode cc pc = .ok (.invokestatic index, 3))
    (kk : J l G B cc nL own (pc + 3) lv (r.toList ++ rest) ws') : J l G B cc nL own pc lv st ws := by
  intro p e s m args below meth c A H locs ls C hP hD hS hl
  obtain ⟨hR, hcl, hsl⟩ := fit_R hfit
  have ht := C.2.2.2.1
  have hcn : va_CN B.1 s args own index y host bytes maxL ret (.code y bytes maxL ret :: TB) (lvl k) 0 0 n := va_cnB n ht (ct_pay ht hcode) rfl rfl rfl (hlink _ _ _ C.2.2.2.2.2.2.2.2.2.1) (ht _ hini) hy hR
  refine ct_go (va_runSN (y := y) (As := As) (rest := rest) ⟨C.1, C.2.1, C.2.2.1, C.2.2.2.2.1, ht⟩ (hC H.size) ⟨hcn, ht _ hstat, trivial⟩ ⟨ct_blind, ct_before hP hD hS C.2.2.2.2.2.2.2.2.1 C.2.2.2.2.2.2.2.1 C.2.2.2.2.2.2.2.2.2.1 h0 hnd⟩ rfl hn hl.1 hst (lv_room hrm) hdg ⟨hcl, hsl⟩) hP hD hS C.2.2.2.2.2.2.2.2.1 h0 hf hf' hw (fun H1 locs1 hP1 hD1 hS1 => kk p e s m args below meth c A H1 locs1 ls C hP1 hD1 hS1 hl)
end JC2
