/-! CtP: as Ct, but of the world behind it only a property is told -/
def CtQP (G : Gd) (w0 : va_W) (P : va_W → Prop) (r : Option Value) (sz : Nat) : Array Value → State → Outcome → State → Prop :=
  fun _ st oc t => oc = .returned r ∧ (∃ w1, P w1 ∧ va_P G.1 vwCl w1 t.heap) ∧ va_F (va_A w0 sz) st t
def CtP (l : Launch) (G : Gd) (y : MethodName) (cc : ByteArray) (nL : Nat) (ret : Option FieldType) (k : Nat) (av : List Value) (w0 : va_W) (r : Option Value) (P : va_W → Prop) : Prop :=
  ∀ sz : Nat, Met l y (.code y cc nL ret :: TB) (lvl k) (CtPc G av w0 sz) (CtQP G w0 P r sz) 0 0 (va_A w0 sz)
abbrev bdP (G : Gd) (k : Nat) (ret : Option FieldType) (r : Option Value) (P : va_W → Prop) : Bd :=
  (lvl k, 0, 0, ret, (fun _ _ => True), fun A args s below => MQ below (fun _ st oc t => oc = .returned r ∧ (∃ w1, P w1 ∧ va_P G.1 vwCl w1 t.heap) ∧ va_F A st t) args s 0 0 A)
theorem CtP.of {l : Launch} {G : Gd} {y : MethodName} {cc : ByteArray} {nL : Nat} {ret : Option FieldType} {k : Nat} {av : List Value} {w0 : va_W} {r : Option Value} {P : va_W → Prop} (own : String) (lv : List (Option Value)) (hy : plainName y.cls = true) (ho : y.cls = own) (hn : (lg_sl av).length ≤ nL) (hlv : prs lv = lv_args 0 av)
    (h : J l G (bdP G k ret r P) cc nL own 0 lv [] w0) : CtP l G y cc nL ret k av w0 r P := by
  intro sz
  refine Met.ofW (cc := cc) (maxL := nL) (ret := ret) hy rfl ?_
  intro p e s m args below meth c s₁ B hml hv
  obtain ⟨rfl, hsz, hP, hK, hD, hG⟩ := hv
  subst hsz
  have hts := atoms_spec (ws := .code y cc nL ret :: TB) B.pre
  have hown : s.vm.findClass own = some m.cls := by rw [← ho]; exact findClass_of_methodNamed B.named
  have hl := lv_entry av (n := nL) hn
  rw [lg_entry_eq]
  refine h p e s m av.toArray below meth c (va_A w0 s.heap.size) s.heap [] _ ⟨B.exec, B.bytes, hml, fun w hw => hts w (List.mem_cons_of_mem _ hw), hown, B.returns, B.notSynchronized, hK, fun q hq => Or.inr hq, hG, trivial⟩ hP hD va_S.rf ?_
  show lv_has _ nL (prs lv)
  rw [hlv]
  exact hl
section JP1
variable {l : Launch} {G : Gd} {k : Nat} {ret : Option FieldType} {r1 : Option Value} {P : va_W → Prop} {cc : ByteArray} {nL : Nat} {own : String} {lv : List (Option Value)} {ws : va_W}
theorem J_iretP (pc : Nat) {v : Int32} (hdg : decode cc pc = .ok (.ireturn, 1)) (hr : some (.int v) = r1) (hw : P ws) : J l G (bdP G k (some .int) r1 P) cc nL own pc lv [.int v] ws := by
  intro p e s m args below meth c A H locs ls C hP hD hS hl
  subst hr
  exact W.iret (Qc := fun _ st oc t => oc = .returned (some (.int v)) ∧ (∃ w1, P w1 ∧ va_P G.1 vwCl w1 t.heap) ∧ va_F A st t) (free := A) (cells := 0) (slots := 0) C.1 C.2.1 C.2.2.2.2.2.1 (fun t ht hW => ⟨rfl, ⟨ws, hw, by rw [ht]; exact hP⟩, hS.F ht⟩) hS.2.2 hdg C.2.2.2.2.2.2.1
theorem J_zretP (pc : Nat) {v : Int32} {ty : FieldType} (hn : narrow ty (.int v) = .int v) (hdg : decode cc pc = .ok (.ireturn, 1)) (hr : some (.int v) = r1) (hw : P ws) : J l G (bdP G k (some ty) r1 P) cc nL own pc lv [.int v] ws := by
  intro p e s m args below meth c A H locs ls C hP hD hS hl
  subst hr
  exact W.zret (Qc := fun _ st oc t => oc = .returned (some (.int v)) ∧ (∃ w1, P w1 ∧ va_P G.1 vwCl w1 t.heap) ∧ va_F A st t) (free := A) (cells := 0) (slots := 0) C.1 C.2.1 C.2.2.2.2.2.1 hn (fun t ht hW => ⟨rfl, ⟨ws, hw, by rw [ht]; exact hP⟩, hS.F ht⟩) hS.2.2 hdg C.2.2.2.2.2.2.1
theorem J_vretP (pc : Nat) (hdg : decode cc pc = .ok (.return_, 1)) (hr : none = r1) (hw : P ws) : J l G (bdP G k none r1 P) cc nL own pc lv [] ws := by
  intro p e s m args below meth c A H locs ls C hP hD hS hl
  subst hr
  exact W.vret (Qc := fun _ st oc t => oc = .returned none ∧ (∃ w1, P w1 ∧ va_P G.1 vwCl w1 t.heap) ∧ va_F A st t) (free := A) (cells := 0) (slots := 0) C.1 C.2.1 C.2.2.2.2.2.1 (fun t ht hW => ⟨rfl, ⟨ws, hw, by rw [ht]; exact hP⟩, hS.F ht⟩) hS.2.2 hdg C.2.2.2.2.2.2.1
end JP1
theorem Ct.P {l : Launch} {G : Gd} {y : MethodName} {cc : ByteArray} {nL : Nat} {ret : Option FieldType} {k : Nat} {av : List Value} {w0 w1 : va_W} {r : Option Value} (h_ : Ct l G y cc nL ret k av w0 r w1) : CtP l G y cc nL ret k av w0 r (fun w_ => w_ = w1) := by
  intro sz p e a1 a2 a3 s m args below a4 a5 a6 a7
  obtain ⟨t_, o_, b1_, b2_, b3_, b4_, b5_⟩ := h_ sz p e a1 a2 a3 s m args below a4 a5 a6 a7
  exact ⟨t_, o_, b1_, b2_, b3_, ⟨b4_.1, ⟨w1, rfl, b4_.2.1⟩, b4_.2.2⟩, b5_⟩
theorem ct_goP {p : Program} {l : Launch} {e : Env} {R : Room} {s : State} {m : MethodId} {args : Array Value} {below : List Frame} {meth : Method} {c : Code} {H : Heap} {locs : List Loc} {cells slots : Nat} {Q : State → Prop} {pc : Nat} {ls : Array Slot} {st0 rest : List Value} {a : Array Value}
    {G : Gd} {A : Nat → Prop} {ws w0 : va_W} {P : va_W → Prop} {is as : List Nat} {r : Option Value} (hr : va_Run p l e R s m args below meth c H locs cells slots 0 0 (F0 m pc ls st0) rest (CtQP G w0 P r H.size a) (va_A w0 H.size))
    (hP : va_P G.1 vwCl ws H) (hD : va_D A ws) (hS : va_S A s.heap H locs) (hA : ∀ q, s.heap.size ≤ q → A q) (h0 : is.map (fun i => ws[i]?) = w0.map some) (hf0 : w0.map Prod.fst = as) (hf1 : ∀ w1, P w1 → w1.map Prod.fst = as)
    (kk : ∀ (w1 : va_W) (H1 : Heap) (locs1 : List Loc), P w1 → va_P G.1 vwCl (upds ws is w1) H1 → va_D A (upds ws is w1) → va_S A s.heap H1 locs1 → W p l e R s m args below meth c H1 locs1 cells slots Q (F0 m (pc + 3) ls (r.toList ++ rest))) : W p l e R s m args below meth c H locs cells slots Q (F0 m pc ls st0) := by
  intro T hT X
  obtain ⟨v, st₀, t, T', L, g0, X', hL, e1, e2, ⟨hv, ⟨w1, hw1, hp⟩, hz, hk⟩, st⟩ := hr T hT X
  cases hv
  rw [g0] at hz hk
  have hf_ : w1.map Prod.fst = w0.map Prod.fst := (hf1 w1 hw1).trans hf0.symm
  obtain ⟨hP1, hS1⟩ := ct_after (H1 := T'.heap) hP hD hS hA h0 hf_ rfl (by rw [e1]; exact hp) (by rw [e1]; exact hz) (fun q h1 h2 => by rw [e1]; exact hk q h1 h2)
  have hfree := va_free (wc := w0) hD hS hA is h0
  obtain ⟨t2, a1, b1⟩ := kk w1 T'.heap (locs ++ L) hw1 hP1 (hD.same (upds_fst h0 hf_)) ⟨hS1.1, hS1.2.1, fun q hq => by
    rcases List.mem_append.mp hq with h | h
    · exact hS.2.2 q h
    · exact hfree _ (hL q h)⟩ T' rfl X'
  exact ⟨t2, st t2 a1, b1⟩
section JP2
variable {l : Launch} {G : Gd} {B : Bd} {cc : ByteArray} {nL : Nat} {own : String} {lv : List (Option Value)} {st st' rest : List Value} {ws w0 : va_W} {P : va_W → Prop}
theorem J_callVP (pc : Nat) {y : MethodName} {bytes : ByteArray} {maxL : Nat} {ret : Option FieldType} {k n index : Nat} {b : Nat} {As : List Value} {r : Option Value} (hC : CtP l G y bytes maxL ret k (.ref b :: As) w0 r P) (hlink : Cond.methodLink own index y ∈ TB) (hin : Cond.instanceMethod y ∈ TB) (hsel : Cond.selects y.cls y y ∈ TB) (hini : Cond.initialized y.cls ∈ TB) (hcode : Cond.code y bytes maxL ret ∈ TB) (hy : okY y n)
    (is : List Nat) (qr ci : Nat) {T : u_T} {N : Nat} (hci : vwCl[ci]? = some (y.cls, T, N)) {fs : List Value} (hb : ws[qr]? = some (b, .inr (ci, fs))) (h0 : is.map (fun i => ws[i]?) = w0.map some) (hnd : va_nd is = true) (as : List Nat) (hf0 : w0.map Prod.fst = as) (hf1 : ∀ w1, P w1 → w1.map Prod.fst = as) (hn : As.length = n) (hst : st = As.reverse ++ .ref b :: rest) (hst' : r.toList ++ rest = st') (hrm : (rest.map fun v => v.category).sum ≤ 8) (hfit : fitR B k maxL = true) (hdg : decode cc pc = .ok (.invokevirtual index, 3))
    (kk : ∀ w1, P w1 → J l G B cc nL own (pc + 3) lv st' (upds ws is w1)) : J l G B cc nL own pc lv st ws := by
  intro p e s m args below meth c A H locs ls C hP hD hS hl
  subst hst'
  obtain ⟨hR, hcl, hsl⟩ := fit_R hfit
  have ht := C.2.2.2.1
  have hcb : CallB B.1 s args own index y bytes maxL ret (.code y bytes maxL ret :: TB) (lvl k) 0 0 n := callB_of n ht (ct_pay ht hcode) rfl rfl rfl (ht _ hini) (ht _ hlink) hy hR
  refine ct_goP (va_runV (y := y) (C := y.cls) (As := As) (rest := rest) ⟨C.1, C.2.1, C.2.2.1, C.2.2.2.2.1, ht⟩ (hC H.size) ⟨hcb, ht _ hin, ht _ hsel⟩ ⟨ct_blind, va_recv C.2.2.2.2.2.2.2.1 hP hci hb, ct_before hP hD hS C.2.2.2.2.2.2.2.2.1 C.2.2.2.2.2.2.2.1 C.2.2.2.2.2.2.2.2.2.1 h0 hnd⟩ rfl hn hl.1 hst (lv_room hrm) hdg ⟨hcl, hsl⟩) hP hD hS C.2.2.2.2.2.2.2.2.1 h0 hf0 hf1 (fun w1 H1 locs1 hw hP1 hD1 hS1 => kk w1 hw p e s m args below meth c A H1 locs1 ls C hP1 hD1 hS1 hl)
end JP2
