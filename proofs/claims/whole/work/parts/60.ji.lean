/-! rows for constructors, and for what makes cells -/
def JI (l : Launch) (G : Gd) (B : Bd) (Nm : Method → Prop) (cc : ByteArray) (nL : Nat) (own : String) (pc : Nat) (lv : List (Option Value)) (st : List Value) (ws : va_W) : Prop :=
  ∀ (p : Program) (e : Env) (s : State) (m : MethodId) (args : Array Value) (below : List Frame) (meth : Method) (c : Code) (A : Nat → Prop) (H : Heap) (locs : List Loc) (ls : Array Slot),
    JC p G B cc nL own s m args meth c A → Nm meth → va_P G.1 vwCl ws H → va_D A ws → va_S A s.heap H locs → lp ls nL lv → W p l e B.1 s m args below meth c H locs B.2.1 B.2.2.1 (B.2.2.2.2.2 A args s below) (F0 m pc ls st)
theorem JI.of {l : Launch} {G : Gd} {B : Bd} {Nm : Method → Prop} {cc : ByteArray} {nL : Nat} {own : String} {pc : Nat} {lv : List (Option Value)} {st : List Value} {ws : va_W} (h_ : J l G B cc nL own pc lv st ws) : JI l G B Nm cc nL own pc lv st ws :=
  fun p e s m args below meth c A H locs ls C _ hP hD hS hl => h_ p e s m args below meth c A H locs ls C hP hD hS hl
def isI : Method → Prop := fun meth => meth.name = "<init>"
abbrev Bm (B : Bd) (mc ms : Nat) : Bd := (B.1, B.2.1 + mc, B.2.2.1 + ms, B.2.2.2)
theorem lp_at0 {ls : Array Slot} {nL : Nat} {lv : List (Option Value)} (h_ : lp ls nL lv) : ls.size = nL := h_.1
section JIR
variable {l : Launch} {G : Gd} {B : Bd} {Nm : Method → Prop} {cc : ByteArray} {nL : Nat} {own : String} {lv : List (Option Value)} {st : List Value} {ws : va_W}
theorem JI_ws (pc : Nat) {ws' : va_W} (h : ws = ws') (k : JI l G B Nm cc nL own pc lv st ws') : JI l G B Nm cc nL own pc lv st ws := h ▸ k
theorem JI_st (pc : Nat) {st' : List Value} (h : st = st') (k : JI l G B Nm cc nL own pc lv st' ws) : JI l G B Nm cc nL own pc lv st ws := h ▸ k
theorem JI_topi (pc : Nat) {x y : Int32} (h : x = y) (k : JI l G B Nm cc nL own pc lv (.int y :: st) ws) : JI l G B Nm cc nL own pc lv (.int x :: st) ws := h ▸ k
theorem JI_iconst (pc : Nat) {n : Int} {v : Int32} (hdg : decode cc pc = .ok (.iconst n, 1)) (hv : Int32.ofInt n = v) (k : JI l G B Nm cc nL own (pc + 1) lv (.int v :: st) ws) : JI l G B Nm cc nL own pc lv st ws := by
  intro p e s m args below meth c A H locs ls C hMm hP hD hS hl
  exact lv_iconst C.1 C.2.1 hdg hv (k p e s m args below meth c A H locs ls C hMm hP hD hS hl)
theorem JI_bipush (pc : Nat) {n : Int} {v : Int32} (hdg : decode cc pc = .ok (.bipush n, 2)) (hv : (Int8.ofInt n).toInt32 = v) (k : JI l G B Nm cc nL own (pc + 2) lv (.int v :: st) ws) : JI l G B Nm cc nL own pc lv st ws := by
  intro p e s m args below meth c A H locs ls C hMm hP hD hS hl
  exact lv_bipush C.1 C.2.1 hdg hv (k p e s m args below meth c A H locs ls C hMm hP hD hS hl)
theorem JI_sipush (pc : Nat) {n : Int} {v : Int32} (hdg : decode cc pc = .ok (.sipush n, 3)) (hv : (Int16.ofInt n).toInt32 = v) (k : JI l G B Nm cc nL own (pc + 3) lv (.int v :: st) ws) : JI l G B Nm cc nL own pc lv st ws := by
  intro p e s m args below meth c A H locs ls C hMm hP hD hS hl
  exact lv_sipush C.1 C.2.1 hdg hv (k p e s m args below meth c A H locs ls C hMm hP hD hS hl)
theorem JI_aload_n (pc : Nat) {q : Fin 4} (i : Nat) {x : Nat} (hdg : decode cc pc = .ok (.aload_n q, 1)) (hi : (q : Nat) = i) (h : lv[i]? = some (some (.ref x))) (k : JI l G B Nm cc nL own (pc + 1) lv (.ref x :: st) ws) : JI l G B Nm cc nL own pc lv st ws := by
  intro p e s m args below meth c A H locs ls C hMm hP hD hS hl
  exact lv_aload_n C.1 C.2.1 hdg hi (hl.at h) (k p e s m args below meth c A H locs ls C hMm hP hD hS hl)
theorem JI_astore_n (pc : Nat) {q : Fin 4} (i : Nat) {x : Nat} {lv' : List (Option Value)} (hdg : decode cc pc = .ok (.astore_n q, 1)) (hi : (q : Nat) = i) (hn : i < nL) (h : stp1 lv i (.ref x) = lv') (k : JI l G B Nm cc nL own (pc + 1) lv' st ws) : JI l G B Nm cc nL own pc lv (.ref x :: st) ws := by
  intro p e s m args below meth c A H locs ls C hMm hP hD hS hl
  exact lv_astore_n C.1 C.2.1 hdg hi hl hn rfl (fun ls' h' => k p e s m args below meth c A H locs ls' C hMm hP hD hS (lp.st1 h' h))
theorem JI_istore_n (pc : Nat) {q : Fin 4} (i : Nat) {x : Int32} {lv' : List (Option Value)} (hdg : decode cc pc = .ok (.istore_n q, 1)) (hi : (q : Nat) = i) (hn : i < nL) (h : stp1 lv i (.int x) = lv') (k : JI l G B Nm cc nL own (pc + 1) lv' st ws) : JI l G B Nm cc nL own pc lv (.int x :: st) ws := by
  intro p e s m args below meth c A H locs ls C hMm hP hD hS hl
  exact lv_istore_n C.1 C.2.1 hdg hi hl hn rfl (fun ls' h' => k p e s m args below meth c A H locs ls' C hMm hP hD hS (lp.st1 h' h))
theorem JI_dup (pc : Nat) {v : Value} (hdg : decode cc pc = .ok (.dup, 1)) (hv : v.category = 1) (k : JI l G B Nm cc nL own (pc + 1) lv (v :: v :: st) ws) : JI l G B Nm cc nL own pc lv (v :: st) ws := by
  intro p e s m args below meth c A H locs ls C hMm hP hD hS hl
  exact lv_dup C.1 C.2.1 hdg hv (k p e s m args below meth c A H locs ls C hMm hP hD hS hl)
theorem JI_get (pc : Nat) {C ref : String} {T : u_T} {N ci index : Nat} (F : FT C T N ci) (k : Nat) (hk : k < N) (hw : Cond.fieldLink own index ref (T k).2.1 (T k).2.2.1 ∈ TB) (href : (T k).1 = ref) (q0 : Nat) {a : Nat} {fs : List Value} (he : ws[q0]? = some (a, .inr (ci, fs))) {v : Value} (hv : fs[k]? = some v) (hdg : decode cc pc = .ok (.getfield index, 3)) (kk : JI l G B Nm cc nL own (pc + 3) lv (v :: st) ws) : JI l G B Nm cc nL own pc lv (.ref a :: st) ws := by
  intro p e s m args below meth c A H locs ls C hMm hP hD hS hl
  exact va_get C.1 C.2.1 C.2.2.2.1 F.tb C.2.2.2.2.1 C.2.2.2.2.2.2.2.1 hP q0 he F.2.2.2.2 k hk (C.2.2.2.1 _ hw) (fun x h => by rw [href] at h; exact h) hv hdg (kk p e s m args below meth c A H locs ls C hMm hP hD hS hl)
theorem JI_put (pc : Nat) {C ref : String} {T : u_T} {N ci index : Nat} (F : FT C T N ci) (k : Nat) (hk : k < N) (hw : Cond.fieldLink own index ref (T k).2.1 (T k).2.2.1 ∈ TB) (href : (T k).1 = ref) (hfin : (T k).2.2.2 = false) {ty : FieldType} (hd : parseFieldDescriptor (T k).2.2.1 = some ty) (q0 : Nat) {a : Nat} {fs : List Value} {v : Value} (he : ws[q0]? = some (a, .inr (ci, fs))) (hn : narrow ty v = v) (hfit : fits ty v = true) (hl0 : k < fs.length) {ws' : va_W} (hws : ws.set q0 (a, .inr (ci, fs.set k v)) = ws') (hdg : decode cc pc = .ok (.putfield index, 3)) (kk : JI l G B Nm cc nL own (pc + 3) lv st ws') : JI l G B Nm cc nL own pc lv (v :: .ref a :: st) ws := by
  intro p e s m args below meth c A H locs ls C hMm hP hD hS hl
  subst hws
  obtain ⟨ty0, hty⟩ := F.2.2.1
  exact va_put C.1 C.2.1 C.2.2.2.1 F.tb ty0 hty F.2.2.2.1 C.2.2.2.2.1 C.2.2.2.2.2.2.2.1 hP hD hS q0 he F.2.2.2.2 k hk (C.2.2.2.1 _ hw) (fun x h => by rw [href] at h; exact h) hfin hd hn hfit hl0 hdg (fun H1 locs1 hP1 hD1 hS1 => kk p e s m args below meth c A H1 locs1 ls C hMm hP1 hD1 hS1 hl)
theorem JI_gets (pc : Nat) {D n d ref : String} {v : Value} {index : Nat} (hw : Cond.fieldLink own index ref n d ∈ TB) (hZ : ∀ (A : Nat → Prop) (U : State) (H : Heap), gG G A U H → va_Z D n d v A U H) (href : D = ref) (hdg : decode cc pc = .ok (.getstatic index, 3)) (kk : JI l G B Nm cc nL own (pc + 3) lv (v :: st) ws) : JI l G B Nm cc nL own pc lv st ws := by
  intro p e s m args below meth c A H locs ls C hMm hP hD hS hl
  exact va_gets C.1 C.2.1 (hZ _ _ _ C.2.2.2.2.2.2.2.2.2.1) hS C.2.2.2.2.1 (C.2.2.2.1 _ hw) (fun x h => href ▸ h) hdg (kk p e s m args below meth c A H locs ls C hMm hP hD hS hl)
theorem JI_getsN (pc : Nat) {D n d ref host : String} {v : Value} {index : Nat} (hw : ∀ (A : Nat → Prop) (U : State) (H : Heap), gG G A U H → va_Nw (.fieldLinkNest own index ref n d host) U) (hZ : ∀ (A : Nat → Prop) (U : State) (H : Heap), gG G A U H → va_Z D n d v A U H) (href : D = ref) (hdg : decode cc pc = .ok (.getstatic index, 3)) (kk : JI l G B Nm cc nL own (pc + 3) lv (v :: st) ws) : JI l G B Nm cc nL own pc lv st ws := by
  intro p e s m args below meth c A H locs ls C hMm hP hD hS hl
  exact va_getsN C.1 C.2.1 (hZ _ _ _ C.2.2.2.2.2.2.2.2.2.1) hS C.2.2.2.2.1 (va_Nw.use rfl (hw _ _ _ C.2.2.2.2.2.2.2.2.2.1)) (fun x h => href ▸ h) hdg (kk p e s m args below meth c A H locs ls C hMm hP hD hS hl)
theorem JI_iast (pc : Nat) (q0 j : Nat) {a n : Nat} {f : Nat → Int32} {i : Int32} {x : Int32} (ha : ws[q0]? = some (a, .inl (G.2.1 0, n, .inl f))) (hj : i = nI j) (hlt : j < n) (hN : n < 2 ^ 31) {ws' : va_W} (hws : ws.set q0 (a, .inl (G.2.1 0, n, .inl (upd f j x))) = ws') (hdg : decode cc pc = .ok (.iastore, 1)) (kk : JI l G B Nm cc nL own (pc + 1) lv st ws') : JI l G B Nm cc nL own pc lv (.int x :: .int i :: .ref a :: st) ws := by
  intro p e s m args below meth c A H locs ls C hMm hP hD hS hl
  subst hj
  subst hws
  refine va_iast C.1 C.2.1 C.2.2.2.2.2.2.2.1 hP hD hS q0 0 ha rfl (vp_in_nI hlt hN) hdg (fun H1 locs1 hP1 hD1 hS1 => ?_)
  rw [nI_clamp (by omega)] at hP1 hD1
  exact kk p e s m args below meth c A H1 locs1 ls C hMm hP1 hD1 hS1 hl
theorem JI_arrI (pc q0 : Nat) {a n : Nat} {cA : ClassId} {f g : Nat → Int32} (ha : ws[q0]? = some (a, .inl (cA, n, .inl f))) (h_ : ∀ j : Nat, j < n → f j = g j) {ws' : va_W} (hws : ws.set q0 (a, .inl (cA, n, .inl g)) = ws') (k : JI l G B Nm cc nL own pc lv st ws') : JI l G B Nm cc nL own pc lv st ws := by
  intro p e s m args below meth c A H locs ls C hMm hP hD hS hl
  subst hws
  refine k p e s m args below meth c A H locs ls C hMm (hP.set hD ha ?_ (fun _ _ => rfl)) (hD.set ha) hS hl
  show H[a]? = some (vp_cell cA (n, .inl g))
  rw [← cellI_eq h_]
  exact hP q0 _ ha
theorem JI_arrQ (pc q0 : Nat) {a n : Nat} {cA : ClassId} {f g : Nat → Option Nat} (ha : ws[q0]? = some (a, .inl (cA, n, .inr (.inr (.inr (.inr f)))))) (h_ : ∀ j : Nat, j < n → f j = g j) {ws' : va_W} (hws : ws.set q0 (a, .inl (cA, n, .inr (.inr (.inr (.inr g))))) = ws') (k : JI l G B Nm cc nL own pc lv st ws') : JI l G B Nm cc nL own pc lv st ws := by
  intro p e s m args below meth c A H locs ls C hN hP hD hS hl
  subst hws
  refine k p e s m args below meth c A H locs ls C hN (hP.set hD ha ?_ (fun _ _ => rfl)) (hD.set ha) hS hl
  show H[a]? = some (vp_cell cA (n, .inr (.inr (.inr (.inr g)))))
  have e_ : vp_cell cA (n, .inr (.inr (.inr (.inr f)))) = vp_cell cA (n, .inr (.inr (.inr (.inr g)))) := by
    rw [vp_cell_q, vp_cell_q]
    unfold arrV
    have e_ : (fun j_ : Fin n => va_rf (f j_.val)) = fun j_ : Fin n => va_rf (g j_.val) := funext fun j_ => by rw [h_ j_.val j_.isLt]
    rw [e_]
  rw [← e_]
  exact hP q0 _ ha
theorem va_RA_inj {s : State} {c1 c2 : ClassId} {ty : FieldType} (h1_ : va_RA s c1 ty) (h2_ : va_RA s c2 ty) : c1 = c2 := by
  cases ty with
  | object C =>
    obtain ⟨_, _, _, _, _, a_⟩ := h1_
    obtain ⟨_, _, _, _, _, b_⟩ := h2_
    exact Option.some.inj (a_.symm.trans b_)
  | _ => exact Option.some.inj (Eq.trans (Eq.symm h1_) h2_)
/-- a new row of numbers -/
theorem JI_newa (pc t0 : Nat) {atype : ArrayType} {cA : ClassId} {ty : FieldType} {n : Int32} {N : Nat} {a0 : vp_A} (harr : Cond.arrayClass (newarray.typeOf atype) ∈ TB) (hty : newarray.typeOf atype = ty) (ht : (gT G)[t0]? = some (cA, ty)) (ha : ∀ cA : ClassId, vp_cell cA a0 = arrV cA N (fun _ => defaultValue ty)) (hn : ¬ n < 0) (hN : n.toNatClampNeg = N) (hb : Nat.ble (N * componentBytes ty) 536870912 = true) (hc : Nat.ble (B.2.1 + 1) B.1.cells = true) (hs : Nat.ble (B.2.2.1 + N) B.1.slots = true) (hdg : decode cc pc = .ok (.newarray atype, 2))
    (kk : ∀ q : Nat, JI l G (Bm B 1 N) Nm cc nL own (pc + 2) lv (.ref q :: st) (ws ++ [(q, .inl (cA, a0))])) : JI l G B Nm cc nL own pc lv (.int n :: st) ws := by
  intro p e s m args below meth c A H locs ls C hN_ hP hD hS hl
  have hK := C.2.2.2.2.2.2.2.1
  refine va_newa C.1 C.2.1 (C.2.2.2.1 _ harr) hty hK hP hD hS C.2.2.2.2.2.2.2.2.1 ha hn hN (Nat.le_of_ble_eq_true hb) (Nat.le_of_ble_eq_true hc) (Nat.le_of_ble_eq_true hs) hdg (fun q cB H1 hK1 hP1 hD1 hS1 => ?_)
  have h1_ : va_RA s cB ty := (hK1.2 (gT G).length (cB, ty) (by rw [List.getElem?_append_right (Nat.le_refl _), Nat.sub_self]; rfl)).2
  have h2_ : va_RA s cA ty := (hK.2 t0 (cA, ty) ht).2
  have e_ := va_RA_inj h1_ h2_
  subst e_
  exact kk q p e s m args below meth c A H1 locs ls C hN_ hP1 hD1 hS1 hl
/-- a new row of objects: nothing in it -/
theorem JI_newq (pc t0 : Nat) {C : String} {cA : ClassId} {index : Nat} {n : Int32} {N : Nat} (hE : ∀ (A : Nat → Prop) (s : State), B.2.2.2.2.1 A s → va_AO C s) (hl0 : Cond.classLink own index C ∈ TB) (ht : (gT G)[t0]? = some (cA, .object C)) (hn : ¬ n < 0) (hN : n.toNatClampNeg = N) (hb : Nat.ble (N * 4) 536870912 = true) (hc : Nat.ble (B.2.1 + 1) B.1.cells = true) (hs : Nat.ble (B.2.2.1 + N) B.1.slots = true) (hdg : decode cc pc = .ok (.anewarray index, 3))
    (kk : ∀ q : Nat, JI l G (Bm B 1 N) Nm cc nL own (pc + 3) lv (.ref q :: st) (ws ++ [(q, .inl (cA, N, .inr (.inr (.inr (.inr (fun _ => none))))))])) : JI l G B Nm cc nL own pc lv (.int n :: st) ws := by
  intro p e s m args below meth c A H locs ls C hN_ hP hD hS hl
  have hK := C.2.2.2.2.2.2.2.1
  refine va_newq C.1 C.2.1 C.2.2.2.2.1 (C.2.2.2.1 _ hl0) (hE _ _ C.2.2.2.2.2.2.2.2.2.2) hK hP hD hS C.2.2.2.2.2.2.2.2.1 hn hN (Nat.le_of_ble_eq_true hb) (Nat.le_of_ble_eq_true hc) (Nat.le_of_ble_eq_true hs) hdg (fun q cB H1 hK1 hP1 hD1 hS1 => ?_)
  have h1_ : va_RA s cB _ := (hK1.2 (gT G).length (cB, _) (by rw [List.getElem?_append_right (Nat.le_refl _), Nat.sub_self]; rfl)).2
  have h2_ : va_RA s cA _ := (hK.2 t0 (cA, _) ht).2
  have e_ := va_RA_inj h1_ h2_
  subst e_
  exact kk q p e s m args below meth c A H1 locs ls C hN_ hP1 hD1 hS1 hl
theorem JI_new (pc : Nat) {C : String} {T : u_T} {N ci index : Nat} {fs : List Value} (F : FT C T N ci) (ty : Nat → FieldType) (hty : ∀ k, k < N → parseFieldDescriptor (T k).2.2.1 = some (ty k)) (hcl : Cond.classLink own index C ∈ TB) (hin : Cond.instantiable C N ∈ TB) (hini : Cond.initialized C ∈ TB) (hfs : ∀ j, j < N → defaultValue (ty j) = vp_V fs j) (hc : Nat.ble (B.2.1 + 1) B.1.cells = true) (hs : Nat.ble (B.2.2.1 + N) B.1.slots = true) (hdg : decode cc pc = .ok (.new index, 3))
    (kk : ∀ q : Nat, JI l G (Bm B 1 N) Nm cc nL own (pc + 3) lv (.ref q :: st) (ws ++ [(q, .inr (ci, fs))])) : JI l G B Nm cc nL own pc lv st ws := by
  intro p e s m args below meth c A H locs ls C hN_ hP hD hS hl
  exact va_new C.1 C.2.1 C.2.2.2.1 F.tb ty hty C.2.2.2.2.1 (C.2.2.2.1 _ hcl) (C.2.2.2.1 _ hin) (C.2.2.2.1 _ hini) C.2.2.2.2.2.2.2.1 hP hD hS C.2.2.2.2.2.2.2.2.1 F.2.2.2.2 hfs (Nat.le_of_ble_eq_true hc) (Nat.le_of_ble_eq_true hs) hdg (fun q H1 hP1 hD1 hS1 => kk q p e s m args below meth c A H1 locs ls C hN_ hP1 hD1 hS1 hl)
theorem JI_putF (pc : Nat) {C ref : String} {T : u_T} {N ci index : Nat} (hNm : ∀ meth, Nm meth → meth.name = "<init>") (F : FT C T N ci) (k : Nat) (hk : k < N) (hw : Cond.fieldLink own index ref (T k).2.1 (T k).2.2.1 ∈ TB) (href : (T k).1 = ref) (hown : (T k).1 = own) (hfin : (T k).2.2.2 = true) {ty : FieldType} (hd : parseFieldDescriptor (T k).2.2.1 = some ty) (q0 : Nat) {a : Nat} {fs : List Value} {v : Value} (he : ws[q0]? = some (a, .inr (ci, fs))) (hn : narrow ty v = v) (hfit : fits ty v = true) (hl0 : k < fs.length) {ws' : va_W} (hws : ws.set q0 (a, .inr (ci, fs.set k v)) = ws') (hdg : decode cc pc = .ok (.putfield index, 3)) (kk : JI l G B Nm cc nL own (pc + 3) lv st ws') : JI l G B Nm cc nL own pc lv (v :: .ref a :: st) ws := by
  intro p e s m args below meth c A H locs ls C hN hP hD hS hl
  subst hws
  obtain ⟨ty0, hty⟩ := F.2.2.1
  exact va_putF C.1 C.2.1 C.2.2.2.1 F.tb ty0 hty F.2.2.2.1 C.2.2.2.2.1 C.2.2.2.2.2.2.2.1 hP hD hS q0 he F.2.2.2.2 k hk (C.2.2.2.1 _ hw) (fun x h => by rw [href] at h; exact h) hfin (hNm _ hN) hown hd hn hfit hl0 hdg (fun H1 locs1 hP1 hD1 hS1 => kk p e s m args below meth c A H1 locs1 ls C hN hP1 hD1 hS1 hl)
theorem JI_astq (pc q0 t0 j qk ci : Nat) {cA : ClassId} {r : vw_C} {n v a : Nat} {vs : List Value} {f : Nat → Option Nat} {i : Int32} (ha : ws[q0]? = some (a, .inl (cA, n, .inr (.inr (.inr (.inr f)))))) (ht : (gT G)[t0]? = some (cA, .object r.1)) (hv : ws[qk]? = some (v, .inr (ci, vs))) (hc : vwCl[ci]? = some r) (hj : i = nI j) (hlt : j < n) (hN : n < 2 ^ 31) {ws' : va_W} (hws : ws.set q0 (a, .inl (cA, n, .inr (.inr (.inr (.inr (va_up f j (some v))))))) = ws') (hdg : decode cc pc = .ok (.aastore, 1)) (kk : JI l G B Nm cc nL own (pc + 1) lv st ws') : JI l G B Nm cc nL own pc lv (.ref v :: .int i :: .ref a :: st) ws := by
  intro p e s m args below meth c A H locs ls C hN_ hP hD hS hl
  subst hj
  subst hws
  refine va_astq C.1 C.2.1 C.2.2.2.2.2.2.2.1 hP hD hS q0 t0 qk ci ha ht hv hc (vp_in_nI hlt hN) hdg (fun H1 locs1 hP1 hD1 hS1 => ?_)
  rw [nI_clamp (by omega)] at hP1 hD1
  exact kk p e s m args below meth c A H1 locs1 ls C hN_ hP1 hD1 hS1 hl
theorem JI_obj (pc : Nat) {index a : Nat} (hlk : Cond.methodLink own index Lib.objectInit ∈ TB) (hi : Cond.instanceMethod Lib.objectInit ∈ TB) (hc : Cond.code Lib.objectInit ⟨#[0xb1]⟩ 1 none ∈ TB) (hf : Nat.ble 1 B.1.frames = true) (hlo : Nat.ble 20 B.1.locals = true) (hst : (st.map fun v => v.category).sum ≤ 8) (hdg : decode cc pc = .ok (.invokespecial index, 3)) (k : JI l G B Nm cc nL own (pc + 3) lv st ws) : JI l G B Nm cc nL own pc lv (.ref a :: st) ws := by
  intro p e s m args below meth c A H locs ls C hN hP hD hS hl
  have h20_ := Nat.le_of_ble_eq_true hlo
  exact W.objInit C.1 C.2.1 C.2.2.2.2.1 (C.2.2.2.1 _ hlk) (C.2.2.2.1 _ hi) (C.2.2.2.1 _ hc) rfl (hl.1.trans C.2.2.1.symm) rfl hdg (Nat.le_of_ble_eq_true hf) (by show 2 * 0 + _ + 12 ≤ _; omega) (k p e s m args below meth c A H locs ls C hN hP hD hS hl)
theorem JI_vret {G : Gd} {rm : Room} {mc ms : Nat} {E : (Nat → Prop) → State → Prop} {P : va_W → Prop} {Nm : Method → Prop} {cc : ByteArray} {nL : Nat} {own : String} {lv : List (Option Value)} {ws : va_W} (pc : Nat) (hdg : decode cc pc = .ok (.return_, 1)) (hw : P ws) : JI l G (rm, mc, ms, none, E, fun A args s below => MQ below (fun _ st oc t => oc = .returned none ∧ (∃ w1, P w1 ∧ va_P G.1 vwCl w1 t.heap ∧ va_D A w1) ∧ va_F A st t) args s mc ms A) Nm cc nL own pc lv [] ws := by
  intro p e s m args below meth c A H locs ls C hN hP hD hS hl
  exact W.vret (Qc := fun _ st oc t => oc = .returned none ∧ (∃ w1, P w1 ∧ va_P G.1 vwCl w1 t.heap ∧ va_D A w1) ∧ va_F A st t) (free := A) (cells := mc) (slots := ms) C.1 C.2.1 C.2.2.2.2.2.1 (fun t ht hW => ⟨rfl, ⟨ws, hw, by rw [ht]; exact hP, hD⟩, hS.F ht⟩) hS.2.2 hdg C.2.2.2.2.2.2.1
end JIR
/-! constructors' contracts -/
def gE (U : State) : Prop := va_AO "GooseArms$Sheet" U ∧ va_AO "GooseArms$Shelf" U ∧ va_Nw (.castable "[I" "java/lang/Cloneable") U ∧ va_Nw (.methodLinkNest "GooseArms" 9 ⟨"GooseArms$Court", "<init>", "()V"⟩ "GooseArms") U ∧ va_Nw (.methodLinkNest "GooseArms" 31 ⟨"GooseArms$Tape", "<init>", "()V"⟩ "GooseArms") U ∧ va_Nw (.methodLinkNest "GooseArms" 46 ⟨"GooseArms$Sheet", "<init>", "()V"⟩ "GooseArms") U ∧ va_Nw (.methodLinkNest "GooseArms" 53 ⟨"GooseArms$Shelf", "<init>", "()V"⟩ "GooseArms") U ∧ va_Nw (.methodLinkNest "GooseArms" 60 ⟨"GooseArms$Deed", "<init>", "()V"⟩ "GooseArms") U
theorem gE.warm {s U : State} (hW : s.WarmedH U.vm) (h_ : gE s) : gE U := by
  obtain ⟨a1, a2, a3, n1, n2, n3, n4, n5⟩ := h_
  exact ⟨va_AO.moved hW.alike a1, va_AO.moved hW.alike a2, va_Nw.warmC hW a3, n1.warmM hW, n2.warmM hW, n3.warmM hW, n4.warmM hW, n5.warmM hW⟩
theorem gE.same {u U : State} (e_ : U.vm = u.vm) (h_ : gE u) : gE U := by
  obtain ⟨a1, a2, a3, n1, n2, n3, n4, n5⟩ := h_
  exact ⟨va_AO.moved (e_ ▸ Vm.Alike.refl u.vm) a1, va_AO.moved (e_ ▸ Vm.Alike.refl u.vm) a2, va_tabs rfl e_.symm a3, va_tabs rfl e_.symm n1, va_tabs rfl e_.symm n2, va_tabs rfl e_.symm n3, va_tabs rfl e_.symm n4, va_tabs rfl e_.symm n5⟩
/-- the static row that is cloned: of the class of int rows, four places -/
def gX (G : Gd) (A : Nat → Prop) (U : State) (H : Heap) : Prop := ∃ cell : Cell, H[G.2.2 0]? = some cell ∧ U.isArrayOf cell .int ∧ cell.vm ≠ .unknown ∧ U.vm.findClass "[I" = some cell.cls ∧ cell.slots.size = 4 ∧ (∀ j : Nat, j < 4 → cell.slots[j]? = some (.int (svI [2, 3, 1, 20] j))) ∧ ¬ A (G.2.2 0)
theorem gX.kept {G : Gd} {A : Nat → Prop} {U : State} {H H1 : Heap} (h_ : gX G A U H) (hq : ∀ a : Nat, a < H.size → ¬ A a → H1[a]? = H[a]?) : gX G A U H1 := by
  obtain ⟨cell, a_, b_⟩ := h_
  exact ⟨cell, (hq _ (Array.getElem?_eq_some_iff.mp a_).1 b_.2.2.2.2.2).trans a_, b_⟩
theorem gX.narrow {G : Gd} {A B : Nat → Prop} {U : State} {H : Heap} (h_ : gX G A U H) (hq : ∀ q, B q → A q) : gX G B U H := by
  obtain ⟨cell, a_, b1_, b2_, b3_, b4_, b5_, b6_⟩ := h_
  exact ⟨cell, a_, b1_, b2_, b3_, b4_, b5_, fun z_ => b6_ (hq _ z_)⟩
theorem gX.moved {G : Gd} {A : Nat → Prop} {u U : State} {H : Heap} (hv : u.vm.Alike U.vm) (h_ : gX G A u H) : gX G A U H := by
  obtain ⟨cell, a_, b1_, b2_, b3_, b4_, b5_, b6_⟩ := h_
  exact ⟨cell, a_, State.isArrayOf_alike hv b1_, b2_, by rw [hv.findClass]; exact b3_, b4_, b5_, b6_⟩
def gEX (G : Gd) (A : Nat → Prop) (s : State) : Prop := gE s ∧ gX G A s s.heap
def rmI (k mc ms : Nat) : Room := { frames := k, cells := mc, slots := ms, locals := 40 * k }
def CtIPc (G : Gd) (av : List Value) (w0 : va_W) (sz : Nat) : Array Value → State → Prop :=
  va_Pc av (fun U => U.heap.size = sz ∧ va_P G.1 vwCl w0 U.heap ∧ va_K G.1 vwCl (gT G) U ∧ va_D (va_A w0 sz) w0 ∧ gG G (va_A w0 sz) U U.heap ∧ gE U ∧ gX G (va_A w0 sz) U U.heap)
def CtIQ (G : Gd) (w0 : va_W) (P : va_W → Prop) (sz : Nat) : Array Value → State → Outcome → State → Prop :=
  fun _ st oc t => oc = .returned none ∧ (∃ w1, P w1 ∧ va_P G.1 vwCl w1 t.heap ∧ va_D (va_A w0 sz) w1) ∧ va_F (va_A w0 sz) st t
def CtI (l : Launch) (G : Gd) (y : MethodName) (cc : ByteArray) (nL k mc ms : Nat) (a ci : Nat) (fs0 : List Value) (PI : List Value → va_W → Prop) : Prop :=
  ∀ sz : Nat, Met l y (.code y cc nL none :: TB) (rmI k mc ms) (CtIPc G [.ref a] [(a, .inr (ci, fs0))] sz) (CtIQ G [(a, .inr (ci, fs0))] (fun w1 => ∃ fs ex, w1 = (a, .inr (ci, fs)) :: ex ∧ PI fs ex) sz) mc ms (va_A [(a, .inr (ci, fs0))] sz)
abbrev bdI (G : Gd) (k mc ms : Nat) (P : va_W → Prop) : Bd :=
  (rmI k mc ms, 0, 0, none, (fun A s => gEX G A s), fun A args s below => MQ below (fun _ st oc t => oc = .returned none ∧ (∃ w1, P w1 ∧ va_P G.1 vwCl w1 t.heap ∧ va_D A w1) ∧ va_F A st t) args s mc ms A)
theorem CtI.of {l : Launch} {G : Gd} {y : MethodName} {cc : ByteArray} {nL k mc ms a ci : Nat} {fs0 : List Value} {PI : List Value → va_W → Prop} (own : String) (lv : List (Option Value)) (hy : plainName y.cls = true) (ho : y.cls = own) (hyn : y.name = "<init>") (hn : (lg_sl [Value.ref a]).length ≤ nL) (hlv : prs lv = lv_args 0 [Value.ref a])
    (h : JI l G (bdI G k mc ms (fun w1 => ∃ fs ex, w1 = (a, .inr (ci, fs)) :: ex ∧ PI fs ex)) isI cc nL own 0 lv [] [(a, .inr (ci, fs0))]) : CtI l G y cc nL k mc ms a ci fs0 PI := by
  intro sz
  refine Met.ofW (cc := cc) (maxL := nL) (ret := none) hy rfl ?_
  intro p e s m args below meth c s₁ B hml hv
  obtain ⟨rfl, hsz, hP, hK, hD, hG, hE, hX⟩ := hv
  subst hsz
  have hts := atoms_spec (ws := .code y cc nL none :: TB) B.pre
  have hown : s.vm.findClass own = some m.cls := by rw [← ho]; exact findClass_of_methodNamed B.named
  have hnm : meth.name = "<init>" := (name_of_methodNamed B.named B.method).1.trans hyn
  have hl := lv_entry [Value.ref a] (n := nL) hn
  rw [lg_entry_eq]
  refine h p e s m [Value.ref a].toArray below meth c (va_A [(a, .inr (ci, fs0))] s.heap.size) s.heap [] _ ⟨B.exec, B.bytes, hml, fun w hw => hts w (List.mem_cons_of_mem _ hw), hown, B.returns, B.notSynchronized, hK, fun q hq => Or.inr hq, hG, hE, hX⟩ hnm hP hD va_S.rf ?_
  show lv_has _ nL (prs lv)
  rw [hlv]
  exact hl
theorem ctI_blind {G : Gd} {av : List Value} {w0 : va_W} {sz : Nat} : FrameBlind (CtIPc G av w0 sz) := by
  intro a U g mk h
  obtain ⟨h1, h2, h3, h4, h5, h6, h7, h8⟩ := h
  exact ⟨h1, h2, h3, va_K.moved (u := U) (U := U.calling g mk a) (Vm.Alike.refl U.vm) h4, h5, gG.same (u := U) (U := U.calling g mk a) rfl h6, gE.same (u := U) (U := U.calling g mk a) rfl h7, gX.moved (u := U) (U := U.calling g mk a) (Vm.Alike.refl U.vm) h8⟩
section JIC
variable {l : Launch} {G : Gd} {B : Bd} {Nm : Method → Prop} {cc : ByteArray} {nL : Nat} {own : String} {lv : List (Option Value)} {st : List Value} {ws : va_W}
theorem JI_callI (pc : Nat) {y : MethodName} {bytes : ByteArray} {maxL k mc ms index b ci : Nat} {fs0 : List Value} {PI : List Value → va_W → Prop} (hC : CtI l G y bytes maxL k mc ms b ci fs0 PI) (hE : ∀ (A : Nat → Prop) (s : State), B.2.2.2.2.1 A s → gEX G A s) (hlink : Cond.methodLink own index y ∈ TB) (hin : Cond.instanceMethod y ∈ TB) (hini : Cond.initialized y.cls ∈ TB) (hcode : Cond.code y bytes maxL none ∈ TB) (hy : okY y 0) (hyn : y.name = "<init>") (q0 : Nat) (hq : ws[q0]? = some (b, .inr (ci, fs0)))
    (hfr : Nat.ble (k + 1) B.1.frames = true) (hlo : Nat.ble (19 + maxL + 40 * k) B.1.locals = true) (hce : Nat.ble (B.2.1 + mc) B.1.cells = true) (hsl : Nat.ble (B.2.2.1 + ms) B.1.slots = true) (hst : (st.map fun v => v.category).sum ≤ 8) (hdg : decode cc pc = .ok (.invokespecial index, 3))
    (kk : ∀ (fs : List Value) (ex : va_W), PI fs ex → JI l G (Bm B mc ms) Nm cc nL own (pc + 3) lv st (ws.set q0 (b, .inr (ci, fs)) ++ ex)) : JI l G B Nm cc nL own pc lv (.ref b :: st) ws := by
  intro p e s m args below meth c A H locs ls C hN hP hD hS hl
  have ht := C.2.2.2.1
  have hA := C.2.2.2.2.2.2.2.2.1
  have hG := C.2.2.2.2.2.2.2.2.2.1
  have hR : (rmI k mc ms).frames + 1 ≤ B.1.frames ∧ 8 + (maxL + 11) + (rmI k mc ms).locals ≤ B.1.locals := ⟨Nat.le_of_ble_eq_true hfr, by have := Nat.le_of_ble_eq_true hlo; show 8 + (maxL + 11) + 40 * k ≤ _; omega⟩
  have hcb : CallB B.1 s args own index y bytes maxL none (.code y bytes maxL none :: TB) (rmI k mc ms) mc ms 0 := callB_of 0 ht (ct_pay ht hcode) rfl rfl rfl (ht _ hini) (ht _ hlink) hy hR
  have h0 : ([q0] : List Nat).map (fun i => ws[i]?) = ([(b, .inr (ci, fs0))] : va_W).map some := by simp [hq]
  have hfree := va_free (wc := [(b, .inr (ci, fs0))]) hD hS hA [q0] h0
  have hPre : PreS s H (CtIPc G [.ref b] [(b, .inr (ci, fs0))] H.size) [.ref b] := ⟨ctI_blind, fun U hU hW => by
    obtain ⟨g1, g2, g3, g4, g5, g6⟩ := ct_before (av := [.ref b]) hP hD hS hA C.2.2.2.2.2.2.2.1 hG h0 rfl U hU hW
    have hx_ := hE _ _ C.2.2.2.2.2.2.2.2.2.2
    exact ⟨g1, g2, g3, g4, g5, g6, hx_.1.warm hW, by rw [hU]; exact ((hx_.2.kept (H1 := H) (fun a h1 h2 => hS.2.1 a h1 h2)).narrow hfree).moved hW.alike⟩⟩
  have hr : va_Run p l e B.1 s m args below meth c H locs B.2.1 B.2.2.1 mc ms (F0 m pc ls (.ref b :: st)) st (CtIQ G [(b, .inr (ci, fs0))] (fun w1 => ∃ fs ex, w1 = (b, .inr (ci, fs)) :: ex ∧ PI fs ex) H.size ([.ref b] : List Value).toArray) (va_A [(b, .inr (ci, fs0))] H.size) := va_runI (y := y) (As := []) (rest := st) ⟨C.1, C.2.1, C.2.2.1, C.2.2.2.2.1, ht⟩ (hC H.size) ⟨hcb, hyn, ht _ hin⟩ hPre rfl rfl hl.1 rfl (lv_room hst) hdg ⟨Nat.le_of_ble_eq_true hce, Nat.le_of_ble_eq_true hsl⟩
  intro T hT X
  obtain ⟨v, st₀, t, T', L, g0, X', hL, e1, e2, ⟨hv, ⟨w1, ⟨fs, ex, rfl, hp⟩, hp1, hd1⟩, hz, hk⟩, stp⟩ := hr T hT X
  cases hv
  rw [g0] at hz hk
  have hbH : b < H.size := (hP q0 _ hq).lt
  have hex : ∀ q ∈ ex, H.size ≤ q.1 := by
    intro q hq2
    obtain ⟨j, hj⟩ := List.getElem?_of_mem hq2
    have hj1 : ((b, Sum.inr (ci, fs)) :: ex : va_W)[j + 1]? = some q := by simpa using hj
    rcases hd1.2 (j + 1) q hj1 with ⟨i, e_, hi⟩ | hi
    · have hi0 : i < 1 := (List.getElem?_eq_some_iff.mp hi).1
      rw [show i = 0 by omega] at hi
      have hqb : b = q.1 := by simpa using congrArg (fun o => o.map Prod.fst) hi
      have := hd1.1 0 (j + 1) _ q rfl hj1 hqb
      omega
    · exact hi
  have hmem : ∀ q ∈ ws.set q0 (b, .inr (ci, fs)), q.1 < H.size := by
    intro q hq2
    obtain ⟨i, hi⟩ := List.getElem?_of_mem hq2
    by_cases e_ : q0 = i
    · subst e_
      rw [List.getElem?_set_self (List.getElem?_eq_some_iff.mp hq).1] at hi
      cases hi; exact hbH
    · rw [List.getElem?_set_ne e_] at hi
      exact (hP i q hi).lt
  have hD1 : va_D A (ws.set q0 (b, .inr (ci, fs))) := hD.set hq
  have hP2 : va_P G.1 vwCl (ws.set q0 (b, .inr (ci, fs)) ++ ex) T'.heap := va_P_mem.mpr (fun q hq2 => by
    rcases List.mem_append.mp hq2 with h | h
    · obtain ⟨i, hi⟩ := List.getElem?_of_mem h
      by_cases e_ : q0 = i
      · subst e_
        rw [List.getElem?_set_self (List.getElem?_eq_some_iff.mp hq).1] at hi
        cases hi
        have := hp1 0 (b, .inr (ci, fs)) rfl
        rw [e1]; exact this
      · rw [List.getElem?_set_ne e_] at hi
        have hne : q.1 ≠ b := fun z => e_ (hD.1 q0 i _ q hq hi z.symm)
        refine (hP i q hi).kept ?_
        rw [e1]
        exact hk q.1 ((hP i q hi).lt) (fun z => by
          rcases z with ⟨i2, e2_, h2⟩ | h2
          · have hi0 : i2 < 1 := (List.getElem?_eq_some_iff.mp h2).1
            rw [show i2 = 0 by omega] at h2
            exact hne (by simpa using (congrArg (fun o => o.map Prod.fst) h2).symm)
          · exact absurd ((hP i q hi).lt) (Nat.not_lt.mpr h2))
    · rw [e1]; exact va_P_mem.mp hp1 q (List.mem_cons_of_mem _ h))
  have hD2 : va_D A (ws.set q0 (b, .inr (ci, fs)) ++ ex) := va_D_nd.mpr ⟨by
    rw [List.map_append]
    refine List.nodup_append.mpr ⟨(va_D_nd.mp hD1).1, ?_, ?_⟩
    · have := (va_D_nd.mp hd1).1
      rw [List.map_cons] at this
      exact (List.nodup_cons.mp this).2
    · intro x hx y hy2 e_
      obtain ⟨qx, hqx, rfl⟩ := List.mem_map.mp hx
      obtain ⟨qy, hqy, rfl⟩ := List.mem_map.mp hy2
      have a1 := hmem qx hqx
      have a2 := hex qy hqy
      omega, fun q hq2 => by
    rcases List.mem_append.mp hq2 with h | h
    · exact (va_D_nd.mp hD1).2 q h
    · exact hA _ (Nat.le_trans hS.1 (hex q h))⟩
  have hS2 : va_S A s.heap T'.heap (locs ++ L) := ⟨by rw [e1]; exact Nat.le_trans hS.1 hz, fun q h1 h2 => by
      rw [e1, hk q (Nat.lt_of_lt_of_le h1 hS.1) (fun z => h2 (hfree q z))]; exact hS.2.1 q h1 h2, fun q hq2 => by
      rcases List.mem_append.mp hq2 with h | h
      · exact hS.2.2 q h
      · exact hfree _ (hL q h)⟩
  obtain ⟨t2, a1, b1⟩ := kk fs ex hp p e s m args below meth c A T'.heap (locs ++ L) ls C hN hP2 hD2 hS2 hl T' rfl X'
  exact ⟨t2, stp t2 a1, b1⟩
theorem JI_callIN (pc : Nat) {y : MethodName} {bytes : ByteArray} {maxL k mc ms index b ci : Nat} {fs0 : List Value} {PI : List Value → va_W → Prop} (hC : CtI l G y bytes maxL k mc ms b ci fs0 PI) (hE : ∀ (A : Nat → Prop) (s : State), B.2.2.2.2.1 A s → gEX G A s) {host : String} (hlink : ∀ s, gE s → va_Nw (.methodLinkNest own index y host) s) (hin : Cond.instanceMethod y ∈ TB) (hini : Cond.initialized y.cls ∈ TB) (hcode : Cond.code y bytes maxL none ∈ TB) (hy : okY y 0) (hyn : y.name = "<init>") (q0 : Nat) (hq : ws[q0]? = some (b, .inr (ci, fs0)))
    (hfr : Nat.ble (k + 1) B.1.frames = true) (hlo : Nat.ble (19 + maxL + 40 * k) B.1.locals = true) (hce : Nat.ble (B.2.1 + mc) B.1.cells = true) (hsl : Nat.ble (B.2.2.1 + ms) B.1.slots = true) (hst : (st.map fun v => v.category).sum ≤ 8) (hdg : decode cc pc = .ok (.invokespecial index, 3))
    (kk : ∀ (fs : List Value) (ex : va_W), PI fs ex → JI l G (Bm B mc ms) Nm cc nL own (pc + 3) lv st (ws.set q0 (b, .inr (ci, fs)) ++ ex)) : JI l G B Nm cc nL own pc lv (.ref b :: st) ws := by
  intro p e s m args below meth c A H locs ls C hN hP hD hS hl
  have ht := C.2.2.2.1
  have hA := C.2.2.2.2.2.2.2.2.1
  have hG := C.2.2.2.2.2.2.2.2.2.1
  have hR : (rmI k mc ms).frames + 1 ≤ B.1.frames ∧ 8 + (maxL + 11) + (rmI k mc ms).locals ≤ B.1.locals := ⟨Nat.le_of_ble_eq_true hfr, by have := Nat.le_of_ble_eq_true hlo; show 8 + (maxL + 11) + 40 * k ≤ _; omega⟩
  have hcb : va_CN B.1 s args own index y host bytes maxL none (.code y bytes maxL none :: TB) (rmI k mc ms) mc ms 0 := va_cnB 0 ht (ct_pay ht hcode) rfl rfl rfl (hlink _ (hE _ _ C.2.2.2.2.2.2.2.2.2.2).1) (ht _ hini) hy hR
  have h0 : ([q0] : List Nat).map (fun i => ws[i]?) = ([(b, .inr (ci, fs0))] : va_W).map some := by simp [hq]
  have hfree := va_free (wc := [(b, .inr (ci, fs0))]) hD hS hA [q0] h0
  have hPre : PreS s H (CtIPc G [.ref b] [(b, .inr (ci, fs0))] H.size) [.ref b] := ⟨ctI_blind, fun U hU hW => by
    obtain ⟨g1, g2, g3, g4, g5, g6⟩ := ct_before (av := [.ref b]) hP hD hS hA C.2.2.2.2.2.2.2.1 hG h0 rfl U hU hW
    have hx_ := hE _ _ C.2.2.2.2.2.2.2.2.2.2
    exact ⟨g1, g2, g3, g4, g5, g6, hx_.1.warm hW, by rw [hU]; exact ((hx_.2.kept (H1 := H) (fun a h1 h2 => hS.2.1 a h1 h2)).narrow hfree).moved hW.alike⟩⟩
  have hr : va_Run p l e B.1 s m args below meth c H locs B.2.1 B.2.2.1 mc ms (F0 m pc ls (.ref b :: st)) st (CtIQ G [(b, .inr (ci, fs0))] (fun w1 => ∃ fs ex, w1 = (b, .inr (ci, fs)) :: ex ∧ PI fs ex) H.size ([.ref b] : List Value).toArray) (va_A [(b, .inr (ci, fs0))] H.size) := va_runIN (y := y) (As := []) (rest := st) ⟨C.1, C.2.1, C.2.2.1, C.2.2.2.2.1, ht⟩ (hC H.size) ⟨hcb, hyn, ht _ hin⟩ hPre rfl rfl hl.1 rfl (lv_room hst) hdg ⟨Nat.le_of_ble_eq_true hce, Nat.le_of_ble_eq_true hsl⟩
  intro T hT X
  obtain ⟨v, st₀, t, T', L, g0, X', hL, e1, e2, ⟨hv, ⟨w1, ⟨fs, ex, rfl, hp⟩, hp1, hd1⟩, hz, hk⟩, stp⟩ := hr T hT X
  cases hv
  rw [g0] at hz hk
  have hbH : b < H.size := (hP q0 _ hq).lt
  have hex : ∀ q ∈ ex, H.size ≤ q.1 := by
    intro q hq2
    obtain ⟨j, hj⟩ := List.getElem?_of_mem hq2
    have hj1 : ((b, Sum.inr (ci, fs)) :: ex : va_W)[j + 1]? = some q := by simpa using hj
    rcases hd1.2 (j + 1) q hj1 with ⟨i, e_, hi⟩ | hi
    · have hi0 : i < 1 := (List.getElem?_eq_some_iff.mp hi).1
      rw [show i = 0 by omega] at hi
      have hqb : b = q.1 := by simpa using congrArg (fun o => o.map Prod.fst) hi
      have := hd1.1 0 (j + 1) _ q rfl hj1 hqb
      omega
    · exact hi
  have hmem : ∀ q ∈ ws.set q0 (b, .inr (ci, fs)), q.1 < H.size := by
    intro q hq2
    obtain ⟨i, hi⟩ := List.getElem?_of_mem hq2
    by_cases e_ : q0 = i
    · subst e_
      rw [List.getElem?_set_self (List.getElem?_eq_some_iff.mp hq).1] at hi
      cases hi; exact hbH
    · rw [List.getElem?_set_ne e_] at hi
      exact (hP i q hi).lt
  have hD1 : va_D A (ws.set q0 (b, .inr (ci, fs))) := hD.set hq
  have hP2 : va_P G.1 vwCl (ws.set q0 (b, .inr (ci, fs)) ++ ex) T'.heap := va_P_mem.mpr (fun q hq2 => by
    rcases List.mem_append.mp hq2 with h | h
    · obtain ⟨i, hi⟩ := List.getElem?_of_mem h
      by_cases e_ : q0 = i
      · subst e_
        rw [List.getElem?_set_self (List.getElem?_eq_some_iff.mp hq).1] at hi
        cases hi
        have := hp1 0 (b, .inr (ci, fs)) rfl
        rw [e1]; exact this
      · rw [List.getElem?_set_ne e_] at hi
        have hne : q.1 ≠ b := fun z => e_ (hD.1 q0 i _ q hq hi z.symm)
        refine (hP i q hi).kept ?_
        rw [e1]
        exact hk q.1 ((hP i q hi).lt) (fun z => by
          rcases z with ⟨i2, e2_, h2⟩ | h2
          · have hi0 : i2 < 1 := (List.getElem?_eq_some_iff.mp h2).1
            rw [show i2 = 0 by omega] at h2
            exact hne (by simpa using (congrArg (fun o => o.map Prod.fst) h2).symm)
          · exact absurd ((hP i q hi).lt) (Nat.not_lt.mpr h2))
    · rw [e1]; exact va_P_mem.mp hp1 q (List.mem_cons_of_mem _ h))
  have hD2 : va_D A (ws.set q0 (b, .inr (ci, fs)) ++ ex) := va_D_nd.mpr ⟨by
    rw [List.map_append]
    refine List.nodup_append.mpr ⟨(va_D_nd.mp hD1).1, ?_, ?_⟩
    · have := (va_D_nd.mp hd1).1
      rw [List.map_cons] at this
      exact (List.nodup_cons.mp this).2
    · intro x hx y hy2 e_
      obtain ⟨qx, hqx, rfl⟩ := List.mem_map.mp hx
      obtain ⟨qy, hqy, rfl⟩ := List.mem_map.mp hy2
      have a1 := hmem qx hqx
      have a2 := hex qy hqy
      omega, fun q hq2 => by
    rcases List.mem_append.mp hq2 with h | h
    · exact (va_D_nd.mp hD1).2 q h
    · exact hA _ (Nat.le_trans hS.1 (hex q h))⟩
  have hS2 : va_S A s.heap T'.heap (locs ++ L) := ⟨by rw [e1]; exact Nat.le_trans hS.1 hz, fun q h1 h2 => by
      rw [e1, hk q (Nat.lt_of_lt_of_le h1 hS.1) (fun z => h2 (hfree q z))]; exact hS.2.1 q h1 h2, fun q hq2 => by
      rcases List.mem_append.mp hq2 with h | h
      · exact hS.2.2 q h
      · exact hfree _ (hL q h)⟩
  obtain ⟨t2, a1, b1⟩ := kk fs ex hp p e s m args below meth c A T'.heap (locs ++ L) ls C hN hP2 hD2 hS2 hl T' rfl X'
  exact ⟨t2, stp t2 a1, b1⟩

variable {w0 w1 ws' : va_W} {rest : List Value}
theorem JI_callS (pc : Nat) {y : MethodName} {bytes : ByteArray} {maxL : Nat} {ret : Option FieldType} {k n index : Nat} {As : List Value} {r : Option Value} (hC : Ct l G y bytes maxL ret k As w0 r w1) (hlink : Cond.methodLink own index y ∈ TB) (hstat : Cond.static y ∈ TB) (hini : Cond.initialized y.cls ∈ TB) (hcode : Cond.code y bytes maxL ret ∈ TB) (hy : okY y n)
    (is : List Nat) (h0 : is.map (fun i => ws[i]?) = w0.map some) (hnd : va_nd is = true) (hf : w1.map Prod.fst = w0.map Prod.fst) (hw : upds ws is w1 = ws') (hf' : ws'.map Prod.fst = ws.map Prod.fst) (hn : As.length = n) (hst : st = As.reverse ++ rest) (hrm : (rest.map fun v => v.category).sum ≤ 8) (hfit : fitR B k maxL = true) (hdg : decode cc pc = .ok (.invokestatic index, 3))
    (kk : JI l G B Nm cc nL own (pc + 3) lv (r.toList ++ rest) ws') : JI l G B Nm cc nL own pc lv st ws := by
  intro p e s m args below meth c A H locs ls C hMm hP hD hS hl
  obtain ⟨hR, hcl, hsl⟩ := fit_R hfit
  have ht := C.2.2.2.1
  have hcb : CallB B.1 s args own index y bytes maxL ret (.code y bytes maxL ret :: TB) (lvl k) 0 0 n := callB_of n ht (ct_pay ht hcode) rfl rfl rfl (ht _ hini) (ht _ hlink) hy hR
  refine ct_go (va_runS (y := y) (As := As) (rest := rest) ⟨C.1, C.2.1, C.2.2.1, C.2.2.2.2.1, ht⟩ (hC H.size) ⟨hcb, ht _ hstat⟩ ⟨ct_blind, ct_before hP hD hS C.2.2.2.2.2.2.2.2.1 C.2.2.2.2.2.2.2.1 C.2.2.2.2.2.2.2.2.2.1 h0 hnd⟩ rfl hn hl.1 hst (lv_room hrm) hdg ⟨hcl, hsl⟩) hP hD hS C.2.2.2.2.2.2.2.2.1 h0 hf hf' hw (fun H1 locs1 hP1 hD1 hS1 => kk p e s m args below meth c A H1 locs1 ls C hMm hP1 hD1 hS1 hl)
end JIC
