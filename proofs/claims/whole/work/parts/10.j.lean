/-! J: a method's walk over a world of cells; what is the machine's own is hidden in it -/
abbrev Gd : Type := va_G × (Nat → ClassId) × (Nat → Nat)
abbrev gT (G : Gd) : List (ClassId × FieldType) := [(G.2.1 0, .int), (G.2.1 1, .byte), (G.2.1 2, .long), (G.2.1 3, .object "GooseArms$Sheet"), (G.2.1 4, .object "GooseArms$Shelf")]
def sv (l : List Int32) : Nat → Value := fun j => .int (l.getD j 0)
/-- the String constants of the class: place in the pool, text, bytes -/
def kSi : List Nat := [120, 122, 124, 126, 128, 130, 132, 134, 136, 138, 48, 83, 89, 98, 100]
def kSt : List String := ["hearer", "judge", "advocate", "elder", "liar", "horse", "cold", "oath", "wear", "draught", "say", "heat", "so", "tender", "minds"]
def kSb : List (List Int32) := [[104, 101, 97, 114, 101, 114], [106, 117, 100, 103, 101], [97, 100, 118, 111, 99, 97, 116, 101], [101, 108, 100, 101, 114], [108, 105, 97, 114], [104, 111, 114, 115, 101], [99, 111, 108, 100], [111, 97, 116, 104], [119, 101, 97, 114], [100, 114, 97, 117, 103, 104, 116], [115, 97, 121], [104, 101, 97, 116], [115, 111], [116, 101, 110, 100, 101, 114], [109, 105, 110, 100, 115]]
def kSl : List Nat := [6, 5, 8, 5, 4, 5, 4, 4, 4, 7, 3, 4, 2, 6, 5]
/-- what stands fast: static arrays (at G.2.2 0 .. 5), a static number, String constants (at G.2.2 10 .., their bytes at G.2.2 30 ..) -/
def gG (G : Gd) (A : Nat → Prop) (U : State) (H : Heap) : Prop :=
  (va_Z "GooseArms" "LAWS_AT_FIRST" "[I" (.ref (G.2.2 0)) A U H ∧ va_T .int (G.2.2 0) 4 (sv [2, 3, 1, 20]) A U H) ∧
  (va_Z "GooseArms" "MOST_OF_LAW" "[I" (.ref (G.2.2 1)) A U H ∧ va_T .int (G.2.2 1) 4 (sv [9, 9, 9, 99]) A U H) ∧
  (va_Z "GooseArms$Deed" "SHAKING" "[I" (.ref (G.2.2 2)) A U H ∧ va_T .int (G.2.2 2) 6 (sv [10, 10, 30, 51, 40, 10]) A U H) ∧
  (va_Z "GooseArms$Deed" "READING" "[I" (.ref (G.2.2 3)) A U H ∧ va_T .int (G.2.2 3) 6 (sv [11, 20, 11, 20, 41, 11]) A U H) ∧
  (va_Z "GooseArms$Deed" "PARTING" "[I" (.ref (G.2.2 4)) A U H ∧ va_T .int (G.2.2 4) 6 (sv [12, 12, 12, 50, 12, 61]) A U H) ∧
  (va_Z "GooseArms$Deed" "SWEARING" "[I" (.ref (G.2.2 5)) A U H ∧ va_T .int (G.2.2 5) 6 (sv [13, 13, 31, 13, 31, 60]) A U H) ∧
  (va_Z "java/lang/String" "COMPACT_STRINGS" "Z" (.int 1) A U H ∧ va_Zq "jdk/internal/util/Preconditions" "SIOOBE_FORMATTER" "Ljava/util/function/BiFunction;" A U H) ∧
  vk_S 15 kSl kSb (fun i => G.2.2 (10 + i)) (fun i => G.2.2 (30 + i)) A U H ∧
  (∀ i, i < 15 → vk_R "GooseArms$Tape" (kSi.getD i 0) (kSt.getD i "") (G.2.2 (10 + i)) U) ∧
  va_Nw (.methodLinkNest "GooseArms$Court" 63 ⟨"GooseArms", "has", "(II)Z"⟩ "GooseArms") U ∧
  va_Nw (.methodLinkNest "GooseArms$Court" 75 ⟨"GooseArms", "only", "(I)I"⟩ "GooseArms") U ∧
  va_Nw (.methodLinkNest "GooseArms$Court" 81 ⟨"GooseArms", "heldTender", "(I)I"⟩ "GooseArms") U ∧
  va_Nw (.methodLinkNest "GooseArms$Deed" 32 ⟨"GooseArms", "isKind", "(I)Z"⟩ "GooseArms") U ∧
  va_Nw (.methodLinkNest "GooseArms" 311 ⟨"GooseArms$Deed", "runs", "(LGooseArms$Deed;III)I"⟩ "GooseArms") U ∧
  va_Nw (.fieldLinkNest "GooseArms$Court" 9 "GooseArms" "LAWS_AT_FIRST" "[I" "GooseArms") U ∧
  va_Nw (.fieldLinkNest "GooseArms$Tape" 67 "GooseArms" "MOST_OF_LAW" "[I" "GooseArms") U
theorem gG.kept {G : Gd} {A : Nat → Prop} {U : State} {H H1 : Heap} (h : gG G A U H) (hq : ∀ a : Nat, a < H.size → ¬ A a → H1[a]? = H[a]?) : gG G A U H1 := by
  obtain ⟨⟨a0, b0⟩, ⟨a1, b1⟩, ⟨a2, b2⟩, ⟨a3, b3⟩, ⟨a4, b4⟩, ⟨a5, b5⟩, a6, a7, a8, a9⟩ := h
  exact ⟨⟨a0.kept hq, b0.kept hq⟩, ⟨a1.kept hq, b1.kept hq⟩, ⟨a2.kept hq, b2.kept hq⟩, ⟨a3.kept hq, b3.kept hq⟩, ⟨a4.kept hq, b4.kept hq⟩, ⟨a5.kept hq, b5.kept hq⟩, ⟨a6.1.kept hq, a6.2.kept hq⟩, a7.kept hq, a8, a9⟩
theorem gG.narrow {G : Gd} {A B : Nat → Prop} {U : State} {H : Heap} (h : gG G A U H) (hq : ∀ q, B q → A q) : gG G B U H := by
  obtain ⟨⟨a0, b0⟩, ⟨a1, b1⟩, ⟨a2, b2⟩, ⟨a3, b3⟩, ⟨a4, b4⟩, ⟨a5, b5⟩, a6, a7, a8, a9⟩ := h
  exact ⟨⟨a0.narrow hq, b0.narrow hq⟩, ⟨a1.narrow hq, b1.narrow hq⟩, ⟨a2.narrow hq, b2.narrow hq⟩, ⟨a3.narrow hq, b3.narrow hq⟩, ⟨a4.narrow hq, b4.narrow hq⟩, ⟨a5.narrow hq, b5.narrow hq⟩, ⟨a6.1.narrow hq, a6.2.narrow hq⟩, a7.narrow hq, a8, a9⟩
theorem gG.warm {G : Gd} {A : Nat → Prop} {s U : State} {H : Heap} (hW : s.WarmedH U.vm) (h : gG G A s H) : gG G A U H := by
  have hv := hW.alike
  obtain ⟨⟨a0, b0⟩, ⟨a1, b1⟩, ⟨a2, b2⟩, ⟨a3, b3⟩, ⟨a4, b4⟩, ⟨a5, b5⟩, a6, a7, a8, a9⟩ := h
  obtain ⟨n0, n1, n2, n3, n4, n5, n6⟩ := a9
  exact ⟨⟨a0.moved hv, b0.moved hv⟩, ⟨a1.moved hv, b1.moved hv⟩, ⟨a2.moved hv, b2.moved hv⟩, ⟨a3.moved hv, b3.moved hv⟩, ⟨a4.moved hv, b4.moved hv⟩, ⟨a5.moved hv, b5.moved hv⟩, ⟨a6.1.moved hv, a6.2.moved hv⟩, a7.moved hv, fun i hi => (a8 i hi).warm hW, n0.warmM hW, n1.warmM hW, n2.warmM hW, n3.warmM hW, n4.warmM hW, n5.warmF hW, n6.warmF hW⟩
theorem gG.same {G : Gd} {A : Nat → Prop} {u U : State} {H : Heap} (e : U.vm = u.vm) (h : gG G A u H) : gG G A U H := by
  have hv : u.vm.Alike U.vm := e ▸ Vm.Alike.refl u.vm
  obtain ⟨⟨a0, b0⟩, ⟨a1, b1⟩, ⟨a2, b2⟩, ⟨a3, b3⟩, ⟨a4, b4⟩, ⟨a5, b5⟩, a6, a7, a8, a9⟩ := h
  obtain ⟨n0, n1, n2, n3, n4, n5, n6⟩ := a9
  exact ⟨⟨a0.moved hv, b0.moved hv⟩, ⟨a1.moved hv, b1.moved hv⟩, ⟨a2.moved hv, b2.moved hv⟩, ⟨a3.moved hv, b3.moved hv⟩, ⟨a4.moved hv, b4.moved hv⟩, ⟨a5.moved hv, b5.moved hv⟩, ⟨a6.1.moved hv, a6.2.moved hv⟩, a7.moved hv, fun i hi => (a8 i hi).same e, va_tabs rfl e.symm n0, va_tabs rfl e.symm n1, va_tabs rfl e.symm n2, va_tabs rfl e.symm n3, va_tabs rfl e.symm n4, va_tabs rfl e.symm n5, va_tabs rfl e.symm n6⟩
/-- the locals, by their places -/
def prs (lv : List (Option Value)) : List (Nat × Value) := (List.range lv.length).filterMap (fun i => match lv[i]? with | some (some v) => some (i, v) | _ => none)
theorem mem_prs {lv : List (Option Value)} {q : Nat × Value} : q ∈ prs lv ↔ lv[q.1]? = some (some q.2) := by
  obtain ⟨i, v⟩ := q
  unfold prs
  rw [List.mem_filterMap]
  constructor
  · rintro ⟨j, -, h⟩
    split at h
    · rename_i u hu; simp only [Option.some.injEq, Prod.mk.injEq] at h; obtain ⟨rfl, rfl⟩ := h; exact hu
    · cases h
  · intro h
    refine ⟨i, List.mem_range.mpr (List.getElem?_eq_some_iff.mp h).1, ?_⟩
    simp only at h
    rw [h]
def lp (ls : Array Slot) (nL : Nat) (lv : List (Option Value)) : Prop := lv_has ls nL (prs lv)
theorem lp.at {ls : Array Slot} {nL : Nat} {lv : List (Option Value)} (h : lp ls nL lv) {i : Nat} {v : Value} (e : lv[i]? = some (some v)) : ls[i]? = some (.val v) := h.2.2 (i, v) (mem_prs.mpr e)
theorem lp.less {ls : Array Slot} {nL : Nat} {lv lv' : List (Option Value)} (h : lp ls nL lv) (e : ∀ (i : Nat) (v : Value), lv'[i]? = some (some v) → lv[i]? = some (some v)) : lp ls nL lv' :=
  ⟨h.1, h.2.1, fun q hq => h.at (e q.1 q.2 (mem_prs.mp hq))⟩
/-- fewer locals -/
def msk : List (Option Value) → List Bool → List (Option Value)
  | o :: l, b :: bs => (if b then o else none) :: msk l bs
  | _, _ => []
theorem msk_at : ∀ (lv : List (Option Value)) (bs : List Bool) (i : Nat) (v : Value), (msk lv bs)[i]? = some (some v) → lv[i]? = some (some v)
  | [], bs, i, v, h => by cases bs <;> simp [msk] at h
  | o :: l, [], i, v, h => by simp [msk] at h
  | o :: l, b :: bs, 0, v, h => by
    cases b
    · simp [msk] at h
    · simpa [msk] using h
  | o :: l, b :: bs, i + 1, v, h => by
    simp only [msk, List.getElem?_cons_succ] at h ⊢
    exact msk_at l bs i v h
/-- what a store leaves -/
def stx (lv : List (Option Value)) (j : Nat) : Option (Option Value) → List (Option Value)
  | some (some u) => if u.category = 2 then lv.set j none else lv
  | _ => lv
def stc (lv : List (Option Value)) : Nat → List (Option Value)
  | 0 => lv
  | j + 1 => stx lv j lv[j]?
def stp1 (lv : List (Option Value)) (i : Nat) (v : Value) : List (Option Value) := (stc lv i).set i (some v)
def stp2 (lv : List (Option Value)) (i : Nat) (v : Value) : List (Option Value) := ((stc lv i).set i (some v)).set (i + 1) none
theorem stc_at {lv : List (Option Value)} {i j : Nat} {w : Value} (h : (stc lv i)[j]? = some (some w)) : lv[j]? = some (some w) ∧ ¬ (j + 1 = i ∧ w.category = 2) := by
  cases i with
  | zero => exact ⟨h, fun q => by omega⟩
  | succ k =>
    have e : stc lv (k + 1) = stx lv k lv[k]? := rfl
    rw [e] at h
    cases hu : lv[k]? with
    | none =>
      rw [hu] at h
      refine ⟨h, fun q => ?_⟩
      have : j = k := by omega
      subst this
      have h : lv[j]? = some (some w) := h
      rw [hu] at h
      cases h
    | some o =>
      cases o with
      | none =>
        rw [hu] at h
        refine ⟨h, fun q => ?_⟩
        have : j = k := by omega
        subst this
        have h : lv[j]? = some (some w) := h
        rw [hu] at h
        cases h
      | some u =>
        rw [hu] at h
        have g : (if u.category = 2 then lv.set k none else lv)[j]? = some (some w) := h
        clear h
        by_cases hc : u.category = 2
        · rw [if_pos hc] at g
          by_cases hj : k = j
          · subst hj
            rw [List.getElem?_set_self (List.getElem?_eq_some_iff.mp hu).1] at g
            cases g
          · rw [List.getElem?_set_ne hj] at g
            exact ⟨g, fun q => hj (by omega)⟩
        · rw [if_neg hc] at g
          refine ⟨g, fun q => ?_⟩
          have : j = k := by omega
          subst this
          rw [hu] at g
          cases g
          exact hc q.2
theorem lp.st1 {ls' : Array Slot} {nL i : Nat} {lv lv' : List (Option Value)} {v : Value} (h : lv_has ls' nL ((i, v) :: (prs lv).filter (fun q => !(q.1 == i) && !(q.1 + 1 == i && q.2.category == 2)))) (e : stp1 lv i v = lv') : lp ls' nL lv' := by
  subst e
  refine ⟨h.1, h.2.1, fun q hq => h.2.2 q ?_⟩
  have hq := mem_prs.mp hq
  obtain ⟨j, w⟩ := q
  simp only at hq
  unfold stp1 at hq
  by_cases hj : i = j
  · subst hj
    have hlt : i < (stc lv i).length := by
      have := (List.getElem?_eq_some_iff.mp hq).1
      simpa using this
    rw [List.getElem?_set_self hlt] at hq
    cases hq
    exact List.mem_cons_self
  · rw [List.getElem?_set_ne hj] at hq
    obtain ⟨h1, h2⟩ := stc_at hq
    refine List.mem_cons_of_mem _ (List.mem_filter.mpr ⟨mem_prs.mpr h1, ?_⟩)
    simp only [Bool.and_eq_true, Bool.not_eq_true', beq_eq_false_iff_ne, ne_eq, Bool.and_eq_false_iff]
    refine ⟨fun z => hj z.symm, ?_⟩
    by_cases z : j + 1 = i
    · exact Or.inr (fun y => h2 ⟨z, y⟩)
    · exact Or.inl z
theorem lp.st2 {ls' : Array Slot} {nL i : Nat} {lv lv' : List (Option Value)} {v : Value} (h : lv_has ls' nL ((i, v) :: (prs lv).filter (fun q => !(q.1 == i) && (!(q.1 == i + 1) && !(q.1 + 1 == i && q.2.category == 2))))) (e : stp2 lv i v = lv') : lp ls' nL lv' := by
  subst e
  refine ⟨h.1, h.2.1, fun q hq => h.2.2 q ?_⟩
  have hq := mem_prs.mp hq
  obtain ⟨j, w⟩ := q
  simp only at hq
  unfold stp2 at hq
  by_cases hj1 : i + 1 = j
  · subst hj1
    have hlt : i + 1 < ((stc lv i).set i (some v)).length := by
      have := (List.getElem?_eq_some_iff.mp hq).1
      simpa using this
    rw [List.getElem?_set_self hlt] at hq
    cases hq
  · rw [List.getElem?_set_ne hj1] at hq
    by_cases hj : i = j
    · subst hj
      have hlt : i < (stc lv i).length := by
        have := (List.getElem?_eq_some_iff.mp hq).1
        simpa using this
      rw [List.getElem?_set_self hlt] at hq
      cases hq
      exact List.mem_cons_self
    · rw [List.getElem?_set_ne hj] at hq
      obtain ⟨h1, h2⟩ := stc_at hq
      refine List.mem_cons_of_mem _ (List.mem_filter.mpr ⟨mem_prs.mpr h1, ?_⟩)
      simp only [Bool.and_eq_true, Bool.not_eq_true', beq_eq_false_iff_ne, ne_eq, Bool.and_eq_false_iff]
      refine ⟨fun z => hj z.symm, fun z => hj1 z.symm, ?_⟩
      by_cases z : j + 1 = i
      · exact Or.inr (fun y => h2 ⟨z, y⟩)
      · exact Or.inl z
/-- room, cells, slots, what is returned, what else stands fast, what holds at the end -/
abbrev Bd : Type := Room × Nat × Nat × Option FieldType × ((Nat → Prop) → State → Prop) × ((Nat → Prop) → Array Value → State → List Frame → State → Prop)
def JC (p : Program) (G : Gd) (B : Bd) (cc : ByteArray) (nL : Nat) (own : String) (s : State) (m : MethodId) (args : Array Value) (meth : Method) (c : Code) (A : Nat → Prop) : Prop :=
  p.tables.exec = Jvm.exec ∧ c.code = cc ∧ c.maxLocals = nL ∧ (∀ w ∈ TB, w.before args s = true) ∧ s.vm.findClass own = some m.cls ∧ meth.sig.returnType = B.2.2.2.1 ∧ meth.locks = false ∧ va_K G.1 vwCl (gT G) s ∧ (∀ q : Nat, s.heap.size ≤ q → A q) ∧ gG G A s s.heap ∧ B.2.2.2.2.1 A s
def J (l : Launch) (G : Gd) (B : Bd) (cc : ByteArray) (nL : Nat) (own : String) (pc : Nat) (lv : List (Option Value)) (st : List Value) (ws : va_W) : Prop :=
  ∀ (p : Program) (e : Env) (s : State) (m : MethodId) (args : Array Value) (below : List Frame) (meth : Method) (c : Code) (A : Nat → Prop) (H : Heap) (locs : List Loc) (ls : Array Slot),
    JC p G B cc nL own s m args meth c A → va_P G.1 vwCl ws H → va_D A ws → va_S A s.heap H locs → lp ls nL lv → W p l e B.1 s m args below meth c H locs B.2.1 B.2.2.1 (B.2.2.2.2.2 A args s below) (F0 m pc ls st)
def uSh (x y : Int32) : Int32 := (x.toUInt32 >>> (y.toUInt32 &&& Int32.toUInt32 31)).toInt32
section JR
variable {l : Launch} {G : Gd} {B : Bd} {cc : ByteArray} {nL : Nat} {own : String} {lv : List (Option Value)} {st : List Value} {ws : va_W}
theorem J_eqp {pc pc' : Nat} (h : pc = pc') (k : J l G B cc nL own pc' lv st ws) : J l G B cc nL own pc lv st ws := h ▸ k
theorem J_mask (pc : Nat) {lv' : List (Option Value)} (bs : List Bool) (h : msk lv bs = lv') (k : J l G B cc nL own pc lv' st ws) : J l G B cc nL own pc lv st ws := by
  subst h
  intro p e s m args below meth c A H locs ls C hP hD hS hl
  exact k p e s m args below meth c A H locs ls C hP hD hS (hl.less (msk_at lv bs))
theorem J_ws (pc : Nat) {ws' : va_W} (h : ws = ws') (k : J l G B cc nL own pc lv st ws') : J l G B cc nL own pc lv st ws := h ▸ k
theorem J_st (pc : Nat) {st' : List Value} (h : st = st') (k : J l G B cc nL own pc lv st' ws) : J l G B cc nL own pc lv st ws := h ▸ k
theorem J_topi (pc : Nat) {x y : Int32} (h : x = y) (k : J l G B cc nL own pc lv (.int y :: st) ws) : J l G B cc nL own pc lv (.int x :: st) ws := h ▸ k
theorem J_topl (pc : Nat) {x y : Int64} (h : x = y) (k : J l G B cc nL own pc lv (.long y :: st) ws) : J l G B cc nL own pc lv (.long x :: st) ws := h ▸ k
theorem J_iconst (pc : Nat) {n : Int} {v : Int32} (hdg : decode cc pc = .ok (.iconst n, 1)) (hv : Int32.ofInt n = v) (k : J l G B cc nL own (pc + 1) lv (.int v :: st) ws) : J l G B cc nL own pc lv st ws := by
  intro p e s m args below meth c A H locs ls C hP hD hS hl
  exact lv_iconst C.1 C.2.1 hdg hv (k p e s m args below meth c A H locs ls C hP hD hS hl)
theorem J_bipush (pc : Nat) {n : Int} {v : Int32} (hdg : decode cc pc = .ok (.bipush n, 2)) (hv : (Int8.ofInt n).toInt32 = v) (k : J l G B cc nL own (pc + 2) lv (.int v :: st) ws) : J l G B cc nL own pc lv st ws := by
  intro p e s m args below meth c A H locs ls C hP hD hS hl
  exact lv_bipush C.1 C.2.1 hdg hv (k p e s m args below meth c A H locs ls C hP hD hS hl)
theorem J_sipush (pc : Nat) {n : Int} {v : Int32} (hdg : decode cc pc = .ok (.sipush n, 3)) (hv : (Int16.ofInt n).toInt32 = v) (k : J l G B cc nL own (pc + 3) lv (.int v :: st) ws) : J l G B cc nL own pc lv st ws := by
  intro p e s m args below meth c A H locs ls C hP hD hS hl
  exact lv_sipush C.1 C.2.1 hdg hv (k p e s m args below meth c A H locs ls C hP hD hS hl)
theorem J_lconst (pc : Nat) {n : Fin 2} {v : Int64} (hdg : decode cc pc = .ok (.lconst n, 1)) (hv : Int64.ofNat (n : Nat) = v) (k : J l G B cc nL own (pc + 1) lv (.long v :: st) ws) : J l G B cc nL own pc lv st ws := by
  intro p e s m args below meth c A H locs ls C hP hD hS hl
  exact lv_lconst C.1 C.2.1 hdg hv (k p e s m args below meth c A H locs ls C hP hD hS hl)
theorem J_iload_n (pc : Nat) {q : Fin 4} (i : Nat) {x : Int32} (hdg : decode cc pc = .ok (.iload_n q, 1)) (hi : (q : Nat) = i) (h : lv[i]? = some (some (.int x))) (k : J l G B cc nL own (pc + 1) lv (.int x :: st) ws) : J l G B cc nL own pc lv st ws := by
  intro p e s m args below meth c A H locs ls C hP hD hS hl
  exact lv_iload_n C.1 C.2.1 hdg hi (hl.at h) (k p e s m args below meth c A H locs ls C hP hD hS hl)
theorem J_iload (pc : Nat) {i : Nat} {x : Int32} (hdg : decode cc pc = .ok (.iload i, 2)) (h : lv[i]? = some (some (.int x))) (k : J l G B cc nL own (pc + 2) lv (.int x :: st) ws) : J l G B cc nL own pc lv st ws := by
  intro p e s m args below meth c A H locs ls C hP hD hS hl
  exact lv_iload C.1 C.2.1 hdg (hl.at h) (k p e s m args below meth c A H locs ls C hP hD hS hl)
theorem J_istore_n (pc : Nat) {q : Fin 4} (i : Nat) {x : Int32} {lv' : List (Option Value)} (hdg : decode cc pc = .ok (.istore_n q, 1)) (hi : (q : Nat) = i) (hn : i < nL) (h : stp1 lv i (.int x) = lv') (k : J l G B cc nL own (pc + 1) lv' st ws) : J l G B cc nL own pc lv (.int x :: st) ws := by
  intro p e s m args below meth c A H locs ls C hP hD hS hl
  exact lv_istore_n C.1 C.2.1 hdg hi hl hn rfl (fun ls' h' => k p e s m args below meth c A H locs ls' C hP hD hS (lp.st1 h' h))
theorem J_istore (pc : Nat) {i : Nat} {x : Int32} {lv' : List (Option Value)} (hdg : decode cc pc = .ok (.istore i, 2))  (hn : i < nL) (h : stp1 lv i (.int x) = lv') (k : J l G B cc nL own (pc + 2) lv' st ws) : J l G B cc nL own pc lv (.int x :: st) ws := by
  intro p e s m args below meth c A H locs ls C hP hD hS hl
  exact lv_istore C.1 C.2.1 hdg hl hn rfl (fun ls' h' => k p e s m args below meth c A H locs ls' C hP hD hS (lp.st1 h' h))
theorem J_lload_n (pc : Nat) {q : Fin 4} (i : Nat) {x : Int64} (hdg : decode cc pc = .ok (.lload_n q, 1)) (hi : (q : Nat) = i) (h : lv[i]? = some (some (.long x))) (k : J l G B cc nL own (pc + 1) lv (.long x :: st) ws) : J l G B cc nL own pc lv st ws := by
  intro p e s m args below meth c A H locs ls C hP hD hS hl
  exact lv_lload_n C.1 C.2.1 hdg hi (hl.at h) (k p e s m args below meth c A H locs ls C hP hD hS hl)
theorem J_lload (pc : Nat) {i : Nat} {x : Int64} (hdg : decode cc pc = .ok (.lload i, 2)) (h : lv[i]? = some (some (.long x))) (k : J l G B cc nL own (pc + 2) lv (.long x :: st) ws) : J l G B cc nL own pc lv st ws := by
  intro p e s m args below meth c A H locs ls C hP hD hS hl
  exact lv_lload C.1 C.2.1 hdg (hl.at h) (k p e s m args below meth c A H locs ls C hP hD hS hl)
theorem J_lstore_n (pc : Nat) {q : Fin 4} (i : Nat) {x : Int64} {lv' : List (Option Value)} (hdg : decode cc pc = .ok (.lstore_n q, 1)) (hi : (q : Nat) = i) (hn : i + 1 < nL) (h : stp2 lv i (.long x) = lv') (k : J l G B cc nL own (pc + 1) lv' st ws) : J l G B cc nL own pc lv (.long x :: st) ws := by
  intro p e s m args below meth c A H locs ls C hP hD hS hl
  exact lv_lstore_n C.1 C.2.1 hdg hi hl hn rfl (fun ls' h' => k p e s m args below meth c A H locs ls' C hP hD hS (lp.st2 h' h))
theorem J_lstore (pc : Nat) {i : Nat} {x : Int64} {lv' : List (Option Value)} (hdg : decode cc pc = .ok (.lstore i, 2))  (hn : i + 1 < nL) (h : stp2 lv i (.long x) = lv') (k : J l G B cc nL own (pc + 2) lv' st ws) : J l G B cc nL own pc lv (.long x :: st) ws := by
  intro p e s m args below meth c A H locs ls C hP hD hS hl
  exact lv_lstore C.1 C.2.1 hdg hl hn rfl (fun ls' h' => k p e s m args below meth c A H locs ls' C hP hD hS (lp.st2 h' h))
theorem J_aload_n (pc : Nat) {q : Fin 4} (i : Nat) {x : Nat} (hdg : decode cc pc = .ok (.aload_n q, 1)) (hi : (q : Nat) = i) (h : lv[i]? = some (some (.ref x))) (k : J l G B cc nL own (pc + 1) lv (.ref x :: st) ws) : J l G B cc nL own pc lv st ws := by
  intro p e s m args below meth c A H locs ls C hP hD hS hl
  exact lv_aload_n C.1 C.2.1 hdg hi (hl.at h) (k p e s m args below meth c A H locs ls C hP hD hS hl)
theorem J_aload (pc : Nat) {i : Nat} {x : Nat} (hdg : decode cc pc = .ok (.aload i, 2)) (h : lv[i]? = some (some (.ref x))) (k : J l G B cc nL own (pc + 2) lv (.ref x :: st) ws) : J l G B cc nL own pc lv st ws := by
  intro p e s m args below meth c A H locs ls C hP hD hS hl
  exact lv_aload C.1 C.2.1 hdg (hl.at h) (k p e s m args below meth c A H locs ls C hP hD hS hl)
theorem J_astore_n (pc : Nat) {q : Fin 4} (i : Nat) {x : Nat} {lv' : List (Option Value)} (hdg : decode cc pc = .ok (.astore_n q, 1)) (hi : (q : Nat) = i) (hn : i < nL) (h : stp1 lv i (.ref x) = lv') (k : J l G B cc nL own (pc + 1) lv' st ws) : J l G B cc nL own pc lv (.ref x :: st) ws := by
  intro p e s m args below meth c A H locs ls C hP hD hS hl
  exact lv_astore_n C.1 C.2.1 hdg hi hl hn rfl (fun ls' h' => k p e s m args below meth c A H locs ls' C hP hD hS (lp.st1 h' h))
theorem J_astore (pc : Nat) {i : Nat} {x : Nat} {lv' : List (Option Value)} (hdg : decode cc pc = .ok (.astore i, 2))  (hn : i < nL) (h : stp1 lv i (.ref x) = lv') (k : J l G B cc nL own (pc + 2) lv' st ws) : J l G B cc nL own pc lv (.ref x :: st) ws := by
  intro p e s m args below meth c A H locs ls C hP hD hS hl
  exact lv_astore C.1 C.2.1 hdg hl hn rfl (fun ls' h' => k p e s m args below meth c A H locs ls' C hP hD hS (lp.st1 h' h))
theorem J_iinc (pc : Nat) {i : Nat} {n : Int} {x v : Int32} {lv' : List (Option Value)} (hdg : decode cc pc = .ok (.iinc i n, 3)) (hx : lv[i]? = some (some (.int x))) (hv : x + Int32.ofInt n = v) (hn : i < nL) (h : stp1 lv i (.int v) = lv') (k : J l G B cc nL own (pc + 3) lv' st ws) : J l G B cc nL own pc lv st ws := by
  intro p e s m args below meth c A H locs ls C hP hD hS hl
  obtain ⟨j, hj⟩ := List.getElem?_of_mem ((mem_prs (q := (i, Value.int x))).mpr hx)
  exact lv_iinc C.1 C.2.1 hdg hl hj hv hn rfl (fun ls' h' => k p e s m args below meth c A H locs ls' C hP hD hS (lp.st1 h' h))
theorem J_iadd (pc : Nat) {x y : Int32} (hdg : decode cc pc = .ok (.iadd, 1))  (k : J l G B cc nL own (pc + 1) lv (.int (x + y) :: st) ws) : J l G B cc nL own pc lv (.int y :: .int x :: st) ws := by
  intro p e s m args below meth c A H locs ls C hP hD hS hl
  exact lv_iadd C.1 C.2.1 hdg (k p e s m args below meth c A H locs ls C hP hD hS hl)
theorem J_isub (pc : Nat) {x y : Int32} (hdg : decode cc pc = .ok (.isub, 1))  (k : J l G B cc nL own (pc + 1) lv (.int (x - y) :: st) ws) : J l G B cc nL own pc lv (.int y :: .int x :: st) ws := by
  intro p e s m args below meth c A H locs ls C hP hD hS hl
  exact lv_isub C.1 C.2.1 hdg (k p e s m args below meth c A H locs ls C hP hD hS hl)
theorem J_imul (pc : Nat) {x y : Int32} (hdg : decode cc pc = .ok (.imul, 1))  (k : J l G B cc nL own (pc + 1) lv (.int (x * y) :: st) ws) : J l G B cc nL own pc lv (.int y :: .int x :: st) ws := by
  intro p e s m args below meth c A H locs ls C hP hD hS hl
  exact lv_imul C.1 C.2.1 hdg (k p e s m args below meth c A H locs ls C hP hD hS hl)
theorem J_iand (pc : Nat) {x y : Int32} (hdg : decode cc pc = .ok (.iand, 1))  (k : J l G B cc nL own (pc + 1) lv (.int (x &&& y) :: st) ws) : J l G B cc nL own pc lv (.int y :: .int x :: st) ws := by
  intro p e s m args below meth c A H locs ls C hP hD hS hl
  exact lv_iand C.1 C.2.1 hdg (k p e s m args below meth c A H locs ls C hP hD hS hl)
theorem J_ior (pc : Nat) {x y : Int32} (hdg : decode cc pc = .ok (.ior, 1))  (k : J l G B cc nL own (pc + 1) lv (.int (x ||| y) :: st) ws) : J l G B cc nL own pc lv (.int y :: .int x :: st) ws := by
  intro p e s m args below meth c A H locs ls C hP hD hS hl
  exact lv_ior C.1 C.2.1 hdg (k p e s m args below meth c A H locs ls C hP hD hS hl)
theorem J_ixor (pc : Nat) {x y : Int32} (hdg : decode cc pc = .ok (.ixor, 1))  (k : J l G B cc nL own (pc + 1) lv (.int (x ^^^ y) :: st) ws) : J l G B cc nL own pc lv (.int y :: .int x :: st) ws := by
  intro p e s m args below meth c A H locs ls C hP hD hS hl
  exact lv_ixor C.1 C.2.1 hdg (k p e s m args below meth c A H locs ls C hP hD hS hl)
theorem J_ishl (pc : Nat) {x y : Int32} (hdg : decode cc pc = .ok (.ishl, 1))  (k : J l G B cc nL own (pc + 1) lv (.int (x <<< (y &&& 31)) :: st) ws) : J l G B cc nL own pc lv (.int y :: .int x :: st) ws := by
  intro p e s m args below meth c A H locs ls C hP hD hS hl
  exact lv_ishl C.1 C.2.1 hdg (k p e s m args below meth c A H locs ls C hP hD hS hl)
theorem J_ishr (pc : Nat) {x y : Int32} (hdg : decode cc pc = .ok (.ishr, 1))  (k : J l G B cc nL own (pc + 1) lv (.int (x >>> (y &&& 31)) :: st) ws) : J l G B cc nL own pc lv (.int y :: .int x :: st) ws := by
  intro p e s m args below meth c A H locs ls C hP hD hS hl
  exact lv_ishr C.1 C.2.1 hdg (k p e s m args below meth c A H locs ls C hP hD hS hl)
theorem J_idiv (pc : Nat) {x y : Int32} (hdg : decode cc pc = .ok (.idiv, 1)) (hne : ¬ y = 0) (k : J l G B cc nL own (pc + 1) lv (.int (x / y) :: st) ws) : J l G B cc nL own pc lv (.int y :: .int x :: st) ws := by
  intro p e s m args below meth c A H locs ls C hP hD hS hl
  exact lv_idiv C.1 C.2.1 hdg hne (k p e s m args below meth c A H locs ls C hP hD hS hl)
theorem J_irem (pc : Nat) {x y : Int32} (hdg : decode cc pc = .ok (.irem, 1)) (hne : ¬ y = 0) (k : J l G B cc nL own (pc + 1) lv (.int (x - x / y * y) :: st) ws) : J l G B cc nL own pc lv (.int y :: .int x :: st) ws := by
  intro p e s m args below meth c A H locs ls C hP hD hS hl
  exact lv_irem C.1 C.2.1 hdg hne (k p e s m args below meth c A H locs ls C hP hD hS hl)
theorem J_ineg (pc : Nat) {x : Int32} (hdg : decode cc pc = .ok (.ineg, 1))  (k : J l G B cc nL own (pc + 1) lv (.int (-x) :: st) ws) : J l G B cc nL own pc lv (.int x :: st) ws := by
  intro p e s m args below meth c A H locs ls C hP hD hS hl
  exact lv_ineg C.1 C.2.1 hdg (k p e s m args below meth c A H locs ls C hP hD hS hl)
theorem J_ladd (pc : Nat) {x y : Int64} (hdg : decode cc pc = .ok (.ladd, 1))  (k : J l G B cc nL own (pc + 1) lv (.long (x + y) :: st) ws) : J l G B cc nL own pc lv (.long y :: .long x :: st) ws := by
  intro p e s m args below meth c A H locs ls C hP hD hS hl
  exact lv_ladd C.1 C.2.1 hdg (k p e s m args below meth c A H locs ls C hP hD hS hl)
theorem J_lsub (pc : Nat) {x y : Int64} (hdg : decode cc pc = .ok (.lsub, 1))  (k : J l G B cc nL own (pc + 1) lv (.long (x - y) :: st) ws) : J l G B cc nL own pc lv (.long y :: .long x :: st) ws := by
  intro p e s m args below meth c A H locs ls C hP hD hS hl
  exact lv_lsub C.1 C.2.1 hdg (k p e s m args below meth c A H locs ls C hP hD hS hl)
theorem J_lmul (pc : Nat) {x y : Int64} (hdg : decode cc pc = .ok (.lmul, 1))  (k : J l G B cc nL own (pc + 1) lv (.long (x * y) :: st) ws) : J l G B cc nL own pc lv (.long y :: .long x :: st) ws := by
  intro p e s m args below meth c A H locs ls C hP hD hS hl
  exact lv_lmul C.1 C.2.1 hdg (k p e s m args below meth c A H locs ls C hP hD hS hl)
theorem J_land (pc : Nat) {x y : Int64} (hdg : decode cc pc = .ok (.land, 1))  (k : J l G B cc nL own (pc + 1) lv (.long (x &&& y) :: st) ws) : J l G B cc nL own pc lv (.long y :: .long x :: st) ws := by
  intro p e s m args below meth c A H locs ls C hP hD hS hl
  exact lv_land C.1 C.2.1 hdg (k p e s m args below meth c A H locs ls C hP hD hS hl)
theorem J_lor (pc : Nat) {x y : Int64} (hdg : decode cc pc = .ok (.lor, 1))  (k : J l G B cc nL own (pc + 1) lv (.long (x ||| y) :: st) ws) : J l G B cc nL own pc lv (.long y :: .long x :: st) ws := by
  intro p e s m args below meth c A H locs ls C hP hD hS hl
  exact lv_lor C.1 C.2.1 hdg (k p e s m args below meth c A H locs ls C hP hD hS hl)
theorem J_ldiv (pc : Nat) {x y : Int64} (hdg : decode cc pc = .ok (.ldiv, 1)) (hne : ¬ y = 0) (k : J l G B cc nL own (pc + 1) lv (.long (x / y) :: st) ws) : J l G B cc nL own pc lv (.long y :: .long x :: st) ws := by
  intro p e s m args below meth c A H locs ls C hP hD hS hl
  exact lv_ldiv C.1 C.2.1 hdg hne (k p e s m args below meth c A H locs ls C hP hD hS hl)
theorem J_lrem (pc : Nat) {x y : Int64} (hdg : decode cc pc = .ok (.lrem, 1)) (hne : ¬ y = 0) (k : J l G B cc nL own (pc + 1) lv (.long (x - x / y * y) :: st) ws) : J l G B cc nL own pc lv (.long y :: .long x :: st) ws := by
  intro p e s m args below meth c A H locs ls C hP hD hS hl
  exact lv_lrem C.1 C.2.1 hdg hne (k p e s m args below meth c A H locs ls C hP hD hS hl)
theorem J_i2l (pc : Nat) {x : Int32} (hdg : decode cc pc = .ok (.i2l, 1))  (k : J l G B cc nL own (pc + 1) lv (.long x.toInt64 :: st) ws) : J l G B cc nL own pc lv (.int x :: st) ws := by
  intro p e s m args below meth c A H locs ls C hP hD hS hl
  exact lv_i2l C.1 C.2.1 hdg rfl (k p e s m args below meth c A H locs ls C hP hD hS hl)
theorem J_l2i (pc : Nat) {x : Int64} (hdg : decode cc pc = .ok (.l2i, 1))  (k : J l G B cc nL own (pc + 1) lv (.int x.toInt32 :: st) ws) : J l G B cc nL own pc lv (.long x :: st) ws := by
  intro p e s m args below meth c A H locs ls C hP hD hS hl
  exact lv_l2i C.1 C.2.1 hdg rfl (k p e s m args below meth c A H locs ls C hP hD hS hl)
theorem J_i2b (pc : Nat) {x : Int32} (hdg : decode cc pc = .ok (.i2b, 1))  (k : J l G B cc nL own (pc + 1) lv (.int x.toInt8.toInt32 :: st) ws) : J l G B cc nL own pc lv (.int x :: st) ws := by
  intro p e s m args below meth c A H locs ls C hP hD hS hl
  exact lv_i2b C.1 C.2.1 hdg rfl (k p e s m args below meth c A H locs ls C hP hD hS hl)
theorem J_i2s (pc : Nat) {x : Int32} (hdg : decode cc pc = .ok (.i2s, 1))  (k : J l G B cc nL own (pc + 1) lv (.int x.toInt16.toInt32 :: st) ws) : J l G B cc nL own pc lv (.int x :: st) ws := by
  intro p e s m args below meth c A H locs ls C hP hD hS hl
  exact lv_i2s C.1 C.2.1 hdg rfl (k p e s m args below meth c A H locs ls C hP hD hS hl)
theorem J_iushr (pc : Nat) {x y : Int32} (hdg : decode cc pc = .ok (.iushr, 1))  (k : J l G B cc nL own (pc + 1) lv (.int (uSh x y) :: st) ws) : J l G B cc nL own pc lv (.int y :: .int x :: st) ws := by
  intro p e s m args below meth c A H locs ls C hP hD hS hl
  exact lv_iushr C.1 C.2.1 hdg rfl (k p e s m args below meth c A H locs ls C hP hD hS hl)
theorem J_lushr (pc : Nat) {x : Int64} {y : Int32} (hdg : decode cc pc = .ok (.lushr, 1))  (k : J l G B cc nL own (pc + 1) lv (.long (x.toUInt64 >>> (y.toInt64.toUInt64 &&& Int64.toUInt64 63)).toInt64 :: st) ws) : J l G B cc nL own pc lv (.int y :: .long x :: st) ws := by
  intro p e s m args below meth c A H locs ls C hP hD hS hl
  exact lv_lushr C.1 C.2.1 hdg rfl (k p e s m args below meth c A H locs ls C hP hD hS hl)
theorem J_lshl (pc : Nat) {x : Int64} {y : Int32} (hdg : decode cc pc = .ok (.lshl, 1))  (k : J l G B cc nL own (pc + 1) lv (.long (x <<< (y.toInt64 &&& 63)) :: st) ws) : J l G B cc nL own pc lv (.int y :: .long x :: st) ws := by
  intro p e s m args below meth c A H locs ls C hP hD hS hl
  exact lv_lshl C.1 C.2.1 hdg rfl (k p e s m args below meth c A H locs ls C hP hD hS hl)
theorem J_lshr (pc : Nat) {x : Int64} {y : Int32} (hdg : decode cc pc = .ok (.lshr, 1))  (k : J l G B cc nL own (pc + 1) lv (.long (x >>> (y.toInt64 &&& 63)) :: st) ws) : J l G B cc nL own pc lv (.int y :: .long x :: st) ws := by
  intro p e s m args below meth c A H locs ls C hP hD hS hl
  exact lv_lshr C.1 C.2.1 hdg rfl (k p e s m args below meth c A H locs ls C hP hD hS hl)
theorem J_dup (pc : Nat) {v : Value} (hdg : decode cc pc = .ok (.dup, 1)) (hv : v.category = 1) (k : J l G B cc nL own (pc + 1) lv (v :: v :: st) ws) : J l G B cc nL own pc lv (v :: st) ws := by
  intro p e s m args below meth c A H locs ls C hP hD hS hl
  exact lv_dup C.1 C.2.1 hdg hv (k p e s m args below meth c A H locs ls C hP hD hS hl)
theorem J_pop (pc : Nat) {v : Value} (hdg : decode cc pc = .ok (.pop, 1)) (hv : v.category = 1) (k : J l G B cc nL own (pc + 1) lv st ws) : J l G B cc nL own pc lv (v :: st) ws := by
  intro p e s m args below meth c A H locs ls C hP hD hS hl
  exact lv_pop C.1 C.2.1 hdg hv (k p e s m args below meth c A H locs ls C hP hD hS hl)
theorem J_dup2 (pc : Nat) {v u : Value} (hdg : decode cc pc = .ok (.dup2, 1)) (hv : v.category = 1) (hu : u.category = 1) (k : J l G B cc nL own (pc + 1) lv (v :: u :: v :: u :: st) ws) : J l G B cc nL own pc lv (v :: u :: st) ws := by
  intro p e s m args below meth c A H locs ls C hP hD hS hl
  exact lv_dup2_11 C.1 C.2.1 hdg hv hu (k p e s m args below meth c A H locs ls C hP hD hS hl)
theorem J_if_eq (pc : Nat) {x : Int32} {off : Int} {tgt : Nat} (hdg : decode cc pc = .ok (.ifCond .eq off, 3)) (ht : (pc : Int) + off = (tgt : Int)) (kt : x = 0 → J l G B cc nL own tgt lv st ws) (kf : ¬ (x = 0) → J l G B cc nL own (pc + 3) lv st ws) : J l G B cc nL own pc lv (.int x :: st) ws := by
  intro p e s m args below meth c A H locs ls C hP hD hS hl
  exact lv_if_eq C.1 C.2.1 hdg ht (fun q => kt q p e s m args below meth c A H locs ls C hP hD hS hl) (fun q => kf q p e s m args below meth c A H locs ls C hP hD hS hl)
theorem J_icmp_eq (pc : Nat) {x y : Int32} {off : Int} {tgt : Nat} (hdg : decode cc pc = .ok (.if_icmp .eq off, 3)) (ht : (pc : Int) + off = (tgt : Int)) (kt : x = y → J l G B cc nL own tgt lv st ws) (kf : ¬ (x = y) → J l G B cc nL own (pc + 3) lv st ws) : J l G B cc nL own pc lv (.int y :: .int x :: st) ws := by
  intro p e s m args below meth c A H locs ls C hP hD hS hl
  exact lv_icmp_eq C.1 C.2.1 hdg ht (fun q => kt q p e s m args below meth c A H locs ls C hP hD hS hl) (fun q => kf q p e s m args below meth c A H locs ls C hP hD hS hl)
theorem J_if_ne (pc : Nat) {x : Int32} {off : Int} {tgt : Nat} (hdg : decode cc pc = .ok (.ifCond .ne off, 3)) (ht : (pc : Int) + off = (tgt : Int)) (kt : ¬ x = 0 → J l G B cc nL own tgt lv st ws) (kf : x = 0 → J l G B cc nL own (pc + 3) lv st ws) : J l G B cc nL own pc lv (.int x :: st) ws := by
  intro p e s m args below meth c A H locs ls C hP hD hS hl
  exact lv_if_ne C.1 C.2.1 hdg ht (fun q => kt q p e s m args below meth c A H locs ls C hP hD hS hl) (fun q => kf q p e s m args below meth c A H locs ls C hP hD hS hl)
theorem J_icmp_ne (pc : Nat) {x y : Int32} {off : Int} {tgt : Nat} (hdg : decode cc pc = .ok (.if_icmp .ne off, 3)) (ht : (pc : Int) + off = (tgt : Int)) (kt : ¬ x = y → J l G B cc nL own tgt lv st ws) (kf : x = y → J l G B cc nL own (pc + 3) lv st ws) : J l G B cc nL own pc lv (.int y :: .int x :: st) ws := by
  intro p e s m args below meth c A H locs ls C hP hD hS hl
  exact lv_icmp_ne C.1 C.2.1 hdg ht (fun q => kt q p e s m args below meth c A H locs ls C hP hD hS hl) (fun q => kf q p e s m args below meth c A H locs ls C hP hD hS hl)
theorem J_if_lt (pc : Nat) {x : Int32} {off : Int} {tgt : Nat} (hdg : decode cc pc = .ok (.ifCond .lt off, 3)) (ht : (pc : Int) + off = (tgt : Int)) (kt : x < 0 → J l G B cc nL own tgt lv st ws) (kf : ¬ (x < 0) → J l G B cc nL own (pc + 3) lv st ws) : J l G B cc nL own pc lv (.int x :: st) ws := by
  intro p e s m args below meth c A H locs ls C hP hD hS hl
  exact lv_if_lt C.1 C.2.1 hdg ht (fun q => kt q p e s m args below meth c A H locs ls C hP hD hS hl) (fun q => kf q p e s m args below meth c A H locs ls C hP hD hS hl)
theorem J_icmp_lt (pc : Nat) {x y : Int32} {off : Int} {tgt : Nat} (hdg : decode cc pc = .ok (.if_icmp .lt off, 3)) (ht : (pc : Int) + off = (tgt : Int)) (kt : x < y → J l G B cc nL own tgt lv st ws) (kf : ¬ (x < y) → J l G B cc nL own (pc + 3) lv st ws) : J l G B cc nL own pc lv (.int y :: .int x :: st) ws := by
  intro p e s m args below meth c A H locs ls C hP hD hS hl
  exact lv_icmp_lt C.1 C.2.1 hdg ht (fun q => kt q p e s m args below meth c A H locs ls C hP hD hS hl) (fun q => kf q p e s m args below meth c A H locs ls C hP hD hS hl)
theorem J_if_ge (pc : Nat) {x : Int32} {off : Int} {tgt : Nat} (hdg : decode cc pc = .ok (.ifCond .ge off, 3)) (ht : (pc : Int) + off = (tgt : Int)) (kt : 0 ≤ x → J l G B cc nL own tgt lv st ws) (kf : ¬ (0 ≤ x) → J l G B cc nL own (pc + 3) lv st ws) : J l G B cc nL own pc lv (.int x :: st) ws := by
  intro p e s m args below meth c A H locs ls C hP hD hS hl
  exact lv_if_ge C.1 C.2.1 hdg ht (fun q => kt q p e s m args below meth c A H locs ls C hP hD hS hl) (fun q => kf q p e s m args below meth c A H locs ls C hP hD hS hl)
theorem J_icmp_ge (pc : Nat) {x y : Int32} {off : Int} {tgt : Nat} (hdg : decode cc pc = .ok (.if_icmp .ge off, 3)) (ht : (pc : Int) + off = (tgt : Int)) (kt : y ≤ x → J l G B cc nL own tgt lv st ws) (kf : ¬ (y ≤ x) → J l G B cc nL own (pc + 3) lv st ws) : J l G B cc nL own pc lv (.int y :: .int x :: st) ws := by
  intro p e s m args below meth c A H locs ls C hP hD hS hl
  exact lv_icmp_ge C.1 C.2.1 hdg ht (fun q => kt q p e s m args below meth c A H locs ls C hP hD hS hl) (fun q => kf q p e s m args below meth c A H locs ls C hP hD hS hl)
theorem J_if_gt (pc : Nat) {x : Int32} {off : Int} {tgt : Nat} (hdg : decode cc pc = .ok (.ifCond .gt off, 3)) (ht : (pc : Int) + off = (tgt : Int)) (kt : 0 < x → J l G B cc nL own tgt lv st ws) (kf : ¬ (0 < x) → J l G B cc nL own (pc + 3) lv st ws) : J l G B cc nL own pc lv (.int x :: st) ws := by
  intro p e s m args below meth c A H locs ls C hP hD hS hl
  exact lv_if_gt C.1 C.2.1 hdg ht (fun q => kt q p e s m args below meth c A H locs ls C hP hD hS hl) (fun q => kf q p e s m args below meth c A H locs ls C hP hD hS hl)
theorem J_icmp_gt (pc : Nat) {x y : Int32} {off : Int} {tgt : Nat} (hdg : decode cc pc = .ok (.if_icmp .gt off, 3)) (ht : (pc : Int) + off = (tgt : Int)) (kt : y < x → J l G B cc nL own tgt lv st ws) (kf : ¬ (y < x) → J l G B cc nL own (pc + 3) lv st ws) : J l G B cc nL own pc lv (.int y :: .int x :: st) ws := by
  intro p e s m args below meth c A H locs ls C hP hD hS hl
  exact lv_icmp_gt C.1 C.2.1 hdg ht (fun q => kt q p e s m args below meth c A H locs ls C hP hD hS hl) (fun q => kf q p e s m args below meth c A H locs ls C hP hD hS hl)
theorem J_if_le (pc : Nat) {x : Int32} {off : Int} {tgt : Nat} (hdg : decode cc pc = .ok (.ifCond .le off, 3)) (ht : (pc : Int) + off = (tgt : Int)) (kt : x ≤ 0 → J l G B cc nL own tgt lv st ws) (kf : ¬ (x ≤ 0) → J l G B cc nL own (pc + 3) lv st ws) : J l G B cc nL own pc lv (.int x :: st) ws := by
  intro p e s m args below meth c A H locs ls C hP hD hS hl
  exact lv_if_le C.1 C.2.1 hdg ht (fun q => kt q p e s m args below meth c A H locs ls C hP hD hS hl) (fun q => kf q p e s m args below meth c A H locs ls C hP hD hS hl)
theorem J_icmp_le (pc : Nat) {x y : Int32} {off : Int} {tgt : Nat} (hdg : decode cc pc = .ok (.if_icmp .le off, 3)) (ht : (pc : Int) + off = (tgt : Int)) (kt : x ≤ y → J l G B cc nL own tgt lv st ws) (kf : ¬ (x ≤ y) → J l G B cc nL own (pc + 3) lv st ws) : J l G B cc nL own pc lv (.int y :: .int x :: st) ws := by
  intro p e s m args below meth c A H locs ls C hP hD hS hl
  exact lv_icmp_le C.1 C.2.1 hdg ht (fun q => kt q p e s m args below meth c A H locs ls C hP hD hS hl) (fun q => kf q p e s m args below meth c A H locs ls C hP hD hS hl)
theorem J_goto (pc : Nat) {off : Int} {tgt : Nat} (hdg : decode cc pc = .ok (.goto off, 3)) (ht : (pc : Int) + off = (tgt : Int)) (k : J l G B cc nL own tgt lv st ws) : J l G B cc nL own pc lv st ws := by
  intro p e s m args below meth c A H locs ls C hP hD hS hl
  exact lv_goto C.1 C.2.1 hdg ht (k p e s m args below meth c A H locs ls C hP hD hS hl)
theorem J_lookup (pc : Nat) {dflt : Int} {ps : Array (Int × Int)} {len : Nat} {x : Int32} {off : Int} {tgt : Nat} (hdg : decode cc pc = .ok (.lookupswitch dflt ps, len)) (hp : (ps.toList.zip (ps.toList.drop 1)).all (fun (a, next) => a.1 < next.1) = true) (ho : Op.lookupswitch.offset ps.toList dflt x.toInt = off) (ht : (pc : Int) + off = (tgt : Int)) (k : J l G B cc nL own tgt lv st ws) : J l G B cc nL own pc lv (.int x :: st) ws := by
  intro p e s m args below meth c A H locs ls C hP hD hS hl
  exact lv_lookup C.1 C.2.1 hdg hp ho ht (k p e s m args below meth c A H locs ls C hP hD hS hl)
theorem J_tableOut (pc : Nat) {dflt lo hi : Int} {offs : Array Int} {len : Nat} {x : Int32} {tgt : Nat} (hdg : decode cc pc = .ok (.tableswitch dflt lo hi offs, len)) (h : x.toInt < lo ∨ hi < x.toInt) (ht : (pc : Int) + dflt = (tgt : Int)) (k : J l G B cc nL own tgt lv st ws) : J l G B cc nL own pc lv (.int x :: st) ws := by
  intro p e s m args below meth c A H locs ls C hP hD hS hl
  exact lv_tableOut C.1 C.2.1 hdg h ht (k p e s m args below meth c A H locs ls C hP hD hS hl)
theorem J_tableIn (pc : Nat) (v : Int32) {dflt lo hi : Int} {offs : Array Int} {len : Nat} {x : Int32} {off : Int} {tgt : Nat} (hdg : decode cc pc = .ok (.tableswitch dflt lo hi offs, len)) (hx : x = v) (h : (!decide (v.toInt < lo) && (!decide (hi < v.toInt) && decide (offs[(v.toInt - lo).toNat]? = some off))) = true) (ht : (pc : Int) + off = (tgt : Int)) (k : J l G B cc nL own tgt lv st ws) : J l G B cc nL own pc lv (.int x :: st) ws := by
  intro p e s m args below meth c A H locs ls C hP hD hS hl
  subst hx
  simp only [Bool.and_eq_true, Bool.not_eq_true', decide_eq_false_iff_not, decide_eq_true_eq] at h
  exact lv_tableIn C.1 C.2.1 hdg h.1 h.2.1 h.2.2 ht (k p e s m args below meth c A H locs ls C hP hD hS hl)
/-- the places of a class's fields, by the tables -/
def FT (C : String) (T : u_T) (N ci : Nat) : Prop := (∀ w ∈ u_ws C T N, w ∈ lw_tbl) ∧ (u_ws C T N).all goodWord = true ∧ (∃ ty0 : Nat → FieldType, ∀ k, k < N → parseFieldDescriptor (T k).2.2.1 = some (ty0 k)) ∧ (∀ a, a < N → ∀ b, b < N → a ≠ b → (T a).2.1 ≠ (T b).2.1) ∧ vwCl[ci]? = some (C, T, N)
theorem FT.tb {C : String} {T : u_T} {N ci : Nat} (h : FT C T N ci) : ∀ w ∈ u_ws C T N, w ∈ TB := fun w hw => tb_of (h.1 w hw) (List.all_eq_true.mp h.2.1 w hw)
theorem J_get (pc : Nat) {C ref : String} {T : u_T} {N ci index : Nat} (F : FT C T N ci) (k : Nat) (hk : k < N) (hw : Cond.fieldLink own index ref (T k).2.1 (T k).2.2.1 ∈ TB) (href : (T k).1 = ref) (q0 : Nat) {a : Nat} {fs : List Value} (he : ws[q0]? = some (a, .inr (ci, fs))) {v : Value} (hv : fs[k]? = some v) (hdg : decode cc pc = .ok (.getfield index, 3)) (kk : J l G B cc nL own (pc + 3) lv (v :: st) ws) : J l G B cc nL own pc lv (.ref a :: st) ws := by
  intro p e s m args below meth c A H locs ls C hP hD hS hl
  exact va_get C.1 C.2.1 C.2.2.2.1 F.tb C.2.2.2.2.1 C.2.2.2.2.2.2.2.1 hP q0 he F.2.2.2.2 k hk (C.2.2.2.1 _ hw) (fun x h => by rw [href] at h; exact h) hv hdg (kk p e s m args below meth c A H locs ls C hP hD hS hl)
theorem J_put (pc : Nat) {C ref : String} {T : u_T} {N ci index : Nat} (F : FT C T N ci) (k : Nat) (hk : k < N) (hw : Cond.fieldLink own index ref (T k).2.1 (T k).2.2.1 ∈ TB) (href : (T k).1 = ref) (hfin : (T k).2.2.2 = false) {ty : FieldType} (hd : parseFieldDescriptor (T k).2.2.1 = some ty) (q0 : Nat) {a : Nat} {fs : List Value} {v : Value} (he : ws[q0]? = some (a, .inr (ci, fs))) (hn : narrow ty v = v) (hfit : fits ty v = true) (hl0 : k < fs.length) {ws' : va_W} (hws : ws.set q0 (a, .inr (ci, fs.set k v)) = ws') (hdg : decode cc pc = .ok (.putfield index, 3)) (kk : J l G B cc nL own (pc + 3) lv st ws') : J l G B cc nL own pc lv (v :: .ref a :: st) ws := by
  intro p e s m args below meth c A H locs ls C hP hD hS hl
  subst hws
  obtain ⟨ty0, hty⟩ := F.2.2.1
  exact va_put C.1 C.2.1 C.2.2.2.1 F.tb ty0 hty F.2.2.2.1 C.2.2.2.2.1 C.2.2.2.2.2.2.2.1 hP hD hS q0 he F.2.2.2.2 k hk (C.2.2.2.1 _ hw) (fun x h => by rw [href] at h; exact h) hfin hd hn hfit hl0 hdg (fun H1 locs1 hP1 hD1 hS1 => kk p e s m args below meth c A H1 locs1 ls C hP1 hD1 hS1 hl)
theorem J_gets (pc : Nat) {D n d ref : String} {v : Value} {index : Nat} (hw : Cond.fieldLink own index ref n d ∈ TB) (hZ : ∀ (A : Nat → Prop) (U : State) (H : Heap), gG G A U H → va_Z D n d v A U H) (href : D = ref) (hdg : decode cc pc = .ok (.getstatic index, 3)) (kk : J l G B cc nL own (pc + 3) lv (v :: st) ws) : J l G B cc nL own pc lv st ws := by
  intro p e s m args below meth c A H locs ls C hP hD hS hl
  exact va_gets C.1 C.2.1 (hZ _ _ _ C.2.2.2.2.2.2.2.2.2.1) hS C.2.2.2.2.1 (C.2.2.2.1 _ hw) (fun x h => href ▸ h) hdg (kk p e s m args below meth c A H locs ls C hP hD hS hl)
theorem J_getsN (pc : Nat) {D n d ref host : String} {v : Value} {index : Nat} (hw : ∀ (A : Nat → Prop) (U : State) (H : Heap), gG G A U H → va_Nw (.fieldLinkNest own index ref n d host) U) (hZ : ∀ (A : Nat → Prop) (U : State) (H : Heap), gG G A U H → va_Z D n d v A U H) (href : D = ref) (hdg : decode cc pc = .ok (.getstatic index, 3)) (kk : J l G B cc nL own (pc + 3) lv (v :: st) ws) : J l G B cc nL own pc lv st ws := by
  intro p e s m args below meth c A H locs ls C hP hD hS hl
  exact va_getsN C.1 C.2.1 (hZ _ _ _ C.2.2.2.2.2.2.2.2.2.1) hS C.2.2.2.2.1 (va_Nw.use rfl (hw _ _ _ C.2.2.2.2.2.2.2.2.2.1)) (fun x h => href ▸ h) hdg (kk p e s m args below meth c A H locs ls C hP hD hS hl)
/-- a place of a static array of ints -/
theorem J_stat (pc : Nat) {t N : Nat} {f : Nat → Value} (hT : ∀ (A : Nat → Prop) (U : State) (H : Heap), gG G A U H → va_T .int t N f A U H) (j : Nat) {i : Int32} (hj : i = nI j) (hlt : j < N) (hN : N < 2 ^ 31) {v : Value} (hv : f j = v) (hdg : decode cc pc = .ok (.iaload, 1)) (kk : J l G B cc nL own (pc + 1) lv (v :: st) ws) : J l G B cc nL own pc lv (.int i :: .ref t :: st) ws := by
  intro p e s m args below meth c A H locs ls C hP hD hS hl
  subst hj
  exact va_ti C.1 C.2.1 (hT _ _ _ C.2.2.2.2.2.2.2.2.2.1) hS (vp_in_nI hlt hN) (by rw [nI_clamp (by omega)]; exact hv) hdg (kk p e s m args below meth c A H locs ls C hP hD hS hl)
theorem J_iald (pc : Nat) (q0 j : Nat) {a n : Nat} {f : Nat → Int32} {i : Int32} (ha : ws[q0]? = some (a, .inl (G.2.1 0, n, .inl f))) (hj : i = nI j) (hlt : j < n) (hN : n < 2 ^ 31) (hdg : decode cc pc = .ok (.iaload, 1)) (kk : J l G B cc nL own (pc + 1) lv (.int (f j) :: st) ws) : J l G B cc nL own pc lv (.int i :: .ref a :: st) ws := by
  intro p e s m args below meth c A H locs ls C hP hD hS hl
  subst hj
  have kk := kk p e s m args below meth c A H locs ls C hP hD hS hl
  rw [← nI_clamp (n := j) (by omega)] at kk
  exact va_iald C.1 C.2.1 C.2.2.2.2.2.2.2.1 hP q0 0 ha rfl (vp_in_nI hlt hN) hdg kk
theorem J_bald (pc : Nat) (q0 j : Nat) {a n : Nat} {f : Nat → Int32} {i : Int32} (ha : ws[q0]? = some (a, .inl (G.2.1 1, n, .inl f))) (hj : i = nI j) (hlt : j < n) (hN : n < 2 ^ 31) (hdg : decode cc pc = .ok (.baload, 1)) (kk : J l G B cc nL own (pc + 1) lv (.int (f j) :: st) ws) : J l G B cc nL own pc lv (.int i :: .ref a :: st) ws := by
  intro p e s m args below meth c A H locs ls C hP hD hS hl
  subst hj
  have kk := kk p e s m args below meth c A H locs ls C hP hD hS hl
  rw [← nI_clamp (n := j) (by omega)] at kk
  exact va_bald C.1 C.2.1 C.2.2.2.2.2.2.2.1 hP q0 1 ha rfl (vp_in_nI hlt hN) hdg kk
theorem J_lald (pc : Nat) (q0 j : Nat) {a n : Nat} {f : Nat → Int64} {i : Int32} (ha : ws[q0]? = some (a, .inl (G.2.1 2, n, .inr (.inl f)))) (hj : i = nI j) (hlt : j < n) (hN : n < 2 ^ 31) (hdg : decode cc pc = .ok (.laload, 1)) (kk : J l G B cc nL own (pc + 1) lv (.long (f j) :: st) ws) : J l G B cc nL own pc lv (.int i :: .ref a :: st) ws := by
  intro p e s m args below meth c A H locs ls C hP hD hS hl
  subst hj
  have kk := kk p e s m args below meth c A H locs ls C hP hD hS hl
  rw [← nI_clamp (n := j) (by omega)] at kk
  exact va_lald C.1 C.2.1 C.2.2.2.2.2.2.2.1 hP q0 2 ha rfl (vp_in_nI hlt hN) hdg kk
theorem J_iast (pc : Nat) (q0 j : Nat) {a n : Nat} {f : Nat → Int32} {i : Int32} {x : Int32} (ha : ws[q0]? = some (a, .inl (G.2.1 0, n, .inl f))) (hj : i = nI j) (hlt : j < n) (hN : n < 2 ^ 31) {ws' : va_W} (hws : ws.set q0 (a, .inl (G.2.1 0, n, .inl (upd f j x))) = ws') (hdg : decode cc pc = .ok (.iastore, 1)) (kk : J l G B cc nL own (pc + 1) lv st ws') : J l G B cc nL own pc lv (.int x :: .int i :: .ref a :: st) ws := by
  intro p e s m args below meth c A H locs ls C hP hD hS hl
  subst hj
  subst hws
  refine va_iast C.1 C.2.1 C.2.2.2.2.2.2.2.1 hP hD hS q0 0 ha rfl (vp_in_nI hlt hN) hdg (fun H1 locs1 hP1 hD1 hS1 => ?_)
  rw [nI_clamp (by omega)] at hP1 hD1
  exact kk p e s m args below meth c A H1 locs1 ls C hP1 hD1 hS1 hl
theorem J_bast (pc : Nat) (q0 j : Nat) {a n : Nat} {f : Nat → Int32} {i : Int32} {x : Int32} (ha : ws[q0]? = some (a, .inl (G.2.1 1, n, .inl f))) (hj : i = nI j) (hlt : j < n) (hN : n < 2 ^ 31) {ws' : va_W} (hws : ws.set q0 (a, .inl (G.2.1 1, n, .inl (upd f j (vp_nar .byte x)))) = ws') (hdg : decode cc pc = .ok (.bastore, 1)) (kk : J l G B cc nL own (pc + 1) lv st ws') : J l G B cc nL own pc lv (.int x :: .int i :: .ref a :: st) ws := by
  intro p e s m args below meth c A H locs ls C hP hD hS hl
  subst hj
  subst hws
  refine va_bast C.1 C.2.1 C.2.2.2.2.2.2.2.1 hP hD hS q0 1 ha rfl (vp_in_nI hlt hN) hdg (fun H1 locs1 hP1 hD1 hS1 => ?_)
  rw [nI_clamp (by omega)] at hP1 hD1
  exact kk p e s m args below meth c A H1 locs1 ls C hP1 hD1 hS1 hl
theorem J_last (pc : Nat) (q0 j : Nat) {a n : Nat} {f : Nat → Int64} {i : Int32} {x : Int64} (ha : ws[q0]? = some (a, .inl (G.2.1 2, n, .inr (.inl f)))) (hj : i = nI j) (hlt : j < n) (hN : n < 2 ^ 31) {ws' : va_W} (hws : ws.set q0 (a, .inl (G.2.1 2, n, .inr (.inl (vp_updL f j x)))) = ws') (hdg : decode cc pc = .ok (.lastore, 1)) (kk : J l G B cc nL own (pc + 1) lv st ws') : J l G B cc nL own pc lv (.long x :: .int i :: .ref a :: st) ws := by
  intro p e s m args below meth c A H locs ls C hP hD hS hl
  subst hj
  subst hws
  refine va_last C.1 C.2.1 C.2.2.2.2.2.2.2.1 hP hD hS q0 2 ha rfl (vp_in_nI hlt hN) hdg (fun H1 locs1 hP1 hD1 hS1 => ?_)
  rw [nI_clamp (by omega)] at hP1 hD1
  exact kk p e s m args below meth c A H1 locs1 ls C hP1 hD1 hS1 hl
theorem J_aldq (pc : Nat) (q0 t0 j : Nat) {a n : Nat} {D : String} {cA : ClassId} {f : Nat → Option Nat} {i : Int32} {b : Nat} (ha : ws[q0]? = some (a, .inl (cA, n, .inr (.inr (.inr (.inr f)))))) (ht : (gT G)[t0]? = some (cA, .object D)) (hj : i = nI j) (hlt : j < n) (hN : n < 2 ^ 31) (hb : f j = some b) (hdg : decode cc pc = .ok (.aaload, 1)) (kk : J l G B cc nL own (pc + 1) lv (.ref b :: st) ws) : J l G B cc nL own pc lv (.int i :: .ref a :: st) ws := by
  intro p e s m args below meth c A H locs ls C hP hD hS hl
  subst hj
  have kk := kk p e s m args below meth c A H locs ls C hP hD hS hl
  have e1 : va_rf (f (nI j).toNatClampNeg) = .ref b := by rw [nI_clamp (by omega), hb]; rfl
  rw [← e1] at kk
  exact va_aldq C.1 C.2.1 C.2.2.2.2.2.2.2.1 hP q0 t0 ha ht (vp_in_nI hlt hN) hdg kk
theorem J_alen (pc : Nat) (q0 t0 : Nat) {a : Nat} {cA : ClassId} {x : vp_A} {ty : FieldType} (ha : ws[q0]? = some (a, .inl (cA, x))) (ht : (gT G)[t0]? = some (cA, ty)) {v : Int32} (hv : Int32.ofNat x.1 = v) (hdg : decode cc pc = .ok (.arraylength, 1)) (kk : J l G B cc nL own (pc + 1) lv (.int v :: st) ws) : J l G B cc nL own pc lv (.ref a :: st) ws := by
  intro p e s m args below meth c A H locs ls C hP hD hS hl
  exact va_alen C.1 C.2.1 C.2.2.2.2.2.2.2.1 hP q0 t0 ha ht hv hdg (kk p e s m args below meth c A H locs ls C hP hD hS hl)
theorem J_ldc (pc : Nat) {index : Nat} {v : Int32} (hw : Cond.constant own index v ∈ TB) (hdg : decode cc pc = .ok (.ldc index, 2)) (k : J l G B cc nL own (pc + 2) lv (.int v :: st) ws) : J l G B cc nL own pc lv st ws := by
  intro p e s m args below meth c A H locs ls C hP hD hS hl
  exact lv_ldc C.1 C.2.1 C.2.2.2.2.1 (C.2.2.2.1 _ hw) hdg (k p e s m args below meth c A H locs ls C hP hD hS hl)
theorem J_ldc2 (pc : Nat) {index : Nat} {v : Int64} (hw : Cond.constantLong own index v ∈ TB) (hdg : decode cc pc = .ok (.ldc2_w index, 3)) (k : J l G B cc nL own (pc + 3) lv (.long v :: st) ws) : J l G B cc nL own pc lv st ws := by
  intro p e s m args below meth c A H locs ls C hP hD hS hl
  exact lv_ldc2 C.1 C.2.1 C.2.2.2.2.1 (C.2.2.2.1 _ hw) hdg (k p e s m args below meth c A H locs ls C hP hD hS hl)
theorem J_ldcw (pc : Nat) {index : Nat} {v : Int32} (hw : Cond.constant own index v ∈ TB) (hdg : decode cc pc = .ok (.ldc_w index, 3)) (k : J l G B cc nL own (pc + 3) lv (.int v :: st) ws) : J l G B cc nL own pc lv st ws := by
  intro p e s m args below meth c A H locs ls C hP hD hS hl
  exact lv_ldcw C.1 C.2.1 C.2.2.2.2.1 (C.2.2.2.1 _ hw) hdg (k p e s m args below meth c A H locs ls C hP hD hS hl)
theorem J_i2c (pc : Nat) {x : Int32} (hdg : decode cc pc = .ok (.i2c, 1)) (k : J l G B cc nL own (pc + 1) lv (.int (x.toUInt32 % 65536).toInt32 :: st) ws) : J l G B cc nL own pc lv (.int x :: st) ws := by
  intro p e s m args below meth c A H locs ls C hP hD hS hl
  exact lv_i2c C.1 C.2.1 hdg rfl (k p e s m args below meth c A H locs ls C hP hD hS hl)
theorem J_lcmp (pc : Nat) {x y : Int64} (hdg : decode cc pc = .ok (.lcmp, 1)) (k : J l G B cc nL own (pc + 1) lv (.int (lg_cmp x y) :: st) ws) : J l G B cc nL own pc lv (.long y :: .long x :: st) ws := by
  intro p e s m args below meth c A H locs ls C hP hD hS hl
  exact W.lcmp C.1 C.2.1 hdg (k p e s m args below meth c A H locs ls C hP hD hS hl)
/-- what a call needs of room -/
def fitR (B : Bd) (k maxL : Nat) : Bool := Nat.ble (k + 1) B.1.frames && Nat.ble (19 + maxL + 40 * k) B.1.locals && Nat.ble B.2.1 B.1.cells && Nat.ble B.2.2.1 B.1.slots
theorem J_max (pc : Nat) {index : Nat} {x y : Int32} (hw : Cond.methodLink own index Lib.Math.max.name ∈ TB) (hs : Cond.static Lib.Math.max.name ∈ TB) (hi : Cond.initialized "java/lang/Math" ∈ TB) (hc : Cond.code Lib.Math.max.name Lib.Math.max.code 2 (some .int) ∈ TB) (hf : fitR B 0 2 = true) (hst : (st.map fun v => v.category).sum ≤ 8) (hdg : decode cc pc = .ok (.invokestatic index, 3)) (k : J l G B cc nL own (pc + 3) lv (.int (if x < y then y else x) :: st) ws) : J l G B cc nL own pc lv (.int y :: .int x :: st) ws := by
  intro p e s m args below meth c A H locs ls C hP hD hS hl
  simp only [fitR, Bool.and_eq_true, Nat.ble_eq] at hf
  exact va_mmax C.1 C.2.1 (C.2.2.1.trans hl.1.symm) C.2.2.2.2.1 (C.2.2.2.1 _ hw) (C.2.2.2.1 _ hs) (C.2.2.2.1 _ hi) (C.2.2.2.1 _ hc) (by omega) (by omega) hf.1.2 hf.2 hdg (k p e s m args below meth c A H locs ls C hP hD hS hl)
theorem J_min (pc : Nat) {index : Nat} {x y : Int32} (hw : Cond.methodLink own index Lib.Math.min.name ∈ TB) (hs : Cond.static Lib.Math.min.name ∈ TB) (hi : Cond.initialized "java/lang/Math" ∈ TB) (hc : Cond.code Lib.Math.min.name Lib.Math.min.code 2 (some .int) ∈ TB) (hf : fitR B 0 2 = true) (hst : (st.map fun v => v.category).sum ≤ 8) (hdg : decode cc pc = .ok (.invokestatic index, 3)) (k : J l G B cc nL own (pc + 3) lv (.int (if y < x then y else x) :: st) ws) : J l G B cc nL own pc lv (.int y :: .int x :: st) ws := by
  intro p e s m args below meth c A H locs ls C hP hD hS hl
  simp only [fitR, Bool.and_eq_true, Nat.ble_eq] at hf
  exact va_mmin C.1 C.2.1 (C.2.2.1.trans hl.1.symm) C.2.2.2.2.1 (C.2.2.2.1 _ hw) (C.2.2.2.1 _ hs) (C.2.2.2.1 _ hi) (C.2.2.2.1 _ hc) (by omega) (by omega) hf.1.2 hf.2 hdg (k p e s m args below meth c A H locs ls C hP hD hS hl)
end JR
