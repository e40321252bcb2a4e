/-! more rows: a cell told by another function; copies of whole arrays -/
theorem cellI_eq {cA : ClassId} {n : Nat} {f g : Nat → Int32} (h_ : ∀ j : Nat, j < n → f j = g j) : vp_cell cA (n, .inl f) = vp_cell cA (n, .inl g) := by
  rw [vp_cell_i, vp_cell_i]
  unfold arrV
  have e_ : (fun j_ : Fin n => Value.int (f j_.val)) = fun j_ : Fin n => Value.int (g j_.val) := funext fun j_ => by rw [h_ j_.val j_.isLt]
  rw [e_]
theorem cellJ_eq {cA : ClassId} {n : Nat} {f g : Nat → Int64} (h_ : ∀ j : Nat, j < n → f j = g j) : vp_cell cA (n, .inr (.inl f)) = vp_cell cA (n, .inr (.inl g)) := by
  rw [vp_cell_l, vp_cell_l]
  unfold arrV
  have e_ : (fun j_ : Fin n => Value.long (f j_.val)) = fun j_ : Fin n => Value.long (g j_.val) := funext fun j_ => by rw [h_ j_.val j_.isLt]
  rw [e_]
section JX
variable {l : Launch} {G : Gd} {B : Bd} {cc : ByteArray} {nL : Nat} {own : String} {lv : List (Option Value)} {st : List Value} {ws : va_W}
theorem J_arrI (pc q0 : Nat) {a n : Nat} {cA : ClassId} {f g : Nat → Int32} (ha : ws[q0]? = some (a, .inl (cA, n, .inl f))) (h_ : ∀ j : Nat, j < n → f j = g j) {ws' : va_W} (hws : ws.set q0 (a, .inl (cA, n, .inl g)) = ws') (k : J l G B cc nL own pc lv st ws') : J l G B cc nL own pc lv st ws := by
  intro p e s m args below meth c A H locs ls C hP hD hS hl
  subst hws
  refine k p e s m args below meth c A H locs ls C (hP.set hD ha ?_ (fun _ _ => rfl)) (hD.set ha) hS hl
  show H[a]? = some (vp_cell cA (n, .inl g))
  rw [← cellI_eq h_]
  exact hP q0 _ ha
theorem J_arrJ (pc q0 : Nat) {a n : Nat} {cA : ClassId} {f g : Nat → Int64} (ha : ws[q0]? = some (a, .inl (cA, n, .inr (.inl f)))) (h_ : ∀ j : Nat, j < n → f j = g j) {ws' : va_W} (hws : ws.set q0 (a, .inl (cA, n, .inr (.inl g))) = ws') (k : J l G B cc nL own pc lv st ws') : J l G B cc nL own pc lv st ws := by
  intro p e s m args below meth c A H locs ls C hP hD hS hl
  subst hws
  refine k p e s m args below meth c A H locs ls C (hP.set hD ha ?_ (fun _ _ => rfl)) (hD.set ha) hS hl
  show H[a]? = some (vp_cell cA (n, .inr (.inl g)))
  rw [← cellJ_eq h_]
  exact hP q0 _ ha
/-- a whole array of ints copied onto one as long -/
theorem J_copyi (pc q0 q1 n : Nat) {a0 a : Nat} {f g : Nat → Int32} {x y z : Int32} {index : Nat} (hw : Cond.methodLink own index arraycopyName ∈ TB) (hnat : Cond.native arraycopyName ∈ TB) (hstat : Cond.static arraycopyName ∈ TB) (hini : Cond.initialized "java/lang/System" ∈ TB) (ha0 : ws[q0]? = some (a0, .inl (G.2.1 0, n, .inl f))) (ha1 : ws[q1]? = some (a, .inl (G.2.1 0, n, .inl g))) (hx : x = 0) (hy : y = 0) (hz : z = nI n) (hn : n < 2 ^ 31) (hfit : fitR B 0 21 = true) (hst : (st.map fun v => v.category).sum ≤ 8) {ws' : va_W} (hws : ws.set q1 (a, .inl (G.2.1 0, n, .inl f)) = ws') (hdg : decode cc pc = .ok (.invokestatic index, 3)) (k : J l G B cc nL own (pc + 3) lv st ws') : J l G B cc nL own pc lv (.int z :: .int y :: .ref a :: .int x :: .ref a0 :: st) ws := by
  intro p e s m args below meth c A H locs ls C hP hD hS hl
  subst hx; subst hy; subst hz; subst hws
  have z0_ : (0 : Int32).toNatClampNeg = 0 := by decide
  have zn_ : (nI n).toNatClampNeg = n := nI_clamp hn
  simp only [fitR, Bool.and_eq_true, Nat.ble_eq] at hfit
  have hw_ : nativeFrameWords "java/lang/System" "arraycopy" 5 = 7 := by decide +kernel
  refine va_copyi C.1 C.2.1 (C.2.2.1.trans hl.1.symm) C.2.2.2.2.1 (C.2.2.2.1 _ hw) (C.2.2.2.1 _ hnat) (C.2.2.2.1 _ hstat) (C.2.2.2.1 _ hini) C.2.2.2.2.2.2.2.1 hP hD hS q0 q1 0 0 ha0 ha1 rfl rfl rfl (by decide) (by decide) (nI_pos hn) (by rw [z0_, zn_]; omega) (by rw [z0_, zn_]; omega) (fun _ _ => rfl) (by omega) (by rw [hw_]; omega) hdg (fun H1 locs1 hP1 hD1 hS1 => ?_)
  rw [z0_, zn_] at hP1 hD1
  refine k p e s m args below meth c A H1 locs1 ls C ?_ (va_D.same ?_ hD1) hS1 hl
  · have e_ : ((ws.set q1 (a, .inl (G.2.1 0, n, .inl (va_cpy f g 0 0 n)))).set q1 (a, .inl (G.2.1 0, n, .inl f))) = ws.set q1 (a, .inl (G.2.1 0, n, .inl f)) := List.set_set ..
    have hq_ : q1 < ws.length := (List.getElem?_eq_some_iff.mp ha1).1
    have h1_ : (ws.set q1 (a, .inl (G.2.1 0, n, .inl (va_cpy f g 0 0 n))))[q1]? = some (a, .inl (G.2.1 0, n, .inl (va_cpy f g 0 0 n))) := List.getElem?_set_self hq_
    rw [← e_]
    refine hP1.set hD1 h1_ ?_ (fun _ _ => rfl)
    show H1[a]? = some (vp_cell (G.2.1 0) (n, .inl f))
    rw [← cellI_eq (f := va_cpy f g 0 0 n) (fun j_ hj_ => by rw [pk_cpy_in (Nat.zero_le _) (by omega)]; congr 1; omega)]
    exact hP1 q1 _ h1_
  · rw [List.map_set, List.map_set]
end JX
def svI (l : List Int32) : Nat → Int32 := fun j => l.getD j 0
section JY
variable {l : Launch} {G : Gd} {B : Bd} {cc : ByteArray} {nL : Nat} {own : String} {lv : List (Option Value)} {st : List Value} {ws : va_W}
/-- a static array of ints copied onto a cell as long -/
theorem J_copys (pc q1 n : Nat) {t0 a : Nat} {fl : List Int32} {g : Nat → Int32} {x y z : Int32} {index : Nat} (hT : ∀ (A : Nat → Prop) (U : State) (H : Heap), gG G A U H → va_T .int t0 n (sv fl) A U H) (hw : Cond.methodLink own index arraycopyName ∈ TB) (hnat : Cond.native arraycopyName ∈ TB) (hstat : Cond.static arraycopyName ∈ TB) (hini : Cond.initialized "java/lang/System" ∈ TB) (ha1 : ws[q1]? = some (a, .inl (G.2.1 0, n, .inl g))) (hx : x = 0) (hy : y = 0) (hz : z = nI n) (hn : n < 2 ^ 31) (hfit : fitR B 0 21 = true) (hst : (st.map fun v => v.category).sum ≤ 8) {ws' : va_W} (hws : ws.set q1 (a, .inl (G.2.1 0, n, .inl (svI fl))) = ws') (hdg : decode cc pc = .ok (.invokestatic index, 3)) (k : J l G B cc nL own (pc + 3) lv st ws') : J l G B cc nL own pc lv (.int z :: .int y :: .ref a :: .int x :: .ref t0 :: st) ws := by
  intro p e s m args below meth c A H locs ls C hP hD hS hl T hTh X
  subst hx; subst hy; subst hz; subst hws
  have z0_ : (0 : Int32).toNatClampNeg = 0 := by decide
  have zn_ : (nI n).toNatClampNeg = n := nI_clamp hn
  have ti_ : (nI n).toInt = (n : Int) := nI_toInt hn
  simp only [fitR, Bool.and_eq_true, Nat.ble_eq] at hfit
  have hw_ : nativeFrameWords "java/lang/System" "arraycopy" 5 = 7 := by decide +kernel
  obtain ⟨scr_, s1_, s2_, s3_, s4_, -, s5_, s6_⟩ := hT A s s.heap C.2.2.2.2.2.2.2.2.2.1
  have c0_ : H[t0]? = some scr_ := by rw [hS.2.1 t0 (Array.getElem?_eq_some_iff.mp s1_).1 s6_]; exact s1_
  have c1_ : H[a]? = some (vp_cell (G.2.1 0) (n, .inl g)) := hP q1 _ ha1
  have al_ : a < H.size := (Array.getElem?_eq_some_iff.mp c1_).1
  obtain ⟨s7_, k0_, hk0_, m0_, e0_⟩ := s2_
  obtain ⟨-, k1_, hk1_, m1_, e1_⟩ := (C.2.2.2.2.2.2.2.1.2 0 _ rfl).1 n (fun j => .int (g j))
  obtain ⟨vm_, X', go_⟩ := X.arraycopy C.1 C.2.2.2.2.1 (C.2.2.2.1 _ hw) (C.2.2.2.1 _ hnat) (C.2.2.2.1 _ hstat) (C.2.2.2.1 _ hini) (src := t0) (dst := a) (cs := scr_) (cd := vp_cell (G.2.1 0) (n, .inl g)) (srcPos := 0) (destPos := 0) (n := nI n) (by rw [hTh]; exact c0_) (by rw [hTh]; exact c1_)
    s7_ (fun _ z_ => by cases z_) s3_ (fun z_ => by cases z_) hk0_ hk1_ e0_ e1_ (by simp [refKind]) (by decide) (by decide) (nI_pos hn)
    (by rw [ti_]; show ¬ (0 + (n : Int)) > _; omega)
    (by rw [ti_]; show ¬ (0 + (n : Int)) > ((arrV (G.2.1 0) n (fun j => .int (g j))).slots.size : Int); rw [arrV_size]; omega)
    (fun _ _ i_ hi_ => by
      have hi_ : i_ < n := by rw [zn_] at hi_; exact hi_
      have e_ : scr_.slots.getD ((0 : Int32).toNatClampNeg + i_) .null = .int (fl.getD i_ 0) := by
        rw [z0_, Nat.zero_add, Array.getD_eq_getD_getElem?, s5_ _ hi_]
        rfl
      refine ⟨?_, ?_⟩
      · rw [e_]; rfl
      · rw [e_]; exact trivial)
    (g := F0 m pc ls (.int (nI n) :: .int 0 :: .ref a :: .int 0 :: .ref t0 :: st)) rfl (C.2.2.1.trans hl.1.symm).symm (rest := st) rfl (by rw [C.2.1]; exact hdg) (by omega) (by rw [hw_]; show 2 * 0 + _ + (7 + 11) ≤ _; omega)
  have e1_ : copied scr_ (vp_cell (G.2.1 0) (n, .inl g)) 0 0 (nI n) = vp_cell (G.2.1 0) (n, .inl (va_cpy (svI fl) g (0 : Int32).toNatClampNeg (0 : Int32).toNatClampNeg (nI n).toNatClampNeg)) := va_copiedX (fun z => .int z) scr_ (G.2.1 0) (svI fl) g s5_ (by rw [z0_, zn_]; omega)
  rw [e1_, z0_, zn_, cellI_eq (g := svI fl) (fun j_ hj_ => by rw [pk_cpy_in (Nat.zero_le _) (by omega)]; congr 1; omega)] at X' go_
  have hh_ : ((T.setVm vm_).setCell a (vp_cell (G.2.1 0) (n, .inl (svI fl)))).heap = H.setIfInBounds a (vp_cell (G.2.1 0) (n, .inl (svI fl))) := by rw [← hTh]; rfl
  have oq_ : ∀ q_ : Nat, q_ ≠ a → (H.setIfInBounds a (vp_cell (G.2.1 0) (n, .inl (svI fl))))[q_]? = H[q_]? := fun q_ z_ => by simp [Array.getElem?_setIfInBounds, Ne.symm z_]
  obtain ⟨t_, a_, b_⟩ := k p e s m args below meth c A _ _ ls C (hP.set hD ha1 (show (H.setIfInBounds a _)[a]? = some _ by simp [Array.getElem?_setIfInBounds, al_]) oq_) (hD.set ha1) ⟨by simp; exact hS.1, fun q_ g1_ g2_ => by
      rw [oq_ q_ (fun z_ => g2_ (by rw [z_]; exact hD.2 q1 _ ha1))]
      exact hS.2.1 q_ g1_ g2_, fun q_ hq_ => by
      rcases List.mem_append.mp hq_ with z_ | z_
      · exact hS.2.2 q_ z_
      · obtain ⟨y_, -, hy_⟩ := List.mem_map.mp z_
        rw [← hy_]
        exact hD.2 q1 _ ha1⟩ hl _ hh_ X'
  exact ⟨t_, go_ t_ a_, b_⟩
end JY
theorem cg1 {α0 γ : Type} (f_ : α0 → γ) (a0 b0 : α0) (h0 : a0 = b0) : f_ a0 = f_ b0 := by subst h0; rfl
theorem cg2 {α0 α1 γ : Type} (f_ : α0 → α1 → γ) (a0 b0 : α0) (a1 b1 : α1) (h0 : a0 = b0) (h1 : a1 = b1) : f_ a0 a1 = f_ b0 b1 := by subst h0; subst h1; rfl
theorem cg3 {α0 α1 α2 γ : Type} (f_ : α0 → α1 → α2 → γ) (a0 b0 : α0) (a1 b1 : α1) (a2 b2 : α2) (h0 : a0 = b0) (h1 : a1 = b1) (h2 : a2 = b2) : f_ a0 a1 a2 = f_ b0 b1 b2 := by subst h0; subst h1; subst h2; rfl
theorem cg4 {α0 α1 α2 α3 γ : Type} (f_ : α0 → α1 → α2 → α3 → γ) (a0 b0 : α0) (a1 b1 : α1) (a2 b2 : α2) (a3 b3 : α3) (h0 : a0 = b0) (h1 : a1 = b1) (h2 : a2 = b2) (h3 : a3 = b3) : f_ a0 a1 a2 a3 = f_ b0 b1 b2 b3 := by subst h0; subst h1; subst h2; subst h3; rfl
theorem cg5 {α0 α1 α2 α3 α4 γ : Type} (f_ : α0 → α1 → α2 → α3 → α4 → γ) (a0 b0 : α0) (a1 b1 : α1) (a2 b2 : α2) (a3 b3 : α3) (a4 b4 : α4) (h0 : a0 = b0) (h1 : a1 = b1) (h2 : a2 = b2) (h3 : a3 = b3) (h4 : a4 = b4) : f_ a0 a1 a2 a3 a4 = f_ b0 b1 b2 b3 b4 := by subst h0; subst h1; subst h2; subst h3; subst h4; rfl
theorem cg6 {α0 α1 α2 α3 α4 α5 γ : Type} (f_ : α0 → α1 → α2 → α3 → α4 → α5 → γ) (a0 b0 : α0) (a1 b1 : α1) (a2 b2 : α2) (a3 b3 : α3) (a4 b4 : α4) (a5 b5 : α5) (h0 : a0 = b0) (h1 : a1 = b1) (h2 : a2 = b2) (h3 : a3 = b3) (h4 : a4 = b4) (h5 : a5 = b5) : f_ a0 a1 a2 a3 a4 a5 = f_ b0 b1 b2 b3 b4 b5 := by subst h0; subst h1; subst h2; subst h3; subst h4; subst h5; rfl
theorem cg7 {α0 α1 α2 α3 α4 α5 α6 γ : Type} (f_ : α0 → α1 → α2 → α3 → α4 → α5 → α6 → γ) (a0 b0 : α0) (a1 b1 : α1) (a2 b2 : α2) (a3 b3 : α3) (a4 b4 : α4) (a5 b5 : α5) (a6 b6 : α6) (h0 : a0 = b0) (h1 : a1 = b1) (h2 : a2 = b2) (h3 : a3 = b3) (h4 : a4 = b4) (h5 : a5 = b5) (h6 : a6 = b6) : f_ a0 a1 a2 a3 a4 a5 a6 = f_ b0 b1 b2 b3 b4 b5 b6 := by subst h0; subst h1; subst h2; subst h3; subst h4; subst h5; subst h6; rfl
theorem cg8 {α0 α1 α2 α3 α4 α5 α6 α7 γ : Type} (f_ : α0 → α1 → α2 → α3 → α4 → α5 → α6 → α7 → γ) (a0 b0 : α0) (a1 b1 : α1) (a2 b2 : α2) (a3 b3 : α3) (a4 b4 : α4) (a5 b5 : α5) (a6 b6 : α6) (a7 b7 : α7) (h0 : a0 = b0) (h1 : a1 = b1) (h2 : a2 = b2) (h3 : a3 = b3) (h4 : a4 = b4) (h5 : a5 = b5) (h6 : a6 = b6) (h7 : a7 = b7) : f_ a0 a1 a2 a3 a4 a5 a6 a7 = f_ b0 b1 b2 b3 b4 b5 b6 b7 := by subst h0; subst h1; subst h2; subst h3; subst h4; subst h5; subst h6; subst h7; rfl
theorem cg9 {α0 α1 α2 α3 α4 α5 α6 α7 α8 γ : Type} (f_ : α0 → α1 → α2 → α3 → α4 → α5 → α6 → α7 → α8 → γ) (a0 b0 : α0) (a1 b1 : α1) (a2 b2 : α2) (a3 b3 : α3) (a4 b4 : α4) (a5 b5 : α5) (a6 b6 : α6) (a7 b7 : α7) (a8 b8 : α8) (h0 : a0 = b0) (h1 : a1 = b1) (h2 : a2 = b2) (h3 : a3 = b3) (h4 : a4 = b4) (h5 : a5 = b5) (h6 : a6 = b6) (h7 : a7 = b7) (h8 : a8 = b8) : f_ a0 a1 a2 a3 a4 a5 a6 a7 a8 = f_ b0 b1 b2 b3 b4 b5 b6 b7 b8 := by subst h0; subst h1; subst h2; subst h3; subst h4; subst h5; subst h6; subst h7; subst h8; rfl
theorem cg10 {α0 α1 α2 α3 α4 α5 α6 α7 α8 α9 γ : Type} (f_ : α0 → α1 → α2 → α3 → α4 → α5 → α6 → α7 → α8 → α9 → γ) (a0 b0 : α0) (a1 b1 : α1) (a2 b2 : α2) (a3 b3 : α3) (a4 b4 : α4) (a5 b5 : α5) (a6 b6 : α6) (a7 b7 : α7) (a8 b8 : α8) (a9 b9 : α9) (h0 : a0 = b0) (h1 : a1 = b1) (h2 : a2 = b2) (h3 : a3 = b3) (h4 : a4 = b4) (h5 : a5 = b5) (h6 : a6 = b6) (h7 : a7 = b7) (h8 : a8 = b8) (h9 : a9 = b9) : f_ a0 a1 a2 a3 a4 a5 a6 a7 a8 a9 = f_ b0 b1 b2 b3 b4 b5 b6 b7 b8 b9 := by subst h0; subst h1; subst h2; subst h3; subst h4; subst h5; subst h6; subst h7; subst h8; subst h9; rfl
theorem cg11 {α0 α1 α2 α3 α4 α5 α6 α7 α8 α9 α10 γ : Type} (f_ : α0 → α1 → α2 → α3 → α4 → α5 → α6 → α7 → α8 → α9 → α10 → γ) (a0 b0 : α0) (a1 b1 : α1) (a2 b2 : α2) (a3 b3 : α3) (a4 b4 : α4) (a5 b5 : α5) (a6 b6 : α6) (a7 b7 : α7) (a8 b8 : α8) (a9 b9 : α9) (a10 b10 : α10) (h0 : a0 = b0) (h1 : a1 = b1) (h2 : a2 = b2) (h3 : a3 = b3) (h4 : a4 = b4) (h5 : a5 = b5) (h6 : a6 = b6) (h7 : a7 = b7) (h8 : a8 = b8) (h9 : a9 = b9) (h10 : a10 = b10) : f_ a0 a1 a2 a3 a4 a5 a6 a7 a8 a9 a10 = f_ b0 b1 b2 b3 b4 b5 b6 b7 b8 b9 b10 := by subst h0; subst h1; subst h2; subst h3; subst h4; subst h5; subst h6; subst h7; subst h8; subst h9; subst h10; rfl
theorem cg12 {α0 α1 α2 α3 α4 α5 α6 α7 α8 α9 α10 α11 γ : Type} (f_ : α0 → α1 → α2 → α3 → α4 → α5 → α6 → α7 → α8 → α9 → α10 → α11 → γ) (a0 b0 : α0) (a1 b1 : α1) (a2 b2 : α2) (a3 b3 : α3) (a4 b4 : α4) (a5 b5 : α5) (a6 b6 : α6) (a7 b7 : α7) (a8 b8 : α8) (a9 b9 : α9) (a10 b10 : α10) (a11 b11 : α11) (h0 : a0 = b0) (h1 : a1 = b1) (h2 : a2 = b2) (h3 : a3 = b3) (h4 : a4 = b4) (h5 : a5 = b5) (h6 : a6 = b6) (h7 : a7 = b7) (h8 : a8 = b8) (h9 : a9 = b9) (h10 : a10 = b10) (h11 : a11 = b11) : f_ a0 a1 a2 a3 a4 a5 a6 a7 a8 a9 a10 a11 = f_ b0 b1 b2 b3 b4 b5 b6 b7 b8 b9 b10 b11 := by subst h0; subst h1; subst h2; subst h3; subst h4; subst h5; subst h6; subst h7; subst h8; subst h9; subst h10; subst h11; rfl
theorem cg13 {α0 α1 α2 α3 α4 α5 α6 α7 α8 α9 α10 α11 α12 γ : Type} (f_ : α0 → α1 → α2 → α3 → α4 → α5 → α6 → α7 → α8 → α9 → α10 → α11 → α12 → γ) (a0 b0 : α0) (a1 b1 : α1) (a2 b2 : α2) (a3 b3 : α3) (a4 b4 : α4) (a5 b5 : α5) (a6 b6 : α6) (a7 b7 : α7) (a8 b8 : α8) (a9 b9 : α9) (a10 b10 : α10) (a11 b11 : α11) (a12 b12 : α12) (h0 : a0 = b0) (h1 : a1 = b1) (h2 : a2 = b2) (h3 : a3 = b3) (h4 : a4 = b4) (h5 : a5 = b5) (h6 : a6 = b6) (h7 : a7 = b7) (h8 : a8 = b8) (h9 : a9 = b9) (h10 : a10 = b10) (h11 : a11 = b11) (h12 : a12 = b12) : f_ a0 a1 a2 a3 a4 a5 a6 a7 a8 a9 a10 a11 a12 = f_ b0 b1 b2 b3 b4 b5 b6 b7 b8 b9 b10 b11 b12 := by subst h0; subst h1; subst h2; subst h3; subst h4; subst h5; subst h6; subst h7; subst h8; subst h9; subst h10; subst h11; subst h12; rfl
theorem cg14 {α0 α1 α2 α3 α4 α5 α6 α7 α8 α9 α10 α11 α12 α13 γ : Type} (f_ : α0 → α1 → α2 → α3 → α4 → α5 → α6 → α7 → α8 → α9 → α10 → α11 → α12 → α13 → γ) (a0 b0 : α0) (a1 b1 : α1) (a2 b2 : α2) (a3 b3 : α3) (a4 b4 : α4) (a5 b5 : α5) (a6 b6 : α6) (a7 b7 : α7) (a8 b8 : α8) (a9 b9 : α9) (a10 b10 : α10) (a11 b11 : α11) (a12 b12 : α12) (a13 b13 : α13) (h0 : a0 = b0) (h1 : a1 = b1) (h2 : a2 = b2) (h3 : a3 = b3) (h4 : a4 = b4) (h5 : a5 = b5) (h6 : a6 = b6) (h7 : a7 = b7) (h8 : a8 = b8) (h9 : a9 = b9) (h10 : a10 = b10) (h11 : a11 = b11) (h12 : a12 = b12) (h13 : a13 = b13) : f_ a0 a1 a2 a3 a4 a5 a6 a7 a8 a9 a10 a11 a12 a13 = f_ b0 b1 b2 b3 b4 b5 b6 b7 b8 b9 b10 b11 b12 b13 := by subst h0; subst h1; subst h2; subst h3; subst h4; subst h5; subst h6; subst h7; subst h8; subst h9; subst h10; subst h11; subst h12; subst h13; rfl
